theorem arrV_ext {c : ClassId} {n : Nat} {f g : Nat → Value} (h : ∀ j, j < n → f j = g j) : arrV c n f = arrV c n g := by
  unfold arrV
  congr 1
  congr 1
  funext j
  exact h j.1 j.2
theorem VL_ext {x : Cx} {z : Sx} {A : Nat → Prop} {nL cn sn : Nat} {Q : State → Prop} {pc : Nat} {L : List (Nat × Value)} {st : List Value} {ws ws' : va_W} {a n : Nat} {cA : ClassId} {f g : Nat → Option Nat} (q0 : Nat) (ha : ws[q0]? = some (a, .inl (cA, n, .inr (.inr (.inr (.inr f)))))) (hfg : ∀ j, j < n → f j = g j) (hw' : ws.set q0 (a, .inl (cA, n, .inr (.inr (.inr (.inr g))))) = ws') (k : VL x z A nL Q cn sn pc L st ws') : VL x z A nL Q cn sn pc L st ws := by
  intro H locs ls hP hD hS hl
  subst hw'
  refine k H locs ls (hP.set hD ha ?_ (fun _ _ => rfl)) (hD.set ha) hS hl
  have h1 := hP q0 _ ha
  show H[a]? = some (vp_cell cA (n, .inr (.inr (.inr (.inr g)))))
  rw [vp_cell_q, ← arrV_ext (f := fun j => va_rf (f j)) (fun j hj => by rw [hfg j hj]), ← vp_cell_q]
  exact h1
theorem oiI : Cond.instanceMethod objectInit ∈ Tg := (tg_in (List.mem_append_right _ (List.mem_of_getElem? (i := 29) (by decide +kernel))) rfl)
theorem oiC : Cond.code objectInit ⟨#[0xb1]⟩ 1 none ∈ Tg := (tg_in (List.mem_append_right _ (List.mem_of_getElem? (i := 30) (by decide +kernel))) rfl)
theorem at_int : Cond.arrayClass (newarray.typeOf .int) ∈ Tg := (tg_in (List.mem_append_right _ (List.mem_of_getElem? (i := 115) (by decide +kernel))) rfl)
theorem at_boolean : Cond.arrayClass (newarray.typeOf .boolean) ∈ Tg := (tg_in (List.mem_append_right _ (List.mem_of_getElem? (i := 247) (by decide +kernel))) rfl)
theorem at_byte : Cond.arrayClass (newarray.typeOf .byte) ∈ Tg := (tg_in (List.mem_append_right _ (List.mem_of_getElem? (i := 114) (by decide +kernel))) rfl)
theorem at_long : Cond.arrayClass (newarray.typeOf .long) ∈ Tg := (tg_in (List.mem_append_right _ (List.mem_of_getElem? (i := 349) (by decide +kernel))) rfl)
theorem dX0_init_0 : decode cX0_init 0 = .ok (.aload_n 0, 1) := by decide +kernel
theorem dX0_init_1 : decode cX0_init 1 = .ok (.invokespecial 3, 3) := by decide +kernel
theorem dX0_init_4 : decode cX0_init 4 = .ok (.aload_n 0, 1) := by decide +kernel
theorem dX0_init_5 : decode cX0_init 5 = .ok (.iconst 3, 1) := by decide +kernel
theorem dX0_init_6 : decode cX0_init 6 = .ok (.putfield 9, 3) := by decide +kernel
theorem dX0_init_9 : decode cX0_init 9 = .ok (.aload_n 0, 1) := by decide +kernel
theorem dX0_init_10 : decode cX0_init 10 = .ok (.bipush 8, 2) := by decide +kernel
theorem dX0_init_12 : decode cX0_init 12 = .ok (.newarray .int, 2) := by decide +kernel
theorem dX0_init_14 : decode cX0_init 14 = .ok (.putfield 15, 3) := by decide +kernel
theorem dX0_init_17 : decode cX0_init 17 = .ok (.aload_n 0, 1) := by decide +kernel
theorem dX0_init_18 : decode cX0_init 18 = .ok (.bipush 8, 2) := by decide +kernel
theorem dX0_init_20 : decode cX0_init 20 = .ok (.newarray .int, 2) := by decide +kernel
theorem dX0_init_22 : decode cX0_init 22 = .ok (.putfield 19, 3) := by decide +kernel
theorem dX0_init_25 : decode cX0_init 25 = .ok (.aload_n 0, 1) := by decide +kernel
theorem dX0_init_26 : decode cX0_init 26 = .ok (.bipush 8, 2) := by decide +kernel
theorem dX0_init_28 : decode cX0_init 28 = .ok (.newarray .int, 2) := by decide +kernel
theorem dX0_init_30 : decode cX0_init 30 = .ok (.putfield 22, 3) := by decide +kernel
theorem dX0_init_33 : decode cX0_init 33 = .ok (.aload_n 0, 1) := by decide +kernel
theorem dX0_init_34 : decode cX0_init 34 = .ok (.bipush 8, 2) := by decide +kernel
theorem dX0_init_36 : decode cX0_init 36 = .ok (.newarray .int, 2) := by decide +kernel
theorem dX0_init_38 : decode cX0_init 38 = .ok (.putfield 25, 3) := by decide +kernel
theorem dX0_init_41 : decode cX0_init 41 = .ok (.aload_n 0, 1) := by decide +kernel
theorem dX0_init_42 : decode cX0_init 42 = .ok (.bipush 8, 2) := by decide +kernel
theorem dX0_init_44 : decode cX0_init 44 = .ok (.newarray .int, 2) := by decide +kernel
theorem dX0_init_46 : decode cX0_init 46 = .ok (.putfield 28, 3) := by decide +kernel
theorem dX0_init_49 : decode cX0_init 49 = .ok (.aload_n 0, 1) := by decide +kernel
theorem dX0_init_50 : decode cX0_init 50 = .ok (.bipush 8, 2) := by decide +kernel
theorem dX0_init_52 : decode cX0_init 52 = .ok (.newarray .int, 2) := by decide +kernel
theorem dX0_init_54 : decode cX0_init 54 = .ok (.putfield 31, 3) := by decide +kernel
theorem dX0_init_57 : decode cX0_init 57 = .ok (.aload_n 0, 1) := by decide +kernel
theorem dX0_init_58 : decode cX0_init 58 = .ok (.bipush 6, 2) := by decide +kernel
theorem dX0_init_60 : decode cX0_init 60 = .ok (.newarray .int, 2) := by decide +kernel
theorem dX0_init_62 : decode cX0_init 62 = .ok (.putfield 34, 3) := by decide +kernel
theorem dX0_init_65 : decode cX0_init 65 = .ok (.aload_n 0, 1) := by decide +kernel
theorem dX0_init_66 : decode cX0_init 66 = .ok (.bipush 6, 2) := by decide +kernel
theorem dX0_init_68 : decode cX0_init 68 = .ok (.newarray .int, 2) := by decide +kernel
theorem dX0_init_70 : decode cX0_init 70 = .ok (.putfield 37, 3) := by decide +kernel
theorem dX0_init_73 : decode cX0_init 73 = .ok (.return_, 1) := by decide +kernel
theorem oiX0_3 : Cond.methodLink RX0 3 objectInit ∈ Tg := (tg_in (List.mem_append_right _ (List.mem_of_getElem? (i := 47) (by decide +kernel))) rfl)
def PW_0 (z : Sx) (u : Nat → Nat) : va_W := [(u 0, .inr (0, [.int 0, .int 0, .int 3, .ref (u 1), .ref (u 2), .ref (u 3), .ref (u 4), .ref (u 5), .ref (u 6), .ref (u 7), .ref (u 8)])), (u 1, .inl (z.2.1 50, 8, .inl (fun _ => 0))), (u 2, .inl (z.2.1 50, 8, .inl (fun _ => 0))), (u 3, .inl (z.2.1 50, 8, .inl (fun _ => 0))), (u 4, .inl (z.2.1 50, 8, .inl (fun _ => 0))), (u 5, .inl (z.2.1 50, 8, .inl (fun _ => 0))), (u 6, .inl (z.2.1 50, 8, .inl (fun _ => 0))), (u 7, .inl (z.2.1 50, 6, .inl (fun _ => 0))), (u 8, .inl (z.2.1 50, 6, .inl (fun _ => 0)))]
theorem PW_0_ext {z : Sx} {u v : Nat → Nat} (h : ∀ i, i < 9 → u i = v i) : PW_0 z u = PW_0 z v := by unfold PW_0; simp only [h 0 (by decide), h 1 (by decide), h 2 (by decide), h 3 (by decide), h 4 (by decide), h 5 (by decide), h 6 (by decide), h 7 (by decide), h 8 (by decide)]
set_option maxRecDepth 100000 in
set_option maxHeartbeats 4000000 in
theorem kcX0 (l : Launch) (z : Sx) : CtC yX0_init cX0_init 1 1 26 8 60 l z (.inr (0, [.int 0, .int 0, .int 0, .null, .null, .null, .null, .null, .null, .null, .null])) (PW_0 z) := by
  refine CtC_of (by decide +kernel) (by decide) rfl ?_
  intro x h _ X
  refine VL_aload_n 0 X dX0_init_0 rfl rfl ?_
  refine VL_obj X dX0_init_1 oiX0_3 oiI oiC (by decide) (Nat.le_of_ble_eq_true rfl) ?_
  refine VL_aload_n 0 X dX0_init_4 rfl rfl ?_
  refine VL_iconst (v := 3) X dX0_init_5 (by decide) ?_
  refine VL_put (ws' := [(h, .inr (0, [.int 0, .int 0, .int 3, .null, .null, .null, .null, .null, .null, .null, .null]))]) 0 2 X dX0_init_6 co0 rfl (by decide) wfX0_9 rfl rfl rfl (Nat.le_of_ble_eq_true rfl) rfl ?_
  refine VL_aload_n 0 X dX0_init_9 rfl rfl ?_
  refine VL_bipush (v := 8) X dX0_init_10 (by decide) ?_
  refine VL_newa (t0 := 0) (c0 := z.2.1 50) (a0 := (8, .inl (fun _ => 0))) X dX0_init_12 at_int rfl (fun _ => rfl) (by decide) (by decide) (by decide) rfl (by decide) (by decide) (fun q1 => ?_)
  refine VL_putF (ws' := [(h, .inr (0, [.int 0, .int 0, .int 3, .ref q1, .null, .null, .null, .null, .null, .null, .null])), (q1, .inl (z.2.1 50, 8, .inl (fun _ => 0)))]) 0 3 X dX0_init_14 co0 rfl (by decide) wfX0_15 rfl rfl rfl rfl (Nat.le_of_ble_eq_true rfl) rfl ?_
  refine VL_aload_n 0 X dX0_init_17 rfl rfl ?_
  refine VL_bipush (v := 8) X dX0_init_18 (by decide) ?_
  refine VL_newa (t0 := 0) (c0 := z.2.1 50) (a0 := (8, .inl (fun _ => 0))) X dX0_init_20 at_int rfl (fun _ => rfl) (by decide) (by decide) (by decide) rfl (by decide) (by decide) (fun q2 => ?_)
  refine VL_putF (ws' := [(h, .inr (0, [.int 0, .int 0, .int 3, .ref q1, .ref q2, .null, .null, .null, .null, .null, .null])), (q1, .inl (z.2.1 50, 8, .inl (fun _ => 0))), (q2, .inl (z.2.1 50, 8, .inl (fun _ => 0)))]) 0 4 X dX0_init_22 co0 rfl (by decide) wfX0_19 rfl rfl rfl rfl (Nat.le_of_ble_eq_true rfl) rfl ?_
  refine VL_aload_n 0 X dX0_init_25 rfl rfl ?_
  refine VL_bipush (v := 8) X dX0_init_26 (by decide) ?_
  refine VL_newa (t0 := 0) (c0 := z.2.1 50) (a0 := (8, .inl (fun _ => 0))) X dX0_init_28 at_int rfl (fun _ => rfl) (by decide) (by decide) (by decide) rfl (by decide) (by decide) (fun q3 => ?_)
  refine VL_putF (ws' := [(h, .inr (0, [.int 0, .int 0, .int 3, .ref q1, .ref q2, .ref q3, .null, .null, .null, .null, .null])), (q1, .inl (z.2.1 50, 8, .inl (fun _ => 0))), (q2, .inl (z.2.1 50, 8, .inl (fun _ => 0))), (q3, .inl (z.2.1 50, 8, .inl (fun _ => 0)))]) 0 5 X dX0_init_30 co0 rfl (by decide) wfX0_22 rfl rfl rfl rfl (Nat.le_of_ble_eq_true rfl) rfl ?_
  refine VL_aload_n 0 X dX0_init_33 rfl rfl ?_
  refine VL_bipush (v := 8) X dX0_init_34 (by decide) ?_
  refine VL_newa (t0 := 0) (c0 := z.2.1 50) (a0 := (8, .inl (fun _ => 0))) X dX0_init_36 at_int rfl (fun _ => rfl) (by decide) (by decide) (by decide) rfl (by decide) (by decide) (fun q4 => ?_)
  refine VL_putF (ws' := [(h, .inr (0, [.int 0, .int 0, .int 3, .ref q1, .ref q2, .ref q3, .ref q4, .null, .null, .null, .null])), (q1, .inl (z.2.1 50, 8, .inl (fun _ => 0))), (q2, .inl (z.2.1 50, 8, .inl (fun _ => 0))), (q3, .inl (z.2.1 50, 8, .inl (fun _ => 0))), (q4, .inl (z.2.1 50, 8, .inl (fun _ => 0)))]) 0 6 X dX0_init_38 co0 rfl (by decide) wfX0_25 rfl rfl rfl rfl (Nat.le_of_ble_eq_true rfl) rfl ?_
  refine VL_aload_n 0 X dX0_init_41 rfl rfl ?_
  refine VL_bipush (v := 8) X dX0_init_42 (by decide) ?_
  refine VL_newa (t0 := 0) (c0 := z.2.1 50) (a0 := (8, .inl (fun _ => 0))) X dX0_init_44 at_int rfl (fun _ => rfl) (by decide) (by decide) (by decide) rfl (by decide) (by decide) (fun q5 => ?_)
  refine VL_putF (ws' := [(h, .inr (0, [.int 0, .int 0, .int 3, .ref q1, .ref q2, .ref q3, .ref q4, .ref q5, .null, .null, .null])), (q1, .inl (z.2.1 50, 8, .inl (fun _ => 0))), (q2, .inl (z.2.1 50, 8, .inl (fun _ => 0))), (q3, .inl (z.2.1 50, 8, .inl (fun _ => 0))), (q4, .inl (z.2.1 50, 8, .inl (fun _ => 0))), (q5, .inl (z.2.1 50, 8, .inl (fun _ => 0)))]) 0 7 X dX0_init_46 co0 rfl (by decide) wfX0_28 rfl rfl rfl rfl (Nat.le_of_ble_eq_true rfl) rfl ?_
  refine VL_aload_n 0 X dX0_init_49 rfl rfl ?_
  refine VL_bipush (v := 8) X dX0_init_50 (by decide) ?_
  refine VL_newa (t0 := 0) (c0 := z.2.1 50) (a0 := (8, .inl (fun _ => 0))) X dX0_init_52 at_int rfl (fun _ => rfl) (by decide) (by decide) (by decide) rfl (by decide) (by decide) (fun q6 => ?_)
  refine VL_putF (ws' := [(h, .inr (0, [.int 0, .int 0, .int 3, .ref q1, .ref q2, .ref q3, .ref q4, .ref q5, .ref q6, .null, .null])), (q1, .inl (z.2.1 50, 8, .inl (fun _ => 0))), (q2, .inl (z.2.1 50, 8, .inl (fun _ => 0))), (q3, .inl (z.2.1 50, 8, .inl (fun _ => 0))), (q4, .inl (z.2.1 50, 8, .inl (fun _ => 0))), (q5, .inl (z.2.1 50, 8, .inl (fun _ => 0))), (q6, .inl (z.2.1 50, 8, .inl (fun _ => 0)))]) 0 8 X dX0_init_54 co0 rfl (by decide) wfX0_31 rfl rfl rfl rfl (Nat.le_of_ble_eq_true rfl) rfl ?_
  refine VL_aload_n 0 X dX0_init_57 rfl rfl ?_
  refine VL_bipush (v := 6) X dX0_init_58 (by decide) ?_
  refine VL_newa (t0 := 0) (c0 := z.2.1 50) (a0 := (6, .inl (fun _ => 0))) X dX0_init_60 at_int rfl (fun _ => rfl) (by decide) (by decide) (by decide) rfl (by decide) (by decide) (fun q7 => ?_)
  refine VL_putF (ws' := [(h, .inr (0, [.int 0, .int 0, .int 3, .ref q1, .ref q2, .ref q3, .ref q4, .ref q5, .ref q6, .ref q7, .null])), (q1, .inl (z.2.1 50, 8, .inl (fun _ => 0))), (q2, .inl (z.2.1 50, 8, .inl (fun _ => 0))), (q3, .inl (z.2.1 50, 8, .inl (fun _ => 0))), (q4, .inl (z.2.1 50, 8, .inl (fun _ => 0))), (q5, .inl (z.2.1 50, 8, .inl (fun _ => 0))), (q6, .inl (z.2.1 50, 8, .inl (fun _ => 0))), (q7, .inl (z.2.1 50, 6, .inl (fun _ => 0)))]) 0 9 X dX0_init_62 co0 rfl (by decide) wfX0_34 rfl rfl rfl rfl (Nat.le_of_ble_eq_true rfl) rfl ?_
  refine VL_aload_n 0 X dX0_init_65 rfl rfl ?_
  refine VL_bipush (v := 6) X dX0_init_66 (by decide) ?_
  refine VL_newa (t0 := 0) (c0 := z.2.1 50) (a0 := (6, .inl (fun _ => 0))) X dX0_init_68 at_int rfl (fun _ => rfl) (by decide) (by decide) (by decide) rfl (by decide) (by decide) (fun q8 => ?_)
  refine VL_putF (ws' := [(h, .inr (0, [.int 0, .int 0, .int 3, .ref q1, .ref q2, .ref q3, .ref q4, .ref q5, .ref q6, .ref q7, .ref q8])), (q1, .inl (z.2.1 50, 8, .inl (fun _ => 0))), (q2, .inl (z.2.1 50, 8, .inl (fun _ => 0))), (q3, .inl (z.2.1 50, 8, .inl (fun _ => 0))), (q4, .inl (z.2.1 50, 8, .inl (fun _ => 0))), (q5, .inl (z.2.1 50, 8, .inl (fun _ => 0))), (q6, .inl (z.2.1 50, 8, .inl (fun _ => 0))), (q7, .inl (z.2.1 50, 6, .inl (fun _ => 0))), (q8, .inl (z.2.1 50, 6, .inl (fun _ => 0)))]) 0 10 X dX0_init_70 co0 rfl (by decide) wfX0_37 rfl rfl rfl rfl (Nat.le_of_ble_eq_true rfl) rfl ?_
  exact VL_ret (PW := PW_0 z) (fun i => ([h, q1, q2, q3, q4, q5, q6, q7, q8] : List Nat).getD i 0) X dX0_init_73 rfl rfl
theorem dX8_init_0 : decode cX8_init 0 = .ok (.aload_n 0, 1) := by decide +kernel
theorem dX8_init_1 : decode cX8_init 1 = .ok (.invokespecial 3, 3) := by decide +kernel
theorem dX8_init_4 : decode cX8_init 4 = .ok (.aload_n 0, 1) := by decide +kernel
theorem dX8_init_5 : decode cX8_init 5 = .ok (.bipush 40, 2) := by decide +kernel
theorem dX8_init_7 : decode cX8_init 7 = .ok (.newarray .int, 2) := by decide +kernel
theorem dX8_init_9 : decode cX8_init 9 = .ok (.putfield 9, 3) := by decide +kernel
theorem dX8_init_12 : decode cX8_init 12 = .ok (.aload_n 0, 1) := by decide +kernel
theorem dX8_init_13 : decode cX8_init 13 = .ok (.bipush 40, 2) := by decide +kernel
theorem dX8_init_15 : decode cX8_init 15 = .ok (.newarray .int, 2) := by decide +kernel
theorem dX8_init_17 : decode cX8_init 17 = .ok (.putfield 15, 3) := by decide +kernel
theorem dX8_init_20 : decode cX8_init 20 = .ok (.aload_n 0, 1) := by decide +kernel
theorem dX8_init_21 : decode cX8_init 21 = .ok (.bipush 40, 2) := by decide +kernel
theorem dX8_init_23 : decode cX8_init 23 = .ok (.newarray .int, 2) := by decide +kernel
theorem dX8_init_25 : decode cX8_init 25 = .ok (.putfield 18, 3) := by decide +kernel
theorem dX8_init_28 : decode cX8_init 28 = .ok (.return_, 1) := by decide +kernel
theorem oiX8_3 : Cond.methodLink RX8 3 objectInit ∈ Tg := (tg_in (List.mem_append_right _ (List.mem_of_getElem? (i := 120) (by decide +kernel))) rfl)
def PW_8 (z : Sx) (u : Nat → Nat) : va_W := [(u 0, .inr (8, [.int 0, .ref (u 1), .ref (u 2), .ref (u 3)])), (u 1, .inl (z.2.1 50, 40, .inl (fun _ => 0))), (u 2, .inl (z.2.1 50, 40, .inl (fun _ => 0))), (u 3, .inl (z.2.1 50, 40, .inl (fun _ => 0)))]
theorem PW_8_ext {z : Sx} {u v : Nat → Nat} (h : ∀ i, i < 4 → u i = v i) : PW_8 z u = PW_8 z v := by unfold PW_8; simp only [h 0 (by decide), h 1 (by decide), h 2 (by decide), h 3 (by decide)]
set_option maxRecDepth 100000 in
set_option maxHeartbeats 4000000 in
theorem kcX8 (l : Launch) (z : Sx) : CtC yX8_init cX8_init 1 1 26 3 120 l z (.inr (8, [.int 0, .null, .null, .null])) (PW_8 z) := by
  refine CtC_of (by decide +kernel) (by decide) rfl ?_
  intro x h _ X
  refine VL_aload_n 0 X dX8_init_0 rfl rfl ?_
  refine VL_obj X dX8_init_1 oiX8_3 oiI oiC (by decide) (Nat.le_of_ble_eq_true rfl) ?_
  refine VL_aload_n 0 X dX8_init_4 rfl rfl ?_
  refine VL_bipush (v := 40) X dX8_init_5 (by decide) ?_
  refine VL_newa (t0 := 0) (c0 := z.2.1 50) (a0 := (40, .inl (fun _ => 0))) X dX8_init_7 at_int rfl (fun _ => rfl) (by decide) (by decide) (by decide) rfl (by decide) (by decide) (fun q1 => ?_)
  refine VL_putF (ws' := [(h, .inr (8, [.int 0, .ref q1, .null, .null])), (q1, .inl (z.2.1 50, 40, .inl (fun _ => 0)))]) 0 1 X dX8_init_9 co8 rfl (by decide) wfX8_9 rfl rfl rfl rfl (Nat.le_of_ble_eq_true rfl) rfl ?_
  refine VL_aload_n 0 X dX8_init_12 rfl rfl ?_
  refine VL_bipush (v := 40) X dX8_init_13 (by decide) ?_
  refine VL_newa (t0 := 0) (c0 := z.2.1 50) (a0 := (40, .inl (fun _ => 0))) X dX8_init_15 at_int rfl (fun _ => rfl) (by decide) (by decide) (by decide) rfl (by decide) (by decide) (fun q2 => ?_)
  refine VL_putF (ws' := [(h, .inr (8, [.int 0, .ref q1, .ref q2, .null])), (q1, .inl (z.2.1 50, 40, .inl (fun _ => 0))), (q2, .inl (z.2.1 50, 40, .inl (fun _ => 0)))]) 0 2 X dX8_init_17 co8 rfl (by decide) wfX8_15 rfl rfl rfl rfl (Nat.le_of_ble_eq_true rfl) rfl ?_
  refine VL_aload_n 0 X dX8_init_20 rfl rfl ?_
  refine VL_bipush (v := 40) X dX8_init_21 (by decide) ?_
  refine VL_newa (t0 := 0) (c0 := z.2.1 50) (a0 := (40, .inl (fun _ => 0))) X dX8_init_23 at_int rfl (fun _ => rfl) (by decide) (by decide) (by decide) rfl (by decide) (by decide) (fun q3 => ?_)
  refine VL_putF (ws' := [(h, .inr (8, [.int 0, .ref q1, .ref q2, .ref q3])), (q1, .inl (z.2.1 50, 40, .inl (fun _ => 0))), (q2, .inl (z.2.1 50, 40, .inl (fun _ => 0))), (q3, .inl (z.2.1 50, 40, .inl (fun _ => 0)))]) 0 3 X dX8_init_25 co8 rfl (by decide) wfX8_18 rfl rfl rfl rfl (Nat.le_of_ble_eq_true rfl) rfl ?_
  exact VL_ret (PW := PW_8 z) (fun i => ([h, q1, q2, q3] : List Nat).getD i 0) X dX8_init_28 rfl rfl
theorem dX4_init_0 : decode cX4_init 0 = .ok (.aload_n 0, 1) := by decide +kernel
theorem dX4_init_1 : decode cX4_init 1 = .ok (.invokespecial 3, 3) := by decide +kernel
theorem dX4_init_4 : decode cX4_init 4 = .ok (.aload_n 0, 1) := by decide +kernel
theorem dX4_init_5 : decode cX4_init 5 = .ok (.bipush 8, 2) := by decide +kernel
theorem dX4_init_7 : decode cX4_init 7 = .ok (.newarray .int, 2) := by decide +kernel
theorem dX4_init_9 : decode cX4_init 9 = .ok (.putfield 9, 3) := by decide +kernel
theorem dX4_init_12 : decode cX4_init 12 = .ok (.aload_n 0, 1) := by decide +kernel
theorem dX4_init_13 : decode cX4_init 13 = .ok (.bipush 8, 2) := by decide +kernel
theorem dX4_init_15 : decode cX4_init 15 = .ok (.newarray .int, 2) := by decide +kernel
theorem dX4_init_17 : decode cX4_init 17 = .ok (.putfield 15, 3) := by decide +kernel
theorem dX4_init_20 : decode cX4_init 20 = .ok (.aload_n 0, 1) := by decide +kernel
theorem dX4_init_21 : decode cX4_init 21 = .ok (.bipush 8, 2) := by decide +kernel
theorem dX4_init_23 : decode cX4_init 23 = .ok (.newarray .int, 2) := by decide +kernel
theorem dX4_init_25 : decode cX4_init 25 = .ok (.putfield 18, 3) := by decide +kernel
theorem dX4_init_28 : decode cX4_init 28 = .ok (.aload_n 0, 1) := by decide +kernel
theorem dX4_init_29 : decode cX4_init 29 = .ok (.bipush 8, 2) := by decide +kernel
theorem dX4_init_31 : decode cX4_init 31 = .ok (.newarray .int, 2) := by decide +kernel
theorem dX4_init_33 : decode cX4_init 33 = .ok (.putfield 21, 3) := by decide +kernel
theorem dX4_init_36 : decode cX4_init 36 = .ok (.return_, 1) := by decide +kernel
theorem oiX4_3 : Cond.methodLink RX4 3 objectInit ∈ Tg := (tg_in (List.mem_append_right _ (List.mem_of_getElem? (i := 144) (by decide +kernel))) rfl)
def PW_4 (z : Sx) (u : Nat → Nat) : va_W := [(u 0, .inr (4, [.int 0, .ref (u 1), .ref (u 2), .ref (u 3), .ref (u 4)])), (u 1, .inl (z.2.1 50, 8, .inl (fun _ => 0))), (u 2, .inl (z.2.1 50, 8, .inl (fun _ => 0))), (u 3, .inl (z.2.1 50, 8, .inl (fun _ => 0))), (u 4, .inl (z.2.1 50, 8, .inl (fun _ => 0)))]
theorem PW_4_ext {z : Sx} {u v : Nat → Nat} (h : ∀ i, i < 5 → u i = v i) : PW_4 z u = PW_4 z v := by unfold PW_4; simp only [h 0 (by decide), h 1 (by decide), h 2 (by decide), h 3 (by decide), h 4 (by decide)]
set_option maxRecDepth 100000 in
set_option maxHeartbeats 4000000 in
theorem kcX4 (l : Launch) (z : Sx) : CtC yX4_init cX4_init 1 1 26 4 32 l z (.inr (4, [.int 0, .null, .null, .null, .null])) (PW_4 z) := by
  refine CtC_of (by decide +kernel) (by decide) rfl ?_
  intro x h _ X
  refine VL_aload_n 0 X dX4_init_0 rfl rfl ?_
  refine VL_obj X dX4_init_1 oiX4_3 oiI oiC (by decide) (Nat.le_of_ble_eq_true rfl) ?_
  refine VL_aload_n 0 X dX4_init_4 rfl rfl ?_
  refine VL_bipush (v := 8) X dX4_init_5 (by decide) ?_
  refine VL_newa (t0 := 0) (c0 := z.2.1 50) (a0 := (8, .inl (fun _ => 0))) X dX4_init_7 at_int rfl (fun _ => rfl) (by decide) (by decide) (by decide) rfl (by decide) (by decide) (fun q1 => ?_)
  refine VL_putF (ws' := [(h, .inr (4, [.int 0, .ref q1, .null, .null, .null])), (q1, .inl (z.2.1 50, 8, .inl (fun _ => 0)))]) 0 1 X dX4_init_9 co4 rfl (by decide) wfX4_9 rfl rfl rfl rfl (Nat.le_of_ble_eq_true rfl) rfl ?_
  refine VL_aload_n 0 X dX4_init_12 rfl rfl ?_
  refine VL_bipush (v := 8) X dX4_init_13 (by decide) ?_
  refine VL_newa (t0 := 0) (c0 := z.2.1 50) (a0 := (8, .inl (fun _ => 0))) X dX4_init_15 at_int rfl (fun _ => rfl) (by decide) (by decide) (by decide) rfl (by decide) (by decide) (fun q2 => ?_)
  refine VL_putF (ws' := [(h, .inr (4, [.int 0, .ref q1, .ref q2, .null, .null])), (q1, .inl (z.2.1 50, 8, .inl (fun _ => 0))), (q2, .inl (z.2.1 50, 8, .inl (fun _ => 0)))]) 0 2 X dX4_init_17 co4 rfl (by decide) wfX4_15 rfl rfl rfl rfl (Nat.le_of_ble_eq_true rfl) rfl ?_
  refine VL_aload_n 0 X dX4_init_20 rfl rfl ?_
  refine VL_bipush (v := 8) X dX4_init_21 (by decide) ?_
  refine VL_newa (t0 := 0) (c0 := z.2.1 50) (a0 := (8, .inl (fun _ => 0))) X dX4_init_23 at_int rfl (fun _ => rfl) (by decide) (by decide) (by decide) rfl (by decide) (by decide) (fun q3 => ?_)
  refine VL_putF (ws' := [(h, .inr (4, [.int 0, .ref q1, .ref q2, .ref q3, .null])), (q1, .inl (z.2.1 50, 8, .inl (fun _ => 0))), (q2, .inl (z.2.1 50, 8, .inl (fun _ => 0))), (q3, .inl (z.2.1 50, 8, .inl (fun _ => 0)))]) 0 3 X dX4_init_25 co4 rfl (by decide) wfX4_18 rfl rfl rfl rfl (Nat.le_of_ble_eq_true rfl) rfl ?_
  refine VL_aload_n 0 X dX4_init_28 rfl rfl ?_
  refine VL_bipush (v := 8) X dX4_init_29 (by decide) ?_
  refine VL_newa (t0 := 0) (c0 := z.2.1 50) (a0 := (8, .inl (fun _ => 0))) X dX4_init_31 at_int rfl (fun _ => rfl) (by decide) (by decide) (by decide) rfl (by decide) (by decide) (fun q4 => ?_)
  refine VL_putF (ws' := [(h, .inr (4, [.int 0, .ref q1, .ref q2, .ref q3, .ref q4])), (q1, .inl (z.2.1 50, 8, .inl (fun _ => 0))), (q2, .inl (z.2.1 50, 8, .inl (fun _ => 0))), (q3, .inl (z.2.1 50, 8, .inl (fun _ => 0))), (q4, .inl (z.2.1 50, 8, .inl (fun _ => 0)))]) 0 4 X dX4_init_33 co4 rfl (by decide) wfX4_21 rfl rfl rfl rfl (Nat.le_of_ble_eq_true rfl) rfl ?_
  exact VL_ret (PW := PW_4 z) (fun i => ([h, q1, q2, q3, q4] : List Nat).getD i 0) X dX4_init_36 rfl rfl
theorem dX2_init_0 : decode cX2_init 0 = .ok (.aload_n 0, 1) := by decide +kernel
theorem dX2_init_1 : decode cX2_init 1 = .ok (.invokespecial 3, 3) := by decide +kernel
theorem dX2_init_4 : decode cX2_init 4 = .ok (.aload_n 0, 1) := by decide +kernel
theorem dX2_init_5 : decode cX2_init 5 = .ok (.new 9, 3) := by decide +kernel
theorem dX2_init_8 : decode cX2_init 8 = .ok (.dup, 1) := by decide +kernel
theorem dX2_init_9 : decode cX2_init 9 = .ok (.invokespecial 11, 3) := by decide +kernel
theorem dX2_init_12 : decode cX2_init 12 = .ok (.putfield 12, 3) := by decide +kernel
theorem dX2_init_15 : decode cX2_init 15 = .ok (.aload_n 0, 1) := by decide +kernel
theorem dX2_init_16 : decode cX2_init 16 = .ok (.bipush 8, 2) := by decide +kernel
theorem dX2_init_18 : decode cX2_init 18 = .ok (.newarray .int, 2) := by decide +kernel
theorem dX2_init_20 : decode cX2_init 20 = .ok (.putfield 18, 3) := by decide +kernel
theorem dX2_init_23 : decode cX2_init 23 = .ok (.aload_n 0, 1) := by decide +kernel
theorem dX2_init_24 : decode cX2_init 24 = .ok (.bipush 8, 2) := by decide +kernel
theorem dX2_init_26 : decode cX2_init 26 = .ok (.newarray .int, 2) := by decide +kernel
theorem dX2_init_28 : decode cX2_init 28 = .ok (.putfield 22, 3) := by decide +kernel
theorem dX2_init_31 : decode cX2_init 31 = .ok (.aload_n 0, 1) := by decide +kernel
theorem dX2_init_32 : decode cX2_init 32 = .ok (.bipush 8, 2) := by decide +kernel
theorem dX2_init_34 : decode cX2_init 34 = .ok (.newarray .int, 2) := by decide +kernel
theorem dX2_init_36 : decode cX2_init 36 = .ok (.putfield 25, 3) := by decide +kernel
theorem dX2_init_39 : decode cX2_init 39 = .ok (.return_, 1) := by decide +kernel
theorem oiX2_3 : Cond.methodLink RX2 3 objectInit ∈ Tg := (tg_in (List.mem_append_right _ (List.mem_of_getElem? (i := 253) (by decide +kernel))) rfl)
theorem clX2_9 : Cond.classLink RX2 9 RX0 ∈ Tg := (tg_in (List.mem_append_right _ (List.mem_of_getElem? (i := 254) (by decide +kernel))) rfl)
theorem inst0 : Cond.instantiable RX0 11 ∈ Tg := (tg_in (List.mem_append_right _ (List.mem_of_getElem? (i := 43) (by decide +kernel))) rfl)
theorem ini0 : Cond.initialized RX0 ∈ Tg := (tg_in (List.mem_append_right _ (List.mem_of_getElem? (i := 3) (by decide +kernel))) rfl)
theorem cdi0 : Cond.code yX0_init cX0_init 1 none ∈ Tg := (tg_in (List.mem_append_right _ (List.mem_of_getElem? (i := 46) (by decide +kernel))) rfl)
theorem imi0 : Cond.instanceMethod yX0_init ∈ Tg := (tg_in (List.mem_append_right _ (List.mem_of_getElem? (i := 45) (by decide +kernel))) rfl)
def PW_2 (z : Sx) (u : Nat → Nat) : va_W := (([(u 0, .inr (2, [.ref (u 1), .ref (u 10), .ref (u 11), .ref (u 12), .int 0, .int 0, .int 0]))] ++ PW_0 z (fun i => u (1 + i))) ++ [(u 10, .inl (z.2.1 50, 8, .inl (fun _ => 0))), (u 11, .inl (z.2.1 50, 8, .inl (fun _ => 0))), (u 12, .inl (z.2.1 50, 8, .inl (fun _ => 0)))])
theorem PW_2_ext {z : Sx} {u v : Nat → Nat} (h : ∀ i, i < 13 → u i = v i) : PW_2 z u = PW_2 z v := by unfold PW_2; rw [PW_0_ext (z := z) (u := fun i => u (1 + i)) (v := fun i => v (1 + i)) (fun i hi => h _ (by omega))]; simp only [h 0 (by decide), h 1 (by decide), h 2 (by decide), h 3 (by decide), h 4 (by decide), h 5 (by decide), h 6 (by decide), h 7 (by decide), h 8 (by decide), h 9 (by decide), h 10 (by decide), h 11 (by decide), h 12 (by decide)]
set_option maxRecDepth 100000 in
set_option maxHeartbeats 4000000 in
theorem kcX2 (l : Launch) (z : Sx) : CtC yX2_init cX2_init 1 2 46 12 95 l z (.inr (2, [.null, .null, .null, .null, .int 0, .int 0, .int 0])) (PW_2 z) := by
  refine CtC_of (by decide +kernel) (by decide) rfl ?_
  intro x h _ X
  refine VL_aload_n 0 X dX2_init_0 rfl rfl ?_
  refine VL_obj X dX2_init_1 oiX2_3 oiI oiC (by decide) (Nat.le_of_ble_eq_true rfl) ?_
  refine VL_aload_n 0 X dX2_init_4 rfl rfl ?_
  refine VL_new (ci := 0) (fs := [.int 0, .int 0, .int 0, .null, .null, .null, .null, .null, .null, .null, .null]) X dX2_init_5 co0 clX2_9 inst0 ini0 (by decide +kernel) (by decide) (by decide) (fun q1 => ?_)
  refine VL_dup X dX2_init_8 rfl ?_
  refine VL_callN (wr := [(h, .inr (2, [.null, .null, .null, .null, .int 0, .int 0, .int 0]))]) X dX2_init_9 (kcX0 x.2.1 z) cdi0 ini0 imi0 8 rfl rfl (by decide +kernel) ⟨by decide, by decide⟩ (Nat.le_of_ble_eq_true rfl) (by decide) (by decide) rfl (fun u2 huu2 => ?_)
  subst huu2
  refine VL_putF (ws' := ([(h, .inr (2, [.ref (u2 0), .null, .null, .null, .int 0, .int 0, .int 0]))] ++ PW_0 z u2)) 0 0 X dX2_init_12 co2 rfl (by decide) wfX2_12 rfl rfl rfl rfl (Nat.le_of_ble_eq_true rfl) rfl ?_
  refine VL_aload_n 0 X dX2_init_15 rfl rfl ?_
  refine VL_bipush (v := 8) X dX2_init_16 (by decide) ?_
  refine VL_newa (t0 := 0) (c0 := z.2.1 50) (a0 := (8, .inl (fun _ => 0))) X dX2_init_18 at_int rfl (fun _ => rfl) (by decide) (by decide) (by decide) rfl (by decide) (by decide) (fun q3 => ?_)
  refine VL_putF (ws' := (([(h, .inr (2, [.ref (u2 0), .ref q3, .null, .null, .int 0, .int 0, .int 0]))] ++ PW_0 z u2) ++ [(q3, .inl (z.2.1 50, 8, .inl (fun _ => 0)))])) 0 1 X dX2_init_20 co2 rfl (by decide) wfX2_18 rfl rfl rfl rfl (Nat.le_of_ble_eq_true rfl) rfl ?_
  refine VL_aload_n 0 X dX2_init_23 rfl rfl ?_
  refine VL_bipush (v := 8) X dX2_init_24 (by decide) ?_
  refine VL_newa (t0 := 0) (c0 := z.2.1 50) (a0 := (8, .inl (fun _ => 0))) X dX2_init_26 at_int rfl (fun _ => rfl) (by decide) (by decide) (by decide) rfl (by decide) (by decide) (fun q4 => ?_)
  refine VL_putF (ws' := (([(h, .inr (2, [.ref (u2 0), .ref q3, .ref q4, .null, .int 0, .int 0, .int 0]))] ++ PW_0 z u2) ++ [(q3, .inl (z.2.1 50, 8, .inl (fun _ => 0))), (q4, .inl (z.2.1 50, 8, .inl (fun _ => 0)))])) 0 2 X dX2_init_28 co2 rfl (by decide) wfX2_22 rfl rfl rfl rfl (Nat.le_of_ble_eq_true rfl) rfl ?_
  refine VL_aload_n 0 X dX2_init_31 rfl rfl ?_
  refine VL_bipush (v := 8) X dX2_init_32 (by decide) ?_
  refine VL_newa (t0 := 0) (c0 := z.2.1 50) (a0 := (8, .inl (fun _ => 0))) X dX2_init_34 at_int rfl (fun _ => rfl) (by decide) (by decide) (by decide) rfl (by decide) (by decide) (fun q5 => ?_)
  refine VL_putF (ws' := (([(h, .inr (2, [.ref (u2 0), .ref q3, .ref q4, .ref q5, .int 0, .int 0, .int 0]))] ++ PW_0 z u2) ++ [(q3, .inl (z.2.1 50, 8, .inl (fun _ => 0))), (q4, .inl (z.2.1 50, 8, .inl (fun _ => 0))), (q5, .inl (z.2.1 50, 8, .inl (fun _ => 0)))])) 0 3 X dX2_init_36 co2 rfl (by decide) wfX2_25 rfl rfl rfl rfl (Nat.le_of_ble_eq_true rfl) rfl ?_
  exact VL_ret (PW := PW_2 z) (fun i => ([h, u2 0, u2 1, u2 2, u2 3, u2 4, u2 5, u2 6, u2 7, u2 8, q3, q4, q5] : List Nat).getD i 0) X dX2_init_39 rfl rfl
theorem dX1_init_0 : decode cX1_init 0 = .ok (.aload_n 0, 1) := by decide +kernel
theorem dX1_init_1 : decode cX1_init 1 = .ok (.invokespecial 3, 3) := by decide +kernel
theorem dX1_init_4 : decode cX1_init 4 = .ok (.aload_n 0, 1) := by decide +kernel
theorem dX1_init_5 : decode cX1_init 5 = .ok (.new 9, 3) := by decide +kernel
theorem dX1_init_8 : decode cX1_init 8 = .ok (.dup, 1) := by decide +kernel
theorem dX1_init_9 : decode cX1_init 9 = .ok (.invokespecial 11, 3) := by decide +kernel
theorem dX1_init_12 : decode cX1_init 12 = .ok (.putfield 12, 3) := by decide +kernel
theorem dX1_init_15 : decode cX1_init 15 = .ok (.aload_n 0, 1) := by decide +kernel
theorem dX1_init_16 : decode cX1_init 16 = .ok (.bipush 8, 2) := by decide +kernel
theorem dX1_init_18 : decode cX1_init 18 = .ok (.newarray .int, 2) := by decide +kernel
theorem dX1_init_20 : decode cX1_init 20 = .ok (.putfield 18, 3) := by decide +kernel
theorem dX1_init_23 : decode cX1_init 23 = .ok (.return_, 1) := by decide +kernel
theorem oiX1_3 : Cond.methodLink RX1 3 objectInit ∈ Tg := (tg_in (List.mem_append_right _ (List.mem_of_getElem? (i := 301) (by decide +kernel))) rfl)
theorem clX1_9 : Cond.classLink RX1 9 RX2 ∈ Tg := (tg_in (List.mem_append_right _ (List.mem_of_getElem? (i := 302) (by decide +kernel))) rfl)
theorem inst2 : Cond.instantiable RX2 7 ∈ Tg := (tg_in (List.mem_append_right _ (List.mem_of_getElem? (i := 249) (by decide +kernel))) rfl)
theorem ini2 : Cond.initialized RX2 ∈ Tg := (tg_in (List.mem_append_right _ (List.mem_of_getElem? (i := 7) (by decide +kernel))) rfl)
theorem cdi2 : Cond.code yX2_init cX2_init 1 none ∈ Tg := (tg_in (List.mem_append_right _ (List.mem_of_getElem? (i := 252) (by decide +kernel))) rfl)
theorem imi2 : Cond.instanceMethod yX2_init ∈ Tg := (tg_in (List.mem_append_right _ (List.mem_of_getElem? (i := 251) (by decide +kernel))) rfl)
def PW_1 (z : Sx) (u : Nat → Nat) : va_W := (([(u 0, .inr (1, [.ref (u 1), .int 0, .int 0, .int 0, .int 0, .int 0, .int 0, .ref (u 14)]))] ++ PW_2 z (fun i => u (1 + i))) ++ [(u 14, .inl (z.2.1 50, 8, .inl (fun _ => 0)))])
theorem PW_1_ext {z : Sx} {u v : Nat → Nat} (h : ∀ i, i < 15 → u i = v i) : PW_1 z u = PW_1 z v := by unfold PW_1; rw [PW_2_ext (z := z) (u := fun i => u (1 + i)) (v := fun i => v (1 + i)) (fun i hi => h _ (by omega))]; simp only [h 0 (by decide), h 1 (by decide), h 2 (by decide), h 3 (by decide), h 4 (by decide), h 5 (by decide), h 6 (by decide), h 7 (by decide), h 8 (by decide), h 9 (by decide), h 10 (by decide), h 11 (by decide), h 12 (by decide), h 13 (by decide), h 14 (by decide)]
set_option maxRecDepth 100000 in
set_option maxHeartbeats 4000000 in
theorem kcX1 (l : Launch) (z : Sx) : CtC yX1_init cX1_init 1 3 66 14 110 l z (.inr (1, [.null, .int 0, .int 0, .int 0, .int 0, .int 0, .int 0, .null])) (PW_1 z) := by
  refine CtC_of (by decide +kernel) (by decide) rfl ?_
  intro x h _ X
  refine VL_aload_n 0 X dX1_init_0 rfl rfl ?_
  refine VL_obj X dX1_init_1 oiX1_3 oiI oiC (by decide) (Nat.le_of_ble_eq_true rfl) ?_
  refine VL_aload_n 0 X dX1_init_4 rfl rfl ?_
  refine VL_new (ci := 2) (fs := [.null, .null, .null, .null, .int 0, .int 0, .int 0]) X dX1_init_5 co2 clX1_9 inst2 ini2 (by decide +kernel) (by decide) (by decide) (fun q1 => ?_)
  refine VL_dup X dX1_init_8 rfl ?_
  refine VL_callN (wr := [(h, .inr (1, [.null, .int 0, .int 0, .int 0, .int 0, .int 0, .int 0, .null]))]) X dX1_init_9 (kcX2 x.2.1 z) cdi2 ini2 imi2 10 rfl rfl (by decide +kernel) ⟨by decide, by decide⟩ (Nat.le_of_ble_eq_true rfl) (by decide) (by decide) rfl (fun u2 huu2 => ?_)
  subst huu2
  refine VL_putF (ws' := ([(h, .inr (1, [.ref (u2 0), .int 0, .int 0, .int 0, .int 0, .int 0, .int 0, .null]))] ++ PW_2 z u2)) 0 0 X dX1_init_12 co1 rfl (by decide) wfX1_12 rfl rfl rfl rfl (Nat.le_of_ble_eq_true rfl) rfl ?_
  refine VL_aload_n 0 X dX1_init_15 rfl rfl ?_
  refine VL_bipush (v := 8) X dX1_init_16 (by decide) ?_
  refine VL_newa (t0 := 0) (c0 := z.2.1 50) (a0 := (8, .inl (fun _ => 0))) X dX1_init_18 at_int rfl (fun _ => rfl) (by decide) (by decide) (by decide) rfl (by decide) (by decide) (fun q3 => ?_)
  refine VL_putF (ws' := (([(h, .inr (1, [.ref (u2 0), .int 0, .int 0, .int 0, .int 0, .int 0, .int 0, .ref q3]))] ++ PW_2 z u2) ++ [(q3, .inl (z.2.1 50, 8, .inl (fun _ => 0)))])) 0 7 X dX1_init_20 co1 rfl (by decide) wfX1_18 rfl rfl rfl rfl (Nat.le_of_ble_eq_true rfl) rfl ?_
  exact VL_ret (PW := PW_1 z) (fun i => ([h, u2 0, u2 1, u2 2, u2 3, u2 4, u2 5, u2 6, u2 7, u2 8, u2 9, u2 10, u2 11, u2 12, q3] : List Nat).getD i 0) X dX1_init_23 rfl rfl
theorem dX10_init_0 : decode cX10_init 0 = .ok (.aload_n 0, 1) := by decide +kernel
theorem dX10_init_1 : decode cX10_init 1 = .ok (.invokespecial 3, 3) := by decide +kernel
theorem dX10_init_4 : decode cX10_init 4 = .ok (.aload_n 0, 1) := by decide +kernel
theorem dX10_init_5 : decode cX10_init 5 = .ok (.new 9, 3) := by decide +kernel
theorem dX10_init_8 : decode cX10_init 8 = .ok (.dup, 1) := by decide +kernel
theorem dX10_init_9 : decode cX10_init 9 = .ok (.invokespecial 11, 3) := by decide +kernel
theorem dX10_init_12 : decode cX10_init 12 = .ok (.putfield 12, 3) := by decide +kernel
theorem dX10_init_15 : decode cX10_init 15 = .ok (.aload_n 0, 1) := by decide +kernel
theorem dX10_init_16 : decode cX10_init 16 = .ok (.bipush 10, 2) := by decide +kernel
theorem dX10_init_18 : decode cX10_init 18 = .ok (.newarray .long, 2) := by decide +kernel
theorem dX10_init_20 : decode cX10_init 20 = .ok (.putfield 18, 3) := by decide +kernel
theorem dX10_init_23 : decode cX10_init 23 = .ok (.aload_n 0, 1) := by decide +kernel
theorem dX10_init_24 : decode cX10_init 24 = .ok (.bipush 10, 2) := by decide +kernel
theorem dX10_init_26 : decode cX10_init 26 = .ok (.newarray .long, 2) := by decide +kernel
theorem dX10_init_28 : decode cX10_init 28 = .ok (.putfield 22, 3) := by decide +kernel
theorem dX10_init_31 : decode cX10_init 31 = .ok (.return_, 1) := by decide +kernel
theorem oiX10_3 : Cond.methodLink RX10 3 objectInit ∈ Tg := (tg_in (List.mem_append_right _ (List.mem_of_getElem? (i := 336) (by decide +kernel))) rfl)
theorem clX10_9 : Cond.classLink RX10 9 RX2 ∈ Tg := (tg_in (List.mem_append_right _ (List.mem_of_getElem? (i := 337) (by decide +kernel))) rfl)
def PW_10 (z : Sx) (u : Nat → Nat) : va_W := (([(u 0, .inr (10, [.ref (u 1), .ref (u 14), .ref (u 15)]))] ++ PW_2 z (fun i => u (1 + i))) ++ [(u 14, .inl (z.2.1 53, 10, .inr (.inl (fun _ => 0)))), (u 15, .inl (z.2.1 53, 10, .inr (.inl (fun _ => 0))))])
theorem PW_10_ext {z : Sx} {u v : Nat → Nat} (h : ∀ i, i < 16 → u i = v i) : PW_10 z u = PW_10 z v := by unfold PW_10; rw [PW_2_ext (z := z) (u := fun i => u (1 + i)) (v := fun i => v (1 + i)) (fun i hi => h _ (by omega))]; simp only [h 0 (by decide), h 1 (by decide), h 2 (by decide), h 3 (by decide), h 4 (by decide), h 5 (by decide), h 6 (by decide), h 7 (by decide), h 8 (by decide), h 9 (by decide), h 10 (by decide), h 11 (by decide), h 12 (by decide), h 13 (by decide), h 14 (by decide), h 15 (by decide)]
set_option maxRecDepth 100000 in
set_option maxHeartbeats 4000000 in
theorem kcX10 (l : Launch) (z : Sx) : CtC yX10_init cX10_init 1 3 66 15 122 l z (.inr (10, [.null, .null, .null])) (PW_10 z) := by
  refine CtC_of (by decide +kernel) (by decide) rfl ?_
  intro x h _ X
  refine VL_aload_n 0 X dX10_init_0 rfl rfl ?_
  refine VL_obj X dX10_init_1 oiX10_3 oiI oiC (by decide) (Nat.le_of_ble_eq_true rfl) ?_
  refine VL_aload_n 0 X dX10_init_4 rfl rfl ?_
  refine VL_new (ci := 2) (fs := [.null, .null, .null, .null, .int 0, .int 0, .int 0]) X dX10_init_5 co2 clX10_9 inst2 ini2 (by decide +kernel) (by decide) (by decide) (fun q1 => ?_)
  refine VL_dup X dX10_init_8 rfl ?_
  refine VL_callN (wr := [(h, .inr (10, [.null, .null, .null]))]) X dX10_init_9 (kcX2 x.2.1 z) cdi2 ini2 imi2 12 rfl rfl (by decide +kernel) ⟨by decide, by decide⟩ (Nat.le_of_ble_eq_true rfl) (by decide) (by decide) rfl (fun u2 huu2 => ?_)
  subst huu2
  refine VL_putF (ws' := ([(h, .inr (10, [.ref (u2 0), .null, .null]))] ++ PW_2 z u2)) 0 0 X dX10_init_12 co10 rfl (by decide) wfX10_12 rfl rfl rfl rfl (Nat.le_of_ble_eq_true rfl) rfl ?_
  refine VL_aload_n 0 X dX10_init_15 rfl rfl ?_
  refine VL_bipush (v := 10) X dX10_init_16 (by decide) ?_
  refine VL_newa (t0 := 3) (c0 := z.2.1 53) (a0 := (10, .inr (.inl (fun _ => 0)))) X dX10_init_18 at_long rfl (fun _ => rfl) (by decide) (by decide) (by decide) rfl (by decide) (by decide) (fun q3 => ?_)
  refine VL_put (ws' := (([(h, .inr (10, [.ref (u2 0), .ref q3, .null]))] ++ PW_2 z u2) ++ [(q3, .inl (z.2.1 53, 10, .inr (.inl (fun _ => 0))))])) 0 1 X dX10_init_20 co10 rfl (by decide) wfX10_18 rfl rfl rfl (Nat.le_of_ble_eq_true rfl) rfl ?_
  refine VL_aload_n 0 X dX10_init_23 rfl rfl ?_
  refine VL_bipush (v := 10) X dX10_init_24 (by decide) ?_
  refine VL_newa (t0 := 3) (c0 := z.2.1 53) (a0 := (10, .inr (.inl (fun _ => 0)))) X dX10_init_26 at_long rfl (fun _ => rfl) (by decide) (by decide) (by decide) rfl (by decide) (by decide) (fun q4 => ?_)
  refine VL_put (ws' := (([(h, .inr (10, [.ref (u2 0), .ref q3, .ref q4]))] ++ PW_2 z u2) ++ [(q3, .inl (z.2.1 53, 10, .inr (.inl (fun _ => 0)))), (q4, .inl (z.2.1 53, 10, .inr (.inl (fun _ => 0))))])) 0 2 X dX10_init_28 co10 rfl (by decide) wfX10_22 rfl rfl rfl (Nat.le_of_ble_eq_true rfl) rfl ?_
  exact VL_ret (PW := PW_10 z) (fun i => ([h, u2 0, u2 1, u2 2, u2 3, u2 4, u2 5, u2 6, u2 7, u2 8, u2 9, u2 10, u2 11, u2 12, q3, q4] : List Nat).getD i 0) X dX10_init_31 rfl rfl
theorem dX7_init_0 : decode cX7_init 0 = .ok (.aload_n 0, 1) := by decide +kernel
theorem dX7_init_1 : decode cX7_init 1 = .ok (.invokespecial 3, 3) := by decide +kernel
theorem dX7_init_4 : decode cX7_init 4 = .ok (.aload_n 0, 1) := by decide +kernel
theorem dX7_init_5 : decode cX7_init 5 = .ok (.bipush 6, 2) := by decide +kernel
theorem dX7_init_7 : decode cX7_init 7 = .ok (.newarray .int, 2) := by decide +kernel
theorem dX7_init_9 : decode cX7_init 9 = .ok (.putfield 9, 3) := by decide +kernel
theorem dX7_init_12 : decode cX7_init 12 = .ok (.aload_n 0, 1) := by decide +kernel
theorem dX7_init_13 : decode cX7_init 13 = .ok (.new 15, 3) := by decide +kernel
theorem dX7_init_16 : decode cX7_init 16 = .ok (.dup, 1) := by decide +kernel
theorem dX7_init_17 : decode cX7_init 17 = .ok (.invokespecial 17, 3) := by decide +kernel
theorem dX7_init_20 : decode cX7_init 20 = .ok (.putfield 18, 3) := by decide +kernel
theorem dX7_init_23 : decode cX7_init 23 = .ok (.return_, 1) := by decide +kernel
theorem oiX7_3 : Cond.methodLink RX7 3 objectInit ∈ Tg := (tg_in (List.mem_append_right _ (List.mem_of_getElem? (i := 355) (by decide +kernel))) rfl)
theorem clX7_15 : Cond.classLink RX7 15 RX2 ∈ Tg := (tg_in (List.mem_append_right _ (List.mem_of_getElem? (i := 356) (by decide +kernel))) rfl)
def PW_7 (z : Sx) (u : Nat → Nat) : va_W := ([(u 0, .inr (7, [.ref (u 1), .ref (u 2), .int 0])), (u 1, .inl (z.2.1 50, 6, .inl (fun _ => 0)))] ++ PW_2 z (fun i => u (2 + i)))
theorem PW_7_ext {z : Sx} {u v : Nat → Nat} (h : ∀ i, i < 15 → u i = v i) : PW_7 z u = PW_7 z v := by unfold PW_7; rw [PW_2_ext (z := z) (u := fun i => u (2 + i)) (v := fun i => v (2 + i)) (fun i hi => h _ (by omega))]; simp only [h 0 (by decide), h 1 (by decide), h 2 (by decide), h 3 (by decide), h 4 (by decide), h 5 (by decide), h 6 (by decide), h 7 (by decide), h 8 (by decide), h 9 (by decide), h 10 (by decide), h 11 (by decide), h 12 (by decide), h 13 (by decide), h 14 (by decide)]
set_option maxRecDepth 100000 in
set_option maxHeartbeats 4000000 in
theorem kcX7 (l : Launch) (z : Sx) : CtC yX7_init cX7_init 1 3 66 14 108 l z (.inr (7, [.null, .null, .int 0])) (PW_7 z) := by
  refine CtC_of (by decide +kernel) (by decide) rfl ?_
  intro x h _ X
  refine VL_aload_n 0 X dX7_init_0 rfl rfl ?_
  refine VL_obj X dX7_init_1 oiX7_3 oiI oiC (by decide) (Nat.le_of_ble_eq_true rfl) ?_
  refine VL_aload_n 0 X dX7_init_4 rfl rfl ?_
  refine VL_bipush (v := 6) X dX7_init_5 (by decide) ?_
  refine VL_newa (t0 := 0) (c0 := z.2.1 50) (a0 := (6, .inl (fun _ => 0))) X dX7_init_7 at_int rfl (fun _ => rfl) (by decide) (by decide) (by decide) rfl (by decide) (by decide) (fun q1 => ?_)
  refine VL_putF (ws' := [(h, .inr (7, [.ref q1, .null, .int 0])), (q1, .inl (z.2.1 50, 6, .inl (fun _ => 0)))]) 0 0 X dX7_init_9 co7 rfl (by decide) wfX7_9 rfl rfl rfl rfl (Nat.le_of_ble_eq_true rfl) rfl ?_
  refine VL_aload_n 0 X dX7_init_12 rfl rfl ?_
  refine VL_new (ci := 2) (fs := [.null, .null, .null, .null, .int 0, .int 0, .int 0]) X dX7_init_13 co2 clX7_15 inst2 ini2 (by decide +kernel) (by decide) (by decide) (fun q2 => ?_)
  refine VL_dup X dX7_init_16 rfl ?_
  refine VL_callN (wr := [(h, .inr (7, [.ref q1, .null, .int 0])), (q1, .inl (z.2.1 50, 6, .inl (fun _ => 0)))]) X dX7_init_17 (kcX2 x.2.1 z) cdi2 ini2 imi2 14 rfl rfl (by decide +kernel) ⟨by decide, by decide⟩ (Nat.le_of_ble_eq_true rfl) (by decide) (by decide) rfl (fun u3 huu3 => ?_)
  subst huu3
  refine VL_putF (ws' := ([(h, .inr (7, [.ref q1, .ref (u3 0), .int 0])), (q1, .inl (z.2.1 50, 6, .inl (fun _ => 0)))] ++ PW_2 z u3)) 0 1 X dX7_init_20 co7 rfl (by decide) wfX7_18 rfl rfl rfl rfl (Nat.le_of_ble_eq_true rfl) rfl ?_
  exact VL_ret (PW := PW_7 z) (fun i => ([h, q1, u3 0, u3 1, u3 2, u3 3, u3 4, u3 5, u3 6, u3 7, u3 8, u3 9, u3 10, u3 11, u3 12] : List Nat).getD i 0) X dX7_init_23 rfl rfl
theorem dX3_init_0 : decode cX3_init 0 = .ok (.aload_n 0, 1) := by decide +kernel
theorem dX3_init_1 : decode cX3_init 1 = .ok (.invokespecial 3, 3) := by decide +kernel
theorem dX3_init_4 : decode cX3_init 4 = .ok (.aload_n 0, 1) := by decide +kernel
theorem dX3_init_5 : decode cX3_init 5 = .ok (.iconst 3, 1) := by decide +kernel
theorem dX3_init_6 : decode cX3_init 6 = .ok (.newarray .int, 2) := by decide +kernel
theorem dX3_init_8 : decode cX3_init 8 = .ok (.putfield 11, 3) := by decide +kernel
theorem dX3_init_11 : decode cX3_init 11 = .ok (.aload_n 0, 1) := by decide +kernel
theorem dX3_init_12 : decode cX3_init 12 = .ok (.new 15, 3) := by decide +kernel
theorem dX3_init_15 : decode cX3_init 15 = .ok (.dup, 1) := by decide +kernel
theorem dX3_init_16 : decode cX3_init 16 = .ok (.invokespecial 17, 3) := by decide +kernel
theorem dX3_init_19 : decode cX3_init 19 = .ok (.putfield 18, 3) := by decide +kernel
theorem dX3_init_22 : decode cX3_init 22 = .ok (.return_, 1) := by decide +kernel
theorem oiX3_3 : Cond.methodLink RX3 3 objectInit ∈ Tg := (tg_in (List.mem_append_right _ (List.mem_of_getElem? (i := 374) (by decide +kernel))) rfl)
theorem clX3_15 : Cond.classLink RX3 15 RX2 ∈ Tg := (tg_in (List.mem_append_right _ (List.mem_of_getElem? (i := 375) (by decide +kernel))) rfl)
def PW_3 (z : Sx) (u : Nat → Nat) : va_W := ([(u 0, .inr (3, [.ref (u 1), .ref (u 2)])), (u 1, .inl (z.2.1 50, 3, .inl (fun _ => 0)))] ++ PW_2 z (fun i => u (2 + i)))
theorem PW_3_ext {z : Sx} {u v : Nat → Nat} (h : ∀ i, i < 15 → u i = v i) : PW_3 z u = PW_3 z v := by unfold PW_3; rw [PW_2_ext (z := z) (u := fun i => u (2 + i)) (v := fun i => v (2 + i)) (fun i hi => h _ (by omega))]; simp only [h 0 (by decide), h 1 (by decide), h 2 (by decide), h 3 (by decide), h 4 (by decide), h 5 (by decide), h 6 (by decide), h 7 (by decide), h 8 (by decide), h 9 (by decide), h 10 (by decide), h 11 (by decide), h 12 (by decide), h 13 (by decide), h 14 (by decide)]
set_option maxRecDepth 100000 in
set_option maxHeartbeats 4000000 in
theorem kcX3 (l : Launch) (z : Sx) : CtC yX3_init cX3_init 1 3 66 14 105 l z (.inr (3, [.null, .null])) (PW_3 z) := by
  refine CtC_of (by decide +kernel) (by decide) rfl ?_
  intro x h _ X
  refine VL_aload_n 0 X dX3_init_0 rfl rfl ?_
  refine VL_obj X dX3_init_1 oiX3_3 oiI oiC (by decide) (Nat.le_of_ble_eq_true rfl) ?_
  refine VL_aload_n 0 X dX3_init_4 rfl rfl ?_
  refine VL_iconst (v := 3) X dX3_init_5 (by decide) ?_
  refine VL_newa (t0 := 0) (c0 := z.2.1 50) (a0 := (3, .inl (fun _ => 0))) X dX3_init_6 at_int rfl (fun _ => rfl) (by decide) (by decide) (by decide) rfl (by decide) (by decide) (fun q1 => ?_)
  refine VL_putF (ws' := [(h, .inr (3, [.ref q1, .null])), (q1, .inl (z.2.1 50, 3, .inl (fun _ => 0)))]) 0 0 X dX3_init_8 co3 rfl (by decide) wfX3_11 rfl rfl rfl rfl (Nat.le_of_ble_eq_true rfl) rfl ?_
  refine VL_aload_n 0 X dX3_init_11 rfl rfl ?_
  refine VL_new (ci := 2) (fs := [.null, .null, .null, .null, .int 0, .int 0, .int 0]) X dX3_init_12 co2 clX3_15 inst2 ini2 (by decide +kernel) (by decide) (by decide) (fun q2 => ?_)
  refine VL_dup X dX3_init_15 rfl ?_
  refine VL_callN (wr := [(h, .inr (3, [.ref q1, .null])), (q1, .inl (z.2.1 50, 3, .inl (fun _ => 0)))]) X dX3_init_16 (kcX2 x.2.1 z) cdi2 ini2 imi2 16 rfl rfl (by decide +kernel) ⟨by decide, by decide⟩ (Nat.le_of_ble_eq_true rfl) (by decide) (by decide) rfl (fun u3 huu3 => ?_)
  subst huu3
  refine VL_putF (ws' := ([(h, .inr (3, [.ref q1, .ref (u3 0)])), (q1, .inl (z.2.1 50, 3, .inl (fun _ => 0)))] ++ PW_2 z u3)) 0 1 X dX3_init_19 co3 rfl (by decide) wfX3_18 rfl rfl rfl rfl (Nat.le_of_ble_eq_true rfl) rfl ?_
  exact VL_ret (PW := PW_3 z) (fun i => ([h, q1, u3 0, u3 1, u3 2, u3 3, u3 4, u3 5, u3 6, u3 7, u3 8, u3 9, u3 10, u3 11, u3 12] : List Nat).getD i 0) X dX3_init_22 rfl rfl
theorem dX5_init_0 : decode cX5_init 0 = .ok (.aload_n 0, 1) := by decide +kernel
theorem dX5_init_1 : decode cX5_init 1 = .ok (.invokespecial 3, 3) := by decide +kernel
theorem dX5_init_4 : decode cX5_init 4 = .ok (.aload_n 0, 1) := by decide +kernel
theorem dX5_init_5 : decode cX5_init 5 = .ok (.bipush 8, 2) := by decide +kernel
theorem dX5_init_7 : decode cX5_init 7 = .ok (.newarray .int, 2) := by decide +kernel
theorem dX5_init_9 : decode cX5_init 9 = .ok (.putfield 9, 3) := by decide +kernel
theorem dX5_init_12 : decode cX5_init 12 = .ok (.aload_n 0, 1) := by decide +kernel
theorem dX5_init_13 : decode cX5_init 13 = .ok (.bipush 8, 2) := by decide +kernel
theorem dX5_init_15 : decode cX5_init 15 = .ok (.newarray .int, 2) := by decide +kernel
theorem dX5_init_17 : decode cX5_init 17 = .ok (.putfield 15, 3) := by decide +kernel
theorem dX5_init_20 : decode cX5_init 20 = .ok (.aload_n 0, 1) := by decide +kernel
theorem dX5_init_21 : decode cX5_init 21 = .ok (.sipush 256, 3) := by decide +kernel
theorem dX5_init_24 : decode cX5_init 24 = .ok (.newarray .int, 2) := by decide +kernel
theorem dX5_init_26 : decode cX5_init 26 = .ok (.putfield 18, 3) := by decide +kernel
theorem dX5_init_29 : decode cX5_init 29 = .ok (.return_, 1) := by decide +kernel
theorem oiX5_3 : Cond.methodLink RX5 3 objectInit ∈ Tg := (tg_in (List.mem_append_right _ (List.mem_of_getElem? (i := 390) (by decide +kernel))) rfl)
def PW_5 (z : Sx) (u : Nat → Nat) : va_W := [(u 0, .inr (5, [.ref (u 1), .ref (u 2), .ref (u 3), .int 0, .int 0, .int 0])), (u 1, .inl (z.2.1 50, 8, .inl (fun _ => 0))), (u 2, .inl (z.2.1 50, 8, .inl (fun _ => 0))), (u 3, .inl (z.2.1 50, 256, .inl (fun _ => 0)))]
theorem PW_5_ext {z : Sx} {u v : Nat → Nat} (h : ∀ i, i < 4 → u i = v i) : PW_5 z u = PW_5 z v := by unfold PW_5; simp only [h 0 (by decide), h 1 (by decide), h 2 (by decide), h 3 (by decide)]
set_option maxRecDepth 100000 in
set_option maxHeartbeats 4000000 in
theorem kcX5 (l : Launch) (z : Sx) : CtC yX5_init cX5_init 1 1 26 3 272 l z (.inr (5, [.null, .null, .null, .int 0, .int 0, .int 0])) (PW_5 z) := by
  refine CtC_of (by decide +kernel) (by decide) rfl ?_
  intro x h _ X
  refine VL_aload_n 0 X dX5_init_0 rfl rfl ?_
  refine VL_obj X dX5_init_1 oiX5_3 oiI oiC (by decide) (Nat.le_of_ble_eq_true rfl) ?_
  refine VL_aload_n 0 X dX5_init_4 rfl rfl ?_
  refine VL_bipush (v := 8) X dX5_init_5 (by decide) ?_
  refine VL_newa (t0 := 0) (c0 := z.2.1 50) (a0 := (8, .inl (fun _ => 0))) X dX5_init_7 at_int rfl (fun _ => rfl) (by decide) (by decide) (by decide) rfl (by decide) (by decide) (fun q1 => ?_)
  refine VL_putF (ws' := [(h, .inr (5, [.ref q1, .null, .null, .int 0, .int 0, .int 0])), (q1, .inl (z.2.1 50, 8, .inl (fun _ => 0)))]) 0 0 X dX5_init_9 co5 rfl (by decide) wfX5_9 rfl rfl rfl rfl (Nat.le_of_ble_eq_true rfl) rfl ?_
  refine VL_aload_n 0 X dX5_init_12 rfl rfl ?_
  refine VL_bipush (v := 8) X dX5_init_13 (by decide) ?_
  refine VL_newa (t0 := 0) (c0 := z.2.1 50) (a0 := (8, .inl (fun _ => 0))) X dX5_init_15 at_int rfl (fun _ => rfl) (by decide) (by decide) (by decide) rfl (by decide) (by decide) (fun q2 => ?_)
  refine VL_putF (ws' := [(h, .inr (5, [.ref q1, .ref q2, .null, .int 0, .int 0, .int 0])), (q1, .inl (z.2.1 50, 8, .inl (fun _ => 0))), (q2, .inl (z.2.1 50, 8, .inl (fun _ => 0)))]) 0 1 X dX5_init_17 co5 rfl (by decide) wfX5_15 rfl rfl rfl rfl (Nat.le_of_ble_eq_true rfl) rfl ?_
  refine VL_aload_n 0 X dX5_init_20 rfl rfl ?_
  refine VL_sipush (v := 256) X dX5_init_21 (by decide) ?_
  refine VL_newa (t0 := 0) (c0 := z.2.1 50) (a0 := (256, .inl (fun _ => 0))) X dX5_init_24 at_int rfl (fun _ => rfl) (by decide) (by decide) (by decide) rfl (by decide) (by decide) (fun q3 => ?_)
  refine VL_putF (ws' := [(h, .inr (5, [.ref q1, .ref q2, .ref q3, .int 0, .int 0, .int 0])), (q1, .inl (z.2.1 50, 8, .inl (fun _ => 0))), (q2, .inl (z.2.1 50, 8, .inl (fun _ => 0))), (q3, .inl (z.2.1 50, 256, .inl (fun _ => 0)))]) 0 2 X dX5_init_26 co5 rfl (by decide) wfX5_18 rfl rfl rfl rfl (Nat.le_of_ble_eq_true rfl) rfl ?_
  exact VL_ret (PW := PW_5 z) (fun i => ([h, q1, q2, q3] : List Nat).getD i 0) X dX5_init_29 rfl rfl
theorem dX6_init_0 : decode cX6_init 0 = .ok (.aload_n 0, 1) := by decide +kernel
theorem dX6_init_1 : decode cX6_init 1 = .ok (.invokespecial 3, 3) := by decide +kernel
theorem dX6_init_4 : decode cX6_init 4 = .ok (.aload_n 0, 1) := by decide +kernel
theorem dX6_init_5 : decode cX6_init 5 = .ok (.new 9, 3) := by decide +kernel
theorem dX6_init_8 : decode cX6_init 8 = .ok (.dup, 1) := by decide +kernel
theorem dX6_init_9 : decode cX6_init 9 = .ok (.invokespecial 11, 3) := by decide +kernel
theorem dX6_init_12 : decode cX6_init 12 = .ok (.putfield 12, 3) := by decide +kernel
theorem dX6_init_15 : decode cX6_init 15 = .ok (.aload_n 0, 1) := by decide +kernel
theorem dX6_init_16 : decode cX6_init 16 = .ok (.new 18, 3) := by decide +kernel
theorem dX6_init_19 : decode cX6_init 19 = .ok (.dup, 1) := by decide +kernel
theorem dX6_init_20 : decode cX6_init 20 = .ok (.invokespecial 20, 3) := by decide +kernel
theorem dX6_init_23 : decode cX6_init 23 = .ok (.putfield 21, 3) := by decide +kernel
theorem dX6_init_26 : decode cX6_init 26 = .ok (.aload_n 0, 1) := by decide +kernel
theorem dX6_init_27 : decode cX6_init 27 = .ok (.new 25, 3) := by decide +kernel
theorem dX6_init_30 : decode cX6_init 30 = .ok (.dup, 1) := by decide +kernel
theorem dX6_init_31 : decode cX6_init 31 = .ok (.invokespecial 27, 3) := by decide +kernel
theorem dX6_init_34 : decode cX6_init 34 = .ok (.putfield 28, 3) := by decide +kernel
theorem dX6_init_37 : decode cX6_init 37 = .ok (.aload_n 0, 1) := by decide +kernel
theorem dX6_init_38 : decode cX6_init 38 = .ok (.iconst 0, 1) := by decide +kernel
theorem dX6_init_39 : decode cX6_init 39 = .ok (.newarray .byte, 2) := by decide +kernel
theorem dX6_init_41 : decode cX6_init 41 = .ok (.putfield 32, 3) := by decide +kernel
theorem dX6_init_44 : decode cX6_init 44 = .ok (.aload_n 0, 1) := by decide +kernel
theorem dX6_init_45 : decode cX6_init 45 = .ok (.iconst 4, 1) := by decide +kernel
theorem dX6_init_46 : decode cX6_init 46 = .ok (.newarray .int, 2) := by decide +kernel
theorem dX6_init_48 : decode cX6_init 48 = .ok (.putfield 36, 3) := by decide +kernel
theorem dX6_init_51 : decode cX6_init 51 = .ok (.return_, 1) := by decide +kernel
theorem oiX6_3 : Cond.methodLink RX6 3 objectInit ∈ Tg := (tg_in (List.mem_append_right _ (List.mem_of_getElem? (i := 198) (by decide +kernel))) rfl)
theorem clX6_9 : Cond.classLink RX6 9 RX0 ∈ Tg := (tg_in (List.mem_append_right _ (List.mem_of_getElem? (i := 199) (by decide +kernel))) rfl)
theorem clX6_18 : Cond.classLink RX6 18 RX8 ∈ Tg := (tg_in (List.mem_append_right _ (List.mem_of_getElem? (i := 201) (by decide +kernel))) rfl)
theorem inst8 : Cond.instantiable RX8 4 ∈ Tg := (tg_in (List.mem_append_right _ (List.mem_of_getElem? (i := 116) (by decide +kernel))) rfl)
theorem ini8 : Cond.initialized RX8 ∈ Tg := (tg_in (List.mem_append_right _ (List.mem_of_getElem? (i := 4) (by decide +kernel))) rfl)
theorem cdi8 : Cond.code yX8_init cX8_init 1 none ∈ Tg := (tg_in (List.mem_append_right _ (List.mem_of_getElem? (i := 119) (by decide +kernel))) rfl)
theorem imi8 : Cond.instanceMethod yX8_init ∈ Tg := (tg_in (List.mem_append_right _ (List.mem_of_getElem? (i := 118) (by decide +kernel))) rfl)
theorem clX6_25 : Cond.classLink RX6 25 RX4 ∈ Tg := (tg_in (List.mem_append_right _ (List.mem_of_getElem? (i := 203) (by decide +kernel))) rfl)
theorem inst4 : Cond.instantiable RX4 5 ∈ Tg := (tg_in (List.mem_append_right _ (List.mem_of_getElem? (i := 140) (by decide +kernel))) rfl)
theorem ini4 : Cond.initialized RX4 ∈ Tg := (tg_in (List.mem_append_right _ (List.mem_of_getElem? (i := 5) (by decide +kernel))) rfl)
theorem cdi4 : Cond.code yX4_init cX4_init 1 none ∈ Tg := (tg_in (List.mem_append_right _ (List.mem_of_getElem? (i := 143) (by decide +kernel))) rfl)
theorem imi4 : Cond.instanceMethod yX4_init ∈ Tg := (tg_in (List.mem_append_right _ (List.mem_of_getElem? (i := 142) (by decide +kernel))) rfl)
def PW_6 (z : Sx) (u : Nat → Nat) : va_W := (((([(u 0, .inr (6, [.ref (u 1), .ref (u 10), .ref (u 14), .int 0, .int 0, .ref (u 19), .int 0, .int 0, .int 0, .int 0, .int 0, .ref (u 20)]))] ++ PW_0 z (fun i => u (1 + i))) ++ PW_8 z (fun i => u (10 + i))) ++ PW_4 z (fun i => u (14 + i))) ++ [(u 19, .inl (z.2.1 52, 0, .inl (fun _ => 0))), (u 20, .inl (z.2.1 50, 4, .inl (fun _ => 0)))])
theorem PW_6_ext {z : Sx} {u v : Nat → Nat} (h : ∀ i, i < 21 → u i = v i) : PW_6 z u = PW_6 z v := by unfold PW_6; rw [PW_0_ext (z := z) (u := fun i => u (1 + i)) (v := fun i => v (1 + i)) (fun i hi => h _ (by omega))]; rw [PW_8_ext (z := z) (u := fun i => u (10 + i)) (v := fun i => v (10 + i)) (fun i hi => h _ (by omega))]; rw [PW_4_ext (z := z) (u := fun i => u (14 + i)) (v := fun i => v (14 + i)) (fun i hi => h _ (by omega))]; simp only [h 0 (by decide), h 1 (by decide), h 2 (by decide), h 3 (by decide), h 4 (by decide), h 5 (by decide), h 6 (by decide), h 7 (by decide), h 8 (by decide), h 9 (by decide), h 10 (by decide), h 11 (by decide), h 12 (by decide), h 13 (by decide), h 14 (by decide), h 15 (by decide), h 16 (by decide), h 17 (by decide), h 18 (by decide), h 19 (by decide), h 20 (by decide)]
set_option maxRecDepth 100000 in
set_option maxHeartbeats 4000000 in
theorem kcX6 (l : Launch) (z : Sx) : CtC yX6_init cX6_init 1 2 46 20 236 l z (.inr (6, [.null, .null, .null, .int 0, .int 0, .null, .int 0, .int 0, .int 0, .int 0, .int 0, .null])) (PW_6 z) := by
  refine CtC_of (by decide +kernel) (by decide) rfl ?_
  intro x h _ X
  refine VL_aload_n 0 X dX6_init_0 rfl rfl ?_
  refine VL_obj X dX6_init_1 oiX6_3 oiI oiC (by decide) (Nat.le_of_ble_eq_true rfl) ?_
  refine VL_aload_n 0 X dX6_init_4 rfl rfl ?_
  refine VL_new (ci := 0) (fs := [.int 0, .int 0, .int 0, .null, .null, .null, .null, .null, .null, .null, .null]) X dX6_init_5 co0 clX6_9 inst0 ini0 (by decide +kernel) (by decide) (by decide) (fun q1 => ?_)
  refine VL_dup X dX6_init_8 rfl ?_
  refine VL_callN (wr := [(h, .inr (6, [.null, .null, .null, .int 0, .int 0, .null, .int 0, .int 0, .int 0, .int 0, .int 0, .null]))]) X dX6_init_9 (kcX0 x.2.1 z) cdi0 ini0 imi0 4 rfl rfl (by decide +kernel) ⟨by decide, by decide⟩ (Nat.le_of_ble_eq_true rfl) (by decide) (by decide) rfl (fun u2 huu2 => ?_)
  subst huu2
  refine VL_putF (ws' := ([(h, .inr (6, [.ref (u2 0), .null, .null, .int 0, .int 0, .null, .int 0, .int 0, .int 0, .int 0, .int 0, .null]))] ++ PW_0 z u2)) 0 0 X dX6_init_12 co6 rfl (by decide) wfX6_12 rfl rfl rfl rfl (Nat.le_of_ble_eq_true rfl) rfl ?_
  refine VL_aload_n 0 X dX6_init_15 rfl rfl ?_
  refine VL_new (ci := 8) (fs := [.int 0, .null, .null, .null]) X dX6_init_16 co8 clX6_18 inst8 ini8 (by decide +kernel) (by decide) (by decide) (fun q3 => ?_)
  refine VL_dup X dX6_init_19 rfl ?_
  refine VL_callN (wr := ([(h, .inr (6, [.ref (u2 0), .null, .null, .int 0, .int 0, .null, .int 0, .int 0, .int 0, .int 0, .int 0, .null]))] ++ PW_0 z u2)) X dX6_init_20 (kcX8 x.2.1 z) cdi8 ini8 imi8 5 rfl rfl (by decide +kernel) ⟨by decide, by decide⟩ (Nat.le_of_ble_eq_true rfl) (by decide) (by decide) rfl (fun u4 huu4 => ?_)
  subst huu4
  refine VL_putF (ws' := (([(h, .inr (6, [.ref (u2 0), .ref (u4 0), .null, .int 0, .int 0, .null, .int 0, .int 0, .int 0, .int 0, .int 0, .null]))] ++ PW_0 z u2) ++ PW_8 z u4)) 0 1 X dX6_init_23 co6 rfl (by decide) wfX6_21 rfl rfl rfl rfl (Nat.le_of_ble_eq_true rfl) rfl ?_
  refine VL_aload_n 0 X dX6_init_26 rfl rfl ?_
  refine VL_new (ci := 4) (fs := [.int 0, .null, .null, .null, .null]) X dX6_init_27 co4 clX6_25 inst4 ini4 (by decide +kernel) (by decide) (by decide) (fun q5 => ?_)
  refine VL_dup X dX6_init_30 rfl ?_
  refine VL_callN (wr := (([(h, .inr (6, [.ref (u2 0), .ref (u4 0), .null, .int 0, .int 0, .null, .int 0, .int 0, .int 0, .int 0, .int 0, .null]))] ++ PW_0 z u2) ++ PW_8 z u4)) X dX6_init_31 (kcX4 x.2.1 z) cdi4 ini4 imi4 6 rfl rfl (by decide +kernel) ⟨by decide, by decide⟩ (Nat.le_of_ble_eq_true rfl) (by decide) (by decide) rfl (fun u6 huu6 => ?_)
  subst huu6
  refine VL_putF (ws' := ((([(h, .inr (6, [.ref (u2 0), .ref (u4 0), .ref (u6 0), .int 0, .int 0, .null, .int 0, .int 0, .int 0, .int 0, .int 0, .null]))] ++ PW_0 z u2) ++ PW_8 z u4) ++ PW_4 z u6)) 0 2 X dX6_init_34 co6 rfl (by decide) wfX6_28 rfl rfl rfl rfl (Nat.le_of_ble_eq_true rfl) rfl ?_
  refine VL_aload_n 0 X dX6_init_37 rfl rfl ?_
  refine VL_iconst (v := 0) X dX6_init_38 (by decide) ?_
  refine VL_newa (t0 := 2) (c0 := z.2.1 52) (a0 := (0, .inl (fun _ => 0))) X dX6_init_39 at_byte rfl (fun _ => rfl) (by decide) (by decide) (by decide) rfl (by decide) (by decide) (fun q7 => ?_)
  refine VL_put (ws' := (((([(h, .inr (6, [.ref (u2 0), .ref (u4 0), .ref (u6 0), .int 0, .int 0, .ref q7, .int 0, .int 0, .int 0, .int 0, .int 0, .null]))] ++ PW_0 z u2) ++ PW_8 z u4) ++ PW_4 z u6) ++ [(q7, .inl (z.2.1 52, 0, .inl (fun _ => 0)))])) 0 5 X dX6_init_41 co6 rfl (by decide) wfX6_32 rfl rfl rfl (Nat.le_of_ble_eq_true rfl) rfl ?_
  refine VL_aload_n 0 X dX6_init_44 rfl rfl ?_
  refine VL_iconst (v := 4) X dX6_init_45 (by decide) ?_
  refine VL_newa (t0 := 0) (c0 := z.2.1 50) (a0 := (4, .inl (fun _ => 0))) X dX6_init_46 at_int rfl (fun _ => rfl) (by decide) (by decide) (by decide) rfl (by decide) (by decide) (fun q8 => ?_)
  refine VL_putF (ws' := (((([(h, .inr (6, [.ref (u2 0), .ref (u4 0), .ref (u6 0), .int 0, .int 0, .ref q7, .int 0, .int 0, .int 0, .int 0, .int 0, .ref q8]))] ++ PW_0 z u2) ++ PW_8 z u4) ++ PW_4 z u6) ++ [(q7, .inl (z.2.1 52, 0, .inl (fun _ => 0))), (q8, .inl (z.2.1 50, 4, .inl (fun _ => 0)))])) 0 11 X dX6_init_48 co6 rfl (by decide) wfX6_36 rfl rfl rfl rfl (Nat.le_of_ble_eq_true rfl) rfl ?_
  exact VL_ret (PW := PW_6 z) (fun i => ([h, u2 0, u2 1, u2 2, u2 3, u2 4, u2 5, u2 6, u2 7, u2 8, u4 0, u4 1, u4 2, u4 3, u6 0, u6 1, u6 2, u6 3, u6 4, q7, q8] : List Nat).getD i 0) X dX6_init_51 rfl rfl
theorem dX9_init_0 : decode cX9_init 0 = .ok (.aload_n 0, 1) := by decide +kernel
theorem dX9_init_1 : decode cX9_init 1 = .ok (.invokespecial 3, 3) := by decide +kernel
theorem dX9_init_4 : decode cX9_init 4 = .ok (.aload_n 0, 1) := by decide +kernel
theorem dX9_init_5 : decode cX9_init 5 = .ok (.sipush 600, 3) := by decide +kernel
theorem dX9_init_8 : decode cX9_init 8 = .ok (.newarray .byte, 2) := by decide +kernel
theorem dX9_init_10 : decode cX9_init 10 = .ok (.putfield 9, 3) := by decide +kernel
theorem dX9_init_13 : decode cX9_init 13 = .ok (.aload_n 0, 1) := by decide +kernel
theorem dX9_init_14 : decode cX9_init 14 = .ok (.iconst (-1), 1) := by decide +kernel
theorem dX9_init_15 : decode cX9_init 15 = .ok (.putfield 15, 3) := by decide +kernel
theorem dX9_init_18 : decode cX9_init 18 = .ok (.aload_n 0, 1) := by decide +kernel
theorem dX9_init_19 : decode cX9_init 19 = .ok (.iconst 3, 1) := by decide +kernel
theorem dX9_init_20 : decode cX9_init 20 = .ok (.newarray .int, 2) := by decide +kernel
theorem dX9_init_22 : decode cX9_init 22 = .ok (.putfield 19, 3) := by decide +kernel
theorem dX9_init_25 : decode cX9_init 25 = .ok (.aload_n 0, 1) := by decide +kernel
theorem dX9_init_26 : decode cX9_init 26 = .ok (.iconst 2, 1) := by decide +kernel
theorem dX9_init_27 : decode cX9_init 27 = .ok (.anewarray 23, 3) := by decide +kernel
theorem dX9_init_30 : decode cX9_init 30 = .ok (.putfield 25, 3) := by decide +kernel
theorem dX9_init_33 : decode cX9_init 33 = .ok (.aload_n 0, 1) := by decide +kernel
theorem dX9_init_34 : decode cX9_init 34 = .ok (.iconst 2, 1) := by decide +kernel
theorem dX9_init_35 : decode cX9_init 35 = .ok (.anewarray 29, 3) := by decide +kernel
theorem dX9_init_38 : decode cX9_init 38 = .ok (.putfield 31, 3) := by decide +kernel
theorem dX9_init_41 : decode cX9_init 41 = .ok (.aload_n 0, 1) := by decide +kernel
theorem dX9_init_42 : decode cX9_init 42 = .ok (.iconst 2, 1) := by decide +kernel
theorem dX9_init_43 : decode cX9_init 43 = .ok (.anewarray 35, 3) := by decide +kernel
theorem dX9_init_46 : decode cX9_init 46 = .ok (.putfield 37, 3) := by decide +kernel
theorem dX9_init_49 : decode cX9_init 49 = .ok (.iconst 0, 1) := by decide +kernel
theorem dX9_init_50 : decode cX9_init 50 = .ok (.istore_n 1, 1) := by decide +kernel
theorem dX9_init_51 : decode cX9_init 51 = .ok (.iload_n 1, 1) := by decide +kernel
theorem dX9_init_52 : decode cX9_init 52 = .ok (.iconst 2, 1) := by decide +kernel
theorem dX9_init_53 : decode cX9_init 53 = .ok (.if_icmp .ge 48, 3) := by decide +kernel
theorem dX9_init_56 : decode cX9_init 56 = .ok (.aload_n 0, 1) := by decide +kernel
theorem dX9_init_57 : decode cX9_init 57 = .ok (.getfield 25, 3) := by decide +kernel
theorem dX9_init_60 : decode cX9_init 60 = .ok (.iload_n 1, 1) := by decide +kernel
theorem dX9_init_61 : decode cX9_init 61 = .ok (.new 23, 3) := by decide +kernel
theorem dX9_init_64 : decode cX9_init 64 = .ok (.dup, 1) := by decide +kernel
theorem dX9_init_65 : decode cX9_init 65 = .ok (.invokespecial 41, 3) := by decide +kernel
theorem dX9_init_68 : decode cX9_init 68 = .ok (.aastore, 1) := by decide +kernel
theorem dX9_init_69 : decode cX9_init 69 = .ok (.aload_n 0, 1) := by decide +kernel
theorem dX9_init_70 : decode cX9_init 70 = .ok (.getfield 31, 3) := by decide +kernel
theorem dX9_init_73 : decode cX9_init 73 = .ok (.iload_n 1, 1) := by decide +kernel
theorem dX9_init_74 : decode cX9_init 74 = .ok (.new 29, 3) := by decide +kernel
theorem dX9_init_77 : decode cX9_init 77 = .ok (.dup, 1) := by decide +kernel
theorem dX9_init_78 : decode cX9_init 78 = .ok (.invokespecial 42, 3) := by decide +kernel
theorem dX9_init_81 : decode cX9_init 81 = .ok (.aastore, 1) := by decide +kernel
theorem dX9_init_82 : decode cX9_init 82 = .ok (.aload_n 0, 1) := by decide +kernel
theorem dX9_init_83 : decode cX9_init 83 = .ok (.getfield 37, 3) := by decide +kernel
theorem dX9_init_86 : decode cX9_init 86 = .ok (.iload_n 1, 1) := by decide +kernel
theorem dX9_init_87 : decode cX9_init 87 = .ok (.new 35, 3) := by decide +kernel
theorem dX9_init_90 : decode cX9_init 90 = .ok (.dup, 1) := by decide +kernel
theorem dX9_init_91 : decode cX9_init 91 = .ok (.invokespecial 43, 3) := by decide +kernel
theorem dX9_init_94 : decode cX9_init 94 = .ok (.aastore, 1) := by decide +kernel
theorem dX9_init_95 : decode cX9_init 95 = .ok (.iinc 1 1, 3) := by decide +kernel
theorem dX9_init_98 : decode cX9_init 98 = .ok (.goto (-47), 3) := by decide +kernel
theorem dX9_init_101 : decode cX9_init 101 = .ok (.return_, 1) := by decide +kernel
theorem oiX9_3 : Cond.methodLink RX9 3 objectInit ∈ Tg := (tg_in (List.mem_append_right _ (List.mem_of_getElem? (i := 36) (by decide +kernel))) rfl)
theorem clX9_23 : Cond.classLink RX9 23 RX0 ∈ Tg := (tg_in (List.mem_append_right _ (List.mem_of_getElem? (i := 37) (by decide +kernel))) rfl)
theorem clX9_29 : Cond.classLink RX9 29 RX8 ∈ Tg := (tg_in (List.mem_append_right _ (List.mem_of_getElem? (i := 39) (by decide +kernel))) rfl)
theorem clX9_35 : Cond.classLink RX9 35 RX4 ∈ Tg := (tg_in (List.mem_append_right _ (List.mem_of_getElem? (i := 41) (by decide +kernel))) rfl)
def PW_9 (z : Sx) (u : Nat → Nat) : va_W := (((((([(u 0, .inr (9, [.ref (u 1), .int 0, .int 0, .int (-1), .ref (u 2), .ref (u 3), .ref (u 4), .ref (u 5)])), (u 1, .inl (z.2.1 52, 600, .inl (fun _ => 0))), (u 2, .inl (z.2.1 50, 3, .inl (fun _ => 0))), (u 3, .inl (z.2.1 60, 2, .inr (.inr (.inr (.inr (fun j => some ([u 6, u 15].getD j 0))))))), (u 4, .inl (z.2.1 61, 2, .inr (.inr (.inr (.inr (fun j => some ([u 24, u 28].getD j 0))))))), (u 5, .inl (z.2.1 62, 2, .inr (.inr (.inr (.inr (fun j => some ([u 32, u 37].getD j 0)))))))] ++ PW_0 z (fun i => u (6 + i))) ++ PW_8 z (fun i => u (24 + i))) ++ PW_4 z (fun i => u (32 + i))) ++ PW_0 z (fun i => u (15 + i))) ++ PW_8 z (fun i => u (28 + i))) ++ PW_4 z (fun i => u (37 + i)))
theorem PW_9_ext {z : Sx} {u v : Nat → Nat} (h : ∀ i, i < 42 → u i = v i) : PW_9 z u = PW_9 z v := by unfold PW_9; rw [PW_0_ext (z := z) (u := fun i => u (6 + i)) (v := fun i => v (6 + i)) (fun i hi => h _ (by omega))]; rw [PW_8_ext (z := z) (u := fun i => u (24 + i)) (v := fun i => v (24 + i)) (fun i hi => h _ (by omega))]; rw [PW_4_ext (z := z) (u := fun i => u (32 + i)) (v := fun i => v (32 + i)) (fun i hi => h _ (by omega))]; rw [PW_0_ext (z := z) (u := fun i => u (15 + i)) (v := fun i => v (15 + i)) (fun i hi => h _ (by omega))]; rw [PW_8_ext (z := z) (u := fun i => u (28 + i)) (v := fun i => v (28 + i)) (fun i hi => h _ (by omega))]; rw [PW_4_ext (z := z) (u := fun i => u (37 + i)) (v := fun i => v (37 + i)) (fun i hi => h _ (by omega))]; simp only [h 0 (by decide), h 1 (by decide), h 2 (by decide), h 3 (by decide), h 4 (by decide), h 5 (by decide), h 6 (by decide), h 7 (by decide), h 8 (by decide), h 9 (by decide), h 10 (by decide), h 11 (by decide), h 12 (by decide), h 13 (by decide), h 14 (by decide), h 15 (by decide), h 16 (by decide), h 17 (by decide), h 18 (by decide), h 19 (by decide), h 20 (by decide), h 21 (by decide), h 22 (by decide), h 23 (by decide), h 24 (by decide), h 25 (by decide), h 26 (by decide), h 27 (by decide), h 28 (by decide), h 29 (by decide), h 30 (by decide), h 31 (by decide), h 32 (by decide), h 33 (by decide), h 34 (by decide), h 35 (by decide), h 36 (by decide), h 37 (by decide), h 38 (by decide), h 39 (by decide), h 40 (by decide), h 41 (by decide)]
set_option maxRecDepth 100000 in
set_option maxHeartbeats 4000000 in
theorem kcX9 (l : Launch) (z : Sx) : CtC yX9_init cX9_init 2 2 46 41 1073 l z (.inr (9, [.null, .int 0, .int 0, .int 0, .null, .null, .null, .null])) (PW_9 z) := by
  refine CtC_of (by decide +kernel) (by decide) rfl ?_
  intro x h _ X
  refine VL_aload_n 0 X dX9_init_0 rfl rfl ?_
  refine VL_obj X dX9_init_1 oiX9_3 oiI oiC (by decide) (Nat.le_of_ble_eq_true rfl) ?_
  refine VL_aload_n 0 X dX9_init_4 rfl rfl ?_
  refine VL_sipush (v := 600) X dX9_init_5 (by decide) ?_
  refine VL_newa (t0 := 2) (c0 := z.2.1 52) (a0 := (600, .inl (fun _ => 0))) X dX9_init_8 at_byte rfl (fun _ => rfl) (by decide) (by decide) (by decide) rfl (by decide) (by decide) (fun q1 => ?_)
  refine VL_putF (ws' := [(h, .inr (9, [.ref q1, .int 0, .int 0, .int 0, .null, .null, .null, .null])), (q1, .inl (z.2.1 52, 600, .inl (fun _ => 0)))]) 0 0 X dX9_init_10 co9 rfl (by decide) wfX9_9 rfl rfl rfl rfl (Nat.le_of_ble_eq_true rfl) rfl ?_
  refine VL_aload_n 0 X dX9_init_13 rfl rfl ?_
  refine VL_iconst (v := -1) X dX9_init_14 (by decide) ?_
  refine VL_put (ws' := [(h, .inr (9, [.ref q1, .int 0, .int 0, .int (-1), .null, .null, .null, .null])), (q1, .inl (z.2.1 52, 600, .inl (fun _ => 0)))]) 0 3 X dX9_init_15 co9 rfl (by decide) wfX9_15 rfl rfl rfl (Nat.le_of_ble_eq_true rfl) rfl ?_
  refine VL_aload_n 0 X dX9_init_18 rfl rfl ?_
  refine VL_iconst (v := 3) X dX9_init_19 (by decide) ?_
  refine VL_newa (t0 := 0) (c0 := z.2.1 50) (a0 := (3, .inl (fun _ => 0))) X dX9_init_20 at_int rfl (fun _ => rfl) (by decide) (by decide) (by decide) rfl (by decide) (by decide) (fun q2 => ?_)
  refine VL_putF (ws' := [(h, .inr (9, [.ref q1, .int 0, .int 0, .int (-1), .ref q2, .null, .null, .null])), (q1, .inl (z.2.1 52, 600, .inl (fun _ => 0))), (q2, .inl (z.2.1 50, 3, .inl (fun _ => 0)))]) 0 4 X dX9_init_22 co9 rfl (by decide) wfX9_19 rfl rfl rfl rfl (Nat.le_of_ble_eq_true rfl) rfl ?_
  refine VL_aload_n 0 X dX9_init_25 rfl rfl ?_
  refine VL_iconst (v := 2) X dX9_init_26 (by decide) ?_
  refine VL_newq (t0 := 4) (c0 := z.2.1 60) (N' := 2) X dX9_init_27 clX9_23 (fun _ h9 => h9.2.1) (by decide) (by decide) (by decide) rfl (by decide) (by decide) (fun q3 => ?_)
  refine VL_putF (ws' := [(h, .inr (9, [.ref q1, .int 0, .int 0, .int (-1), .ref q2, .ref q3, .null, .null])), (q1, .inl (z.2.1 52, 600, .inl (fun _ => 0))), (q2, .inl (z.2.1 50, 3, .inl (fun _ => 0))), (q3, .inl (z.2.1 60, 2, .inr (.inr (.inr (.inr (fun _ => none))))))]) 0 5 X dX9_init_30 co9 rfl (by decide) wfX9_25 rfl rfl rfl rfl (Nat.le_of_ble_eq_true rfl) rfl ?_
  refine VL_aload_n 0 X dX9_init_33 rfl rfl ?_
  refine VL_iconst (v := 2) X dX9_init_34 (by decide) ?_
  refine VL_newq (t0 := 5) (c0 := z.2.1 61) (N' := 2) X dX9_init_35 clX9_29 (fun _ h9 => h9.2.2.1) (by decide) (by decide) (by decide) rfl (by decide) (by decide) (fun q4 => ?_)
  refine VL_putF (ws' := [(h, .inr (9, [.ref q1, .int 0, .int 0, .int (-1), .ref q2, .ref q3, .ref q4, .null])), (q1, .inl (z.2.1 52, 600, .inl (fun _ => 0))), (q2, .inl (z.2.1 50, 3, .inl (fun _ => 0))), (q3, .inl (z.2.1 60, 2, .inr (.inr (.inr (.inr (fun _ => none)))))), (q4, .inl (z.2.1 61, 2, .inr (.inr (.inr (.inr (fun _ => none))))))]) 0 6 X dX9_init_38 co9 rfl (by decide) wfX9_31 rfl rfl rfl rfl (Nat.le_of_ble_eq_true rfl) rfl ?_
  refine VL_aload_n 0 X dX9_init_41 rfl rfl ?_
  refine VL_iconst (v := 2) X dX9_init_42 (by decide) ?_
  refine VL_newq (t0 := 6) (c0 := z.2.1 62) (N' := 2) X dX9_init_43 clX9_35 (fun _ h9 => h9.2.2.2.1) (by decide) (by decide) (by decide) rfl (by decide) (by decide) (fun q5 => ?_)
  refine VL_putF (ws' := [(h, .inr (9, [.ref q1, .int 0, .int 0, .int (-1), .ref q2, .ref q3, .ref q4, .ref q5])), (q1, .inl (z.2.1 52, 600, .inl (fun _ => 0))), (q2, .inl (z.2.1 50, 3, .inl (fun _ => 0))), (q3, .inl (z.2.1 60, 2, .inr (.inr (.inr (.inr (fun _ => none)))))), (q4, .inl (z.2.1 61, 2, .inr (.inr (.inr (.inr (fun _ => none)))))), (q5, .inl (z.2.1 62, 2, .inr (.inr (.inr (.inr (fun _ => none))))))]) 0 7 X dX9_init_46 co9 rfl (by decide) wfX9_37 rfl rfl rfl rfl (Nat.le_of_ble_eq_true rfl) rfl ?_
  refine VL_iconst (v := 0) X dX9_init_49 (by decide) ?_
  refine VL_istore_n (L' := [(1, .int 0), (0, .ref h)]) X dX9_init_50 rfl (by decide) rfl ?_
  refine VL_iload_n 0 X dX9_init_51 rfl rfl ?_
  refine VL_iconst (v := 2) X dX9_init_52 (by decide) ?_
  refine VL_geF X dX9_init_53 101 (by decide) (by decide) ?_
  refine VL_aload_n 1 X dX9_init_56 rfl rfl ?_
  refine VL_getR 0 5 X dX9_init_57 co9 rfl (by decide) wfX9_25 rfl ?_
  refine VL_iload_n 0 X dX9_init_60 rfl rfl ?_
  refine VL_new (ci := 0) (fs := [.int 0, .int 0, .int 0, .null, .null, .null, .null, .null, .null, .null, .null]) X dX9_init_61 co0 clX9_23 inst0 ini0 (by decide +kernel) (by decide) (by decide) (fun q6 => ?_)
  refine VL_dup X dX9_init_64 rfl ?_
  refine VL_callN (wr := [(h, .inr (9, [.ref q1, .int 0, .int 0, .int (-1), .ref q2, .ref q3, .ref q4, .ref q5])), (q1, .inl (z.2.1 52, 600, .inl (fun _ => 0))), (q2, .inl (z.2.1 50, 3, .inl (fun _ => 0))), (q3, .inl (z.2.1 60, 2, .inr (.inr (.inr (.inr (fun _ => none)))))), (q4, .inl (z.2.1 61, 2, .inr (.inr (.inr (.inr (fun _ => none)))))), (q5, .inl (z.2.1 62, 2, .inr (.inr (.inr (.inr (fun _ => none))))))]) X dX9_init_65 (kcX0 x.2.1 z) cdi0 ini0 imi0 0 rfl rfl (by decide +kernel) ⟨by decide, by decide⟩ (Nat.le_of_ble_eq_true rfl) (by decide) (by decide) rfl (fun u7 huu7 => ?_)
  subst huu7
  refine VL_astq (t0 := 4) (r := (RX0, TX0, 11)) (ws' := ([(h, .inr (9, [.ref q1, .int 0, .int 0, .int (-1), .ref q2, .ref q3, .ref q4, .ref q5])), (q1, .inl (z.2.1 52, 600, .inl (fun _ => 0))), (q2, .inl (z.2.1 50, 3, .inl (fun _ => 0))), (q3, .inl (z.2.1 60, 2, .inr (.inr (.inr (.inr (va_up (fun _ => none) (0 : Int32).toNatClampNeg (some (u7 0)))))))), (q4, .inl (z.2.1 61, 2, .inr (.inr (.inr (.inr (fun _ => none)))))), (q5, .inl (z.2.1 62, 2, .inr (.inr (.inr (.inr (fun _ => none))))))] ++ PW_0 z u7)) 3 6 0 X dX9_init_68 rfl rfl rfl rfl (by unfold vp_in; decide) rfl ?_
  refine VL_aload_n 1 X dX9_init_69 rfl rfl ?_
  refine VL_getR 0 6 X dX9_init_70 co9 rfl (by decide) wfX9_31 rfl ?_
  refine VL_iload_n 0 X dX9_init_73 rfl rfl ?_
  refine VL_new (ci := 8) (fs := [.int 0, .null, .null, .null]) X dX9_init_74 co8 clX9_29 inst8 ini8 (by decide +kernel) (by decide) (by decide) (fun q8 => ?_)
  refine VL_dup X dX9_init_77 rfl ?_
  refine VL_callN (wr := ([(h, .inr (9, [.ref q1, .int 0, .int 0, .int (-1), .ref q2, .ref q3, .ref q4, .ref q5])), (q1, .inl (z.2.1 52, 600, .inl (fun _ => 0))), (q2, .inl (z.2.1 50, 3, .inl (fun _ => 0))), (q3, .inl (z.2.1 60, 2, .inr (.inr (.inr (.inr (va_up (fun _ => none) (0 : Int32).toNatClampNeg (some (u7 0)))))))), (q4, .inl (z.2.1 61, 2, .inr (.inr (.inr (.inr (fun _ => none)))))), (q5, .inl (z.2.1 62, 2, .inr (.inr (.inr (.inr (fun _ => none))))))] ++ PW_0 z u7)) X dX9_init_78 (kcX8 x.2.1 z) cdi8 ini8 imi8 1 rfl rfl (by decide +kernel) ⟨by decide, by decide⟩ (Nat.le_of_ble_eq_true rfl) (by decide) (by decide) rfl (fun u9 huu9 => ?_)
  subst huu9
  refine VL_astq (t0 := 5) (r := (RX8, TX8, 4)) (ws' := (([(h, .inr (9, [.ref q1, .int 0, .int 0, .int (-1), .ref q2, .ref q3, .ref q4, .ref q5])), (q1, .inl (z.2.1 52, 600, .inl (fun _ => 0))), (q2, .inl (z.2.1 50, 3, .inl (fun _ => 0))), (q3, .inl (z.2.1 60, 2, .inr (.inr (.inr (.inr (va_up (fun _ => none) (0 : Int32).toNatClampNeg (some (u7 0)))))))), (q4, .inl (z.2.1 61, 2, .inr (.inr (.inr (.inr (va_up (fun _ => none) (0 : Int32).toNatClampNeg (some (u9 0)))))))), (q5, .inl (z.2.1 62, 2, .inr (.inr (.inr (.inr (fun _ => none))))))] ++ PW_0 z u7) ++ PW_8 z u9)) 4 15 8 X dX9_init_81 rfl rfl rfl rfl (by unfold vp_in; decide) rfl ?_
  refine VL_aload_n 1 X dX9_init_82 rfl rfl ?_
  refine VL_getR 0 7 X dX9_init_83 co9 rfl (by decide) wfX9_37 rfl ?_
  refine VL_iload_n 0 X dX9_init_86 rfl rfl ?_
  refine VL_new (ci := 4) (fs := [.int 0, .null, .null, .null, .null]) X dX9_init_87 co4 clX9_35 inst4 ini4 (by decide +kernel) (by decide) (by decide) (fun q10 => ?_)
  refine VL_dup X dX9_init_90 rfl ?_
  refine VL_callN (wr := (([(h, .inr (9, [.ref q1, .int 0, .int 0, .int (-1), .ref q2, .ref q3, .ref q4, .ref q5])), (q1, .inl (z.2.1 52, 600, .inl (fun _ => 0))), (q2, .inl (z.2.1 50, 3, .inl (fun _ => 0))), (q3, .inl (z.2.1 60, 2, .inr (.inr (.inr (.inr (va_up (fun _ => none) (0 : Int32).toNatClampNeg (some (u7 0)))))))), (q4, .inl (z.2.1 61, 2, .inr (.inr (.inr (.inr (va_up (fun _ => none) (0 : Int32).toNatClampNeg (some (u9 0)))))))), (q5, .inl (z.2.1 62, 2, .inr (.inr (.inr (.inr (fun _ => none))))))] ++ PW_0 z u7) ++ PW_8 z u9)) X dX9_init_91 (kcX4 x.2.1 z) cdi4 ini4 imi4 2 rfl rfl (by decide +kernel) ⟨by decide, by decide⟩ (Nat.le_of_ble_eq_true rfl) (by decide) (by decide) rfl (fun u11 huu11 => ?_)
  subst huu11
  refine VL_astq (t0 := 6) (r := (RX4, TX4, 5)) (ws' := ((([(h, .inr (9, [.ref q1, .int 0, .int 0, .int (-1), .ref q2, .ref q3, .ref q4, .ref q5])), (q1, .inl (z.2.1 52, 600, .inl (fun _ => 0))), (q2, .inl (z.2.1 50, 3, .inl (fun _ => 0))), (q3, .inl (z.2.1 60, 2, .inr (.inr (.inr (.inr (va_up (fun _ => none) (0 : Int32).toNatClampNeg (some (u7 0)))))))), (q4, .inl (z.2.1 61, 2, .inr (.inr (.inr (.inr (va_up (fun _ => none) (0 : Int32).toNatClampNeg (some (u9 0)))))))), (q5, .inl (z.2.1 62, 2, .inr (.inr (.inr (.inr (va_up (fun _ => none) (0 : Int32).toNatClampNeg (some (u11 0))))))))] ++ PW_0 z u7) ++ PW_8 z u9) ++ PW_4 z u11)) 5 19 4 X dX9_init_94 rfl rfl rfl rfl (by unfold vp_in; decide) rfl ?_
  refine VL_iinc (v := 1) (L' := [(1, .int 1), (0, .ref h)]) 0 X dX9_init_95 rfl (by decide) (by decide) rfl ?_
  refine VL_goto (tgt := 51) X dX9_init_98 (by decide) ?_
  refine VL_iload_n 0 X dX9_init_51 rfl rfl ?_
  refine VL_iconst (v := 2) X dX9_init_52 (by decide) ?_
  refine VL_geF X dX9_init_53 101 (by decide) (by decide) ?_
  refine VL_aload_n 1 X dX9_init_56 rfl rfl ?_
  refine VL_getR 0 5 X dX9_init_57 co9 rfl (by decide) wfX9_25 rfl ?_
  refine VL_iload_n 0 X dX9_init_60 rfl rfl ?_
  refine VL_new (ci := 0) (fs := [.int 0, .int 0, .int 0, .null, .null, .null, .null, .null, .null, .null, .null]) X dX9_init_61 co0 clX9_23 inst0 ini0 (by decide +kernel) (by decide) (by decide) (fun q12 => ?_)
  refine VL_dup X dX9_init_64 rfl ?_
  refine VL_callN (wr := ((([(h, .inr (9, [.ref q1, .int 0, .int 0, .int (-1), .ref q2, .ref q3, .ref q4, .ref q5])), (q1, .inl (z.2.1 52, 600, .inl (fun _ => 0))), (q2, .inl (z.2.1 50, 3, .inl (fun _ => 0))), (q3, .inl (z.2.1 60, 2, .inr (.inr (.inr (.inr (va_up (fun _ => none) (0 : Int32).toNatClampNeg (some (u7 0)))))))), (q4, .inl (z.2.1 61, 2, .inr (.inr (.inr (.inr (va_up (fun _ => none) (0 : Int32).toNatClampNeg (some (u9 0)))))))), (q5, .inl (z.2.1 62, 2, .inr (.inr (.inr (.inr (va_up (fun _ => none) (0 : Int32).toNatClampNeg (some (u11 0))))))))] ++ PW_0 z u7) ++ PW_8 z u9) ++ PW_4 z u11)) X dX9_init_65 (kcX0 x.2.1 z) cdi0 ini0 imi0 0 rfl rfl (by decide +kernel) ⟨by decide, by decide⟩ (Nat.le_of_ble_eq_true rfl) (by decide) (by decide) rfl (fun u13 huu13 => ?_)
  subst huu13
  refine VL_astq (t0 := 4) (r := (RX0, TX0, 11)) (ws' := (((([(h, .inr (9, [.ref q1, .int 0, .int 0, .int (-1), .ref q2, .ref q3, .ref q4, .ref q5])), (q1, .inl (z.2.1 52, 600, .inl (fun _ => 0))), (q2, .inl (z.2.1 50, 3, .inl (fun _ => 0))), (q3, .inl (z.2.1 60, 2, .inr (.inr (.inr (.inr (va_up (va_up (fun _ => none) (0 : Int32).toNatClampNeg (some (u7 0))) (1 : Int32).toNatClampNeg (some (u13 0)))))))), (q4, .inl (z.2.1 61, 2, .inr (.inr (.inr (.inr (va_up (fun _ => none) (0 : Int32).toNatClampNeg (some (u9 0)))))))), (q5, .inl (z.2.1 62, 2, .inr (.inr (.inr (.inr (va_up (fun _ => none) (0 : Int32).toNatClampNeg (some (u11 0))))))))] ++ PW_0 z u7) ++ PW_8 z u9) ++ PW_4 z u11) ++ PW_0 z u13)) 3 24 0 X dX9_init_68 rfl rfl rfl rfl (by unfold vp_in; decide) rfl ?_
  refine VL_aload_n 1 X dX9_init_69 rfl rfl ?_
  refine VL_getR 0 6 X dX9_init_70 co9 rfl (by decide) wfX9_31 rfl ?_
  refine VL_iload_n 0 X dX9_init_73 rfl rfl ?_
  refine VL_new (ci := 8) (fs := [.int 0, .null, .null, .null]) X dX9_init_74 co8 clX9_29 inst8 ini8 (by decide +kernel) (by decide) (by decide) (fun q14 => ?_)
  refine VL_dup X dX9_init_77 rfl ?_
  refine VL_callN (wr := (((([(h, .inr (9, [.ref q1, .int 0, .int 0, .int (-1), .ref q2, .ref q3, .ref q4, .ref q5])), (q1, .inl (z.2.1 52, 600, .inl (fun _ => 0))), (q2, .inl (z.2.1 50, 3, .inl (fun _ => 0))), (q3, .inl (z.2.1 60, 2, .inr (.inr (.inr (.inr (va_up (va_up (fun _ => none) (0 : Int32).toNatClampNeg (some (u7 0))) (1 : Int32).toNatClampNeg (some (u13 0)))))))), (q4, .inl (z.2.1 61, 2, .inr (.inr (.inr (.inr (va_up (fun _ => none) (0 : Int32).toNatClampNeg (some (u9 0)))))))), (q5, .inl (z.2.1 62, 2, .inr (.inr (.inr (.inr (va_up (fun _ => none) (0 : Int32).toNatClampNeg (some (u11 0))))))))] ++ PW_0 z u7) ++ PW_8 z u9) ++ PW_4 z u11) ++ PW_0 z u13)) X dX9_init_78 (kcX8 x.2.1 z) cdi8 ini8 imi8 1 rfl rfl (by decide +kernel) ⟨by decide, by decide⟩ (Nat.le_of_ble_eq_true rfl) (by decide) (by decide) rfl (fun u15 huu15 => ?_)
  subst huu15
  refine VL_astq (t0 := 5) (r := (RX8, TX8, 4)) (ws' := ((((([(h, .inr (9, [.ref q1, .int 0, .int 0, .int (-1), .ref q2, .ref q3, .ref q4, .ref q5])), (q1, .inl (z.2.1 52, 600, .inl (fun _ => 0))), (q2, .inl (z.2.1 50, 3, .inl (fun _ => 0))), (q3, .inl (z.2.1 60, 2, .inr (.inr (.inr (.inr (va_up (va_up (fun _ => none) (0 : Int32).toNatClampNeg (some (u7 0))) (1 : Int32).toNatClampNeg (some (u13 0)))))))), (q4, .inl (z.2.1 61, 2, .inr (.inr (.inr (.inr (va_up (va_up (fun _ => none) (0 : Int32).toNatClampNeg (some (u9 0))) (1 : Int32).toNatClampNeg (some (u15 0)))))))), (q5, .inl (z.2.1 62, 2, .inr (.inr (.inr (.inr (va_up (fun _ => none) (0 : Int32).toNatClampNeg (some (u11 0))))))))] ++ PW_0 z u7) ++ PW_8 z u9) ++ PW_4 z u11) ++ PW_0 z u13) ++ PW_8 z u15)) 4 33 8 X dX9_init_81 rfl rfl rfl rfl (by unfold vp_in; decide) rfl ?_
  refine VL_aload_n 1 X dX9_init_82 rfl rfl ?_
  refine VL_getR 0 7 X dX9_init_83 co9 rfl (by decide) wfX9_37 rfl ?_
  refine VL_iload_n 0 X dX9_init_86 rfl rfl ?_
  refine VL_new (ci := 4) (fs := [.int 0, .null, .null, .null, .null]) X dX9_init_87 co4 clX9_35 inst4 ini4 (by decide +kernel) (by decide) (by decide) (fun q16 => ?_)
  refine VL_dup X dX9_init_90 rfl ?_
  refine VL_callN (wr := ((((([(h, .inr (9, [.ref q1, .int 0, .int 0, .int (-1), .ref q2, .ref q3, .ref q4, .ref q5])), (q1, .inl (z.2.1 52, 600, .inl (fun _ => 0))), (q2, .inl (z.2.1 50, 3, .inl (fun _ => 0))), (q3, .inl (z.2.1 60, 2, .inr (.inr (.inr (.inr (va_up (va_up (fun _ => none) (0 : Int32).toNatClampNeg (some (u7 0))) (1 : Int32).toNatClampNeg (some (u13 0)))))))), (q4, .inl (z.2.1 61, 2, .inr (.inr (.inr (.inr (va_up (va_up (fun _ => none) (0 : Int32).toNatClampNeg (some (u9 0))) (1 : Int32).toNatClampNeg (some (u15 0)))))))), (q5, .inl (z.2.1 62, 2, .inr (.inr (.inr (.inr (va_up (fun _ => none) (0 : Int32).toNatClampNeg (some (u11 0))))))))] ++ PW_0 z u7) ++ PW_8 z u9) ++ PW_4 z u11) ++ PW_0 z u13) ++ PW_8 z u15)) X dX9_init_91 (kcX4 x.2.1 z) cdi4 ini4 imi4 2 rfl rfl (by decide +kernel) ⟨by decide, by decide⟩ (Nat.le_of_ble_eq_true rfl) (by decide) (by decide) rfl (fun u17 huu17 => ?_)
  subst huu17
  refine VL_astq (t0 := 6) (r := (RX4, TX4, 5)) (ws' := (((((([(h, .inr (9, [.ref q1, .int 0, .int 0, .int (-1), .ref q2, .ref q3, .ref q4, .ref q5])), (q1, .inl (z.2.1 52, 600, .inl (fun _ => 0))), (q2, .inl (z.2.1 50, 3, .inl (fun _ => 0))), (q3, .inl (z.2.1 60, 2, .inr (.inr (.inr (.inr (va_up (va_up (fun _ => none) (0 : Int32).toNatClampNeg (some (u7 0))) (1 : Int32).toNatClampNeg (some (u13 0)))))))), (q4, .inl (z.2.1 61, 2, .inr (.inr (.inr (.inr (va_up (va_up (fun _ => none) (0 : Int32).toNatClampNeg (some (u9 0))) (1 : Int32).toNatClampNeg (some (u15 0)))))))), (q5, .inl (z.2.1 62, 2, .inr (.inr (.inr (.inr (va_up (va_up (fun _ => none) (0 : Int32).toNatClampNeg (some (u11 0))) (1 : Int32).toNatClampNeg (some (u17 0))))))))] ++ PW_0 z u7) ++ PW_8 z u9) ++ PW_4 z u11) ++ PW_0 z u13) ++ PW_8 z u15) ++ PW_4 z u17)) 5 37 4 X dX9_init_94 rfl rfl rfl rfl (by unfold vp_in; decide) rfl ?_
  refine VL_iinc (v := 2) (L' := [(1, .int 2), (0, .ref h)]) 0 X dX9_init_95 rfl (by decide) (by decide) rfl ?_
  refine VL_goto (tgt := 51) X dX9_init_98 (by decide) ?_
  refine VL_iload_n 0 X dX9_init_51 rfl rfl ?_
  refine VL_iconst (v := 2) X dX9_init_52 (by decide) ?_
  refine VL_geT (tgt := 101) X dX9_init_53 (by decide) (by decide) ?_
  refine VL_ext (ws' := (((((([(h, .inr (9, [.ref q1, .int 0, .int 0, .int (-1), .ref q2, .ref q3, .ref q4, .ref q5])), (q1, .inl (z.2.1 52, 600, .inl (fun _ => 0))), (q2, .inl (z.2.1 50, 3, .inl (fun _ => 0))), (q3, .inl (z.2.1 60, 2, .inr (.inr (.inr (.inr (fun j => some ([(u7 0), (u13 0)].getD j 0))))))), (q4, .inl (z.2.1 61, 2, .inr (.inr (.inr (.inr (va_up (va_up (fun _ => none) (0 : Int32).toNatClampNeg (some (u9 0))) (1 : Int32).toNatClampNeg (some (u15 0)))))))), (q5, .inl (z.2.1 62, 2, .inr (.inr (.inr (.inr (va_up (va_up (fun _ => none) (0 : Int32).toNatClampNeg (some (u11 0))) (1 : Int32).toNatClampNeg (some (u17 0))))))))] ++ PW_0 z u7) ++ PW_8 z u9) ++ PW_4 z u11) ++ PW_0 z u13) ++ PW_8 z u15) ++ PW_4 z u17)) 3 rfl (fun j hj => by rcases (show j = 0 ∨ j = 1 by omega) with rfl | rfl <;> rfl) rfl ?_
  refine VL_ext (ws' := (((((([(h, .inr (9, [.ref q1, .int 0, .int 0, .int (-1), .ref q2, .ref q3, .ref q4, .ref q5])), (q1, .inl (z.2.1 52, 600, .inl (fun _ => 0))), (q2, .inl (z.2.1 50, 3, .inl (fun _ => 0))), (q3, .inl (z.2.1 60, 2, .inr (.inr (.inr (.inr (fun j => some ([(u7 0), (u13 0)].getD j 0))))))), (q4, .inl (z.2.1 61, 2, .inr (.inr (.inr (.inr (fun j => some ([(u9 0), (u15 0)].getD j 0))))))), (q5, .inl (z.2.1 62, 2, .inr (.inr (.inr (.inr (va_up (va_up (fun _ => none) (0 : Int32).toNatClampNeg (some (u11 0))) (1 : Int32).toNatClampNeg (some (u17 0))))))))] ++ PW_0 z u7) ++ PW_8 z u9) ++ PW_4 z u11) ++ PW_0 z u13) ++ PW_8 z u15) ++ PW_4 z u17)) 4 rfl (fun j hj => by rcases (show j = 0 ∨ j = 1 by omega) with rfl | rfl <;> rfl) rfl ?_
  refine VL_ext (ws' := (((((([(h, .inr (9, [.ref q1, .int 0, .int 0, .int (-1), .ref q2, .ref q3, .ref q4, .ref q5])), (q1, .inl (z.2.1 52, 600, .inl (fun _ => 0))), (q2, .inl (z.2.1 50, 3, .inl (fun _ => 0))), (q3, .inl (z.2.1 60, 2, .inr (.inr (.inr (.inr (fun j => some ([(u7 0), (u13 0)].getD j 0))))))), (q4, .inl (z.2.1 61, 2, .inr (.inr (.inr (.inr (fun j => some ([(u9 0), (u15 0)].getD j 0))))))), (q5, .inl (z.2.1 62, 2, .inr (.inr (.inr (.inr (fun j => some ([(u11 0), (u17 0)].getD j 0)))))))] ++ PW_0 z u7) ++ PW_8 z u9) ++ PW_4 z u11) ++ PW_0 z u13) ++ PW_8 z u15) ++ PW_4 z u17)) 5 rfl (fun j hj => by rcases (show j = 0 ∨ j = 1 by omega) with rfl | rfl <;> rfl) rfl ?_
  exact VL_ret (PW := PW_9 z) (fun i => ([h, q1, q2, q3, q4, q5, u7 0, u7 1, u7 2, u7 3, u7 4, u7 5, u7 6, u7 7, u7 8, u13 0, u13 1, u13 2, u13 3, u13 4, u13 5, u13 6, u13 7, u13 8, u9 0, u9 1, u9 2, u9 3, u15 0, u15 1, u15 2, u15 3, u11 0, u11 1, u11 2, u11 3, u11 4, u17 0, u17 1, u17 2, u17 3, u17 4] : List Nat).getD i 0) X dX9_init_101 rfl rfl
