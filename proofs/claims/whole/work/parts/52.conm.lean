theorem dX12_init_0 : decode cX12_init 0 = .ok (.aload_n 0, 1) := by decide +kernel
theorem dX12_init_1 : decode cX12_init 1 = .ok (.invokespecial 1, 3) := by decide +kernel
theorem dX12_init_4 : decode cX12_init 4 = .ok (.aload_n 0, 1) := by decide +kernel
theorem dX12_init_5 : decode cX12_init 5 = .ok (.sipush 4176, 3) := by decide +kernel
theorem dX12_init_8 : decode cX12_init 8 = .ok (.newarray .int, 2) := by decide +kernel
theorem dX12_init_10 : decode cX12_init 10 = .ok (.putfield 7, 3) := by decide +kernel
theorem dX12_init_13 : decode cX12_init 13 = .ok (.aload_n 0, 1) := by decide +kernel
theorem dX12_init_14 : decode cX12_init 14 = .ok (.iconst 3, 1) := by decide +kernel
theorem dX12_init_15 : decode cX12_init 15 = .ok (.newarray .boolean, 2) := by decide +kernel
theorem dX12_init_17 : decode cX12_init 17 = .ok (.putfield 13, 3) := by decide +kernel
theorem dX12_init_20 : decode cX12_init 20 = .ok (.aload_n 0, 1) := by decide +kernel
theorem dX12_init_21 : decode cX12_init 21 = .ok (.bipush 121, 2) := by decide +kernel
theorem dX12_init_23 : decode cX12_init 23 = .ok (.newarray .int, 2) := by decide +kernel
theorem dX12_init_25 : decode cX12_init 25 = .ok (.putfield 17, 3) := by decide +kernel
theorem dX12_init_28 : decode cX12_init 28 = .ok (.aload_n 0, 1) := by decide +kernel
theorem dX12_init_29 : decode cX12_init 29 = .ok (.bipush 8, 2) := by decide +kernel
theorem dX12_init_31 : decode cX12_init 31 = .ok (.newarray .int, 2) := by decide +kernel
theorem dX12_init_33 : decode cX12_init 33 = .ok (.putfield 20, 3) := by decide +kernel
theorem dX12_init_36 : decode cX12_init 36 = .ok (.aload_n 0, 1) := by decide +kernel
theorem dX12_init_37 : decode cX12_init 37 = .ok (.bipush 8, 2) := by decide +kernel
theorem dX12_init_39 : decode cX12_init 39 = .ok (.newarray .int, 2) := by decide +kernel
theorem dX12_init_41 : decode cX12_init 41 = .ok (.putfield 23, 3) := by decide +kernel
theorem dX12_init_44 : decode cX12_init 44 = .ok (.aload_n 0, 1) := by decide +kernel
theorem dX12_init_45 : decode cX12_init 45 = .ok (.bipush 6, 2) := by decide +kernel
theorem dX12_init_47 : decode cX12_init 47 = .ok (.newarray .int, 2) := by decide +kernel
theorem dX12_init_49 : decode cX12_init 49 = .ok (.putfield 26, 3) := by decide +kernel
theorem dX12_init_52 : decode cX12_init 52 = .ok (.aload_n 0, 1) := by decide +kernel
theorem dX12_init_53 : decode cX12_init 53 = .ok (.bipush 8, 2) := by decide +kernel
theorem dX12_init_55 : decode cX12_init 55 = .ok (.newarray .int, 2) := by decide +kernel
theorem dX12_init_57 : decode cX12_init 57 = .ok (.putfield 29, 3) := by decide +kernel
theorem dX12_init_60 : decode cX12_init 60 = .ok (.aload_n 0, 1) := by decide +kernel
theorem dX12_init_61 : decode cX12_init 61 = .ok (.bipush 8, 2) := by decide +kernel
theorem dX12_init_63 : decode cX12_init 63 = .ok (.newarray .int, 2) := by decide +kernel
theorem dX12_init_65 : decode cX12_init 65 = .ok (.putfield 32, 3) := by decide +kernel
theorem dX12_init_68 : decode cX12_init 68 = .ok (.aload_n 0, 1) := by decide +kernel
theorem dX12_init_69 : decode cX12_init 69 = .ok (.bipush 6, 2) := by decide +kernel
theorem dX12_init_71 : decode cX12_init 71 = .ok (.newarray .int, 2) := by decide +kernel
theorem dX12_init_73 : decode cX12_init 73 = .ok (.putfield 35, 3) := by decide +kernel
theorem dX12_init_76 : decode cX12_init 76 = .ok (.aload_n 0, 1) := by decide +kernel
theorem dX12_init_77 : decode cX12_init 77 = .ok (.iconst 3, 1) := by decide +kernel
theorem dX12_init_78 : decode cX12_init 78 = .ok (.newarray .int, 2) := by decide +kernel
theorem dX12_init_80 : decode cX12_init 80 = .ok (.putfield 38, 3) := by decide +kernel
theorem dX12_init_83 : decode cX12_init 83 = .ok (.aload_n 0, 1) := by decide +kernel
theorem dX12_init_84 : decode cX12_init 84 = .ok (.sipush 6561, 3) := by decide +kernel
theorem dX12_init_87 : decode cX12_init 87 = .ok (.newarray .boolean, 2) := by decide +kernel
theorem dX12_init_89 : decode cX12_init 89 = .ok (.putfield 41, 3) := by decide +kernel
theorem dX12_init_92 : decode cX12_init 92 = .ok (.aload_n 0, 1) := by decide +kernel
theorem dX12_init_93 : decode cX12_init 93 = .ok (.bipush 64, 2) := by decide +kernel
theorem dX12_init_95 : decode cX12_init 95 = .ok (.newarray .int, 2) := by decide +kernel
theorem dX12_init_97 : decode cX12_init 97 = .ok (.putfield 44, 3) := by decide +kernel
theorem dX12_init_100 : decode cX12_init 100 = .ok (.aload_n 0, 1) := by decide +kernel
theorem dX12_init_101 : decode cX12_init 101 = .ok (.bipush 20, 2) := by decide +kernel
theorem dX12_init_103 : decode cX12_init 103 = .ok (.newarray .long, 2) := by decide +kernel
theorem dX12_init_105 : decode cX12_init 105 = .ok (.putfield 47, 3) := by decide +kernel
theorem dX12_init_108 : decode cX12_init 108 = .ok (.aload_n 0, 1) := by decide +kernel
theorem dX12_init_109 : decode cX12_init 109 = .ok (.getfield 7, 3) := by decide +kernel
theorem dX12_init_112 : decode cX12_init 112 = .ok (.bipush 6, 2) := by decide +kernel
theorem dX12_init_114 : decode cX12_init 114 = .ok (.iconst (-1), 1) := by decide +kernel
theorem dX12_init_115 : decode cX12_init 115 = .ok (.iastore, 1) := by decide +kernel
theorem dX12_init_116 : decode cX12_init 116 = .ok (.return_, 1) := by decide +kernel
theorem oiX12_1 : Cond.methodLink RX12 1 objectInit ∈ Tg := (tg_in (List.mem_append_right _ (List.mem_of_getElem? (i := 1280) (by decide +kernel))) rfl)
def PW_12 (z : Sx) (u : Nat → Nat) : va_W := [(u 0, .inr (12, [.ref (u 1), .ref (u 2), .int 0, .int 0, .int 0, .int 0, .int 0, .int 0, .int 0, .int 0, .ref (u 3), .int 0, .int 0, .int 0, .int 0, .int 0, .int 0, .ref (u 4), .ref (u 5), .ref (u 6), .ref (u 7), .int 0, .int 0, .int 0, .int 0, .int 0, .int 0, .ref (u 8), .ref (u 9), .ref (u 10), .ref (u 11), .ref (u 12), .ref (u 13), .int 0, .int 0])), (u 1, .inl (z.2.1 50, 4176, .inl (upd (fun _ => 0) (6 : Int32).toNatClampNeg (-1)))), (u 2, .inl (z.2.1 51, 3, .inl (fun _ => 0))), (u 3, .inl (z.2.1 50, 121, .inl (fun _ => 0))), (u 4, .inl (z.2.1 50, 8, .inl (fun _ => 0))), (u 5, .inl (z.2.1 50, 8, .inl (fun _ => 0))), (u 6, .inl (z.2.1 50, 6, .inl (fun _ => 0))), (u 7, .inl (z.2.1 50, 8, .inl (fun _ => 0))), (u 8, .inl (z.2.1 50, 8, .inl (fun _ => 0))), (u 9, .inl (z.2.1 50, 6, .inl (fun _ => 0))), (u 10, .inl (z.2.1 50, 3, .inl (fun _ => 0))), (u 11, .inl (z.2.1 51, 6561, .inl (fun _ => 0))), (u 12, .inl (z.2.1 50, 64, .inl (fun _ => 0))), (u 13, .inl (z.2.1 53, 20, .inr (.inl (fun _ => 0))))]
set_option maxRecDepth 100000 in
set_option maxHeartbeats 4000000 in
theorem kcX12 (l : Launch) (z : Sx) : CtC yX12_init cX12_init 1 1 26 13 10992 l z (.inr (12, [.null, .null, .int 0, .int 0, .int 0, .int 0, .int 0, .int 0, .int 0, .int 0, .null, .int 0, .int 0, .int 0, .int 0, .int 0, .int 0, .null, .null, .null, .null, .int 0, .int 0, .int 0, .int 0, .int 0, .int 0, .null, .null, .null, .null, .null, .null, .int 0, .int 0])) (PW_12 z) := by
  refine CtC_of (by decide +kernel) (by decide) rfl ?_
  intro x h _ X
  refine VL_aload_n 0 X dX12_init_0 rfl rfl ?_
  refine VL_obj X dX12_init_1 oiX12_1 oiI oiC (by decide) (Nat.le_of_ble_eq_true rfl) ?_
  refine VL_aload_n 0 X dX12_init_4 rfl rfl ?_
  refine VL_sipush (v := 4176) X dX12_init_5 (by decide) ?_
  refine VL_newa (t0 := 0) (c0 := z.2.1 50) (a0 := (4176, .inl (fun _ => 0))) X dX12_init_8 at_int rfl (fun _ => rfl) (by decide) (by decide) (by decide) rfl (by decide) (by decide) (fun q1 => ?_)
  refine VL_putF (ws' := [(h, .inr (12, [.ref q1, .null, .int 0, .int 0, .int 0, .int 0, .int 0, .int 0, .int 0, .int 0, .null, .int 0, .int 0, .int 0, .int 0, .int 0, .int 0, .null, .null, .null, .null, .int 0, .int 0, .int 0, .int 0, .int 0, .int 0, .null, .null, .null, .null, .null, .null, .int 0, .int 0])), (q1, .inl (z.2.1 50, 4176, .inl (fun _ => 0)))]) 0 0 X dX12_init_10 co12 rfl (by decide) wfX12_7 rfl rfl rfl rfl (Nat.le_of_ble_eq_true rfl) rfl ?_
  refine VL_aload_n 0 X dX12_init_13 rfl rfl ?_
  refine VL_iconst (v := 3) X dX12_init_14 (by decide) ?_
  refine VL_newa (t0 := 1) (c0 := z.2.1 51) (a0 := (3, .inl (fun _ => 0))) X dX12_init_15 at_boolean rfl (fun _ => rfl) (by decide) (by decide) (by decide) rfl (by decide) (by decide) (fun q2 => ?_)
  refine VL_putF (ws' := [(h, .inr (12, [.ref q1, .ref q2, .int 0, .int 0, .int 0, .int 0, .int 0, .int 0, .int 0, .int 0, .null, .int 0, .int 0, .int 0, .int 0, .int 0, .int 0, .null, .null, .null, .null, .int 0, .int 0, .int 0, .int 0, .int 0, .int 0, .null, .null, .null, .null, .null, .null, .int 0, .int 0])), (q1, .inl (z.2.1 50, 4176, .inl (fun _ => 0))), (q2, .inl (z.2.1 51, 3, .inl (fun _ => 0)))]) 0 1 X dX12_init_17 co12 rfl (by decide) wfX12_13 rfl rfl rfl rfl (Nat.le_of_ble_eq_true rfl) rfl ?_
  refine VL_aload_n 0 X dX12_init_20 rfl rfl ?_
  refine VL_bipush (v := 121) X dX12_init_21 (by decide) ?_
  refine VL_newa (t0 := 0) (c0 := z.2.1 50) (a0 := (121, .inl (fun _ => 0))) X dX12_init_23 at_int rfl (fun _ => rfl) (by decide) (by decide) (by decide) rfl (by decide) (by decide) (fun q3 => ?_)
  refine VL_putF (ws' := [(h, .inr (12, [.ref q1, .ref q2, .int 0, .int 0, .int 0, .int 0, .int 0, .int 0, .int 0, .int 0, .ref q3, .int 0, .int 0, .int 0, .int 0, .int 0, .int 0, .null, .null, .null, .null, .int 0, .int 0, .int 0, .int 0, .int 0, .int 0, .null, .null, .null, .null, .null, .null, .int 0, .int 0])), (q1, .inl (z.2.1 50, 4176, .inl (fun _ => 0))), (q2, .inl (z.2.1 51, 3, .inl (fun _ => 0))), (q3, .inl (z.2.1 50, 121, .inl (fun _ => 0)))]) 0 10 X dX12_init_25 co12 rfl (by decide) wfX12_17 rfl rfl rfl rfl (Nat.le_of_ble_eq_true rfl) rfl ?_
  refine VL_aload_n 0 X dX12_init_28 rfl rfl ?_
  refine VL_bipush (v := 8) X dX12_init_29 (by decide) ?_
  refine VL_newa (t0 := 0) (c0 := z.2.1 50) (a0 := (8, .inl (fun _ => 0))) X dX12_init_31 at_int rfl (fun _ => rfl) (by decide) (by decide) (by decide) rfl (by decide) (by decide) (fun q4 => ?_)
  refine VL_putF (ws' := [(h, .inr (12, [.ref q1, .ref q2, .int 0, .int 0, .int 0, .int 0, .int 0, .int 0, .int 0, .int 0, .ref q3, .int 0, .int 0, .int 0, .int 0, .int 0, .int 0, .ref q4, .null, .null, .null, .int 0, .int 0, .int 0, .int 0, .int 0, .int 0, .null, .null, .null, .null, .null, .null, .int 0, .int 0])), (q1, .inl (z.2.1 50, 4176, .inl (fun _ => 0))), (q2, .inl (z.2.1 51, 3, .inl (fun _ => 0))), (q3, .inl (z.2.1 50, 121, .inl (fun _ => 0))), (q4, .inl (z.2.1 50, 8, .inl (fun _ => 0)))]) 0 17 X dX12_init_33 co12 rfl (by decide) wfX12_20 rfl rfl rfl rfl (Nat.le_of_ble_eq_true rfl) rfl ?_
  refine VL_aload_n 0 X dX12_init_36 rfl rfl ?_
  refine VL_bipush (v := 8) X dX12_init_37 (by decide) ?_
  refine VL_newa (t0 := 0) (c0 := z.2.1 50) (a0 := (8, .inl (fun _ => 0))) X dX12_init_39 at_int rfl (fun _ => rfl) (by decide) (by decide) (by decide) rfl (by decide) (by decide) (fun q5 => ?_)
  refine VL_putF (ws' := [(h, .inr (12, [.ref q1, .ref q2, .int 0, .int 0, .int 0, .int 0, .int 0, .int 0, .int 0, .int 0, .ref q3, .int 0, .int 0, .int 0, .int 0, .int 0, .int 0, .ref q4, .ref q5, .null, .null, .int 0, .int 0, .int 0, .int 0, .int 0, .int 0, .null, .null, .null, .null, .null, .null, .int 0, .int 0])), (q1, .inl (z.2.1 50, 4176, .inl (fun _ => 0))), (q2, .inl (z.2.1 51, 3, .inl (fun _ => 0))), (q3, .inl (z.2.1 50, 121, .inl (fun _ => 0))), (q4, .inl (z.2.1 50, 8, .inl (fun _ => 0))), (q5, .inl (z.2.1 50, 8, .inl (fun _ => 0)))]) 0 18 X dX12_init_41 co12 rfl (by decide) wfX12_23 rfl rfl rfl rfl (Nat.le_of_ble_eq_true rfl) rfl ?_
  refine VL_aload_n 0 X dX12_init_44 rfl rfl ?_
  refine VL_bipush (v := 6) X dX12_init_45 (by decide) ?_
  refine VL_newa (t0 := 0) (c0 := z.2.1 50) (a0 := (6, .inl (fun _ => 0))) X dX12_init_47 at_int rfl (fun _ => rfl) (by decide) (by decide) (by decide) rfl (by decide) (by decide) (fun q6 => ?_)
  refine VL_putF (ws' := [(h, .inr (12, [.ref q1, .ref q2, .int 0, .int 0, .int 0, .int 0, .int 0, .int 0, .int 0, .int 0, .ref q3, .int 0, .int 0, .int 0, .int 0, .int 0, .int 0, .ref q4, .ref q5, .ref q6, .null, .int 0, .int 0, .int 0, .int 0, .int 0, .int 0, .null, .null, .null, .null, .null, .null, .int 0, .int 0])), (q1, .inl (z.2.1 50, 4176, .inl (fun _ => 0))), (q2, .inl (z.2.1 51, 3, .inl (fun _ => 0))), (q3, .inl (z.2.1 50, 121, .inl (fun _ => 0))), (q4, .inl (z.2.1 50, 8, .inl (fun _ => 0))), (q5, .inl (z.2.1 50, 8, .inl (fun _ => 0))), (q6, .inl (z.2.1 50, 6, .inl (fun _ => 0)))]) 0 19 X dX12_init_49 co12 rfl (by decide) wfX12_26 rfl rfl rfl rfl (Nat.le_of_ble_eq_true rfl) rfl ?_
  refine VL_aload_n 0 X dX12_init_52 rfl rfl ?_
  refine VL_bipush (v := 8) X dX12_init_53 (by decide) ?_
  refine VL_newa (t0 := 0) (c0 := z.2.1 50) (a0 := (8, .inl (fun _ => 0))) X dX12_init_55 at_int rfl (fun _ => rfl) (by decide) (by decide) (by decide) rfl (by decide) (by decide) (fun q7 => ?_)
  refine VL_putF (ws' := [(h, .inr (12, [.ref q1, .ref q2, .int 0, .int 0, .int 0, .int 0, .int 0, .int 0, .int 0, .int 0, .ref q3, .int 0, .int 0, .int 0, .int 0, .int 0, .int 0, .ref q4, .ref q5, .ref q6, .ref q7, .int 0, .int 0, .int 0, .int 0, .int 0, .int 0, .null, .null, .null, .null, .null, .null, .int 0, .int 0])), (q1, .inl (z.2.1 50, 4176, .inl (fun _ => 0))), (q2, .inl (z.2.1 51, 3, .inl (fun _ => 0))), (q3, .inl (z.2.1 50, 121, .inl (fun _ => 0))), (q4, .inl (z.2.1 50, 8, .inl (fun _ => 0))), (q5, .inl (z.2.1 50, 8, .inl (fun _ => 0))), (q6, .inl (z.2.1 50, 6, .inl (fun _ => 0))), (q7, .inl (z.2.1 50, 8, .inl (fun _ => 0)))]) 0 20 X dX12_init_57 co12 rfl (by decide) wfX12_29 rfl rfl rfl rfl (Nat.le_of_ble_eq_true rfl) rfl ?_
  refine VL_aload_n 0 X dX12_init_60 rfl rfl ?_
  refine VL_bipush (v := 8) X dX12_init_61 (by decide) ?_
  refine VL_newa (t0 := 0) (c0 := z.2.1 50) (a0 := (8, .inl (fun _ => 0))) X dX12_init_63 at_int rfl (fun _ => rfl) (by decide) (by decide) (by decide) rfl (by decide) (by decide) (fun q8 => ?_)
  refine VL_putF (ws' := [(h, .inr (12, [.ref q1, .ref q2, .int 0, .int 0, .int 0, .int 0, .int 0, .int 0, .int 0, .int 0, .ref q3, .int 0, .int 0, .int 0, .int 0, .int 0, .int 0, .ref q4, .ref q5, .ref q6, .ref q7, .int 0, .int 0, .int 0, .int 0, .int 0, .int 0, .ref q8, .null, .null, .null, .null, .null, .int 0, .int 0])), (q1, .inl (z.2.1 50, 4176, .inl (fun _ => 0))), (q2, .inl (z.2.1 51, 3, .inl (fun _ => 0))), (q3, .inl (z.2.1 50, 121, .inl (fun _ => 0))), (q4, .inl (z.2.1 50, 8, .inl (fun _ => 0))), (q5, .inl (z.2.1 50, 8, .inl (fun _ => 0))), (q6, .inl (z.2.1 50, 6, .inl (fun _ => 0))), (q7, .inl (z.2.1 50, 8, .inl (fun _ => 0))), (q8, .inl (z.2.1 50, 8, .inl (fun _ => 0)))]) 0 27 X dX12_init_65 co12 rfl (by decide) wfX12_32 rfl rfl rfl rfl (Nat.le_of_ble_eq_true rfl) rfl ?_
  refine VL_aload_n 0 X dX12_init_68 rfl rfl ?_
  refine VL_bipush (v := 6) X dX12_init_69 (by decide) ?_
  refine VL_newa (t0 := 0) (c0 := z.2.1 50) (a0 := (6, .inl (fun _ => 0))) X dX12_init_71 at_int rfl (fun _ => rfl) (by decide) (by decide) (by decide) rfl (by decide) (by decide) (fun q9 => ?_)
  refine VL_putF (ws' := [(h, .inr (12, [.ref q1, .ref q2, .int 0, .int 0, .int 0, .int 0, .int 0, .int 0, .int 0, .int 0, .ref q3, .int 0, .int 0, .int 0, .int 0, .int 0, .int 0, .ref q4, .ref q5, .ref q6, .ref q7, .int 0, .int 0, .int 0, .int 0, .int 0, .int 0, .ref q8, .ref q9, .null, .null, .null, .null, .int 0, .int 0])), (q1, .inl (z.2.1 50, 4176, .inl (fun _ => 0))), (q2, .inl (z.2.1 51, 3, .inl (fun _ => 0))), (q3, .inl (z.2.1 50, 121, .inl (fun _ => 0))), (q4, .inl (z.2.1 50, 8, .inl (fun _ => 0))), (q5, .inl (z.2.1 50, 8, .inl (fun _ => 0))), (q6, .inl (z.2.1 50, 6, .inl (fun _ => 0))), (q7, .inl (z.2.1 50, 8, .inl (fun _ => 0))), (q8, .inl (z.2.1 50, 8, .inl (fun _ => 0))), (q9, .inl (z.2.1 50, 6, .inl (fun _ => 0)))]) 0 28 X dX12_init_73 co12 rfl (by decide) wfX12_35 rfl rfl rfl rfl (Nat.le_of_ble_eq_true rfl) rfl ?_
  refine VL_aload_n 0 X dX12_init_76 rfl rfl ?_
  refine VL_iconst (v := 3) X dX12_init_77 (by decide) ?_
  refine VL_newa (t0 := 0) (c0 := z.2.1 50) (a0 := (3, .inl (fun _ => 0))) X dX12_init_78 at_int rfl (fun _ => rfl) (by decide) (by decide) (by decide) rfl (by decide) (by decide) (fun q10 => ?_)
  refine VL_putF (ws' := [(h, .inr (12, [.ref q1, .ref q2, .int 0, .int 0, .int 0, .int 0, .int 0, .int 0, .int 0, .int 0, .ref q3, .int 0, .int 0, .int 0, .int 0, .int 0, .int 0, .ref q4, .ref q5, .ref q6, .ref q7, .int 0, .int 0, .int 0, .int 0, .int 0, .int 0, .ref q8, .ref q9, .ref q10, .null, .null, .null, .int 0, .int 0])), (q1, .inl (z.2.1 50, 4176, .inl (fun _ => 0))), (q2, .inl (z.2.1 51, 3, .inl (fun _ => 0))), (q3, .inl (z.2.1 50, 121, .inl (fun _ => 0))), (q4, .inl (z.2.1 50, 8, .inl (fun _ => 0))), (q5, .inl (z.2.1 50, 8, .inl (fun _ => 0))), (q6, .inl (z.2.1 50, 6, .inl (fun _ => 0))), (q7, .inl (z.2.1 50, 8, .inl (fun _ => 0))), (q8, .inl (z.2.1 50, 8, .inl (fun _ => 0))), (q9, .inl (z.2.1 50, 6, .inl (fun _ => 0))), (q10, .inl (z.2.1 50, 3, .inl (fun _ => 0)))]) 0 29 X dX12_init_80 co12 rfl (by decide) wfX12_38 rfl rfl rfl rfl (Nat.le_of_ble_eq_true rfl) rfl ?_
  refine VL_aload_n 0 X dX12_init_83 rfl rfl ?_
  refine VL_sipush (v := 6561) X dX12_init_84 (by decide) ?_
  refine VL_newa (t0 := 1) (c0 := z.2.1 51) (a0 := (6561, .inl (fun _ => 0))) X dX12_init_87 at_boolean rfl (fun _ => rfl) (by decide) (by decide) (by decide) rfl (by decide) (by decide) (fun q11 => ?_)
  refine VL_putF (ws' := [(h, .inr (12, [.ref q1, .ref q2, .int 0, .int 0, .int 0, .int 0, .int 0, .int 0, .int 0, .int 0, .ref q3, .int 0, .int 0, .int 0, .int 0, .int 0, .int 0, .ref q4, .ref q5, .ref q6, .ref q7, .int 0, .int 0, .int 0, .int 0, .int 0, .int 0, .ref q8, .ref q9, .ref q10, .ref q11, .null, .null, .int 0, .int 0])), (q1, .inl (z.2.1 50, 4176, .inl (fun _ => 0))), (q2, .inl (z.2.1 51, 3, .inl (fun _ => 0))), (q3, .inl (z.2.1 50, 121, .inl (fun _ => 0))), (q4, .inl (z.2.1 50, 8, .inl (fun _ => 0))), (q5, .inl (z.2.1 50, 8, .inl (fun _ => 0))), (q6, .inl (z.2.1 50, 6, .inl (fun _ => 0))), (q7, .inl (z.2.1 50, 8, .inl (fun _ => 0))), (q8, .inl (z.2.1 50, 8, .inl (fun _ => 0))), (q9, .inl (z.2.1 50, 6, .inl (fun _ => 0))), (q10, .inl (z.2.1 50, 3, .inl (fun _ => 0))), (q11, .inl (z.2.1 51, 6561, .inl (fun _ => 0)))]) 0 30 X dX12_init_89 co12 rfl (by decide) wfX12_41 rfl rfl rfl rfl (Nat.le_of_ble_eq_true rfl) rfl ?_
  refine VL_aload_n 0 X dX12_init_92 rfl rfl ?_
  refine VL_bipush (v := 64) X dX12_init_93 (by decide) ?_
  refine VL_newa (t0 := 0) (c0 := z.2.1 50) (a0 := (64, .inl (fun _ => 0))) X dX12_init_95 at_int rfl (fun _ => rfl) (by decide) (by decide) (by decide) rfl (by decide) (by decide) (fun q12 => ?_)
  refine VL_putF (ws' := [(h, .inr (12, [.ref q1, .ref q2, .int 0, .int 0, .int 0, .int 0, .int 0, .int 0, .int 0, .int 0, .ref q3, .int 0, .int 0, .int 0, .int 0, .int 0, .int 0, .ref q4, .ref q5, .ref q6, .ref q7, .int 0, .int 0, .int 0, .int 0, .int 0, .int 0, .ref q8, .ref q9, .ref q10, .ref q11, .ref q12, .null, .int 0, .int 0])), (q1, .inl (z.2.1 50, 4176, .inl (fun _ => 0))), (q2, .inl (z.2.1 51, 3, .inl (fun _ => 0))), (q3, .inl (z.2.1 50, 121, .inl (fun _ => 0))), (q4, .inl (z.2.1 50, 8, .inl (fun _ => 0))), (q5, .inl (z.2.1 50, 8, .inl (fun _ => 0))), (q6, .inl (z.2.1 50, 6, .inl (fun _ => 0))), (q7, .inl (z.2.1 50, 8, .inl (fun _ => 0))), (q8, .inl (z.2.1 50, 8, .inl (fun _ => 0))), (q9, .inl (z.2.1 50, 6, .inl (fun _ => 0))), (q10, .inl (z.2.1 50, 3, .inl (fun _ => 0))), (q11, .inl (z.2.1 51, 6561, .inl (fun _ => 0))), (q12, .inl (z.2.1 50, 64, .inl (fun _ => 0)))]) 0 31 X dX12_init_97 co12 rfl (by decide) wfX12_44 rfl rfl rfl rfl (Nat.le_of_ble_eq_true rfl) rfl ?_
  refine VL_aload_n 0 X dX12_init_100 rfl rfl ?_
  refine VL_bipush (v := 20) X dX12_init_101 (by decide) ?_
  refine VL_newa (t0 := 3) (c0 := z.2.1 53) (a0 := (20, .inr (.inl (fun _ => 0)))) X dX12_init_103 at_long rfl (fun _ => rfl) (by decide) (by decide) (by decide) rfl (by decide) (by decide) (fun q13 => ?_)
  refine VL_putF (ws' := [(h, .inr (12, [.ref q1, .ref q2, .int 0, .int 0, .int 0, .int 0, .int 0, .int 0, .int 0, .int 0, .ref q3, .int 0, .int 0, .int 0, .int 0, .int 0, .int 0, .ref q4, .ref q5, .ref q6, .ref q7, .int 0, .int 0, .int 0, .int 0, .int 0, .int 0, .ref q8, .ref q9, .ref q10, .ref q11, .ref q12, .ref q13, .int 0, .int 0])), (q1, .inl (z.2.1 50, 4176, .inl (fun _ => 0))), (q2, .inl (z.2.1 51, 3, .inl (fun _ => 0))), (q3, .inl (z.2.1 50, 121, .inl (fun _ => 0))), (q4, .inl (z.2.1 50, 8, .inl (fun _ => 0))), (q5, .inl (z.2.1 50, 8, .inl (fun _ => 0))), (q6, .inl (z.2.1 50, 6, .inl (fun _ => 0))), (q7, .inl (z.2.1 50, 8, .inl (fun _ => 0))), (q8, .inl (z.2.1 50, 8, .inl (fun _ => 0))), (q9, .inl (z.2.1 50, 6, .inl (fun _ => 0))), (q10, .inl (z.2.1 50, 3, .inl (fun _ => 0))), (q11, .inl (z.2.1 51, 6561, .inl (fun _ => 0))), (q12, .inl (z.2.1 50, 64, .inl (fun _ => 0))), (q13, .inl (z.2.1 53, 20, .inr (.inl (fun _ => 0))))]) 0 32 X dX12_init_105 co12 rfl (by decide) wfX12_47 rfl rfl rfl rfl (Nat.le_of_ble_eq_true rfl) rfl ?_
  refine VL_aload_n 0 X dX12_init_108 rfl rfl ?_
  refine VL_getR 0 0 X dX12_init_109 co12 rfl (by decide) wfX12_7 rfl ?_
  refine VL_bipush (v := 6) X dX12_init_112 (by decide) ?_
  refine VL_iconst (v := -1) X dX12_init_114 (by decide) ?_
  refine VL_iast (t0 := 0) (ws' := [(h, .inr (12, [.ref q1, .ref q2, .int 0, .int 0, .int 0, .int 0, .int 0, .int 0, .int 0, .int 0, .ref q3, .int 0, .int 0, .int 0, .int 0, .int 0, .int 0, .ref q4, .ref q5, .ref q6, .ref q7, .int 0, .int 0, .int 0, .int 0, .int 0, .int 0, .ref q8, .ref q9, .ref q10, .ref q11, .ref q12, .ref q13, .int 0, .int 0])), (q1, .inl (z.2.1 50, 4176, .inl (upd (fun _ => 0) (6 : Int32).toNatClampNeg (-1)))), (q2, .inl (z.2.1 51, 3, .inl (fun _ => 0))), (q3, .inl (z.2.1 50, 121, .inl (fun _ => 0))), (q4, .inl (z.2.1 50, 8, .inl (fun _ => 0))), (q5, .inl (z.2.1 50, 8, .inl (fun _ => 0))), (q6, .inl (z.2.1 50, 6, .inl (fun _ => 0))), (q7, .inl (z.2.1 50, 8, .inl (fun _ => 0))), (q8, .inl (z.2.1 50, 8, .inl (fun _ => 0))), (q9, .inl (z.2.1 50, 6, .inl (fun _ => 0))), (q10, .inl (z.2.1 50, 3, .inl (fun _ => 0))), (q11, .inl (z.2.1 51, 6561, .inl (fun _ => 0))), (q12, .inl (z.2.1 50, 64, .inl (fun _ => 0))), (q13, .inl (z.2.1 53, 20, .inr (.inl (fun _ => 0))))]) 1 X dX12_init_115 rfl rfl (by unfold vp_in; decide) rfl ?_
  exact VL_ret (PW := PW_12 z) (fun i => ([h, q1, q2, q3, q4, q5, q6, q7, q8, q9, q10, q11, q12, q13] : List Nat).getD i 0) X dX12_init_116 rfl rfl
