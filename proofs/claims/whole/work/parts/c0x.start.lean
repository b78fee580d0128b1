/-! What the law starts with. -/
def fl1 : List Cond := flatC (Jvm.Cond.and given_1 narrow_1)
theorem fl_at {args : Array Value} {s : State} (h : (Jvm.Cond.and given_1 narrow_1).before args s = true) {k : Nat} {w : Cond} (e : fl1[k]? = some w) : w.before args s = true := flat_of_before _ h w (List.mem_of_getElem? e)
theorem fl_ORDERS_a : fl1[178]? = some (Cond.arrayOf (.static RX11 "ORDERS" "[I") .int) := by decide +kernel
theorem fl_ORDERS_l : fl1[179]? = some (Cond.eq (.length (.static RX11 "ORDERS" "[I")) (.int (Int32.ofNat 6))) := by decide +kernel
theorem fl_ORDERS_e : ∀ j, j < 6 → fl1[180 + j]? = some (Cond.eq (.elem (.static RX11 "ORDERS" "[I") (.int (Int32.ofNat j))) (.int (ordT.getD j 0))) := by decide +kernel
theorem fl_RANGES_a : fl1[10]? = some (Cond.arrayOf (.static RX6 "RANGES" "[I") .int) := by decide +kernel
theorem fl_RANGES_l : fl1[11]? = some (Cond.eq (.length (.static RX6 "RANGES" "[I")) (.int (Int32.ofNat 153))) := by decide +kernel
theorem fl_RANGES_e : ∀ j, j < 153 → fl1[12 + j]? = some (Cond.eq (.elem (.static RX6 "RANGES" "[I") (.int (Int32.ofNat j))) (.int (rngT.getD j 0))) := by decide +kernel
theorem fl_FACTORIALS_a : fl1[166]? = some (Cond.arrayOf (.static RX5 "FACTORIALS" "[I") .int) := by decide +kernel
theorem fl_FACTORIALS_l : fl1[167]? = some (Cond.eq (.length (.static RX5 "FACTORIALS" "[I")) (.int (Int32.ofNat 9))) := by decide +kernel
theorem fl_FACTORIALS_e : ∀ j, j < 9 → fl1[168 + j]? = some (Cond.eq (.elem (.static RX5 "FACTORIALS" "[I") (.int (Int32.ofNat j))) (.int (facT.getD j 0))) := by decide +kernel
theorem fl_comp : fl1[4]? = some (Cond.eq (.static "java/lang/String" "COMPACT_STRINGS" "Z") (.int 1)) := by decide +kernel
theorem fl_sio : fl1[5]? = some (Cond.isRef (.static "jdk/internal/util/Preconditions" "SIOOBE_FORMATTER" "Ljava/util/function/BiFunction;")) := by decide +kernel
theorem fl_ex : ∀ i, i < 4 → fl1[([238, 283, 327, 346] : List Nat).getD i 0]? = some (Cond.exactly (.string RX6 (ixS.getD i 0)) "java/lang/String") := by decide +kernel
theorem fl_co : ∀ i, i < 4 → fl1[([239, 284, 328, 347] : List Nat).getD i 0]? = some (Cond.eq (.field (.string RX6 (ixS.getD i 0)) "java/lang/String" "coder" "B") (.int 0)) := by decide +kernel
theorem fl_ar : ∀ i, i < 4 → fl1[([240, 285, 329, 348] : List Nat).getD i 0]? = some (Cond.arrayOf (.field (.string RX6 (ixS.getD i 0)) "java/lang/String" "value" "[B") .byte) := by decide +kernel
theorem fl_le : ∀ i, i < 4 → fl1[([241, 286, 330, 349] : List Nat).getD i 0]? = some (Cond.eq (.length (.field (.string RX6 (ixS.getD i 0)) "java/lang/String" "value" "[B")) (.int (Int32.ofNat (lenS.getD i 0)))) := by decide +kernel
theorem fl_el : ∀ i, i < 4 → ∀ j, j < lenS.getD i 0 → fl1[([242, 287, 331, 350] : List Nat).getD i 0 + j]? = some (Cond.eq (.elem (.field (.string RX6 (ixS.getD i 0)) "java/lang/String" "value" "[B") (.int (Int32.ofNat j))) (.int ((bytS.getD i []).getD j 0))) := by decide +kernel
theorem fl_ne : ∀ i, i < 4 → ∀ j, j < 4 → i < j → fl1[(([[0, 326, 344, 366], [0, 0, 345, 367], [0, 0, 0, 368], [0, 0, 0, 0]] : List (List Nat)).getD i []).getD j 0]? = some (Cond.not (Cond.eq (.string RX6 (ixS.getD i 0)) (.string RX6 (ixS.getD j 0)))) := by decide +kernel
theorem tw_ord : Cond.laysStatic RX11 "ORDERS" "[I" ∈ lw_tbl ∧ Cond.initialized RX11 ∈ lw_tbl := ⟨(List.mem_append_right _ (List.mem_of_getElem? (i := 1138) (by decide +kernel))), (List.mem_append_right _ (List.mem_of_getElem? (i := 1) (by decide +kernel)))⟩
theorem tw_rng : Cond.laysStatic RX6 "RANGES" "[I" ∈ lw_tbl ∧ Cond.initialized RX6 ∈ lw_tbl := ⟨(List.mem_append_right _ (List.mem_of_getElem? (i := 583) (by decide +kernel))), (List.mem_append_right _ (List.mem_of_getElem? (i := 6) (by decide +kernel)))⟩
theorem tw_fac : Cond.laysStatic RX5 "FACTORIALS" "[I" ∈ lw_tbl ∧ Cond.initialized RX5 ∈ lw_tbl := ⟨(List.mem_append_right _ (List.mem_of_getElem? (i := 944) (by decide +kernel))), (List.mem_append_right _ (List.mem_of_getElem? (i := 12) (by decide +kernel)))⟩
theorem tw_comp : Cond.laysStatic "java/lang/String" "COMPACT_STRINGS" "Z" ∈ lw_tbl ∧ Cond.initialized "java/lang/String" ∈ lw_tbl := ⟨(List.mem_append_right _ (List.mem_of_getElem? (i := 520) (by decide +kernel))), (List.mem_append_right _ (List.mem_of_getElem? (i := 15) (by decide +kernel)))⟩
theorem tw_sio : Cond.laysStatic "jdk/internal/util/Preconditions" "SIOOBE_FORMATTER" "Ljava/util/function/BiFunction;" ∈ lw_tbl ∧ Cond.initialized "jdk/internal/util/Preconditions" ∈ lw_tbl := ⟨(List.mem_append_right _ (List.mem_of_getElem? (i := 536) (by decide +kernel))), (List.mem_append_right _ (List.mem_of_getElem? (i := 17) (by decide +kernel)))⟩
theorem tw_str : ∀ i, i < 4 → tables_1[([506, 563, 564, 569] : List Nat).getD i 0]? = some (Cond.stringRef RX6 (ixS.getD i 0) (txS.getD i "")) := by decide +kernel
theorem tw_nest : ∀ q ∈ nestL, Cond.methodLinkNest q.1 q.2.1 q.2.2.1 q.2.2.2 ∈ tables_1 := by decide +kernel
theorem tw_int : Cond.arrayClass .int ∈ lw_tbl := (List.mem_append_right _ (List.mem_of_getElem? (i := 115) (by decide +kernel)))
theorem tw_boolean : Cond.arrayClass .boolean ∈ lw_tbl := (List.mem_append_right _ (List.mem_of_getElem? (i := 247) (by decide +kernel)))
theorem tw_byte : Cond.arrayClass .byte ∈ lw_tbl := (List.mem_append_right _ (List.mem_of_getElem? (i := 114) (by decide +kernel)))
theorem tw_long : Cond.arrayClass .long ∈ lw_tbl := (List.mem_append_right _ (List.mem_of_getElem? (i := 349) (by decide +kernel)))
theorem tw_ao0 : Cond.arrayOver (.object RX0) ∈ lw_tbl := (List.mem_append_right _ (List.mem_of_getElem? (i := 38) (by decide +kernel)))
theorem tw_ao8 : Cond.arrayOver (.object RX8) ∈ lw_tbl := (List.mem_append_right _ (List.mem_of_getElem? (i := 40) (by decide +kernel)))
theorem tw_ao4 : Cond.arrayOver (.object RX4) ∈ lw_tbl := (List.mem_append_right _ (List.mem_of_getElem? (i := 42) (by decide +kernel)))
theorem tw_ao9 : Cond.arrayOver (.object RX9) ∈ lw_tbl := (List.mem_append_right _ (List.mem_of_getElem? (i := 192) (by decide +kernel)))
theorem tw_in0 : Cond.instantiable RX0 11 ∈ lw_tbl := (List.mem_append_right _ (List.mem_of_getElem? (i := 43) (by decide +kernel)))
theorem tw_in1 : Cond.instantiable RX1 8 ∈ lw_tbl := (List.mem_append_right _ (List.mem_of_getElem? (i := 297) (by decide +kernel)))
theorem tw_in2 : Cond.instantiable RX2 7 ∈ lw_tbl := (List.mem_append_right _ (List.mem_of_getElem? (i := 249) (by decide +kernel)))
theorem tw_in3 : Cond.instantiable RX3 2 ∈ lw_tbl := (List.mem_append_right _ (List.mem_of_getElem? (i := 370) (by decide +kernel)))
theorem tw_in4 : Cond.instantiable RX4 5 ∈ lw_tbl := (List.mem_append_right _ (List.mem_of_getElem? (i := 140) (by decide +kernel)))
theorem tw_in5 : Cond.instantiable RX5 6 ∈ lw_tbl := (List.mem_append_right _ (List.mem_of_getElem? (i := 386) (by decide +kernel)))
theorem tw_in6 : Cond.instantiable RX6 12 ∈ lw_tbl := (List.mem_append_right _ (List.mem_of_getElem? (i := 194) (by decide +kernel)))
theorem tw_in7 : Cond.instantiable RX7 3 ∈ lw_tbl := (List.mem_append_right _ (List.mem_of_getElem? (i := 351) (by decide +kernel)))
theorem tw_in8 : Cond.instantiable RX8 4 ∈ lw_tbl := (List.mem_append_right _ (List.mem_of_getElem? (i := 116) (by decide +kernel)))
theorem tw_in9 : Cond.instantiable RX9 8 ∈ lw_tbl := (List.mem_append_right _ (List.mem_of_getElem? (i := 32) (by decide +kernel)))
theorem tw_in10 : Cond.instantiable RX10 3 ∈ lw_tbl := (List.mem_append_right _ (List.mem_of_getElem? (i := 332) (by decide +kernel)))
theorem tw_in11 : Cond.instantiable RX11 10 ∈ lw_tbl := (List.mem_append_right _ (List.mem_of_getElem? (i := 24) (by decide +kernel)))
theorem tw_in12 : Cond.instantiable RX12 35 ∈ lw_tbl := (List.mem_append_right _ (List.mem_of_getElem? (i := 1276) (by decide +kernel)))
def EX0 (z : Sx) (A : Nat → Prop) (U : State) : Prop := (va_Z RX11 "ORDERS" "[I" (.ref (adT z 0)) A U U.heap ∧ va_T .int (adT z 0) 6 (fun j => .int (ordT.getD j 0)) A U U.heap) ∧ (va_Z RX6 "RANGES" "[I" (.ref (adT z 1)) A U U.heap ∧ va_T .int (adT z 1) 153 (fun j => .int (rngT.getD j 0)) A U U.heap) ∧ (va_Z RX5 "FACTORIALS" "[I" (.ref (adT z 2)) A U U.heap ∧ va_T .int (adT z 2) 9 (fun j => .int (facT.getD j 0)) A U U.heap) ∧ va_Z "java/lang/String" "COMPACT_STRINGS" "Z" (.int 1) A U U.heap ∧ va_Zq "jdk/internal/util/Preconditions" "SIOOBE_FORMATTER" "Ljava/util/function/BiFunction;" A U U.heap ∧ vk_S 4 lenS bytS (adK z) (adV z) A U U.heap ∧ va_Nw (.methodLinkNest RX5 55 yX11_leastTerms RX11) U ∧ ∀ i, i < 4 → vk_R RX6 (ixS.getD i 0) (txS.getD i "") (adK z i) U
theorem EX0.to {z z1 : Sx} {A : Nat → Prop} {U : State} (h : EX0 z A U) (e : z1.1 = z.1) (hz : ZOk z1) (hA : ∀ q, zA z1 q → A q) : EX z1 U := by
  obtain ⟨h1, h2, h3, h4, h5, h6, h7, h8⟩ := h
  unfold EX Stt
  have eK : adK z1 = adK z := by funext i; show z1.1.2 100 i = z.1.2 100 i; rw [e]
  have eV : adV z1 = adV z := by funext i; show z1.1.2 101 i = z.1.2 101 i; rw [e]
  have eT : adT z1 = adT z := by funext i; show z1.1.2 102 i = z.1.2 102 i; rw [e]
  rw [eK, eV, eT]
  exact ⟨hz, ⟨h1.1.narrow hA, h1.2.narrow hA⟩, ⟨h2.1.narrow hA, h2.2.narrow hA⟩, ⟨h3.1.narrow hA, h3.2.narrow hA⟩, h4.narrow hA, h5.narrow hA, h6.narrow hA, h7, h8⟩
theorem arr_p {args : Array Value} {s : State} {ty : FieldType} (h : (Cond.arrayClass ty).before args s = true) : ∃ c, ArrOfT s c ty ∧ s.vm.findClass ("[" ++ ty.toString) = some c := by
  obtain ⟨c, k, comp, h1, h2, h3⟩ := Cond.arrayClass_spec h
  exact ⟨c, fun n z => ⟨(fun k h => by cases h), k, h2, comp, h3⟩, h1⟩
theorem arr_o {args : Array Value} {s : State} {C : String} (h : (Cond.arrayOver (.object C)).before args s = true) : ∃ c, ArrOfT s c (.object C) ∧ va_RA s c (.object C) := by
  obtain ⟨comp, c, k, f4, _, f2, f3, f1⟩ := Cond.arrayOver_spec h
  exact ⟨c, fun n z => ⟨(fun k h => by cases h), k, f2, comp, f3⟩, k, comp, f2, f3, f4, f1⟩
theorem start_z {args : Array Value} {s : State} (hts : ∀ w ∈ lw_tbl, w.before args s = true) (hgv : (Jvm.Cond.and given_1 narrow_1).before args s = true) : ∃ z : Sx, va_K z.1 classes (mty z) s ∧ EX0 z (fun q => s.heap.size ≤ q) s ∧ EN s := by
  have hA0 : ∀ a : Nat, a < s.heap.size → ¬ (fun q : Nat => s.heap.size ≤ q) a := fun a h => Nat.not_le.mpr h
  have htg : ∀ w ∈ Tg, w.before args s = true := fun w hw => hts w (List.mem_filter.mp hw).1
  obtain ⟨c0, i0, k0⟩ := u_known (C := RX0) (T := TX0) (N := 11) (n := 11) htg co0.2.2.2.1 (hts _ tw_in0)
  obtain ⟨c1, i1, k1⟩ := u_known (C := RX1) (T := TX1) (N := 8) (n := 8) htg co1.2.2.2.1 (hts _ tw_in1)
  obtain ⟨c2, i2, k2⟩ := u_known (C := RX2) (T := TX2) (N := 7) (n := 7) htg co2.2.2.2.1 (hts _ tw_in2)
  obtain ⟨c3, i3, k3⟩ := u_known (C := RX3) (T := TX3) (N := 2) (n := 2) htg co3.2.2.2.1 (hts _ tw_in3)
  obtain ⟨c4, i4, k4⟩ := u_known (C := RX4) (T := TX4) (N := 5) (n := 5) htg co4.2.2.2.1 (hts _ tw_in4)
  obtain ⟨c5, i5, k5⟩ := u_known (C := RX5) (T := TX5) (N := 6) (n := 6) htg co5.2.2.2.1 (hts _ tw_in5)
  obtain ⟨c6, i6, k6⟩ := u_known (C := RX6) (T := TX6) (N := 12) (n := 12) htg co6.2.2.2.1 (hts _ tw_in6)
  obtain ⟨c7, i7, k7⟩ := u_known (C := RX7) (T := TX7) (N := 3) (n := 3) htg co7.2.2.2.1 (hts _ tw_in7)
  obtain ⟨c8, i8, k8⟩ := u_known (C := RX8) (T := TX8) (N := 4) (n := 4) htg co8.2.2.2.1 (hts _ tw_in8)
  obtain ⟨c9, i9, k9⟩ := u_known (C := RX9) (T := TX9) (N := 8) (n := 8) htg co9.2.2.2.1 (hts _ tw_in9)
  obtain ⟨c10, i10, k10⟩ := u_known (C := RX10) (T := TX10) (N := 3) (n := 3) htg co10.2.2.2.1 (hts _ tw_in10)
  obtain ⟨c11, i11, k11⟩ := u_known (C := RX11) (T := TX11) (N := 10) (n := 10) htg co11.2.2.2.1 (hts _ tw_in11)
  obtain ⟨c12, i12, k12⟩ := u_known (C := RX12) (T := TX12) (N := 35) (n := 35) htg co12.2.2.2.1 (hts _ tw_in12)
  obtain ⟨a50, r50, m50⟩ := arr_p (hts _ tw_int)
  obtain ⟨a51, r51, m51⟩ := arr_p (hts _ tw_boolean)
  obtain ⟨a52, r52, m52⟩ := arr_p (hts _ tw_byte)
  obtain ⟨a53, r53, m53⟩ := arr_p (hts _ tw_long)
  obtain ⟨a60, r60, m60⟩ := arr_o (hts _ tw_ao0)
  obtain ⟨a61, r61, m61⟩ := arr_o (hts _ tw_ao8)
  obtain ⟨a62, r62, m62⟩ := arr_o (hts _ tw_ao4)
  obtain ⟨a63, r63, m63⟩ := arr_o (hts _ tw_ao9)
  obtain ⟨t0, e0, T0⟩ := va_Tof (tm := .static RX11 "ORDERS" "[I") (ty := .int) (N := 6) (f := fun j => .int (ordT.getD j 0)) (A := fun q => s.heap.size ≤ q) (by decide) (fl_at hgv fl_ORDERS_a) (va_eqt (fl_at hgv fl_ORDERS_l)) (fun j hj => va_eqt (fl_at hgv (fl_ORDERS_e j hj))) hA0
  obtain ⟨t1, e1, T1⟩ := va_Tof (tm := .static RX6 "RANGES" "[I") (ty := .int) (N := 153) (f := fun j => .int (rngT.getD j 0)) (A := fun q => s.heap.size ≤ q) (by decide) (fl_at hgv fl_RANGES_a) (va_eqt (fl_at hgv fl_RANGES_l)) (fun j hj => va_eqt (fl_at hgv (fl_RANGES_e j hj))) hA0
  obtain ⟨t2, e2, T2⟩ := va_Tof (tm := .static RX5 "FACTORIALS" "[I") (ty := .int) (N := 9) (f := fun j => .int (facT.getD j 0)) (A := fun q => s.heap.size ≤ q) (by decide) (fl_at hgv fl_FACTORIALS_a) (va_eqt (fl_at hgv fl_FACTORIALS_l)) (fun j hj => va_eqt (fl_at hgv (fl_FACTORIALS_e j hj))) hA0
  obtain ⟨sK, sV, SS, se⟩ := vk_Sof (args := args) (s := s) (N := 4) (tm := fun i => .string RX6 (ixS.getD i 0)) (len := lenS) (byt := bytS) (A := fun q => s.heap.size ≤ q) (by decide) (fun i hi => fl_at hgv (fl_ex i hi)) (fun i hi => fl_at hgv (fl_co i hi)) (fun i hi => fl_at hgv (fl_ar i hi)) (fun i hi => fl_at hgv (fl_le i hi)) (fun i hi j hj => fl_at hgv (fl_el i hi j hj)) (fun i j hi hj hij => by
    rcases Nat.lt_or_ge i j with q | q
    · exact Or.inl (fl_at hgv (fl_ne i hi j hj q))
    · exact Or.inr (fl_at hgv (fl_ne j hj i hi (by omega)))) hA0
  refine ⟨((fun k => ([c0, c1, c2, c3, c4, c5, c6, c7, c8, c9, c10, c11, c12] : List ClassId).getD k c0, fun k => if k = 100 then sK else if k = 101 then sV else if k = 102 then (fun i => if i = 0 then t0 else if i = 1 then t1 else t2) else ([i0, i1, i2, i3, i4, i5, i6, i7, i8, i9, i10, i11, i12] : List (Nat → Nat)).getD k i0), (fun k => if k = 50 then a50 else if k = 51 then a51 else if k = 52 then a52 else if k = 53 then a53 else if k = 60 then a60 else if k = 61 then a61 else if k = 62 then a62 else a63), fun _ => 0, fun _ => (99, 0), 0), ⟨fun k q hq => ?_, fun k q hq => ?_⟩, ⟨⟨?_, T0⟩, ⟨?_, T1⟩, ⟨?_, T2⟩, ?_, ?_, SS, ?_, fun i hi => ?_⟩, ⟨fun q hq => ?_, ?_, ?_, ?_, ?_⟩⟩
  · match k, hq with
    | 0, hq => cases hq; exact k0
    | 1, hq => cases hq; exact k1
    | 2, hq => cases hq; exact k2
    | 3, hq => cases hq; exact k3
    | 4, hq => cases hq; exact k4
    | 5, hq => cases hq; exact k5
    | 6, hq => cases hq; exact k6
    | 7, hq => cases hq; exact k7
    | 8, hq => cases hq; exact k8
    | 9, hq => cases hq; exact k9
    | 10, hq => cases hq; exact k10
    | 11, hq => cases hq; exact k11
    | 12, hq => cases hq; exact k12
    | k + 13, hq => simp [classes] at hq
  · match k, hq with
    | 0, hq => cases hq; exact ⟨r50, m50⟩
    | 1, hq => cases hq; exact ⟨r51, m51⟩
    | 2, hq => cases hq; exact ⟨r52, m52⟩
    | 3, hq => cases hq; exact ⟨r53, m53⟩
    | 4, hq => cases hq; exact ⟨r60, m60⟩
    | 5, hq => cases hq; exact ⟨r61, m61⟩
    | 6, hq => cases hq; exact ⟨r62, m62⟩
    | 7, hq => cases hq; exact ⟨r63, m63⟩
    | k + 8, hq => simp [mty] at hq
  · exact va_Zof (hts _ tw_ord.1) (hts _ tw_ord.2) e0 hA0
  · exact va_Zof (hts _ tw_rng.1) (hts _ tw_rng.2) e1 hA0
  · exact va_Zof (hts _ tw_fac.1) (hts _ tw_fac.2) e2 hA0
  · exact va_Zof (hts _ tw_comp.1) (hts _ tw_comp.2) (va_eqt (fl_at hgv fl_comp)) hA0
  · exact va_Zqof (hts _ tw_sio.1) (hts _ tw_sio.2) (fl_at hgv fl_sio) hA0
  · exact va_Nw.of rfl (hts _ (List.mem_append_right _ (tw_nest (RX5, 55, yX11_leastTerms, RX11) (by decide +kernel))))
  · exact vk_R.of (hts _ (List.mem_append_right _ (List.mem_of_getElem? (tw_str i hi)))) (se i hi)
  · exact va_Nw.of rfl (hts _ (List.mem_append_right _ (tw_nest q hq)))
  · exact va_AO.of (hts _ tw_ao0)
  · exact va_AO.of (hts _ tw_ao8)
  · exact va_AO.of (hts _ tw_ao4)
  · exact va_AO.of (hts _ tw_ao9)
