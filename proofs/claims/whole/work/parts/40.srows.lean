theorem exO {z : Sx} {U : State} (h : EX z U) : Stt z RX11 "ORDERS" 0 6 ordT U U.heap := h.2.1
theorem exR {z : Sx} {U : State} (h : EX z U) : Stt z RX6 "RANGES" 1 153 rngT U U.heap := h.2.2.1
theorem exF {z : Sx} {U : State} (h : EX z U) : Stt z RX5 "FACTORIALS" 2 9 facT U U.heap := h.2.2.2.1
section VKS
variable {ρ : Type} {x : Cx} {z : Sx} {own : String} {cc : ByteArray} {nL fr lo : Nat} {Q : ρ → Mem → State → Prop} {pc : Nat} {L : List (Nat × Value)} {st stk : List Value} {σ : Mem} {κ κ1 κ2 : Option (ρ × Mem)}
theorem V_gets {C n : String} {index i N : Nat} {T : List Int32} (X : XG x z own cc nL fr lo) (E : XE x z) (hst : ∀ U : State, EX z U → Stt z C n i N T U U.heap) (hw : Cond.fieldLink own index C n "[I" ∈ Tg) (hd : decode cc pc = .ok (.getstatic index, 3)) (k : VK x z nL Q (pc + 3) L (.ref (adT z i) :: st) σ κ) : VK x z nL Q pc L st σ κ := by
  obtain ⟨p, l, e, R, s, m, args, below, meth, c⟩ := x
  obtain ⟨hx, hb, hml, hown, hts, hK, hz, hfr, hlo, hlk⟩ := X
  intro r σ' h H locs ls hP hS hl
  exact va_gets hx hb (hst _ E).1 hS hown (hts _ hw) (fun _ h9 => h9) hd (k r σ' h H locs ls hP hS hl)
theorem V_tald {C n : String} {i N : Nat} {T : List Int32} {a : Int32} (X : XG x z own cc nL fr lo) (E : XE x z) (hst : ∀ U : State, EX z U → Stt z C n i N T U U.heap) (hd : decode cc pc = .ok (.iaload, 1)) (k : VK x z nL Q (pc + 1) L (.int (T.getD a.toNatClampNeg 0) :: st) σ κ) : VK x z nL Q pc L (.int a :: .ref (adT z i) :: st) σ (gd (inb a N) κ) := by
  obtain ⟨p, l, e, R, s, m, args, below, meth, c⟩ := x
  obtain ⟨hx, hb, hml, hown, hts, hK, hz, hfr, hlo, hlk⟩ := X
  intro r σ' h H locs ls hP hS hl
  obtain ⟨h1, h⟩ := gd_some h
  exact va_ti hx hb (hst _ E).2 hS (inb_in h1) rfl hd (k r σ' h H locs ls hP hS hl)
theorem V_tlen {C n : String} {i N : Nat} {T : List Int32} {v : Int32} (X : XG x z own cc nL fr lo) (E : XE x z) (hst : ∀ U : State, EX z U → Stt z C n i N T U U.heap) (hd : decode cc pc = .ok (.arraylength, 1)) (hv : Int32.ofNat N = v) (k : VK x z nL Q (pc + 1) L (.int v :: st) σ κ) : VK x z nL Q pc L (.ref (adT z i) :: st) σ κ := by
  obtain ⟨p, l, e, R, s, m, args, below, meth, c⟩ := x
  obtain ⟨hx, hb, hml, hown, hts, hK, hz, hfr, hlo, hlk⟩ := X
  intro r σ' h H locs ls hP hS hl
  exact va_tlen hx hb (hst _ E).2 hS hv hd (k r σ' h H locs ls hP hS hl)
theorem V_ldcS {i index : Nat} (X : XG x z RX6 cc nL fr lo) (E : XE x z) (hi : i < 4) (hix : ixS.getD i 0 = index) (hd : decode cc pc = .ok (.ldc index, 2)) (k : VK x z nL Q (pc + 2) L (.ref (adK z i) :: st) σ κ) : VK x z nL Q pc L st σ κ := by
  subst hix
  obtain ⟨p, l, e, R, s, m, args, below, meth, c⟩ := x
  obtain ⟨hx, hb, hml, hown, hts, hK, hz, hfr, hlo, hlk⟩ := X
  intro r σ' h H locs ls hP hS hl
  exact va_ldcS hx hb hown (E.2.2.2.2.2.2.2.2 i hi) hd (k r σ' h H locs ls hP hS hl)
theorem V_sval {i : Nat} (X : XG x z RJ0 cc nL fr lo) (E : XE x z) (hi : i < 4) (hd : decode cc pc = .ok (.getfield 9, 3)) (hw : Cond.fieldLink RJ0 9 "java/lang/String" "value" "[B" ∈ Tg) (k : VK x z nL Q (pc + 3) L (.ref (adV z i) :: st) σ κ) : VK x z nL Q pc L (.ref (adK z i) :: st) σ κ := by
  obtain ⟨p, l, e, R, s, m, args, below, meth, c⟩ := x
  obtain ⟨hx, hb, hml, hown, hts, hK, hz, hfr, hlo, hlk⟩ := X
  intro r σ' h H locs ls hP hS hl
  exact vk_getf hx hb (E.2.2.2.2.2.2.1.1 i hi).2.2.1 hS hown (hts _ hw) (fun _ h9 => h9) hd (k r σ' h H locs ls hP hS hl)
theorem V_scod {i : Nat} (X : XG x z RJ0 cc nL fr lo) (E : XE x z) (hi : i < 4) (hd : decode cc pc = .ok (.getfield 15, 3)) (hw : Cond.fieldLink RJ0 15 "java/lang/String" "coder" "B" ∈ Tg) (k : VK x z nL Q (pc + 3) L (.int 0 :: st) σ κ) : VK x z nL Q pc L (.ref (adK z i) :: st) σ κ := by
  obtain ⟨p, l, e, R, s, m, args, below, meth, c⟩ := x
  obtain ⟨hx, hb, hml, hown, hts, hK, hz, hfr, hlo, hlk⟩ := X
  intro r σ' h H locs ls hP hS hl
  exact vk_getf hx hb (E.2.2.2.2.2.2.1.1 i hi).2.1 hS hown (hts _ hw) (fun _ h9 => h9) hd (k r σ' h H locs ls hP hS hl)
theorem V_slen {i : Nat} (X : XG x z own cc nL fr lo) (E : XE x z) (hi : i < 4) (hd : decode cc pc = .ok (.arraylength, 1)) (k : VK x z nL Q (pc + 1) L (.int (Int32.ofNat (lenS.getD i 0)) :: st) σ κ) : VK x z nL Q pc L (.ref (adV z i) :: st) σ κ := by
  obtain ⟨p, l, e, R, s, m, args, below, meth, c⟩ := x
  obtain ⟨hx, hb, hml, hown, hts, hK, hz, hfr, hlo, hlk⟩ := X
  intro r σ' h H locs ls hP hS hl
  exact va_tlen hx hb (E.2.2.2.2.2.2.1.1 i hi).2.2.2 hS rfl hd (k r σ' h H locs ls hP hS hl)
theorem V_sbald {i : Nat} {a : Int32} (X : XG x z own cc nL fr lo) (E : XE x z) (hi : i < 4) (hd : decode cc pc = .ok (.baload, 1)) (k : VK x z nL Q (pc + 1) L (.int ((bytS.getD i []).getD a.toNatClampNeg 0) :: st) σ κ) : VK x z nL Q pc L (.int a :: .ref (adV z i) :: st) σ (gd (inb a (lenS.getD i 0)) κ) := by
  obtain ⟨p, l, e, R, s, m, args, below, meth, c⟩ := x
  obtain ⟨hx, hb, hml, hown, hts, hK, hz, hfr, hlo, hlk⟩ := X
  intro r σ' h H locs ls hP hS hl
  obtain ⟨h1, h⟩ := gd_some h
  exact va_tb hx hb (E.2.2.2.2.2.2.1.1 i hi).2.2.2 hS (inb_in h1) rfl hd (k r σ' h H locs ls hP hS hl)
theorem V_gcs (X : XG x z RJ0 cc nL fr lo) (E : XE x z) (hd : decode cc pc = .ok (.getstatic 38, 3)) (hw : Cond.fieldLink RJ0 38 "java/lang/String" "COMPACT_STRINGS" "Z" ∈ Tg) (k : VK x z nL Q (pc + 3) L (.int 1 :: st) σ κ) : VK x z nL Q pc L st σ κ := by
  obtain ⟨p, l, e, R, s, m, args, below, meth, c⟩ := x
  obtain ⟨hx, hb, hml, hown, hts, hK, hz, hfr, hlo, hlk⟩ := X
  intro r σ' h H locs ls hP hS hl
  exact va_gets hx hb E.2.2.2.2.1 hS hown (hts _ hw) (fun _ h9 => h9) hd (k r σ' h H locs ls hP hS hl)
theorem V_gsio (X : XG x z RJ0 cc nL fr lo) (E : XE x z) (hd : decode cc pc = .ok (.getstatic 1053, 3)) (hw : Cond.fieldLink RJ0 1053 "jdk/internal/util/Preconditions" "SIOOBE_FORMATTER" "Ljava/util/function/BiFunction;" ∈ Tg) (k : ∀ o : Option Nat, VK x z nL Q (pc + 3) L (va_rf o :: st) σ κ) : VK x z nL Q pc L st σ κ := by
  obtain ⟨p, l, e, R, s, m, args, below, meth, c⟩ := x
  obtain ⟨hx, hb, hml, hown, hts, hK, hz, hfr, hlo, hlk⟩ := X
  intro r σ' h H locs ls hP hS hl
  rcases E.2.2.2.2.2.1 with h9 | ⟨t, h9⟩
  · exact va_gets hx hb h9 hS hown (hts _ hw) (fun _ h9 => h9) hd (k none r σ' h H locs ls hP hS hl)
  · exact va_gets hx hb h9 hS hown (hts _ hw) (fun _ h9 => h9) hd (k (some t) r σ' h H locs ls hP hS hl)
theorem V_i2c {a : Int32} (X : XG x z own cc nL fr lo) (hd : decode cc pc = .ok (.i2c, 1)) (k : VK x z nL Q (pc + 1) L (.int (a.toUInt32 % 65536).toInt32 :: st) σ κ) : VK x z nL Q pc L (.int a :: st) σ κ := by
  obtain ⟨p, l, e, R, s, m, args, below, meth, c⟩ := x
  obtain ⟨hx, hb, hml, hown, hts, hK, hz, hfr, hlo, hlk⟩ := X
  intro r σ' h H locs ls hP hS hl
  exact lv_i2c hx hb hd rfl (k r σ' h H locs ls hP hS hl)
theorem V_nret {v : Int32} {ty : FieldType} (X : XG x z own cc nL fr lo) (E : XE x z) (hr : XR x (some ty)) (hd : decode cc pc = .ok (.ireturn, 1)) (hv : narrow ty (.int v) = .int v) : VK x z nL (BQ QI x z) pc L [.int v] σ (some (v, σ)) := by
  obtain ⟨p, l, e, R, s, m, args, below, meth, c⟩ := x
  obtain ⟨hx, hb, hml, hown, hts, hK, hz, hfr, hlo, hlk⟩ := X
  intro r σ' h H locs ls hP hS hl
  cases h
  exact W.zret hx hb hr hv (fun t ht hW => ⟨⟨v, (), rfl, rfl, ⟨by rw [ht]; exact hP, va_K.moved hW.alike hK, hz, EX.go E hS ht hW⟩⟩, hS.F ht⟩) hS.2.2 hd hlk
theorem V_cretG {v : Int32} (X : XG x z own cc nL fr lo) (E : XE x z) (hr : XR x (some .char)) (hd : decode cc pc = .ok (.ireturn, 1)) : VK x z nL (BQ QI x z) pc L [.int v] σ (gd (decide ((v.toUInt32 % 65536).toInt32 = v)) (some (v, σ))) := by
  intro r σ' h
  obtain ⟨h1, h⟩ := gd_some h
  exact V_nret X E hr hd (congrArg Value.int (of_decide_eq_true h1)) r σ' h
theorem V_strI {y : MethodName} {cc' : ByteArray} {nL' fr' lo' idx n i : Nat} {ret : Option FieldType} {κc : Option (Int32 × Mem)} {f : Int32 → Mem → Option (ρ × Mem)} (As st : List Value) (X : XG x z own cc nL fr lo) (E : XE x z) (hd : decode cc pc = .ok (.invokevirtual idx, 3)) (hM : Ct QI y cc' nL' ret fr' lo' x.2.1 z (.ref (adK z i) :: As) σ κc) (hi : i < 4) (hg : GoodIn Tg (wsV own idx RJ0 y (Cond.code y cc' nL' ret :: Tg))) (hy : y.cls = RJ0 ∧ y.cls ≠ "java/lang/invoke/MethodHandle" ∧ y.cls ≠ "java/lang/invoke/VarHandle" ∧ (parseMethodDescriptor y.desc).map (fun d => d.parameters.length) = some n) (hn : As.length = n) (hrm : fr' + 1 ≤ fr ∧ 8 + (nL' + 11) + lo' ≤ lo) (hs : stk = As.reverse ++ .ref (adK z i) :: st) (hc : (st.map fun v => v.category).sum ≤ 8) (k : ∀ (a : Int32) (σ1 : Mem), VK x z nL Q (pc + 3) L (.int a :: st) σ1 (f a σ1)) : VK x z nL Q pc L stk σ (bd κc f) := by
  obtain ⟨p, l, e, R, s, m, args, below, meth, c⟩ := x
  obtain ⟨hx, hb, hml, hown, hts, hK, hz, hfr, hlo, hlk⟩ := X
  intro r σ' h H locs ls hP hS hl
  obtain ⟨r0, σ1, h0, h⟩ := bd_some h
  subst hs
  refine va_calli (va_runV (C := RJ0) (As := As) (rest := st) ⟨hx, hb, hml, hown, hts⟩ (hM r0 σ1 h0) (cwV n hts hg rfl rfl rfl hy ⟨Nat.le_trans hrm.1 hfr, Nat.le_trans hrm.2 hlo⟩) ⟨mu_blind, vk_recv E.2.2.2.2.2.2.1 hi hS, fun U hU hW => ⟨rfl, by rw [hU]; exact hP, va_K.moved hW.alike hK, hz, EX.go E hS hU hW⟩⟩ rfl hn hl.1 rfl (lv_room hc) hd ⟨Nat.zero_le _, Nat.zero_le _⟩) hS (fun q _ hq => hq) (fun q hq => hq) (fun v u t1 H1 locs1 ht hvm hw hB hz1 hk1 hS1 => ?_)
  subst hw
  obtain ⟨hP1, -, -, -⟩ := hB
  rw [ht] at hP1
  exact k v σ1 r σ' h H1 locs1 ls hP1 hS1 hl
theorem V_calNL {cc' : ByteArray} {nL' fr' lo' n : Nat} {κc : Option (Int64 × Mem)} {f : Int64 → Mem → Option (ρ × Mem)} (As st : List Value) (X : XG x z RX5 cc nL fr lo) (E : XE x z) (hd : decode cc pc = .ok (.invokestatic 55, 3)) (hM : Ct QL yX11_leastTerms cc' nL' (some .long) fr' lo' x.2.1 z As σ κc) (hg : Cond.code yX11_leastTerms cc' nL' (some .long) ∈ Tg) (h2 : Cond.static yX11_leastTerms ∈ Tg) (h3 : Cond.initialized yX11_leastTerms.cls ∈ Tg) (hy : yX11_leastTerms.cls ≠ "java/lang/invoke/MethodHandle" ∧ yX11_leastTerms.cls ≠ "java/lang/invoke/VarHandle" ∧ (parseMethodDescriptor yX11_leastTerms.desc).map (fun d => d.parameters.length) = some n) (hn : As.length = n) (hrm : fr' + 1 ≤ fr ∧ 8 + (nL' + 11) + lo' ≤ lo) (hs : stk = As.reverse ++ st) (hc : (st.map fun v => v.category).sum ≤ 8) (k : ∀ (a : Int64) (σ1 : Mem), VK x z nL Q (pc + 3) L (.long a :: st) σ1 (f a σ1)) : VK x z nL Q pc L stk σ (bd κc f) := by
  obtain ⟨p, l, e, R, s, m, args, below, meth, c⟩ := x
  obtain ⟨hx, hb, hml, hown, hts, hK, hz, hfr, hlo, hlk⟩ := X
  intro r σ' h H locs ls hP hS hl
  obtain ⟨r0, σ1, h0, h⟩ := bd_some h
  subst hs
  have hG : GoodIn Tg (Cond.code yX11_leastTerms cc' nL' (some .long) :: Tg) := fun w hw => (List.mem_cons.mp hw).elim (fun e => e ▸ tgood hg) tgood
  refine va_calll (va_runSN (host := RX11) (As := As) (rest := st) ⟨hx, hb, hml, hown, hts⟩ (hM r0 σ1 h0) ⟨va_cnB n hts hG rfl rfl rfl E.2.2.2.2.2.2.2.1 (hts _ h3) hy ⟨Nat.le_trans hrm.1 hfr, Nat.le_trans hrm.2 hlo⟩, hts _ h2, trivial⟩ ⟨mu_blind, fun U hU hW => ⟨rfl, by rw [hU]; exact hP, va_K.moved hW.alike hK, hz, EX.go E hS hU hW⟩⟩ rfl hn hl.1 rfl (lv_room hc) hd ⟨Nat.zero_le _, Nat.zero_le _⟩) hS (fun q _ hq => hq) (fun q hq => hq) (fun v u t1 H1 locs1 ht hvm hw hB hz1 hk1 hS1 => ?_)
  subst hw
  obtain ⟨hP1, -, -, -⟩ := hB
  rw [ht] at hP1
  exact k v σ1 r σ' h H1 locs1 ls hP1 hS1 hl
end VKS
theorem wfJ0_9 : Cond.fieldLink RJ0 9 "java/lang/String" "value" "[B" ∈ Tg := (tg_in (List.mem_append_right _ (List.mem_of_getElem? (i := 1850) (by decide +kernel))) rfl)
theorem wfJ0_15 : Cond.fieldLink RJ0 15 "java/lang/String" "coder" "B" ∈ Tg := (tg_in (List.mem_append_right _ (List.mem_of_getElem? (i := 1851) (by decide +kernel))) rfl)
theorem wfJ0_38 : Cond.fieldLink RJ0 38 "java/lang/String" "COMPACT_STRINGS" "Z" ∈ Tg := (tg_in (List.mem_append_right _ (List.mem_of_getElem? (i := 519) (by decide +kernel))) rfl)
theorem wfJ0_1053 : Cond.fieldLink RJ0 1053 "jdk/internal/util/Preconditions" "SIOOBE_FORMATTER" "Ljava/util/function/BiFunction;" ∈ Tg := (tg_in (List.mem_append_right _ (List.mem_of_getElem? (i := 535) (by decide +kernel))) rfl)
theorem dJ3_checkIndex_8e157_0 : decode cJ3_checkIndex_8e157 0 = .ok (.iload_n 0, 1) := by decide +kernel
theorem dJ3_checkIndex_8e157_1 : decode cJ3_checkIndex_8e157 1 = .ok (.ifCond .lt 8, 3) := by decide +kernel
theorem dJ3_checkIndex_8e157_4 : decode cJ3_checkIndex_8e157 4 = .ok (.iload_n 0, 1) := by decide +kernel
theorem dJ3_checkIndex_8e157_5 : decode cJ3_checkIndex_8e157 5 = .ok (.iload_n 1, 1) := by decide +kernel
theorem dJ3_checkIndex_8e157_6 : decode cJ3_checkIndex_8e157 6 = .ok (.if_icmp .lt 10, 3) := by decide +kernel
theorem dJ3_checkIndex_8e157_9 : decode cJ3_checkIndex_8e157 9 = .ok (.aload_n 2, 1) := by decide +kernel
theorem dJ3_checkIndex_8e157_10 : decode cJ3_checkIndex_8e157 10 = .ok (.iload_n 0, 1) := by decide +kernel
theorem dJ3_checkIndex_8e157_11 : decode cJ3_checkIndex_8e157 11 = .ok (.iload_n 1, 1) := by decide +kernel
theorem dJ3_checkIndex_8e157_12 : decode cJ3_checkIndex_8e157 12 = .ok (.invokestatic 95, 3) := by decide +kernel
theorem dJ3_checkIndex_8e157_15 : decode cJ3_checkIndex_8e157 15 = .ok (.athrow, 1) := by decide +kernel
theorem dJ3_checkIndex_8e157_16 : decode cJ3_checkIndex_8e157 16 = .ok (.iload_n 0, 1) := by decide +kernel
theorem dJ3_checkIndex_8e157_17 : decode cJ3_checkIndex_8e157 17 = .ok (.ireturn, 1) := by decide +kernel
theorem dJ0_checkIndex_df160_0 : decode cJ0_checkIndex_df160 0 = .ok (.iload_n 0, 1) := by decide +kernel
theorem dJ0_checkIndex_df160_1 : decode cJ0_checkIndex_df160 1 = .ok (.iload_n 1, 1) := by decide +kernel
theorem dJ0_checkIndex_df160_2 : decode cJ0_checkIndex_df160 2 = .ok (.getstatic 1053, 3) := by decide +kernel
theorem dJ0_checkIndex_df160_5 : decode cJ0_checkIndex_df160 5 = .ok (.invokestatic 1059, 3) := by decide +kernel
theorem dJ0_checkIndex_df160_8 : decode cJ0_checkIndex_df160 8 = .ok (.pop, 1) := by decide +kernel
theorem dJ0_checkIndex_df160_9 : decode cJ0_checkIndex_df160 9 = .ok (.return_, 1) := by decide +kernel
theorem dJ1_charAt_3b067_0 : decode cJ1_charAt_3b067 0 = .ok (.iload_n 1, 1) := by decide +kernel
theorem dJ1_charAt_3b067_1 : decode cJ1_charAt_3b067 1 = .ok (.aload_n 0, 1) := by decide +kernel
theorem dJ1_charAt_3b067_2 : decode cJ1_charAt_3b067 2 = .ok (.arraylength, 1) := by decide +kernel
theorem dJ1_charAt_3b067_3 : decode cJ1_charAt_3b067 3 = .ok (.invokestatic 9, 3) := by decide +kernel
theorem dJ1_charAt_3b067_6 : decode cJ1_charAt_3b067 6 = .ok (.aload_n 0, 1) := by decide +kernel
theorem dJ1_charAt_3b067_7 : decode cJ1_charAt_3b067 7 = .ok (.iload_n 1, 1) := by decide +kernel
theorem dJ1_charAt_3b067_8 : decode cJ1_charAt_3b067 8 = .ok (.baload, 1) := by decide +kernel
theorem dJ1_charAt_3b067_9 : decode cJ1_charAt_3b067 9 = .ok (.sipush 255, 3) := by decide +kernel
theorem dJ1_charAt_3b067_12 : decode cJ1_charAt_3b067 12 = .ok (.iand, 1) := by decide +kernel
theorem dJ1_charAt_3b067_13 : decode cJ1_charAt_3b067 13 = .ok (.i2c, 1) := by decide +kernel
theorem dJ1_charAt_3b067_14 : decode cJ1_charAt_3b067 14 = .ok (.ireturn, 1) := by decide +kernel
theorem dJ0_coder_7d493_0 : decode cJ0_coder_7d493 0 = .ok (.getstatic 38, 3) := by decide +kernel
theorem dJ0_coder_7d493_3 : decode cJ0_coder_7d493 3 = .ok (.ifCond .eq 10, 3) := by decide +kernel
theorem dJ0_coder_7d493_6 : decode cJ0_coder_7d493 6 = .ok (.aload_n 0, 1) := by decide +kernel
theorem dJ0_coder_7d493_7 : decode cJ0_coder_7d493 7 = .ok (.getfield 15, 3) := by decide +kernel
theorem dJ0_coder_7d493_10 : decode cJ0_coder_7d493 10 = .ok (.goto 4, 3) := by decide +kernel
theorem dJ0_coder_7d493_13 : decode cJ0_coder_7d493 13 = .ok (.iconst 1, 1) := by decide +kernel
theorem dJ0_coder_7d493_14 : decode cJ0_coder_7d493 14 = .ok (.ireturn, 1) := by decide +kernel
theorem dJ0_isLatin1_aae02_0 : decode cJ0_isLatin1_aae02 0 = .ok (.getstatic 38, 3) := by decide +kernel
theorem dJ0_isLatin1_aae02_3 : decode cJ0_isLatin1_aae02 3 = .ok (.ifCond .eq 14, 3) := by decide +kernel
theorem dJ0_isLatin1_aae02_6 : decode cJ0_isLatin1_aae02 6 = .ok (.aload_n 0, 1) := by decide +kernel
theorem dJ0_isLatin1_aae02_7 : decode cJ0_isLatin1_aae02 7 = .ok (.getfield 15, 3) := by decide +kernel
theorem dJ0_isLatin1_aae02_10 : decode cJ0_isLatin1_aae02 10 = .ok (.ifCond .ne 7, 3) := by decide +kernel
theorem dJ0_isLatin1_aae02_13 : decode cJ0_isLatin1_aae02 13 = .ok (.iconst 1, 1) := by decide +kernel
theorem dJ0_isLatin1_aae02_14 : decode cJ0_isLatin1_aae02 14 = .ok (.goto 4, 3) := by decide +kernel
theorem dJ0_isLatin1_aae02_17 : decode cJ0_isLatin1_aae02 17 = .ok (.iconst 0, 1) := by decide +kernel
theorem dJ0_isLatin1_aae02_18 : decode cJ0_isLatin1_aae02 18 = .ok (.ireturn, 1) := by decide +kernel
theorem dJ0_charAt_5068e_0 : decode cJ0_charAt_5068e 0 = .ok (.aload_n 0, 1) := by decide +kernel
theorem dJ0_charAt_5068e_1 : decode cJ0_charAt_5068e 1 = .ok (.invokevirtual 492, 3) := by decide +kernel
theorem dJ0_charAt_5068e_4 : decode cJ0_charAt_5068e 4 = .ok (.ifCond .eq 12, 3) := by decide +kernel
theorem dJ0_charAt_5068e_7 : decode cJ0_charAt_5068e 7 = .ok (.aload_n 0, 1) := by decide +kernel
theorem dJ0_charAt_5068e_8 : decode cJ0_charAt_5068e 8 = .ok (.getfield 9, 3) := by decide +kernel
theorem dJ0_charAt_5068e_11 : decode cJ0_charAt_5068e 11 = .ok (.iload_n 1, 1) := by decide +kernel
theorem dJ0_charAt_5068e_12 : decode cJ0_charAt_5068e 12 = .ok (.invokestatic 495, 3) := by decide +kernel
theorem dJ0_charAt_5068e_15 : decode cJ0_charAt_5068e 15 = .ok (.ireturn, 1) := by decide +kernel
theorem dJ0_charAt_5068e_16 : decode cJ0_charAt_5068e 16 = .ok (.aload_n 0, 1) := by decide +kernel
theorem dJ0_charAt_5068e_17 : decode cJ0_charAt_5068e 17 = .ok (.getfield 9, 3) := by decide +kernel
theorem dJ0_charAt_5068e_20 : decode cJ0_charAt_5068e 20 = .ok (.iload_n 1, 1) := by decide +kernel
theorem dJ0_charAt_5068e_21 : decode cJ0_charAt_5068e 21 = .ok (.invokestatic 498, 3) := by decide +kernel
theorem dJ0_charAt_5068e_24 : decode cJ0_charAt_5068e 24 = .ok (.ireturn, 1) := by decide +kernel
theorem dJ0_length_8abf5_0 : decode cJ0_length_8abf5 0 = .ok (.aload_n 0, 1) := by decide +kernel
theorem dJ0_length_8abf5_1 : decode cJ0_length_8abf5 1 = .ok (.getfield 9, 3) := by decide +kernel
theorem dJ0_length_8abf5_4 : decode cJ0_length_8abf5 4 = .ok (.arraylength, 1) := by decide +kernel
theorem dJ0_length_8abf5_5 : decode cJ0_length_8abf5 5 = .ok (.aload_n 0, 1) := by decide +kernel
theorem dJ0_length_8abf5_6 : decode cJ0_length_8abf5 6 = .ok (.invokevirtual 335, 3) := by decide +kernel
theorem dJ0_length_8abf5_9 : decode cJ0_length_8abf5 9 = .ok (.ishr, 1) := by decide +kernel
theorem dJ0_length_8abf5_10 : decode cJ0_length_8abf5 10 = .ok (.ireturn, 1) := by decide +kernel
theorem hyJ3_checkIndex_8e157 : yJ3_checkIndex_8e157.cls ≠ "java/lang/invoke/MethodHandle" ∧ yJ3_checkIndex_8e157.cls ≠ "java/lang/invoke/VarHandle" ∧ (parseMethodDescriptor yJ3_checkIndex_8e157.desc).map (fun d => d.parameters.length) = some 3 := by decide +kernel
theorem hyJ0_checkIndex_df160 : yJ0_checkIndex_df160.cls ≠ "java/lang/invoke/MethodHandle" ∧ yJ0_checkIndex_df160.cls ≠ "java/lang/invoke/VarHandle" ∧ (parseMethodDescriptor yJ0_checkIndex_df160.desc).map (fun d => d.parameters.length) = some 2 := by decide +kernel
theorem hyJ1_charAt_3b067 : yJ1_charAt_3b067.cls ≠ "java/lang/invoke/MethodHandle" ∧ yJ1_charAt_3b067.cls ≠ "java/lang/invoke/VarHandle" ∧ (parseMethodDescriptor yJ1_charAt_3b067.desc).map (fun d => d.parameters.length) = some 2 := by decide +kernel
theorem hyJ0_coder_7d493 : yJ0_coder_7d493.cls = RJ0 ∧ yJ0_coder_7d493.cls ≠ "java/lang/invoke/MethodHandle" ∧ yJ0_coder_7d493.cls ≠ "java/lang/invoke/VarHandle" ∧ (parseMethodDescriptor yJ0_coder_7d493.desc).map (fun d => d.parameters.length) = some 0 := by decide +kernel
theorem hyJ0_isLatin1_aae02 : yJ0_isLatin1_aae02.cls = RJ0 ∧ yJ0_isLatin1_aae02.cls ≠ "java/lang/invoke/MethodHandle" ∧ yJ0_isLatin1_aae02.cls ≠ "java/lang/invoke/VarHandle" ∧ (parseMethodDescriptor yJ0_isLatin1_aae02.desc).map (fun d => d.parameters.length) = some 0 := by decide +kernel
theorem hyJ0_charAt_5068e : yJ0_charAt_5068e.cls = RJ0 ∧ yJ0_charAt_5068e.cls ≠ "java/lang/invoke/MethodHandle" ∧ yJ0_charAt_5068e.cls ≠ "java/lang/invoke/VarHandle" ∧ (parseMethodDescriptor yJ0_charAt_5068e.desc).map (fun d => d.parameters.length) = some 1 := by decide +kernel
theorem hyJ0_length_8abf5 : yJ0_length_8abf5.cls = RJ0 ∧ yJ0_length_8abf5.cls ≠ "java/lang/invoke/MethodHandle" ∧ yJ0_length_8abf5.cls ≠ "java/lang/invoke/VarHandle" ∧ (parseMethodDescriptor yJ0_length_8abf5.desc).map (fun d => d.parameters.length) = some 0 := by decide +kernel
theorem gcJ0_1059 : GoodIn Tg (va_wsS RJ0 1059 yJ3_checkIndex_8e157 (Cond.code yJ3_checkIndex_8e157 cJ3_checkIndex_8e157 3 (some .int) :: Tg)) := gS (tg_in (List.mem_append_right _ (List.mem_of_getElem? (i := 537) (by decide +kernel))) rfl) (tg_in (List.mem_append_right _ (List.mem_of_getElem? (i := 538) (by decide +kernel))) rfl) (tg_in (List.mem_append_right _ (List.mem_of_getElem? (i := 17) (by decide +kernel))) rfl) (tg_in (List.mem_append_right _ (List.mem_of_getElem? (i := 539) (by decide +kernel))) rfl)
theorem gcJ1_9 : GoodIn Tg (va_wsS RJ1 9 yJ0_checkIndex_df160 (Cond.code yJ0_checkIndex_df160 cJ0_checkIndex_df160 2 none :: Tg)) := gS (tg_in (List.mem_append_right _ (List.mem_of_getElem? (i := 532) (by decide +kernel))) rfl) (tg_in (List.mem_append_right _ (List.mem_of_getElem? (i := 533) (by decide +kernel))) rfl) (tg_in (List.mem_append_right _ (List.mem_of_getElem? (i := 15) (by decide +kernel))) rfl) (tg_in (List.mem_append_right _ (List.mem_of_getElem? (i := 534) (by decide +kernel))) rfl)
theorem gcJ0_495 : GoodIn Tg (va_wsS RJ0 495 yJ1_charAt_3b067 (Cond.code yJ1_charAt_3b067 cJ1_charAt_3b067 2 (some .char) :: Tg)) := gS (tg_in (List.mem_append_right _ (List.mem_of_getElem? (i := 529) (by decide +kernel))) rfl) (tg_in (List.mem_append_right _ (List.mem_of_getElem? (i := 530) (by decide +kernel))) rfl) (tg_in (List.mem_append_right _ (List.mem_of_getElem? (i := 16) (by decide +kernel))) rfl) (tg_in (List.mem_append_right _ (List.mem_of_getElem? (i := 531) (by decide +kernel))) rfl)
theorem gcJ0_335 : GoodIn Tg (wsV RJ0 335 RJ0 yJ0_coder_7d493 (Cond.code yJ0_coder_7d493 cJ0_coder_7d493 1 (some .byte) :: Tg)) := gV (tg_in (List.mem_append_right _ (List.mem_of_getElem? (i := 515) (by decide +kernel))) rfl) (tg_in (List.mem_append_right _ (List.mem_of_getElem? (i := 516) (by decide +kernel))) rfl) (tg_in (List.mem_append_right _ (List.mem_of_getElem? (i := 517) (by decide +kernel))) rfl) (tg_in (List.mem_append_right _ (List.mem_of_getElem? (i := 15) (by decide +kernel))) rfl) (tg_in (List.mem_append_right _ (List.mem_of_getElem? (i := 518) (by decide +kernel))) rfl)
theorem gcJ0_492 : GoodIn Tg (wsV RJ0 492 RJ0 yJ0_isLatin1_aae02 (Cond.code yJ0_isLatin1_aae02 cJ0_isLatin1_aae02 1 (some .boolean) :: Tg)) := gV (tg_in (List.mem_append_right _ (List.mem_of_getElem? (i := 525) (by decide +kernel))) rfl) (tg_in (List.mem_append_right _ (List.mem_of_getElem? (i := 526) (by decide +kernel))) rfl) (tg_in (List.mem_append_right _ (List.mem_of_getElem? (i := 527) (by decide +kernel))) rfl) (tg_in (List.mem_append_right _ (List.mem_of_getElem? (i := 15) (by decide +kernel))) rfl) (tg_in (List.mem_append_right _ (List.mem_of_getElem? (i := 528) (by decide +kernel))) rfl)
theorem gcX6_160 : GoodIn Tg (wsV RX6 160 RJ0 yJ0_length_8abf5 (Cond.code yJ0_length_8abf5 cJ0_length_8abf5 1 (some .int) :: Tg)) := gV (tg_in (List.mem_append_right _ (List.mem_of_getElem? (i := 511) (by decide +kernel))) rfl) (tg_in (List.mem_append_right _ (List.mem_of_getElem? (i := 512) (by decide +kernel))) rfl) (tg_in (List.mem_append_right _ (List.mem_of_getElem? (i := 513) (by decide +kernel))) rfl) (tg_in (List.mem_append_right _ (List.mem_of_getElem? (i := 15) (by decide +kernel))) rfl) (tg_in (List.mem_append_right _ (List.mem_of_getElem? (i := 514) (by decide +kernel))) rfl)
theorem gcX6_165 : GoodIn Tg (wsV RX6 165 RJ0 yJ0_charAt_5068e (Cond.code yJ0_charAt_5068e cJ0_charAt_5068e 2 (some .char) :: Tg)) := gV (tg_in (List.mem_append_right _ (List.mem_of_getElem? (i := 521) (by decide +kernel))) rfl) (tg_in (List.mem_append_right _ (List.mem_of_getElem? (i := 522) (by decide +kernel))) rfl) (tg_in (List.mem_append_right _ (List.mem_of_getElem? (i := 523) (by decide +kernel))) rfl) (tg_in (List.mem_append_right _ (List.mem_of_getElem? (i := 15) (by decide +kernel))) rfl) (tg_in (List.mem_append_right _ (List.mem_of_getElem? (i := 524) (by decide +kernel))) rfl)
def fJ3_ci (a b : Int32) (σ : Mem) : Option (Int32 × Mem) := if a < 0 then none else if a < b then some (a, σ) else none
theorem kJ3_ci (l : Launch) (z : Sx) (a b : Int32) (o : Option Nat) (σ : Mem) : Ct QI yJ3_checkIndex_8e157 cJ3_checkIndex_8e157 3 (some .int) 0 0 l z [.int a, .int b, va_rf o] σ (fJ3_ci a b σ) := by
  refine Ct_of (L := [(0, .int a), (1, .int b), (2, va_rf o)]) (by decide +kernel) (by cases o <;> exact Nat.le_of_ble_eq_true rfl) (by cases o <;> rfl) ?_
  intro x _ X E hr
  unfold fJ3_ci
  refine V_iload_n 0 X dJ3_checkIndex_8e157_0 rfl rfl ?_
  refine V_if_lt (tgt := 9) X dJ3_checkIndex_8e157_1 (by decide) V_none ?_
  refine V_iload_n 0 X dJ3_checkIndex_8e157_4 rfl rfl ?_
  refine V_iload_n 1 X dJ3_checkIndex_8e157_5 rfl rfl ?_
  refine V_icmp_lt (tgt := 16) X dJ3_checkIndex_8e157_6 (by decide) ?_ V_none
  refine V_iload_n 0 X dJ3_checkIndex_8e157_16 rfl rfl ?_
  exact V_iret X E hr dJ3_checkIndex_8e157_17
def fJ0_ci (a b : Int32) (σ : Mem) : Option (Unit × Mem) := bd (fJ3_ci a b σ) (fun _ s1 => some ((), s1))
theorem kJ0_ci (l : Launch) (z : Sx) (a b : Int32) (σ : Mem) : Ct QV yJ0_checkIndex_df160 cJ0_checkIndex_df160 2 none 1 22 l z [.int a, .int b] σ (fJ0_ci a b σ) := by
  refine Ct_of (by decide +kernel) (Nat.le_of_ble_eq_true rfl) rfl ?_
  intro x _ X E hr
  unfold fJ0_ci
  refine V_iload_n 0 X dJ0_checkIndex_df160_0 rfl rfl ?_
  refine V_iload_n 1 X dJ0_checkIndex_df160_1 rfl rfl ?_
  refine V_gsio X E dJ0_checkIndex_df160_2 wfJ0_1053 (fun o => ?_)
  refine V_calSI [.int a, .int b, va_rf o] [] X E dJ0_checkIndex_df160_5 (kJ3_ci x.2.1 z a b o σ) gcJ0_1059 hyJ3_checkIndex_8e157 rfl ⟨by decide, by decide⟩ rfl (Nat.le_of_ble_eq_true rfl) (fun r1 s1 => ?_)
  refine V_pop X dJ0_checkIndex_df160_8 rfl ?_
  exact V_vret X E hr dJ0_checkIndex_df160_9
def chS (i : Nat) (k : Int32) : Int32 := (((bytS.getD i []).getD k.toNatClampNeg 0 &&& 255).toUInt32 % 65536).toInt32
def fJ1_ch (i : Nat) (k : Int32) (σ : Mem) : Option (Int32 × Mem) := bd (fJ0_ci k (Int32.ofNat (lenS.getD i 0)) σ) (fun _ s1 => gd (inb k (lenS.getD i 0)) (gd (decide (((chS i k).toUInt32 % 65536).toInt32 = chS i k)) (some (chS i k, s1))))
theorem kJ1_ch (l : Launch) (z : Sx) (i : Nat) (hi : i < 4) (k : Int32) (σ : Mem) : Ct QI yJ1_charAt_3b067 cJ1_charAt_3b067 2 (some .char) 2 43 l z [.ref (adV z i), .int k] σ (fJ1_ch i k σ) := by
  refine Ct_of (by decide +kernel) (Nat.le_of_ble_eq_true rfl) rfl ?_
  intro x _ X E hr
  unfold fJ1_ch
  refine V_iload_n 1 X dJ1_charAt_3b067_0 rfl rfl ?_
  refine V_aload_n 0 X dJ1_charAt_3b067_1 rfl rfl ?_
  refine V_slen X E hi dJ1_charAt_3b067_2 ?_
  refine V_calSV [.int k, .int (Int32.ofNat (lenS.getD i 0))] [] X E dJ1_charAt_3b067_3 (kJ0_ci x.2.1 z k (Int32.ofNat (lenS.getD i 0)) σ) gcJ1_9 hyJ0_checkIndex_df160 rfl ⟨by decide, by decide⟩ rfl (Nat.le_of_ble_eq_true rfl) (fun r1 s1 => ?_)
  refine V_aload_n 0 X dJ1_charAt_3b067_6 rfl rfl ?_
  refine V_iload_n 1 X dJ1_charAt_3b067_7 rfl rfl ?_
  refine V_sbald X E hi dJ1_charAt_3b067_8 ?_
  refine V_sipush (v := 255) X dJ1_charAt_3b067_9 (by decide) ?_
  refine V_iand X dJ1_charAt_3b067_12 ?_
  refine V_i2c X dJ1_charAt_3b067_13 ?_
  exact V_cretG X E hr dJ1_charAt_3b067_14
theorem kJ0_cod (l : Launch) (z : Sx) (i : Nat) (hi : i < 4) (σ : Mem) : Ct QI yJ0_coder_7d493 cJ0_coder_7d493 1 (some .byte) 0 0 l z [.ref (adK z i)] σ (some ((0 : Int32), σ)) := by
  refine Ct_of (by decide +kernel) (Nat.le_of_ble_eq_true rfl) rfl ?_
  intro x _ X E hr
  refine V_gcs X E dJ0_coder_7d493_0 wfJ0_38 ?_
  refine V_eq (κ' := if (1 : Int32) = 0 then none else some ((0 : Int32), σ)) (by rw [if_neg (by decide)]) ?_
  refine V_if_eq (tgt := 13) X dJ0_coder_7d493_3 (by decide) V_none ?_
  refine V_aload_n 0 X dJ0_coder_7d493_6 rfl rfl ?_
  refine V_scod X E hi dJ0_coder_7d493_7 wfJ0_15 ?_
  refine V_goto (tgt := 14) X dJ0_coder_7d493_10 (by decide) ?_
  exact V_nret X E hr dJ0_coder_7d493_14 (by decide)
theorem kJ0_lat (l : Launch) (z : Sx) (i : Nat) (hi : i < 4) (σ : Mem) : Ct QI yJ0_isLatin1_aae02 cJ0_isLatin1_aae02 1 (some .boolean) 0 0 l z [.ref (adK z i)] σ (some ((1 : Int32), σ)) := by
  refine Ct_of (by decide +kernel) (Nat.le_of_ble_eq_true rfl) rfl ?_
  intro x _ X E hr
  refine V_gcs X E dJ0_isLatin1_aae02_0 wfJ0_38 ?_
  refine V_eq (κ' := if (1 : Int32) = 0 then none else some ((1 : Int32), σ)) (by rw [if_neg (by decide)]) ?_
  refine V_if_eq (tgt := 17) X dJ0_isLatin1_aae02_3 (by decide) V_none ?_
  refine V_aload_n 0 X dJ0_isLatin1_aae02_6 rfl rfl ?_
  refine V_scod X E hi dJ0_isLatin1_aae02_7 wfJ0_15 ?_
  refine V_eq (κ' := if (0 : Int32) = 0 then some ((1 : Int32), σ) else none) (by rw [if_pos (by decide)]) ?_
  refine V_if_ne (tgt := 17) X dJ0_isLatin1_aae02_10 (by decide) V_none ?_
  refine V_iconst (v := 1) X dJ0_isLatin1_aae02_13 (by decide) ?_
  refine V_goto (tgt := 18) X dJ0_isLatin1_aae02_14 (by decide) ?_
  exact V_zret X E hr dJ0_isLatin1_aae02_18 (by decide)
def fJ0_len (i : Nat) (σ : Mem) : Option (Int32 × Mem) := some (Int32.ofNat (lenS.getD i 0) >>> ((0 : Int32) &&& 31), σ)
theorem kJ0_len (l : Launch) (z : Sx) (i : Nat) (hi : i < 4) (σ : Mem) : Ct QI yJ0_length_8abf5 cJ0_length_8abf5 1 (some .int) 1 20 l z [.ref (adK z i)] σ (fJ0_len i σ) := by
  refine Ct_of (by decide +kernel) (Nat.le_of_ble_eq_true rfl) rfl ?_
  intro x _ X E hr
  refine V_aload_n 0 X dJ0_length_8abf5_0 rfl rfl ?_
  refine V_sval X E hi dJ0_length_8abf5_1 wfJ0_9 ?_
  refine V_slen X E hi dJ0_length_8abf5_4 ?_
  refine V_aload_n 0 X dJ0_length_8abf5_5 rfl rfl ?_
  refine V_eq (κ' := bd (some ((0 : Int32), σ)) (fun r1 s1 => some (Int32.ofNat (lenS.getD i 0) >>> (r1 &&& 31), s1))) rfl ?_
  refine V_strI [] [.int (Int32.ofNat (lenS.getD i 0))] X E dJ0_length_8abf5_6 (kJ0_cod x.2.1 z i hi σ) hi gcJ0_335 hyJ0_coder_7d493 rfl ⟨by decide, by decide⟩ rfl (Nat.le_of_ble_eq_true rfl) (fun r1 s1 => ?_)
  refine V_ishr X dJ0_length_8abf5_9 ?_
  exact V_iret X E hr dJ0_length_8abf5_10
def fJ0_ch (i : Nat) (k : Int32) (σ : Mem) : Option (Int32 × Mem) := bd (some ((1 : Int32), σ)) (fun r1 s1 => if r1 = 0 then none else bd (fJ1_ch i k s1) (fun r2 s2 => gd (decide ((r2.toUInt32 % 65536).toInt32 = r2)) (some (r2, s2))))
theorem kJ0_ch (l : Launch) (z : Sx) (i : Nat) (hi : i < 4) (k : Int32) (σ : Mem) : Ct QI yJ0_charAt_5068e cJ0_charAt_5068e 2 (some .char) 3 64 l z [.ref (adK z i), .int k] σ (fJ0_ch i k σ) := by
  refine Ct_of (by decide +kernel) (Nat.le_of_ble_eq_true rfl) rfl ?_
  intro x _ X E hr
  unfold fJ0_ch
  refine V_aload_n 0 X dJ0_charAt_5068e_0 rfl rfl ?_
  refine V_strI [] [] X E dJ0_charAt_5068e_1 (kJ0_lat x.2.1 z i hi σ) hi gcJ0_492 hyJ0_isLatin1_aae02 rfl ⟨by decide, by decide⟩ rfl (Nat.le_of_ble_eq_true rfl) (fun r1 s1 => ?_)
  refine V_if_eq (tgt := 16) X dJ0_charAt_5068e_4 (by decide) V_none ?_
  refine V_aload_n 0 X dJ0_charAt_5068e_7 rfl rfl ?_
  refine V_sval X E hi dJ0_charAt_5068e_8 wfJ0_9 ?_
  refine V_iload_n 1 X dJ0_charAt_5068e_11 rfl rfl ?_
  refine V_calSI [.ref (adV z i), .int k] [] X E dJ0_charAt_5068e_12 (kJ1_ch x.2.1 z i hi k s1) gcJ0_495 hyJ1_charAt_3b067 rfl ⟨by decide, by decide⟩ rfl (Nat.le_of_ble_eq_true rfl) (fun r2 s2 => ?_)
  exact V_cretG X E hr dJ0_charAt_5068e_15
