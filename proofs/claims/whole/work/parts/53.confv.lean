theorem set_mid {α : Type} (pre : List α) (x y : α) (post : List α) : (pre ++ x :: post).set pre.length y = pre ++ y :: post := by
  induction pre with
  | nil => rfl
  | cons a pre ih => simp only [List.cons_append, List.length_cons, List.set_cons_succ, ih]
theorem get_mid {α : Type} (pre : List α) (x : α) (post : List α) : (pre ++ x :: post)[pre.length]? = some x := by
  rw [List.getElem?_append_right (Nat.le_refl _), Nat.sub_self]; rfl
theorem VL_astqS {x : Cx} {z : Sx} {A : Nat → Prop} {own : String} {cc : ByteArray} {nL fr lo cb sb cn sn : Nat} {Q : State → Prop} {pc : Nat} {L : List (Nat × Value)} {st : List Value} {ws ws' : va_W} {t0 a v n : Nat} {r : vw_C} {vs : List Value} {cA : ClassId} {f : Nat → Option Nat} {i : Int32} (pre post pre2 post2 : va_W) (ci : Nat) (X : XC x z A own cc nL fr lo cb sb) (hd : decode cc pc = .ok (.aastore, 1)) (hws : ws = pre ++ (a, .inl (cA, n, .inr (.inr (.inr (.inr f))))) :: post) (ht : (mty z)[t0]? = some (cA, .object r.1)) (hws2 : ws = pre2 ++ (v, .inr (ci, vs)) :: post2) (hc : classes[ci]? = some r) (hin' : vp_in i n) (hw' : pre ++ (a, .inl (cA, n, .inr (.inr (.inr (.inr (va_up f i.toNatClampNeg (some v))))))) :: post = ws') (k : VL x z A nL Q cn sn (pc + 1) L st ws') : VL x z A nL Q cn sn pc L (.ref v :: .int i :: .ref a :: st) ws := by
  subst hw'
  exact VL_astq pre.length pre2.length ci X hd (by rw [hws]; exact get_mid _ _ _) ht (by rw [hws2]; exact get_mid _ _ _) hc hin' (by rw [hws]; exact set_mid _ _ _ _) k
theorem VL_extS {x : Cx} {z : Sx} {A : Nat → Prop} {nL cn sn : Nat} {Q : State → Prop} {pc : Nat} {L : List (Nat × Value)} {st : List Value} {ws ws' : va_W} {a n : Nat} {cA : ClassId} {f g : Nat → Option Nat} (pre post : va_W) (hws : ws = pre ++ (a, .inl (cA, n, .inr (.inr (.inr (.inr f))))) :: post) (hfg : ∀ j, j < n → f j = g j) (hw' : pre ++ (a, .inl (cA, n, .inr (.inr (.inr (.inr g))))) :: post = ws') (k : VL x z A nL Q cn sn pc L st ws') : VL x z A nL Q cn sn pc L st ws := by
  subst hw'
  exact VL_ext pre.length (by rw [hws]; exact get_mid _ _ _) hfg (by rw [hws]; exact set_mid _ _ _ _) k
theorem VL_callND {x : Cx} {z : Sx} {A : Nat → Prop} {own : String} {cc : ByteArray} {nL fr lo cb sb cn sn : Nat} {Q : State → Prop} {pc : Nat} {L : List (Nat × Value)} {st : List Value} {ws : va_W} {y : MethodName} {cc' : ByteArray} {nL' fr' lo' mc ms idx a : Nat} {e0 : va_E} {wr : va_W} {PW : (Nat → Nat) → va_W} (X : XC x z A own cc nL fr lo cb sb) (hd : decode cc pc = .ok (.invokespecial idx, 3)) (hM : CtC y cc' nL' fr' lo' mc ms x.2.1 z e0 PW) (hcd : Cond.code y cc' nL' none ∈ Tg) (h4 : Cond.initialized y.cls ∈ Tg) (h5 : Cond.instanceMethod y ∈ Tg) (q9 : Nat) (hq : nestL[q9]? = some (own, idx, y, RX11)) (hyn : y.name = "<init>") (hy : y.cls ≠ "java/lang/invoke/MethodHandle" ∧ y.cls ≠ "java/lang/invoke/VarHandle" ∧ (parseMethodDescriptor y.desc).map (fun d => d.parameters.length) = some 0) (hrm : fr' + 1 ≤ fr ∧ 8 + (nL' + 11) + lo' ≤ lo) (hcat : ((Value.ref 0 :: st).map fun v => v.category).sum ≤ 8) (hc : cn + mc ≤ cb) (hs : sn + ms ≤ sb) (hws : ws = wr ++ [(a, e0)]) (k : ∀ u : Nat → Nat, VL x z A nL Q (cn + mc) (sn + ms) (pc + 3) L (.ref (u 0) :: st) (wr ++ PW u)) : VL x z A nL Q cn sn pc L (.ref a :: .ref a :: st) ws :=
  VL_callN X hd hM hcd h4 h5 q9 hq hyn hy hrm hcat hc hs hws (fun u hu => by subst hu; exact k u)
theorem VL_callD {x : Cx} {z : Sx} {A : Nat → Prop} {own : String} {cc : ByteArray} {nL fr lo cb sb cn sn : Nat} {Q : State → Prop} {pc : Nat} {L : List (Nat × Value)} {st : List Value} {ws : va_W} {y : MethodName} {cc' : ByteArray} {nL' fr' lo' mc ms idx a : Nat} {e0 : va_E} {wr : va_W} {PW : (Nat → Nat) → va_W} (X : XC x z A own cc nL fr lo cb sb) (hd : decode cc pc = .ok (.invokespecial idx, 3)) (hM : CtC y cc' nL' fr' lo' mc ms x.2.1 z e0 PW) (hcd : Cond.code y cc' nL' none ∈ Tg) (h4 : Cond.initialized y.cls ∈ Tg) (h5 : Cond.instanceMethod y ∈ Tg) (h6 : Cond.methodLink own idx y ∈ Tg) (hyn : y.name = "<init>") (hy : y.cls ≠ "java/lang/invoke/MethodHandle" ∧ y.cls ≠ "java/lang/invoke/VarHandle" ∧ (parseMethodDescriptor y.desc).map (fun d => d.parameters.length) = some 0) (hrm : fr' + 1 ≤ fr ∧ 8 + (nL' + 11) + lo' ≤ lo) (hcat : ((Value.ref 0 :: st).map fun v => v.category).sum ≤ 8) (hc : cn + mc ≤ cb) (hs : sn + ms ≤ sb) (hws : ws = wr ++ [(a, e0)]) (k : ∀ u : Nat → Nat, VL x z A nL Q (cn + mc) (sn + ms) (pc + 3) L (.ref (u 0) :: st) (wr ++ PW u)) : VL x z A nL Q cn sn pc L (.ref a :: .ref a :: st) ws :=
  VL_call X hd hM hcd h4 h5 h6 hyn hy hrm hcat hc hs hws (fun u hu => by subst hu; exact k u)
theorem VL_putFH {x : Cx} {z : Sx} {A : Nat → Prop} {own : String} {cc : ByteArray} {nL fr lo cb sb cn sn : Nat} {Q : State → Prop} {pc : Nat} {L : List (Nat × Value)} {st : List Value} {R Y : va_W} {C : String} {T : u_T} {N ci index a : Nat} {ty : Nat → FieldType} {fs fs' : List Value} {v : Value} (j : Nat) (X : XC x z A own cc nL fr lo cb sb) (hd : decode cc pc = .ok (.putfield index, 3)) (hC : CO ci C T N ty) (hj : j < N) (hw : Cond.fieldLink own index (T j).1 (T j).2.1 (T j).2.2.1 ∈ Tg) (hfin : (T j).2.2.2 = true) (hdecl : (T j).1 = own) (hn : narrow (ty j) v = v) (hft : fits (ty j) v = true) (hjl : j < fs.length) (hfs : fs.set j v = fs') (k : VL x z A nL Q cn sn (pc + 3) L st ((a, .inr (ci, fs')) :: (R ++ Y))) : VL x z A nL Q cn sn pc L (v :: .ref a :: st) (((a, .inr (ci, fs)) :: R) ++ Y) := by
  subst hfs
  exact VL_putF 0 j X hd hC rfl hj hw hfin hdecl hn hft hjl rfl k
theorem PW_9_hd (z : Sx) (u : Nat → Nat) : PW_9 z u = (u 0, .inr (9, [.ref (u 1), .int 0, .int 0, .int (-1), .ref (u 2), .ref (u 3), .ref (u 4), .ref (u 5)])) :: (PW_9 z u).tail := rfl
theorem dX11_init_0 : decode cX11_init 0 = .ok (.aload_n 0, 1) := by decide +kernel
theorem dX11_init_1 : decode cX11_init 1 = .ok (.invokespecial 1, 3) := by decide +kernel
theorem dX11_init_4 : decode cX11_init 4 = .ok (.aload_n 0, 1) := by decide +kernel
theorem dX11_init_5 : decode cX11_init 5 = .ok (.new 7, 3) := by decide +kernel
theorem dX11_init_8 : decode cX11_init 8 = .ok (.dup, 1) := by decide +kernel
theorem dX11_init_9 : decode cX11_init 9 = .ok (.invokespecial 9, 3) := by decide +kernel
theorem dX11_init_12 : decode cX11_init 12 = .ok (.putfield 10, 3) := by decide +kernel
theorem dX11_init_15 : decode cX11_init 15 = .ok (.aload_n 0, 1) := by decide +kernel
theorem dX11_init_16 : decode cX11_init 16 = .ok (.iconst 3, 1) := by decide +kernel
theorem dX11_init_17 : decode cX11_init 17 = .ok (.anewarray 7, 3) := by decide +kernel
theorem dX11_init_20 : decode cX11_init 20 = .ok (.putfield 16, 3) := by decide +kernel
theorem dX11_init_23 : decode cX11_init 23 = .ok (.iconst 0, 1) := by decide +kernel
theorem dX11_init_24 : decode cX11_init 24 = .ok (.istore_n 1, 1) := by decide +kernel
theorem dX11_init_25 : decode cX11_init 25 = .ok (.iload_n 1, 1) := by decide +kernel
theorem dX11_init_26 : decode cX11_init 26 = .ok (.iconst 3, 1) := by decide +kernel
theorem dX11_init_27 : decode cX11_init 27 = .ok (.if_icmp .ge 22, 3) := by decide +kernel
theorem dX11_init_30 : decode cX11_init 30 = .ok (.aload_n 0, 1) := by decide +kernel
theorem dX11_init_31 : decode cX11_init 31 = .ok (.getfield 16, 3) := by decide +kernel
theorem dX11_init_34 : decode cX11_init 34 = .ok (.iload_n 1, 1) := by decide +kernel
theorem dX11_init_35 : decode cX11_init 35 = .ok (.new 7, 3) := by decide +kernel
theorem dX11_init_38 : decode cX11_init 38 = .ok (.dup, 1) := by decide +kernel
theorem dX11_init_39 : decode cX11_init 39 = .ok (.invokespecial 9, 3) := by decide +kernel
theorem dX11_init_42 : decode cX11_init 42 = .ok (.aastore, 1) := by decide +kernel
theorem dX11_init_43 : decode cX11_init 43 = .ok (.iinc 1 1, 3) := by decide +kernel
theorem dX11_init_46 : decode cX11_init 46 = .ok (.goto (-21), 3) := by decide +kernel
theorem dX11_init_49 : decode cX11_init 49 = .ok (.aload_n 0, 1) := by decide +kernel
theorem dX11_init_50 : decode cX11_init 50 = .ok (.iconst 3, 1) := by decide +kernel
theorem dX11_init_51 : decode cX11_init 51 = .ok (.newarray .boolean, 2) := by decide +kernel
theorem dX11_init_53 : decode cX11_init 53 = .ok (.putfield 20, 3) := by decide +kernel
theorem dX11_init_56 : decode cX11_init 56 = .ok (.aload_n 0, 1) := by decide +kernel
theorem dX11_init_57 : decode cX11_init 57 = .ok (.new 24, 3) := by decide +kernel
theorem dX11_init_60 : decode cX11_init 60 = .ok (.dup, 1) := by decide +kernel
theorem dX11_init_61 : decode cX11_init 61 = .ok (.invokespecial 26, 3) := by decide +kernel
theorem dX11_init_64 : decode cX11_init 64 = .ok (.putfield 27, 3) := by decide +kernel
theorem dX11_init_67 : decode cX11_init 67 = .ok (.aload_n 0, 1) := by decide +kernel
theorem dX11_init_68 : decode cX11_init 68 = .ok (.new 31, 3) := by decide +kernel
theorem dX11_init_71 : decode cX11_init 71 = .ok (.dup, 1) := by decide +kernel
theorem dX11_init_72 : decode cX11_init 72 = .ok (.invokespecial 33, 3) := by decide +kernel
theorem dX11_init_75 : decode cX11_init 75 = .ok (.putfield 34, 3) := by decide +kernel
theorem dX11_init_78 : decode cX11_init 78 = .ok (.aload_n 0, 1) := by decide +kernel
theorem dX11_init_79 : decode cX11_init 79 = .ok (.new 38, 3) := by decide +kernel
theorem dX11_init_82 : decode cX11_init 82 = .ok (.dup, 1) := by decide +kernel
theorem dX11_init_83 : decode cX11_init 83 = .ok (.invokespecial 40, 3) := by decide +kernel
theorem dX11_init_86 : decode cX11_init 86 = .ok (.putfield 41, 3) := by decide +kernel
theorem dX11_init_89 : decode cX11_init 89 = .ok (.aload_n 0, 1) := by decide +kernel
theorem dX11_init_90 : decode cX11_init 90 = .ok (.new 45, 3) := by decide +kernel
theorem dX11_init_93 : decode cX11_init 93 = .ok (.dup, 1) := by decide +kernel
theorem dX11_init_94 : decode cX11_init 94 = .ok (.invokespecial 47, 3) := by decide +kernel
theorem dX11_init_97 : decode cX11_init 97 = .ok (.putfield 48, 3) := by decide +kernel
theorem dX11_init_100 : decode cX11_init 100 = .ok (.aload_n 0, 1) := by decide +kernel
theorem dX11_init_101 : decode cX11_init 101 = .ok (.new 52, 3) := by decide +kernel
theorem dX11_init_104 : decode cX11_init 104 = .ok (.dup, 1) := by decide +kernel
theorem dX11_init_105 : decode cX11_init 105 = .ok (.invokespecial 54, 3) := by decide +kernel
theorem dX11_init_108 : decode cX11_init 108 = .ok (.putfield 55, 3) := by decide +kernel
theorem dX11_init_111 : decode cX11_init 111 = .ok (.aload_n 0, 1) := by decide +kernel
theorem dX11_init_112 : decode cX11_init 112 = .ok (.new 59, 3) := by decide +kernel
theorem dX11_init_115 : decode cX11_init 115 = .ok (.dup, 1) := by decide +kernel
theorem dX11_init_116 : decode cX11_init 116 = .ok (.invokespecial 61, 3) := by decide +kernel
theorem dX11_init_119 : decode cX11_init 119 = .ok (.putfield 62, 3) := by decide +kernel
theorem dX11_init_122 : decode cX11_init 122 = .ok (.aload_n 0, 1) := by decide +kernel
theorem dX11_init_123 : decode cX11_init 123 = .ok (.new 66, 3) := by decide +kernel
theorem dX11_init_126 : decode cX11_init 126 = .ok (.dup, 1) := by decide +kernel
theorem dX11_init_127 : decode cX11_init 127 = .ok (.invokespecial 68, 3) := by decide +kernel
theorem dX11_init_130 : decode cX11_init 130 = .ok (.putfield 69, 3) := by decide +kernel
theorem dX11_init_133 : decode cX11_init 133 = .ok (.return_, 1) := by decide +kernel
theorem oiX11_1 : Cond.methodLink RX11 1 objectInit ∈ Tg := (tg_in (List.mem_append_right _ (List.mem_of_getElem? (i := 28) (by decide +kernel))) rfl)
theorem clX11_7 : Cond.classLink RX11 7 RX9 ∈ Tg := (tg_in (List.mem_append_right _ (List.mem_of_getElem? (i := 31) (by decide +kernel))) rfl)
theorem inst9 : Cond.instantiable RX9 8 ∈ Tg := (tg_in (List.mem_append_right _ (List.mem_of_getElem? (i := 32) (by decide +kernel))) rfl)
theorem ini9 : Cond.initialized RX9 ∈ Tg := (tg_in (List.mem_append_right _ (List.mem_of_getElem? (i := 2) (by decide +kernel))) rfl)
theorem cdi9 : Cond.code yX9_init cX9_init 2 none ∈ Tg := (tg_in (List.mem_append_right _ (List.mem_of_getElem? (i := 35) (by decide +kernel))) rfl)
theorem imi9 : Cond.instanceMethod yX9_init ∈ Tg := (tg_in (List.mem_append_right _ (List.mem_of_getElem? (i := 34) (by decide +kernel))) rfl)
theorem mliX11_9 : Cond.methodLink RX11 9 yX9_init ∈ Tg := (tg_in (List.mem_append_right _ (List.mem_of_getElem? (i := 33) (by decide +kernel))) rfl)
theorem clX11_24 : Cond.classLink RX11 24 RX6 ∈ Tg := (tg_in (List.mem_append_right _ (List.mem_of_getElem? (i := 193) (by decide +kernel))) rfl)
theorem inst6 : Cond.instantiable RX6 12 ∈ Tg := (tg_in (List.mem_append_right _ (List.mem_of_getElem? (i := 194) (by decide +kernel))) rfl)
theorem ini6 : Cond.initialized RX6 ∈ Tg := (tg_in (List.mem_append_right _ (List.mem_of_getElem? (i := 6) (by decide +kernel))) rfl)
theorem cdi6 : Cond.code yX6_init cX6_init 1 none ∈ Tg := (tg_in (List.mem_append_right _ (List.mem_of_getElem? (i := 197) (by decide +kernel))) rfl)
theorem imi6 : Cond.instanceMethod yX6_init ∈ Tg := (tg_in (List.mem_append_right _ (List.mem_of_getElem? (i := 196) (by decide +kernel))) rfl)
theorem clX11_31 : Cond.classLink RX11 31 RX2 ∈ Tg := (tg_in (List.mem_append_right _ (List.mem_of_getElem? (i := 248) (by decide +kernel))) rfl)
theorem clX11_38 : Cond.classLink RX11 38 RX1 ∈ Tg := (tg_in (List.mem_append_right _ (List.mem_of_getElem? (i := 296) (by decide +kernel))) rfl)
theorem inst1 : Cond.instantiable RX1 8 ∈ Tg := (tg_in (List.mem_append_right _ (List.mem_of_getElem? (i := 297) (by decide +kernel))) rfl)
theorem ini1 : Cond.initialized RX1 ∈ Tg := (tg_in (List.mem_append_right _ (List.mem_of_getElem? (i := 8) (by decide +kernel))) rfl)
theorem cdi1 : Cond.code yX1_init cX1_init 1 none ∈ Tg := (tg_in (List.mem_append_right _ (List.mem_of_getElem? (i := 300) (by decide +kernel))) rfl)
theorem imi1 : Cond.instanceMethod yX1_init ∈ Tg := (tg_in (List.mem_append_right _ (List.mem_of_getElem? (i := 299) (by decide +kernel))) rfl)
theorem clX11_45 : Cond.classLink RX11 45 RX10 ∈ Tg := (tg_in (List.mem_append_right _ (List.mem_of_getElem? (i := 331) (by decide +kernel))) rfl)
theorem inst10 : Cond.instantiable RX10 3 ∈ Tg := (tg_in (List.mem_append_right _ (List.mem_of_getElem? (i := 332) (by decide +kernel))) rfl)
theorem ini10 : Cond.initialized RX10 ∈ Tg := (tg_in (List.mem_append_right _ (List.mem_of_getElem? (i := 9) (by decide +kernel))) rfl)
theorem cdi10 : Cond.code yX10_init cX10_init 1 none ∈ Tg := (tg_in (List.mem_append_right _ (List.mem_of_getElem? (i := 335) (by decide +kernel))) rfl)
theorem imi10 : Cond.instanceMethod yX10_init ∈ Tg := (tg_in (List.mem_append_right _ (List.mem_of_getElem? (i := 334) (by decide +kernel))) rfl)
theorem clX11_52 : Cond.classLink RX11 52 RX7 ∈ Tg := (tg_in (List.mem_append_right _ (List.mem_of_getElem? (i := 350) (by decide +kernel))) rfl)
theorem inst7 : Cond.instantiable RX7 3 ∈ Tg := (tg_in (List.mem_append_right _ (List.mem_of_getElem? (i := 351) (by decide +kernel))) rfl)
theorem ini7 : Cond.initialized RX7 ∈ Tg := (tg_in (List.mem_append_right _ (List.mem_of_getElem? (i := 10) (by decide +kernel))) rfl)
theorem cdi7 : Cond.code yX7_init cX7_init 1 none ∈ Tg := (tg_in (List.mem_append_right _ (List.mem_of_getElem? (i := 354) (by decide +kernel))) rfl)
theorem imi7 : Cond.instanceMethod yX7_init ∈ Tg := (tg_in (List.mem_append_right _ (List.mem_of_getElem? (i := 353) (by decide +kernel))) rfl)
theorem clX11_59 : Cond.classLink RX11 59 RX3 ∈ Tg := (tg_in (List.mem_append_right _ (List.mem_of_getElem? (i := 369) (by decide +kernel))) rfl)
theorem inst3 : Cond.instantiable RX3 2 ∈ Tg := (tg_in (List.mem_append_right _ (List.mem_of_getElem? (i := 370) (by decide +kernel))) rfl)
theorem ini3 : Cond.initialized RX3 ∈ Tg := (tg_in (List.mem_append_right _ (List.mem_of_getElem? (i := 11) (by decide +kernel))) rfl)
theorem cdi3 : Cond.code yX3_init cX3_init 1 none ∈ Tg := (tg_in (List.mem_append_right _ (List.mem_of_getElem? (i := 373) (by decide +kernel))) rfl)
theorem imi3 : Cond.instanceMethod yX3_init ∈ Tg := (tg_in (List.mem_append_right _ (List.mem_of_getElem? (i := 372) (by decide +kernel))) rfl)
theorem clX11_66 : Cond.classLink RX11 66 RX5 ∈ Tg := (tg_in (List.mem_append_right _ (List.mem_of_getElem? (i := 385) (by decide +kernel))) rfl)
theorem inst5 : Cond.instantiable RX5 6 ∈ Tg := (tg_in (List.mem_append_right _ (List.mem_of_getElem? (i := 386) (by decide +kernel))) rfl)
theorem ini5 : Cond.initialized RX5 ∈ Tg := (tg_in (List.mem_append_right _ (List.mem_of_getElem? (i := 12) (by decide +kernel))) rfl)
theorem cdi5 : Cond.code yX5_init cX5_init 1 none ∈ Tg := (tg_in (List.mem_append_right _ (List.mem_of_getElem? (i := 389) (by decide +kernel))) rfl)
theorem imi5 : Cond.instanceMethod yX5_init ∈ Tg := (tg_in (List.mem_append_right _ (List.mem_of_getElem? (i := 388) (by decide +kernel))) rfl)
def PW_11 (z : Sx) (u : Nat → Nat) : va_W := ((u 0, .inr (11, [.ref (u 1), .ref (u 43), .ref (u 170), .ref (u 171), .ref (u 192), .ref (u 205), .ref (u 220), .ref (u 236), .ref (u 251), .ref (u 266)])) :: ((((((((((((([] ++ PW_9 z (fun i => u (1 + i))) ++ [(u 43, .inl (z.2.1 63, 3, .inr (.inr (.inr (.inr (fun j => some ([u 44, u 86, u 128].getD j 0)))))))]) ++ PW_9 z (fun i => u (44 + i))) ++ PW_9 z (fun i => u (86 + i))) ++ PW_9 z (fun i => u (128 + i))) ++ [(u 170, .inl (z.2.1 51, 3, .inl (fun _ => 0)))]) ++ PW_6 z (fun i => u (171 + i))) ++ PW_2 z (fun i => u (192 + i))) ++ PW_1 z (fun i => u (205 + i))) ++ PW_10 z (fun i => u (220 + i))) ++ PW_7 z (fun i => u (236 + i))) ++ PW_3 z (fun i => u (251 + i))) ++ PW_5 z (fun i => u (266 + i))))
set_option maxRecDepth 100000 in
set_option maxHeartbeats 4000000 in
theorem kcX11 (l : Launch) (z : Sx) : CtC yX11_init cX11_init 2 4 86 269 5419 l z (.inr (11, [.null, .null, .null, .null, .null, .null, .null, .null, .null, .null])) (PW_11 z) := by
  refine CtC_of (by decide +kernel) (by decide) rfl ?_
  intro x h _ X
  refine VL_aload_n 0 X dX11_init_0 rfl rfl ?_
  refine VL_obj X dX11_init_1 oiX11_1 oiI oiC (by decide) (Nat.le_of_ble_eq_true rfl) ?_
  refine VL_aload_n 0 X dX11_init_4 rfl rfl ?_
  refine VL_new (ci := 9) (fs := [.null, .int 0, .int 0, .int 0, .null, .null, .null, .null]) X dX11_init_5 co9 clX11_7 inst9 ini9 (by decide +kernel) (by decide) (by decide) (fun q1 => ?_)
  refine VL_dup X dX11_init_8 rfl ?_
  refine VL_callD X dX11_init_9 (kcX9 x.2.1 z) cdi9 ini9 imi9 mliX11_9 rfl (by decide +kernel) ⟨by decide, by decide⟩ (Nat.le_of_ble_eq_true rfl) (by decide) (by decide) rfl (fun u2 => ?_)
  refine VL_putFH (fs' := [.ref (u2 0), .null, .null, .null, .null, .null, .null, .null, .null, .null]) 0 X dX11_init_12 co11 (by decide) wfX11_10 rfl rfl rfl rfl (Nat.le_of_ble_eq_true rfl) rfl ?_
  refine VL_aload_n 0 X dX11_init_15 rfl rfl ?_
  refine VL_iconst (v := 3) X dX11_init_16 (by decide) ?_
  refine VL_newq (t0 := 7) (c0 := z.2.1 63) (N' := 3) X dX11_init_17 clX11_7 (fun _ h9 => h9.2.2.2.2) (by decide) (by decide) (by decide) rfl (by decide) (by decide) (fun q3 => ?_)
  refine VL_putFH (fs' := [.ref (u2 0), .ref q3, .null, .null, .null, .null, .null, .null, .null, .null]) 1 X dX11_init_20 co11 (by decide) wfX11_16 rfl rfl rfl rfl (Nat.le_of_ble_eq_true rfl) rfl ?_
  refine VL_iconst (v := 0) X dX11_init_23 (by decide) ?_
  refine VL_istore_n (L' := [(1, .int 0), (0, .ref h)]) X dX11_init_24 rfl (by decide) rfl ?_
  refine VL_iload_n 0 X dX11_init_25 rfl rfl ?_
  refine VL_iconst (v := 3) X dX11_init_26 (by decide) ?_
  refine VL_geF X dX11_init_27 49 (by decide) (by decide) ?_
  refine VL_aload_n 1 X dX11_init_30 rfl rfl ?_
  refine VL_getR 0 1 X dX11_init_31 co11 rfl (by decide) wfX11_16 rfl ?_
  refine VL_iload_n 0 X dX11_init_34 rfl rfl ?_
  refine VL_new (ci := 9) (fs := [.null, .int 0, .int 0, .int 0, .null, .null, .null, .null]) X dX11_init_35 co9 clX11_7 inst9 ini9 (by decide +kernel) (by decide) (by decide) (fun q4 => ?_)
  refine VL_dup X dX11_init_38 rfl ?_
  refine VL_callD X dX11_init_39 (kcX9 x.2.1 z) cdi9 ini9 imi9 mliX11_9 rfl (by decide +kernel) ⟨by decide, by decide⟩ (Nat.le_of_ble_eq_true rfl) (by decide) (by decide) rfl (fun u5 => ?_)
  refine VL_astqS (n := 3) (f := (fun _ => none)) (t0 := 7) (r := (RX9, TX9, 8)) (ws' := ((h, .inr (11, [.ref (u2 0), .ref q3, .null, .null, .null, .null, .null, .null, .null, .null])) :: ((([] ++ PW_9 z u2) ++ [(q3, .inl (z.2.1 63, 3, .inr (.inr (.inr (.inr (va_up (fun _ => none) (0 : Int32).toNatClampNeg (some (u5 0))))))))]) ++ PW_9 z u5))) ((h, .inr (11, [.ref (u2 0), .ref q3, .null, .null, .null, .null, .null, .null, .null, .null])) :: ([] ++ PW_9 z u2)) (([] ++ PW_9 z u5)) ((h, .inr (11, [.ref (u2 0), .ref q3, .null, .null, .null, .null, .null, .null, .null, .null])) :: (([] ++ PW_9 z u2) ++ [(q3, .inl (z.2.1 63, 3, .inr (.inr (.inr (.inr (fun _ => none))))))])) (PW_9 z u5).tail 9 X dX11_init_42 (by simp only [List.cons_append, List.append_assoc, List.nil_append]) rfl (congrArg (fun y_ => ((h, .inr (11, [.ref (u2 0), .ref q3, .null, .null, .null, .null, .null, .null, .null, .null])) :: (([] ++ PW_9 z u2) ++ [(q3, .inl (z.2.1 63, 3, .inr (.inr (.inr (.inr (fun _ => none))))))])) ++ y_) (PW_9_hd z u5)) rfl (by unfold vp_in; decide) (by simp only [List.cons_append, List.append_assoc, List.nil_append]) ?_
  refine VL_iinc (v := 1) (L' := [(1, .int 1), (0, .ref h)]) 0 X dX11_init_43 rfl (by decide) (by decide) rfl ?_
  refine VL_goto (tgt := 25) X dX11_init_46 (by decide) ?_
  refine VL_iload_n 0 X dX11_init_25 rfl rfl ?_
  refine VL_iconst (v := 3) X dX11_init_26 (by decide) ?_
  refine VL_geF X dX11_init_27 49 (by decide) (by decide) ?_
  refine VL_aload_n 1 X dX11_init_30 rfl rfl ?_
  refine VL_getR 0 1 X dX11_init_31 co11 rfl (by decide) wfX11_16 rfl ?_
  refine VL_iload_n 0 X dX11_init_34 rfl rfl ?_
  refine VL_new (ci := 9) (fs := [.null, .int 0, .int 0, .int 0, .null, .null, .null, .null]) X dX11_init_35 co9 clX11_7 inst9 ini9 (by decide +kernel) (by decide) (by decide) (fun q6 => ?_)
  refine VL_dup X dX11_init_38 rfl ?_
  refine VL_callD X dX11_init_39 (kcX9 x.2.1 z) cdi9 ini9 imi9 mliX11_9 rfl (by decide +kernel) ⟨by decide, by decide⟩ (Nat.le_of_ble_eq_true rfl) (by decide) (by decide) rfl (fun u7 => ?_)
  refine VL_astqS (n := 3) (f := (va_up (fun _ => none) (0 : Int32).toNatClampNeg (some (u5 0)))) (t0 := 7) (r := (RX9, TX9, 8)) (ws' := ((h, .inr (11, [.ref (u2 0), .ref q3, .null, .null, .null, .null, .null, .null, .null, .null])) :: (((([] ++ PW_9 z u2) ++ [(q3, .inl (z.2.1 63, 3, .inr (.inr (.inr (.inr (va_up (va_up (fun _ => none) (0 : Int32).toNatClampNeg (some (u5 0))) (1 : Int32).toNatClampNeg (some (u7 0))))))))]) ++ PW_9 z u5) ++ PW_9 z u7))) ((h, .inr (11, [.ref (u2 0), .ref q3, .null, .null, .null, .null, .null, .null, .null, .null])) :: ([] ++ PW_9 z u2)) ((([] ++ PW_9 z u5) ++ PW_9 z u7)) ((h, .inr (11, [.ref (u2 0), .ref q3, .null, .null, .null, .null, .null, .null, .null, .null])) :: ((([] ++ PW_9 z u2) ++ [(q3, .inl (z.2.1 63, 3, .inr (.inr (.inr (.inr (va_up (fun _ => none) (0 : Int32).toNatClampNeg (some (u5 0))))))))]) ++ PW_9 z u5)) (PW_9 z u7).tail 9 X dX11_init_42 (by simp only [List.cons_append, List.append_assoc, List.nil_append]) rfl (congrArg (fun y_ => ((h, .inr (11, [.ref (u2 0), .ref q3, .null, .null, .null, .null, .null, .null, .null, .null])) :: ((([] ++ PW_9 z u2) ++ [(q3, .inl (z.2.1 63, 3, .inr (.inr (.inr (.inr (va_up (fun _ => none) (0 : Int32).toNatClampNeg (some (u5 0))))))))]) ++ PW_9 z u5)) ++ y_) (PW_9_hd z u7)) rfl (by unfold vp_in; decide) (by simp only [List.cons_append, List.append_assoc, List.nil_append]) ?_
  refine VL_iinc (v := 2) (L' := [(1, .int 2), (0, .ref h)]) 0 X dX11_init_43 rfl (by decide) (by decide) rfl ?_
  refine VL_goto (tgt := 25) X dX11_init_46 (by decide) ?_
  refine VL_iload_n 0 X dX11_init_25 rfl rfl ?_
  refine VL_iconst (v := 3) X dX11_init_26 (by decide) ?_
  refine VL_geF X dX11_init_27 49 (by decide) (by decide) ?_
  refine VL_aload_n 1 X dX11_init_30 rfl rfl ?_
  refine VL_getR 0 1 X dX11_init_31 co11 rfl (by decide) wfX11_16 rfl ?_
  refine VL_iload_n 0 X dX11_init_34 rfl rfl ?_
  refine VL_new (ci := 9) (fs := [.null, .int 0, .int 0, .int 0, .null, .null, .null, .null]) X dX11_init_35 co9 clX11_7 inst9 ini9 (by decide +kernel) (by decide) (by decide) (fun q8 => ?_)
  refine VL_dup X dX11_init_38 rfl ?_
  refine VL_callD X dX11_init_39 (kcX9 x.2.1 z) cdi9 ini9 imi9 mliX11_9 rfl (by decide +kernel) ⟨by decide, by decide⟩ (Nat.le_of_ble_eq_true rfl) (by decide) (by decide) rfl (fun u9 => ?_)
  refine VL_astqS (n := 3) (f := (va_up (va_up (fun _ => none) (0 : Int32).toNatClampNeg (some (u5 0))) (1 : Int32).toNatClampNeg (some (u7 0)))) (t0 := 7) (r := (RX9, TX9, 8)) (ws' := ((h, .inr (11, [.ref (u2 0), .ref q3, .null, .null, .null, .null, .null, .null, .null, .null])) :: ((((([] ++ PW_9 z u2) ++ [(q3, .inl (z.2.1 63, 3, .inr (.inr (.inr (.inr (va_up (va_up (va_up (fun _ => none) (0 : Int32).toNatClampNeg (some (u5 0))) (1 : Int32).toNatClampNeg (some (u7 0))) (2 : Int32).toNatClampNeg (some (u9 0))))))))]) ++ PW_9 z u5) ++ PW_9 z u7) ++ PW_9 z u9))) ((h, .inr (11, [.ref (u2 0), .ref q3, .null, .null, .null, .null, .null, .null, .null, .null])) :: ([] ++ PW_9 z u2)) (((([] ++ PW_9 z u5) ++ PW_9 z u7) ++ PW_9 z u9)) ((h, .inr (11, [.ref (u2 0), .ref q3, .null, .null, .null, .null, .null, .null, .null, .null])) :: (((([] ++ PW_9 z u2) ++ [(q3, .inl (z.2.1 63, 3, .inr (.inr (.inr (.inr (va_up (va_up (fun _ => none) (0 : Int32).toNatClampNeg (some (u5 0))) (1 : Int32).toNatClampNeg (some (u7 0))))))))]) ++ PW_9 z u5) ++ PW_9 z u7)) (PW_9 z u9).tail 9 X dX11_init_42 (by simp only [List.cons_append, List.append_assoc, List.nil_append]) rfl (congrArg (fun y_ => ((h, .inr (11, [.ref (u2 0), .ref q3, .null, .null, .null, .null, .null, .null, .null, .null])) :: (((([] ++ PW_9 z u2) ++ [(q3, .inl (z.2.1 63, 3, .inr (.inr (.inr (.inr (va_up (va_up (fun _ => none) (0 : Int32).toNatClampNeg (some (u5 0))) (1 : Int32).toNatClampNeg (some (u7 0))))))))]) ++ PW_9 z u5) ++ PW_9 z u7)) ++ y_) (PW_9_hd z u9)) rfl (by unfold vp_in; decide) (by simp only [List.cons_append, List.append_assoc, List.nil_append]) ?_
  refine VL_extS (a := q3) (cA := z.2.1 63) (n := 3) (f := (va_up (va_up (va_up (fun _ => none) (0 : Int32).toNatClampNeg (some (u5 0))) (1 : Int32).toNatClampNeg (some (u7 0))) (2 : Int32).toNatClampNeg (some (u9 0)))) (g := (fun j => some ([(u5 0), (u7 0), (u9 0)].getD j 0))) (ws' := ((h, .inr (11, [.ref (u2 0), .ref q3, .null, .null, .null, .null, .null, .null, .null, .null])) :: ((((([] ++ PW_9 z u2) ++ [(q3, .inl (z.2.1 63, 3, .inr (.inr (.inr (.inr (fun j => some ([(u5 0), (u7 0), (u9 0)].getD j 0)))))))]) ++ PW_9 z u5) ++ PW_9 z u7) ++ PW_9 z u9))) ((h, .inr (11, [.ref (u2 0), .ref q3, .null, .null, .null, .null, .null, .null, .null, .null])) :: ([] ++ PW_9 z u2)) (((([] ++ PW_9 z u5) ++ PW_9 z u7) ++ PW_9 z u9)) (by simp only [List.cons_append, List.append_assoc, List.nil_append]) (fun j hj => by rcases (show j = 0 ∨ j = 1 ∨ j = 2 by omega) with rfl | rfl | rfl <;> rfl) (by simp only [List.cons_append, List.append_assoc, List.nil_append]) ?_
  refine VL_iinc (v := 3) (L' := [(1, .int 3), (0, .ref h)]) 0 X dX11_init_43 rfl (by decide) (by decide) rfl ?_
  refine VL_goto (tgt := 25) X dX11_init_46 (by decide) ?_
  refine VL_iload_n 0 X dX11_init_25 rfl rfl ?_
  refine VL_iconst (v := 3) X dX11_init_26 (by decide) ?_
  refine VL_geT (tgt := 49) X dX11_init_27 (by decide) (by decide) ?_
  refine VL_aload_n 1 X dX11_init_49 rfl rfl ?_
  refine VL_iconst (v := 3) X dX11_init_50 (by decide) ?_
  refine VL_newa (t0 := 1) (c0 := z.2.1 51) (a0 := (3, .inl (fun _ => 0))) X dX11_init_51 at_boolean rfl (fun _ => rfl) (by decide) (by decide) (by decide) rfl (by decide) (by decide) (fun q10 => ?_)
  refine VL_putFH (fs' := [.ref (u2 0), .ref q3, .ref q10, .null, .null, .null, .null, .null, .null, .null]) 2 X dX11_init_53 co11 (by decide) wfX11_20 rfl rfl rfl rfl (Nat.le_of_ble_eq_true rfl) rfl ?_
  refine VL_aload_n 1 X dX11_init_56 rfl rfl ?_
  refine VL_new (ci := 6) (fs := [.null, .null, .null, .int 0, .int 0, .null, .int 0, .int 0, .int 0, .int 0, .int 0, .null]) X dX11_init_57 co6 clX11_24 inst6 ini6 (by decide +kernel) (by decide) (by decide) (fun q11 => ?_)
  refine VL_dup X dX11_init_60 rfl ?_
  refine VL_callND X dX11_init_61 (kcX6 x.2.1 z) cdi6 ini6 imi6 3 rfl rfl (by decide +kernel) ⟨by decide, by decide⟩ (Nat.le_of_ble_eq_true rfl) (by decide) (by decide) rfl (fun u12 => ?_)
  refine VL_putFH (fs' := [.ref (u2 0), .ref q3, .ref q10, .ref (u12 0), .null, .null, .null, .null, .null, .null]) 3 X dX11_init_64 co11 (by decide) wfX11_27 rfl rfl rfl rfl (Nat.le_of_ble_eq_true rfl) rfl ?_
  refine VL_aload_n 1 X dX11_init_67 rfl rfl ?_
  refine VL_new (ci := 2) (fs := [.null, .null, .null, .null, .int 0, .int 0, .int 0]) X dX11_init_68 co2 clX11_31 inst2 ini2 (by decide +kernel) (by decide) (by decide) (fun q13 => ?_)
  refine VL_dup X dX11_init_71 rfl ?_
  refine VL_callND X dX11_init_72 (kcX2 x.2.1 z) cdi2 ini2 imi2 7 rfl rfl (by decide +kernel) ⟨by decide, by decide⟩ (Nat.le_of_ble_eq_true rfl) (by decide) (by decide) rfl (fun u14 => ?_)
  refine VL_putFH (fs' := [.ref (u2 0), .ref q3, .ref q10, .ref (u12 0), .ref (u14 0), .null, .null, .null, .null, .null]) 4 X dX11_init_75 co11 (by decide) wfX11_34 rfl rfl rfl rfl (Nat.le_of_ble_eq_true rfl) rfl ?_
  refine VL_aload_n 1 X dX11_init_78 rfl rfl ?_
  refine VL_new (ci := 1) (fs := [.null, .int 0, .int 0, .int 0, .int 0, .int 0, .int 0, .null]) X dX11_init_79 co1 clX11_38 inst1 ini1 (by decide +kernel) (by decide) (by decide) (fun q15 => ?_)
  refine VL_dup X dX11_init_82 rfl ?_
  refine VL_callND X dX11_init_83 (kcX1 x.2.1 z) cdi1 ini1 imi1 9 rfl rfl (by decide +kernel) ⟨by decide, by decide⟩ (Nat.le_of_ble_eq_true rfl) (by decide) (by decide) rfl (fun u16 => ?_)
  refine VL_putFH (fs' := [.ref (u2 0), .ref q3, .ref q10, .ref (u12 0), .ref (u14 0), .ref (u16 0), .null, .null, .null, .null]) 5 X dX11_init_86 co11 (by decide) wfX11_41 rfl rfl rfl rfl (Nat.le_of_ble_eq_true rfl) rfl ?_
  refine VL_aload_n 1 X dX11_init_89 rfl rfl ?_
  refine VL_new (ci := 10) (fs := [.null, .null, .null]) X dX11_init_90 co10 clX11_45 inst10 ini10 (by decide +kernel) (by decide) (by decide) (fun q17 => ?_)
  refine VL_dup X dX11_init_93 rfl ?_
  refine VL_callND X dX11_init_94 (kcX10 x.2.1 z) cdi10 ini10 imi10 11 rfl rfl (by decide +kernel) ⟨by decide, by decide⟩ (Nat.le_of_ble_eq_true rfl) (by decide) (by decide) rfl (fun u18 => ?_)
  refine VL_putFH (fs' := [.ref (u2 0), .ref q3, .ref q10, .ref (u12 0), .ref (u14 0), .ref (u16 0), .ref (u18 0), .null, .null, .null]) 6 X dX11_init_97 co11 (by decide) wfX11_48 rfl rfl rfl rfl (Nat.le_of_ble_eq_true rfl) rfl ?_
  refine VL_aload_n 1 X dX11_init_100 rfl rfl ?_
  refine VL_new (ci := 7) (fs := [.null, .null, .int 0]) X dX11_init_101 co7 clX11_52 inst7 ini7 (by decide +kernel) (by decide) (by decide) (fun q19 => ?_)
  refine VL_dup X dX11_init_104 rfl ?_
  refine VL_callND X dX11_init_105 (kcX7 x.2.1 z) cdi7 ini7 imi7 13 rfl rfl (by decide +kernel) ⟨by decide, by decide⟩ (Nat.le_of_ble_eq_true rfl) (by decide) (by decide) rfl (fun u20 => ?_)
  refine VL_putFH (fs' := [.ref (u2 0), .ref q3, .ref q10, .ref (u12 0), .ref (u14 0), .ref (u16 0), .ref (u18 0), .ref (u20 0), .null, .null]) 7 X dX11_init_108 co11 (by decide) wfX11_55 rfl rfl rfl rfl (Nat.le_of_ble_eq_true rfl) rfl ?_
  refine VL_aload_n 1 X dX11_init_111 rfl rfl ?_
  refine VL_new (ci := 3) (fs := [.null, .null]) X dX11_init_112 co3 clX11_59 inst3 ini3 (by decide +kernel) (by decide) (by decide) (fun q21 => ?_)
  refine VL_dup X dX11_init_115 rfl ?_
  refine VL_callND X dX11_init_116 (kcX3 x.2.1 z) cdi3 ini3 imi3 15 rfl rfl (by decide +kernel) ⟨by decide, by decide⟩ (Nat.le_of_ble_eq_true rfl) (by decide) (by decide) rfl (fun u22 => ?_)
  refine VL_putFH (fs' := [.ref (u2 0), .ref q3, .ref q10, .ref (u12 0), .ref (u14 0), .ref (u16 0), .ref (u18 0), .ref (u20 0), .ref (u22 0), .null]) 8 X dX11_init_119 co11 (by decide) wfX11_62 rfl rfl rfl rfl (Nat.le_of_ble_eq_true rfl) rfl ?_
  refine VL_aload_n 1 X dX11_init_122 rfl rfl ?_
  refine VL_new (ci := 5) (fs := [.null, .null, .null, .int 0, .int 0, .int 0]) X dX11_init_123 co5 clX11_66 inst5 ini5 (by decide +kernel) (by decide) (by decide) (fun q23 => ?_)
  refine VL_dup X dX11_init_126 rfl ?_
  refine VL_callND X dX11_init_127 (kcX5 x.2.1 z) cdi5 ini5 imi5 17 rfl rfl (by decide +kernel) ⟨by decide, by decide⟩ (Nat.le_of_ble_eq_true rfl) (by decide) (by decide) rfl (fun u24 => ?_)
  refine VL_putFH (fs' := [.ref (u2 0), .ref q3, .ref q10, .ref (u12 0), .ref (u14 0), .ref (u16 0), .ref (u18 0), .ref (u20 0), .ref (u22 0), .ref (u24 0)]) 9 X dX11_init_130 co11 (by decide) wfX11_69 rfl rfl rfl rfl (Nat.le_of_ble_eq_true rfl) rfl ?_
  obtain ⟨uu, huu⟩ : ∃ uu : Nat → Nat, ∀ i, uu i = (if i < 1 then h else if i < 43 then u2 (i - 1) else if i < 44 then q3 else if i < 86 then u5 (i - 44) else if i < 128 then u7 (i - 86) else if i < 170 then u9 (i - 128) else if i < 171 then q10 else if i < 192 then u12 (i - 171) else if i < 205 then u14 (i - 192) else if i < 220 then u16 (i - 205) else if i < 236 then u18 (i - 220) else if i < 251 then u20 (i - 236) else if i < 266 then u22 (i - 251) else if i < 270 then u24 (i - 266) else 0) := ⟨fun i => if i < 1 then h else if i < 43 then u2 (i - 1) else if i < 44 then q3 else if i < 86 then u5 (i - 44) else if i < 128 then u7 (i - 86) else if i < 170 then u9 (i - 128) else if i < 171 then q10 else if i < 192 then u12 (i - 171) else if i < 205 then u14 (i - 192) else if i < 220 then u16 (i - 205) else if i < 236 then u18 (i - 220) else if i < 251 then u20 (i - 236) else if i < 266 then u22 (i - 251) else if i < 270 then u24 (i - 266) else 0, fun _ => rfl⟩
  have e0 : uu 0 = h := huu 0
  have e1 : ∀ i, i < 42 → uu (1 + i) = u2 i := fun i hi => by rw [huu]; rw [if_neg (by omega)]; rw [if_pos (by omega)]; congr 1; omega
  have e43 : uu 43 = q3 := huu 43
  have e44 : ∀ i, i < 42 → uu (44 + i) = u5 i := fun i hi => by rw [huu]; rw [if_neg (by omega)]; rw [if_neg (by omega)]; rw [if_neg (by omega)]; rw [if_pos (by omega)]; congr 1; omega
  have e86 : ∀ i, i < 42 → uu (86 + i) = u7 i := fun i hi => by rw [huu]; rw [if_neg (by omega)]; rw [if_neg (by omega)]; rw [if_neg (by omega)]; rw [if_neg (by omega)]; rw [if_pos (by omega)]; congr 1; omega
  have e128 : ∀ i, i < 42 → uu (128 + i) = u9 i := fun i hi => by rw [huu]; rw [if_neg (by omega)]; rw [if_neg (by omega)]; rw [if_neg (by omega)]; rw [if_neg (by omega)]; rw [if_neg (by omega)]; rw [if_pos (by omega)]; congr 1; omega
  have e170 : uu 170 = q10 := huu 170
  have e171 : ∀ i, i < 21 → uu (171 + i) = u12 i := fun i hi => by rw [huu]; rw [if_neg (by omega)]; rw [if_neg (by omega)]; rw [if_neg (by omega)]; rw [if_neg (by omega)]; rw [if_neg (by omega)]; rw [if_neg (by omega)]; rw [if_neg (by omega)]; rw [if_pos (by omega)]; congr 1; omega
  have e192 : ∀ i, i < 13 → uu (192 + i) = u14 i := fun i hi => by rw [huu]; rw [if_neg (by omega)]; rw [if_neg (by omega)]; rw [if_neg (by omega)]; rw [if_neg (by omega)]; rw [if_neg (by omega)]; rw [if_neg (by omega)]; rw [if_neg (by omega)]; rw [if_neg (by omega)]; rw [if_pos (by omega)]; congr 1; omega
  have e205 : ∀ i, i < 15 → uu (205 + i) = u16 i := fun i hi => by rw [huu]; rw [if_neg (by omega)]; rw [if_neg (by omega)]; rw [if_neg (by omega)]; rw [if_neg (by omega)]; rw [if_neg (by omega)]; rw [if_neg (by omega)]; rw [if_neg (by omega)]; rw [if_neg (by omega)]; rw [if_neg (by omega)]; rw [if_pos (by omega)]; congr 1; omega
  have e220 : ∀ i, i < 16 → uu (220 + i) = u18 i := fun i hi => by rw [huu]; rw [if_neg (by omega)]; rw [if_neg (by omega)]; rw [if_neg (by omega)]; rw [if_neg (by omega)]; rw [if_neg (by omega)]; rw [if_neg (by omega)]; rw [if_neg (by omega)]; rw [if_neg (by omega)]; rw [if_neg (by omega)]; rw [if_neg (by omega)]; rw [if_pos (by omega)]; congr 1; omega
  have e236 : ∀ i, i < 15 → uu (236 + i) = u20 i := fun i hi => by rw [huu]; rw [if_neg (by omega)]; rw [if_neg (by omega)]; rw [if_neg (by omega)]; rw [if_neg (by omega)]; rw [if_neg (by omega)]; rw [if_neg (by omega)]; rw [if_neg (by omega)]; rw [if_neg (by omega)]; rw [if_neg (by omega)]; rw [if_neg (by omega)]; rw [if_neg (by omega)]; rw [if_pos (by omega)]; congr 1; omega
  have e251 : ∀ i, i < 15 → uu (251 + i) = u22 i := fun i hi => by rw [huu]; rw [if_neg (by omega)]; rw [if_neg (by omega)]; rw [if_neg (by omega)]; rw [if_neg (by omega)]; rw [if_neg (by omega)]; rw [if_neg (by omega)]; rw [if_neg (by omega)]; rw [if_neg (by omega)]; rw [if_neg (by omega)]; rw [if_neg (by omega)]; rw [if_neg (by omega)]; rw [if_neg (by omega)]; rw [if_pos (by omega)]; congr 1; omega
  have e266 : ∀ i, i < 4 → uu (266 + i) = u24 i := fun i hi => by rw [huu]; rw [if_neg (by omega)]; rw [if_neg (by omega)]; rw [if_neg (by omega)]; rw [if_neg (by omega)]; rw [if_neg (by omega)]; rw [if_neg (by omega)]; rw [if_neg (by omega)]; rw [if_neg (by omega)]; rw [if_neg (by omega)]; rw [if_neg (by omega)]; rw [if_neg (by omega)]; rw [if_neg (by omega)]; rw [if_neg (by omega)]; rw [if_pos (by omega)]; congr 1; omega
  refine VL_ret (PW := PW_11 z) uu X dX11_init_133 e0 ?_
  unfold PW_11
  rw [PW_9_ext (u := fun i => uu (1 + i)) (v := u2) (z := z) e1]
  rw [PW_9_ext (u := fun i => uu (44 + i)) (v := u5) (z := z) e44]
  rw [PW_9_ext (u := fun i => uu (86 + i)) (v := u7) (z := z) e86]
  rw [PW_9_ext (u := fun i => uu (128 + i)) (v := u9) (z := z) e128]
  rw [PW_6_ext (u := fun i => uu (171 + i)) (v := u12) (z := z) e171]
  rw [PW_2_ext (u := fun i => uu (192 + i)) (v := u14) (z := z) e192]
  rw [PW_1_ext (u := fun i => uu (205 + i)) (v := u16) (z := z) e205]
  rw [PW_10_ext (u := fun i => uu (220 + i)) (v := u18) (z := z) e220]
  rw [PW_7_ext (u := fun i => uu (236 + i)) (v := u20) (z := z) e236]
  rw [PW_3_ext (u := fun i => uu (251 + i)) (v := u22) (z := z) e251]
  rw [PW_5_ext (u := fun i => uu (266 + i)) (v := u24) (z := z) e266]
  simp only [e0, e43, e170]
  simp only [show uu 1 = u2 0 from e1 0 (by decide), show uu 44 = u5 0 from e44 0 (by decide), show uu 86 = u7 0 from e86 0 (by decide), show uu 128 = u9 0 from e128 0 (by decide), show uu 171 = u12 0 from e171 0 (by decide), show uu 192 = u14 0 from e192 0 (by decide), show uu 205 = u16 0 from e205 0 (by decide), show uu 220 = u18 0 from e220 0 (by decide), show uu 236 = u20 0 from e236 0 (by decide), show uu 251 = u22 0 from e251 0 (by decide), show uu 266 = u24 0 from e266 0 (by decide)]
