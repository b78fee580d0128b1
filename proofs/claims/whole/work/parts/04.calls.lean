/-! contracts over the memory picture -/
/-- what stays of the start beside the cells: static rows, texts, a link -/
def ordT : List Int32 := [12, 21, 102, 120, 201, 210]
def rngT : List Int32 := [4, 0, 1, 0, 1, 50, 99, 63, 9, 4, 0, 1, 0, 1, 50, 99, 63, 9, 4, 0, 1, 0, 1, 50, 99, 63, 9, 4, 0, 1, 0, 1, 50, 99, 63, 9, 2, 1, 0, 0, 0, 30, 7, 0, 0, 1, 1, 0, 0, 0, 30, 0, 0, 0, 1, 0, 0, 0, 0, 9, 0, 0, 0, 1, 0, 0, 0, 0, 63, 0, 0, 0, 1, 0, 0, 0, 0, 5, 0, 0, 0, 1, 0, 0, 0, 0, 7, 0, 0, 0, 1, 0, 0, 0, 0, 7, 0, 0, 0, 2, 0, 0, 0, 0, 5, 7, 0, 0, 0, 0, 0, 0, 0, 0, 0, 0, 0, 0, 0, 0, 0, 0, 0, 0, 0, 0, 0, 0, 0, 0, 0, 0, 0, 0, 0, 3, 0, 0, 0, 0, 60, 9, 6, 0, 3, 0, 0, 0, 0, 60, 9, 6, 0]
def facT : List Int32 := [1, 1, 2, 6, 24, 120, 720, 5040, 40320]
def lenS : List Nat := [41, 39, 13, 16]
def bytS : List (List Int32) := [[98, 101, 110, 99, 104, 32, 115, 116, 111, 111, 108, 32, 99, 104, 97, 105, 114, 32, 116, 97, 98, 108, 101, 32, 115, 105, 116, 115, 32, 115, 116, 97, 110, 100, 115, 32, 100, 97, 109, 112, 32], [109, 111, 116, 105, 111, 110, 32, 115, 116, 97, 110, 100, 32, 119, 97, 120, 32, 115, 101, 116, 32, 115, 105, 116, 32, 119, 101, 116, 32, 100, 114, 121, 32, 110, 105, 103, 104, 116, 32], [115, 116, 105, 108, 108, 32, 115, 111, 117, 110, 100, 115, 32], [111, 97, 107, 32, 119, 97, 108, 110, 117, 116, 32, 112, 105, 110, 101, 32]]
abbrev adK (z : Sx) (i : Nat) : Nat := z.1.2 100 i
abbrev adV (z : Sx) (i : Nat) : Nat := z.1.2 101 i
abbrev adT (z : Sx) (i : Nat) : Nat := z.1.2 102 i
def txS : List String := ["bench stool chair table sits stands damp ", "motion stand wax set sit wet dry night ", "still sounds ", "oak walnut pine "]
def ixS : List Nat := [114, 116, 118, 92]
def Stt (z : Sx) (C n : String) (i N : Nat) (T : List Int32) (U : State) (H : Heap) : Prop := va_Z C n "[I" (.ref (adT z i)) (zA z) U H ∧ va_T .int (adT z i) N (fun j => .int (T.getD j 0)) (zA z) U H
def EX (z : Sx) (U : State) : Prop := ZOk z ∧ Stt z RX11 "ORDERS" 0 6 ordT U U.heap ∧ Stt z RX6 "RANGES" 1 153 rngT U U.heap ∧ Stt z RX5 "FACTORIALS" 2 9 facT U U.heap ∧ va_Z "java/lang/String" "COMPACT_STRINGS" "Z" (.int 1) (zA z) U U.heap ∧ va_Zq "jdk/internal/util/Preconditions" "SIOOBE_FORMATTER" "Ljava/util/function/BiFunction;" (zA z) U U.heap ∧ vk_S 4 lenS bytS (adK z) (adV z) (zA z) U U.heap ∧ va_Nw (.methodLinkNest RX5 55 yX11_leastTerms RX11) U ∧ ∀ i, i < 4 → vk_R RX6 (ixS.getD i 0) (txS.getD i "") (adK z i) U
theorem Stt.step {z : Sx} {C n : String} {i N : Nat} {T : List Int32} {s U : State} {H H1 : Heap} (h : Stt z C n i N T s H) (hvm : s.vm.Alike U.vm) (hq : ∀ a : Nat, a < H.size → ¬ zA z a → H1[a]? = H[a]?) : Stt z C n i N T U H1 := ⟨(h.1.moved hvm).kept hq, (h.2.moved hvm).kept hq⟩
theorem EX.go {z : Sx} {s U : State} {H : Heap} {locs : List Loc} (h : EX z s) (hS : va_S (zA z) s.heap H locs) (hU : U.heap = H) (hW : s.WarmedH U.vm) : EX z U := by
  subst hU
  obtain ⟨h0, h1, h2, h3, h4, h5, h6, h7, h8⟩ := h
  exact ⟨h0, h1.step hW.alike hS.2.1, h2.step hW.alike hS.2.1, h3.step hW.alike hS.2.1, (h4.moved hW.alike).kept hS.2.1, (h5.moved hW.alike).kept hS.2.1, (h6.moved hW.alike).kept hS.2.1, va_Nw.warmM hW h7, fun i hi => vk_R.warm hW (h8 i hi)⟩
theorem EX.same {z : Sx} {s U : State} (h : EX z s) (hh : U.heap = s.heap) (hvm : U.vm = s.vm) : EX z U := by
  obtain ⟨h0, h1, h2, h3, h4, h5, h6, h7, h8⟩ := h
  have hA : s.vm.Alike U.vm := by rw [hvm]; exact Vm.Alike.refl _
  rw [← hh] at h1 h2 h3 h4 h5 h6
  exact ⟨h0, h1.step hA (fun _ _ _ => rfl), h2.step hA (fun _ _ _ => rfl), h3.step hA (fun _ _ _ => rfl), h4.moved hA, h5.moved hA, h6.moved hA, va_Nw.same rfl hvm.symm h7, fun i hi => vk_R.same hvm (h8 i hi)⟩
def MU (z : Sx) (σ : Mem) (U : State) : Prop := va_P z.1 classes (mws z σ) U.heap ∧ va_K z.1 classes (mty z) U ∧ ZOk z ∧ EX z U
def XE (x : Cx) (z : Sx) : Prop := EX z x.2.2.2.2.1
def XR (x : Cx) (ret : Option FieldType) : Prop := x.2.2.2.2.2.2.2.2.1.sig.returnType = ret
def rmOf (fr lo : Nat) : Room := { frames := fr, cells := 0, slots := 0, locals := lo }
def QI (z : Sx) (r : Int32) (σ : Mem) : Array Value → State → Outcome → State → Prop := va_Qi (fun v (_ : Unit) => v = r) (fun _ t => MU z σ t) (zA z)
def QL (z : Sx) (r : Int64) (σ : Mem) : Array Value → State → Outcome → State → Prop := va_Ql (fun v (_ : Unit) => v = r) (fun _ t => MU z σ t) (zA z)
def QV (z : Sx) (_ : Unit) (σ : Mem) : Array Value → State → Outcome → State → Prop := va_Qv (fun (_ : Unit) => True) (fun _ t => MU z σ t) (zA z)
def QQ (z : Sx) (r : Option Nat) (σ : Mem) : Array Value → State → Outcome → State → Prop := va_Qq (fun v (_ : Unit) => v = r.map z.2.2.1) (fun _ t => MU z σ t) (zA z)
/-- a method's contract: where the program κ gives an answer and a memory, the method gives them -/
def Ct {ρ : Type} (QC : Sx → ρ → Mem → Array Value → State → Outcome → State → Prop) (y : MethodName) (cc : ByteArray) (nL : Nat) (ret : Option FieldType) (fr lo : Nat) (l : Launch) (z : Sx) (av : List Value) (σ : Mem) (κ : Option (ρ × Mem)) : Prop :=
  ∀ (r : ρ) (σ' : Mem), κ = some (r, σ') → Met l y (Cond.code y cc nL ret :: Tg) (rmOf fr lo) (va_Pc av (MU z σ)) (QC z r σ') 0 0 (zA z)
/-- the end of a body -/
def BQ {ρ : Type} (QC : Sx → ρ → Mem → Array Value → State → Outcome → State → Prop) (x : Cx) (z : Sx) : ρ → Mem → State → Prop := fun r σ => match x with
  | (_, _, _, _, s, _, args, below, _, _) => MQ below (QC z r σ) args s 0 0 (zA z)
theorem Ct_of {ρ : Type} {QC : Sx → ρ → Mem → Array Value → State → Outcome → State → Prop} {y : MethodName} {cc : ByteArray} {nL : Nat} {ret : Option FieldType} {fr lo : Nat} {l : Launch} {z : Sx} {av : List Value} {L : List (Nat × Value)} {σ : Mem} {κ : Option (ρ × Mem)} (hy : plainName y.cls = true) (hlen : (lg_sl av).length ≤ nL) (hL : lv_args 0 av = L)
    (body : ∀ x : Cx, x.2.1 = l → XG x z y.cls cc nL fr lo → XE x z → XR x ret → VK x z nL (BQ QC x z) 0 L [] σ κ) : Ct QC y cc nL ret fr lo l z av σ κ := by
  intro r σ' hκ
  refine Met.ofW (cc := cc) (maxL := nL) (ret := ret) hy rfl ?_
  intro p e s m args below meth c s₁ B hml hv
  obtain ⟨rfl, hP, hK, hz, hE⟩ := hv
  have hts := atoms_spec (ws := Cond.code y cc nL ret :: Tg) B.pre
  have hl := lv_entry av (n := nL) hlen
  rw [lg_entry_eq]
  exact body (p, l, e, _, s, m, av.toArray, below, meth, c) rfl ⟨B.exec, B.bytes, hml, findClass_of_methodNamed B.named, fun w hw => hts w (List.mem_cons_of_mem _ hw), hK, hz, Nat.le_refl _, Nat.le_refl _, B.notSynchronized⟩ hE B.returns r σ' hκ s.heap [] _ hP va_S.rf (hL ▸ hl)
theorem tgood {w : Cond} (h : w ∈ Tg) : w ∈ Tg ∧ ((w.onTables && w.keeps) = true ∨ ∃ ty, w = .arrayClass ty) := ⟨h, good_of_word (List.mem_filter.mp h).2⟩
theorem tg_in {w : Cond} (h1 : w ∈ lw_tbl) (h2 : goodWord w = true) : w ∈ Tg := List.mem_filter.mpr ⟨h1, h2⟩
theorem gV {own C : String} {idx nL : Nat} {y : MethodName} {cc : ByteArray} {ret : Option FieldType} (h1 : Cond.methodLink own idx y ∈ Tg) (h2 : Cond.instanceMethod y ∈ Tg) (h3 : Cond.selects C y y ∈ Tg) (h4 : Cond.initialized C ∈ Tg) (h5 : Cond.code y cc nL ret ∈ Tg) : GoodIn Tg (wsV own idx C y (Cond.code y cc nL ret :: Tg)) := by
  intro w hw
  simp only [wsV, List.cons_append, List.nil_append, List.mem_cons] at hw
  rcases hw with rfl | rfl | rfl | rfl | rfl | hw
  · exact tgood h1
  · exact tgood h2
  · exact tgood h3
  · exact tgood h4
  · exact tgood h5
  · exact tgood hw
theorem gS {own : String} {idx nL : Nat} {y : MethodName} {cc : ByteArray} {ret : Option FieldType} (h1 : Cond.methodLink own idx y ∈ Tg) (h2 : Cond.static y ∈ Tg) (h4 : Cond.initialized y.cls ∈ Tg) (h5 : Cond.code y cc nL ret ∈ Tg) : GoodIn Tg (va_wsS own idx y (Cond.code y cc nL ret :: Tg)) := by
  intro w hw
  simp only [va_wsS, List.cons_append, List.nil_append, List.mem_cons] at hw
  rcases hw with rfl | rfl | rfl | rfl | hw
  · exact tgood h1
  · exact tgood h2
  · exact tgood h4
  · exact tgood h5
  · exact tgood hw
theorem mu_blind {av : List Value} {z : Sx} {σ : Mem} : FrameBlind (va_Pc av (MU z σ)) := fun a U g mk q => by
  obtain ⟨q0, qP, qK, qz, qE⟩ := q
  exact ⟨q0, qP, va_K.moved (u := U) (U := U.calling g mk a) (Vm.Alike.refl U.vm) qK, qz, EX.same qE rfl rfl⟩
section VKC
variable {ρ : Type} {x : Cx} {z : Sx} {own : String} {cc : ByteArray} {nL fr lo : Nat} {Q : ρ → Mem → State → Prop} {pc : Nat} {L : List (Nat × Value)} {st stk : List Value} {σ : Mem} {κ κ1 κ2 : Option (ρ × Mem)}
theorem bd_some {α β : Type} {κ : Option (α × Mem)} {f : α → Mem → Option β} {v : β} (h : bd κ f = some v) : ∃ r σ, κ = some (r, σ) ∧ f r σ = some v := by
  cases κ with
  | none => cases h
  | some q => exact ⟨q.1, q.2, rfl, h⟩
theorem V_callI {y : MethodName} {cc' : ByteArray} {nL' fr' lo' idx n t ci N : Nat} {ret : Option FieldType} {C : String} {T : u_T} {ty : Nat → FieldType} {κc : Option (Int32 × Mem)} {f : Int32 → Mem → Option (ρ × Mem)} (As st : List Value) (X : XG x z own cc nL fr lo) (E : XE x z) (hd : decode cc pc = .ok (.invokevirtual idx, 3)) (hM : Ct QI y cc' nL' ret fr' lo' x.2.1 z (.ref (z.2.2.1 t) :: As) σ κc) (hC : CO ci C T N ty) (hk : z.2.2.2.1 t = (ci, 0)) (hg : GoodIn Tg (wsV own idx C y (Cond.code y cc' nL' ret :: Tg))) (hy : y.cls = C ∧ y.cls ≠ "java/lang/invoke/MethodHandle" ∧ y.cls ≠ "java/lang/invoke/VarHandle" ∧ (parseMethodDescriptor y.desc).map (fun d => d.parameters.length) = some n) (hn : As.length = n) (hrm : fr' + 1 ≤ fr ∧ 8 + (nL' + 11) + lo' ≤ lo) (hs : stk = As.reverse ++ .ref (z.2.2.1 t) :: st) (hc : (st.map fun v => v.category).sum ≤ 8) (k : ∀ (a : Int32) (σ1 : Mem), VK x z nL Q (pc + 3) L (.int a :: st) σ1 (f a σ1)) : VK x z nL Q pc L stk σ (bd κc f) := by
  obtain ⟨p, l, e, R, s, m, args, below, meth, c⟩ := x
  obtain ⟨hx, hb, hml, hown, hts, hK, hz, hfr, hlo, hlk⟩ := X
  intro r σ' h H locs ls hP hS hl
  obtain ⟨r0, σ1, h0, h⟩ := bd_some h
  subst hs
  obtain ⟨c1, c2, c3, c4, c5, c6⟩ := hC
  have hlt : t < z.2.2.2.2 := hz.2.1 t (by rw [hk]; show ci < 99; omega)
  refine va_calli (va_runV (As := As) (rest := st) ⟨hx, hb, hml, hown, hts⟩ (hM r0 σ1 h0) (cwV n hts hg rfl rfl rfl hy ⟨Nat.le_trans hrm.1 hfr, Nat.le_trans hrm.2 hlo⟩) ⟨mu_blind, va_recv hK hP (ci := ci) (q0 := t) c1 (by rw [mws_at hlt, ent_obj hk c3]), fun U hU hW => ⟨rfl, by rw [hU]; exact hP, va_K.moved hW.alike hK, hz, EX.go E hS hU hW⟩⟩ rfl hn hl.1 rfl (lv_room hc) hd ⟨Nat.zero_le _, Nat.zero_le _⟩) hS (fun q _ hq => hq) (fun q hq => hq) (fun v u t1 H1 locs1 ht hvm hw hB hz1 hk1 hS1 => ?_)
  subst hw
  obtain ⟨hP1, -, -, -⟩ := hB
  rw [ht] at hP1
  exact k v σ1 r σ' h H1 locs1 ls hP1 hS1 hl
theorem V_calSI {y : MethodName} {cc' : ByteArray} {nL' fr' lo' idx n : Nat} {ret : Option FieldType} {κc : Option (Int32 × Mem)} {f : Int32 → Mem → Option (ρ × Mem)} (As st : List Value) (X : XG x z own cc nL fr lo) (E : XE x z) (hd : decode cc pc = .ok (.invokestatic idx, 3)) (hM : Ct QI y cc' nL' ret fr' lo' x.2.1 z (As) σ κc) (hg : GoodIn Tg (va_wsS own idx y (Cond.code y cc' nL' ret :: Tg))) (hy : y.cls ≠ "java/lang/invoke/MethodHandle" ∧ y.cls ≠ "java/lang/invoke/VarHandle" ∧ (parseMethodDescriptor y.desc).map (fun d => d.parameters.length) = some n) (hn : As.length = n) (hrm : fr' + 1 ≤ fr ∧ 8 + (nL' + 11) + lo' ≤ lo) (hs : stk = As.reverse ++ st) (hc : (st.map fun v => v.category).sum ≤ 8) (k : ∀ (a : Int32) (σ1 : Mem), VK x z nL Q (pc + 3) L (.int a :: st) σ1 (f a σ1)) : VK x z nL Q pc L stk σ (bd κc f) := by
  obtain ⟨p, l, e, R, s, m, args, below, meth, c⟩ := x
  obtain ⟨hx, hb, hml, hown, hts, hK, hz, hfr, hlo, hlk⟩ := X
  intro r σ' h H locs ls hP hS hl
  obtain ⟨r0, σ1, h0, h⟩ := bd_some h
  subst hs
  refine va_calli (va_runS (As := As) (rest := st) ⟨hx, hb, hml, hown, hts⟩ (hM r0 σ1 h0) (va_cwS n hts hg rfl rfl rfl hy ⟨Nat.le_trans hrm.1 hfr, Nat.le_trans hrm.2 hlo⟩) ⟨mu_blind, fun U hU hW => ⟨rfl, by rw [hU]; exact hP, va_K.moved hW.alike hK, hz, EX.go E hS hU hW⟩⟩ rfl hn hl.1 rfl (lv_room hc) hd ⟨Nat.zero_le _, Nat.zero_le _⟩) hS (fun q _ hq => hq) (fun q hq => hq) (fun v u t1 H1 locs1 ht hvm hw hB hz1 hk1 hS1 => ?_)
  subst hw
  obtain ⟨hP1, -, -, -⟩ := hB
  rw [ht] at hP1
  exact k v σ1 r σ' h H1 locs1 ls hP1 hS1 hl
theorem V_callL {y : MethodName} {cc' : ByteArray} {nL' fr' lo' idx n t ci N : Nat} {ret : Option FieldType} {C : String} {T : u_T} {ty : Nat → FieldType} {κc : Option (Int64 × Mem)} {f : Int64 → Mem → Option (ρ × Mem)} (As st : List Value) (X : XG x z own cc nL fr lo) (E : XE x z) (hd : decode cc pc = .ok (.invokevirtual idx, 3)) (hM : Ct QL y cc' nL' ret fr' lo' x.2.1 z (.ref (z.2.2.1 t) :: As) σ κc) (hC : CO ci C T N ty) (hk : z.2.2.2.1 t = (ci, 0)) (hg : GoodIn Tg (wsV own idx C y (Cond.code y cc' nL' ret :: Tg))) (hy : y.cls = C ∧ y.cls ≠ "java/lang/invoke/MethodHandle" ∧ y.cls ≠ "java/lang/invoke/VarHandle" ∧ (parseMethodDescriptor y.desc).map (fun d => d.parameters.length) = some n) (hn : As.length = n) (hrm : fr' + 1 ≤ fr ∧ 8 + (nL' + 11) + lo' ≤ lo) (hs : stk = As.reverse ++ .ref (z.2.2.1 t) :: st) (hc : (st.map fun v => v.category).sum ≤ 8) (k : ∀ (a : Int64) (σ1 : Mem), VK x z nL Q (pc + 3) L (.long a :: st) σ1 (f a σ1)) : VK x z nL Q pc L stk σ (bd κc f) := by
  obtain ⟨p, l, e, R, s, m, args, below, meth, c⟩ := x
  obtain ⟨hx, hb, hml, hown, hts, hK, hz, hfr, hlo, hlk⟩ := X
  intro r σ' h H locs ls hP hS hl
  obtain ⟨r0, σ1, h0, h⟩ := bd_some h
  subst hs
  obtain ⟨c1, c2, c3, c4, c5, c6⟩ := hC
  have hlt : t < z.2.2.2.2 := hz.2.1 t (by rw [hk]; show ci < 99; omega)
  refine va_calll (va_runV (As := As) (rest := st) ⟨hx, hb, hml, hown, hts⟩ (hM r0 σ1 h0) (cwV n hts hg rfl rfl rfl hy ⟨Nat.le_trans hrm.1 hfr, Nat.le_trans hrm.2 hlo⟩) ⟨mu_blind, va_recv hK hP (ci := ci) (q0 := t) c1 (by rw [mws_at hlt, ent_obj hk c3]), fun U hU hW => ⟨rfl, by rw [hU]; exact hP, va_K.moved hW.alike hK, hz, EX.go E hS hU hW⟩⟩ rfl hn hl.1 rfl (lv_room hc) hd ⟨Nat.zero_le _, Nat.zero_le _⟩) hS (fun q _ hq => hq) (fun q hq => hq) (fun v u t1 H1 locs1 ht hvm hw hB hz1 hk1 hS1 => ?_)
  subst hw
  obtain ⟨hP1, -, -, -⟩ := hB
  rw [ht] at hP1
  exact k v σ1 r σ' h H1 locs1 ls hP1 hS1 hl
theorem V_calSL {y : MethodName} {cc' : ByteArray} {nL' fr' lo' idx n : Nat} {ret : Option FieldType} {κc : Option (Int64 × Mem)} {f : Int64 → Mem → Option (ρ × Mem)} (As st : List Value) (X : XG x z own cc nL fr lo) (E : XE x z) (hd : decode cc pc = .ok (.invokestatic idx, 3)) (hM : Ct QL y cc' nL' ret fr' lo' x.2.1 z (As) σ κc) (hg : GoodIn Tg (va_wsS own idx y (Cond.code y cc' nL' ret :: Tg))) (hy : y.cls ≠ "java/lang/invoke/MethodHandle" ∧ y.cls ≠ "java/lang/invoke/VarHandle" ∧ (parseMethodDescriptor y.desc).map (fun d => d.parameters.length) = some n) (hn : As.length = n) (hrm : fr' + 1 ≤ fr ∧ 8 + (nL' + 11) + lo' ≤ lo) (hs : stk = As.reverse ++ st) (hc : (st.map fun v => v.category).sum ≤ 8) (k : ∀ (a : Int64) (σ1 : Mem), VK x z nL Q (pc + 3) L (.long a :: st) σ1 (f a σ1)) : VK x z nL Q pc L stk σ (bd κc f) := by
  obtain ⟨p, l, e, R, s, m, args, below, meth, c⟩ := x
  obtain ⟨hx, hb, hml, hown, hts, hK, hz, hfr, hlo, hlk⟩ := X
  intro r σ' h H locs ls hP hS hl
  obtain ⟨r0, σ1, h0, h⟩ := bd_some h
  subst hs
  refine va_calll (va_runS (As := As) (rest := st) ⟨hx, hb, hml, hown, hts⟩ (hM r0 σ1 h0) (va_cwS n hts hg rfl rfl rfl hy ⟨Nat.le_trans hrm.1 hfr, Nat.le_trans hrm.2 hlo⟩) ⟨mu_blind, fun U hU hW => ⟨rfl, by rw [hU]; exact hP, va_K.moved hW.alike hK, hz, EX.go E hS hU hW⟩⟩ rfl hn hl.1 rfl (lv_room hc) hd ⟨Nat.zero_le _, Nat.zero_le _⟩) hS (fun q _ hq => hq) (fun q hq => hq) (fun v u t1 H1 locs1 ht hvm hw hB hz1 hk1 hS1 => ?_)
  subst hw
  obtain ⟨hP1, -, -, -⟩ := hB
  rw [ht] at hP1
  exact k v σ1 r σ' h H1 locs1 ls hP1 hS1 hl
theorem V_callV {y : MethodName} {cc' : ByteArray} {nL' fr' lo' idx n t ci N : Nat} {ret : Option FieldType} {C : String} {T : u_T} {ty : Nat → FieldType} {κc : Option (Unit × Mem)} {f : Unit → Mem → Option (ρ × Mem)} (As st : List Value) (X : XG x z own cc nL fr lo) (E : XE x z) (hd : decode cc pc = .ok (.invokevirtual idx, 3)) (hM : Ct QV y cc' nL' ret fr' lo' x.2.1 z (.ref (z.2.2.1 t) :: As) σ κc) (hC : CO ci C T N ty) (hk : z.2.2.2.1 t = (ci, 0)) (hg : GoodIn Tg (wsV own idx C y (Cond.code y cc' nL' ret :: Tg))) (hy : y.cls = C ∧ y.cls ≠ "java/lang/invoke/MethodHandle" ∧ y.cls ≠ "java/lang/invoke/VarHandle" ∧ (parseMethodDescriptor y.desc).map (fun d => d.parameters.length) = some n) (hn : As.length = n) (hrm : fr' + 1 ≤ fr ∧ 8 + (nL' + 11) + lo' ≤ lo) (hs : stk = As.reverse ++ .ref (z.2.2.1 t) :: st) (hc : (st.map fun v => v.category).sum ≤ 8) (k : ∀ (a : Unit) (σ1 : Mem), VK x z nL Q (pc + 3) L (st) σ1 (f a σ1)) : VK x z nL Q pc L stk σ (bd κc f) := by
  obtain ⟨p, l, e, R, s, m, args, below, meth, c⟩ := x
  obtain ⟨hx, hb, hml, hown, hts, hK, hz, hfr, hlo, hlk⟩ := X
  intro r σ' h H locs ls hP hS hl
  obtain ⟨r0, σ1, h0, h⟩ := bd_some h
  subst hs
  obtain ⟨c1, c2, c3, c4, c5, c6⟩ := hC
  have hlt : t < z.2.2.2.2 := hz.2.1 t (by rw [hk]; show ci < 99; omega)
  refine va_callv (va_runV (As := As) (rest := st) ⟨hx, hb, hml, hown, hts⟩ (hM r0 σ1 h0) (cwV n hts hg rfl rfl rfl hy ⟨Nat.le_trans hrm.1 hfr, Nat.le_trans hrm.2 hlo⟩) ⟨mu_blind, va_recv hK hP (ci := ci) (q0 := t) c1 (by rw [mws_at hlt, ent_obj hk c3]), fun U hU hW => ⟨rfl, by rw [hU]; exact hP, va_K.moved hW.alike hK, hz, EX.go E hS hU hW⟩⟩ rfl hn hl.1 rfl (lv_room hc) hd ⟨Nat.zero_le _, Nat.zero_le _⟩) hS (fun q _ hq => hq) (fun q hq => hq) (fun u t1 H1 locs1 ht hvm hw hB hz1 hk1 hS1 => ?_)
  obtain ⟨hP1, -, -, -⟩ := hB
  rw [ht] at hP1
  exact k () σ1 r σ' h H1 locs1 ls hP1 hS1 hl
theorem V_calSV {y : MethodName} {cc' : ByteArray} {nL' fr' lo' idx n : Nat} {ret : Option FieldType} {κc : Option (Unit × Mem)} {f : Unit → Mem → Option (ρ × Mem)} (As st : List Value) (X : XG x z own cc nL fr lo) (E : XE x z) (hd : decode cc pc = .ok (.invokestatic idx, 3)) (hM : Ct QV y cc' nL' ret fr' lo' x.2.1 z (As) σ κc) (hg : GoodIn Tg (va_wsS own idx y (Cond.code y cc' nL' ret :: Tg))) (hy : y.cls ≠ "java/lang/invoke/MethodHandle" ∧ y.cls ≠ "java/lang/invoke/VarHandle" ∧ (parseMethodDescriptor y.desc).map (fun d => d.parameters.length) = some n) (hn : As.length = n) (hrm : fr' + 1 ≤ fr ∧ 8 + (nL' + 11) + lo' ≤ lo) (hs : stk = As.reverse ++ st) (hc : (st.map fun v => v.category).sum ≤ 8) (k : ∀ (a : Unit) (σ1 : Mem), VK x z nL Q (pc + 3) L (st) σ1 (f a σ1)) : VK x z nL Q pc L stk σ (bd κc f) := by
  obtain ⟨p, l, e, R, s, m, args, below, meth, c⟩ := x
  obtain ⟨hx, hb, hml, hown, hts, hK, hz, hfr, hlo, hlk⟩ := X
  intro r σ' h H locs ls hP hS hl
  obtain ⟨r0, σ1, h0, h⟩ := bd_some h
  subst hs
  refine va_callv (va_runS (As := As) (rest := st) ⟨hx, hb, hml, hown, hts⟩ (hM r0 σ1 h0) (va_cwS n hts hg rfl rfl rfl hy ⟨Nat.le_trans hrm.1 hfr, Nat.le_trans hrm.2 hlo⟩) ⟨mu_blind, fun U hU hW => ⟨rfl, by rw [hU]; exact hP, va_K.moved hW.alike hK, hz, EX.go E hS hU hW⟩⟩ rfl hn hl.1 rfl (lv_room hc) hd ⟨Nat.zero_le _, Nat.zero_le _⟩) hS (fun q _ hq => hq) (fun q hq => hq) (fun u t1 H1 locs1 ht hvm hw hB hz1 hk1 hS1 => ?_)
  obtain ⟨hP1, -, -, -⟩ := hB
  rw [ht] at hP1
  exact k () σ1 r σ' h H1 locs1 ls hP1 hS1 hl
theorem V_callQ {y : MethodName} {cc' : ByteArray} {nL' fr' lo' idx n t ci N : Nat} {ret : Option FieldType} {C : String} {T : u_T} {ty : Nat → FieldType} {κc : Option (Option Nat × Mem)} {f : Option Nat → Mem → Option (ρ × Mem)} (As st : List Value) (X : XG x z own cc nL fr lo) (E : XE x z) (hd : decode cc pc = .ok (.invokevirtual idx, 3)) (hM : Ct QQ y cc' nL' ret fr' lo' x.2.1 z (.ref (z.2.2.1 t) :: As) σ κc) (hC : CO ci C T N ty) (hk : z.2.2.2.1 t = (ci, 0)) (hg : GoodIn Tg (wsV own idx C y (Cond.code y cc' nL' ret :: Tg))) (hy : y.cls = C ∧ y.cls ≠ "java/lang/invoke/MethodHandle" ∧ y.cls ≠ "java/lang/invoke/VarHandle" ∧ (parseMethodDescriptor y.desc).map (fun d => d.parameters.length) = some n) (hn : As.length = n) (hrm : fr' + 1 ≤ fr ∧ 8 + (nL' + 11) + lo' ≤ lo) (hs : stk = As.reverse ++ .ref (z.2.2.1 t) :: st) (hc : (st.map fun v => v.category).sum ≤ 8) (k0 : ∀ (σ1 : Mem), κc = some (none, σ1) → VK x z nL Q (pc + 3) L (.null :: st) σ1 (f none σ1)) (k1 : ∀ (a : Nat) (σ1 : Mem), κc = some (some a, σ1) → VK x z nL Q (pc + 3) L (.ref (z.2.2.1 a) :: st) σ1 (f (some a) σ1)) : VK x z nL Q pc L stk σ (bd κc f) := by
  obtain ⟨p, l, e, R, s, m, args, below, meth, c⟩ := x
  obtain ⟨hx, hb, hml, hown, hts, hK, hz, hfr, hlo, hlk⟩ := X
  intro r σ' h H locs ls hP hS hl
  obtain ⟨r0, σ1, h0, h⟩ := bd_some h
  subst hs
  obtain ⟨c1, c2, c3, c4, c5, c6⟩ := hC
  have hlt : t < z.2.2.2.2 := hz.2.1 t (by rw [hk]; show ci < 99; omega)
  refine va_callq (va_runV (As := As) (rest := st) ⟨hx, hb, hml, hown, hts⟩ (hM r0 σ1 h0) (cwV n hts hg rfl rfl rfl hy ⟨Nat.le_trans hrm.1 hfr, Nat.le_trans hrm.2 hlo⟩) ⟨mu_blind, va_recv hK hP (ci := ci) (q0 := t) c1 (by rw [mws_at hlt, ent_obj hk c3]), fun U hU hW => ⟨rfl, by rw [hU]; exact hP, va_K.moved hW.alike hK, hz, EX.go E hS hU hW⟩⟩ rfl hn hl.1 rfl (lv_room hc) hd ⟨Nat.zero_le _, Nat.zero_le _⟩) hS (fun q _ hq => hq) (fun q hq => hq) (fun v u t1 H1 locs1 ht hvm hw hB hz1 hk1 hS1 => ?_)
  subst hw
  obtain ⟨hP1, -, -, -⟩ := hB
  rw [ht] at hP1
  cases r0 with
  | none => exact k0 σ1 h0 r σ' h H1 locs1 ls hP1 hS1 hl
  | some a => exact k1 a σ1 h0 r σ' h H1 locs1 ls hP1 hS1 hl
theorem V_iret {v : Int32} (X : XG x z own cc nL fr lo) (E : XE x z) (hr : XR x (some .int)) (hd : decode cc pc = .ok (.ireturn, 1)) : VK x z nL (BQ QI x z) pc L [.int v] σ (some (v, σ)) := by
  obtain ⟨p, l, e, R, s, m, args, below, meth, c⟩ := x
  obtain ⟨hx, hb, hml, hown, hts, hK, hz, hfr, hlo, hlk⟩ := X
  intro r σ' h H locs ls hP hS hl
  cases h
  exact W.iret hx hb hr (fun t ht hW => ⟨⟨v, (), rfl, rfl, ⟨by rw [ht]; exact hP, va_K.moved hW.alike hK, hz, EX.go E hS ht hW⟩⟩, hS.F ht⟩) hS.2.2 hd hlk
theorem V_zret {v : Int32} (X : XG x z own cc nL fr lo) (E : XE x z) (hr : XR x (some .boolean)) (hd : decode cc pc = .ok (.ireturn, 1)) (hv : v = 0 ∨ v = 1) : VK x z nL (BQ QI x z) pc L [.int v] σ (some (v, σ)) := by
  obtain ⟨p, l, e, R, s, m, args, below, meth, c⟩ := x
  obtain ⟨hx, hb, hml, hown, hts, hK, hz, hfr, hlo, hlk⟩ := X
  intro r σ' h H locs ls hP hS hl
  cases h
  exact W.zret hx hb hr (by rcases hv with rfl | rfl <;> decide) (fun t ht hW => ⟨⟨v, (), rfl, rfl, ⟨by rw [ht]; exact hP, va_K.moved hW.alike hK, hz, EX.go E hS ht hW⟩⟩, hS.F ht⟩) hS.2.2 hd hlk
theorem V_zretG {v : Int32} (X : XG x z own cc nL fr lo) (E : XE x z) (hr : XR x (some .boolean)) (hd : decode cc pc = .ok (.ireturn, 1)) : VK x z nL (BQ QI x z) pc L [.int v] σ (gd (decide (v = 0 ∨ v = 1)) (some (v, σ))) := by
  intro r σ' h
  obtain ⟨h1, h⟩ := gd_some h
  exact V_zret X E hr hd (of_decide_eq_true h1) r σ' h
theorem V_lret {v : Int64} (X : XG x z own cc nL fr lo) (E : XE x z) (hr : XR x (some .long)) (hd : decode cc pc = .ok (.lreturn, 1)) : VK x z nL (BQ QL x z) pc L [.long v] σ (some (v, σ)) := by
  obtain ⟨p, l, e, R, s, m, args, below, meth, c⟩ := x
  obtain ⟨hx, hb, hml, hown, hts, hK, hz, hfr, hlo, hlk⟩ := X
  intro r σ' h H locs ls hP hS hl
  cases h
  exact W.lret hx hb hr (fun t ht hW => ⟨⟨v, (), rfl, rfl, ⟨by rw [ht]; exact hP, va_K.moved hW.alike hK, hz, EX.go E hS ht hW⟩⟩, hS.F ht⟩) hS.2.2 hd hlk
theorem V_vret (X : XG x z own cc nL fr lo) (E : XE x z) (hr : XR x none) (hd : decode cc pc = .ok (.return_, 1)) : VK x z nL (BQ QV x z) pc L [] σ (some ((), σ)) := by
  obtain ⟨p, l, e, R, s, m, args, below, meth, c⟩ := x
  obtain ⟨hx, hb, hml, hown, hts, hK, hz, hfr, hlo, hlk⟩ := X
  intro r σ' h H locs ls hP hS hl
  cases h
  exact W.vret hx hb hr (fun t ht hW => ⟨⟨(), rfl, trivial, ⟨by rw [ht]; exact hP, va_K.moved hW.alike hK, hz, EX.go E hS ht hW⟩⟩, hS.F ht⟩) hS.2.2 hd hlk
theorem V_aret {v : Nat} {C : String} (X : XG x z own cc nL fr lo) (E : XE x z) (hr : XR x (some (.object C))) (hd : decode cc pc = .ok (.areturn, 1)) : VK x z nL (BQ QQ x z) pc L [.ref (z.2.2.1 v)] σ (some (some v, σ)) := by
  obtain ⟨p, l, e, R, s, m, args, below, meth, c⟩ := x
  obtain ⟨hx, hb, hml, hown, hts, hK, hz, hfr, hlo, hlk⟩ := X
  intro r σ' h H locs ls hP hS hl
  cases h
  exact W.aret hx hb hr (Or.inl ⟨_, rfl⟩) (Or.inr ⟨_, rfl⟩) (fun t ht hW => ⟨⟨some (z.2.2.1 v), (), rfl, rfl, ⟨by rw [ht]; exact hP, va_K.moved hW.alike hK, hz, EX.go E hS ht hW⟩⟩, hS.F ht⟩) hS.2.2 hd hlk
theorem V_aretN {C : String} (X : XG x z own cc nL fr lo) (E : XE x z) (hr : XR x (some (.object C))) (hd : decode cc pc = .ok (.areturn, 1)) : VK x z nL (BQ QQ x z) pc L [.null] σ (some (none, σ)) := by
  obtain ⟨p, l, e, R, s, m, args, below, meth, c⟩ := x
  obtain ⟨hx, hb, hml, hown, hts, hK, hz, hfr, hlo, hlk⟩ := X
  intro r σ' h H locs ls hP hS hl
  cases h
  exact W.aret hx hb hr (Or.inl ⟨_, rfl⟩) (Or.inl rfl) (fun t ht hW => ⟨⟨none, (), rfl, rfl, ⟨by rw [ht]; exact hP, va_K.moved hW.alike hK, hz, EX.go E hS ht hW⟩⟩, hS.F ht⟩) hS.2.2 hd hlk
theorem V_split {a c : Int32} (k1 : a = c → VK x z nL Q pc L st σ κ1) (k2 : ¬ a = c → VK x z nL Q pc L st σ κ2) : VK x z nL Q pc L st σ (if a = c then κ1 else κ2) := by
  intro r σ' h
  by_cases q : a = c
  · rw [if_pos q] at h; exact k1 q r σ' h
  · rw [if_neg q] at h; exact k2 q r σ' h
theorem V_tabAt {a c : Int32} {dflt lo1 hi1 : Int} {offs : Array Int} {len : Nat} {off : Int} {tgt : Nat} (X : XG x z own cc nL fr lo) (hd : decode cc pc = .ok (.tableswitch dflt lo1 hi1 offs, len)) (ha : a = c) (h1 : ¬ c.toInt < lo1) (h2 : ¬ hi1 < c.toInt) (ho : offs[(c.toInt - lo1).toNat]? = some off) (ht : (pc : Int) + off = (tgt : Int)) (k : VK x z nL Q tgt L st σ κ) : VK x z nL Q pc L (.int a :: st) σ κ := by
  subst ha
  obtain ⟨p, l, e, R, s, m, args, below, meth, c⟩ := x
  obtain ⟨hx, hb, hml, hown, hts, hK, hz, hfr, hlo, hlk⟩ := X
  intro r σ' h H locs ls hP hS hl
  exact lv_tableIn hx hb hd h1 h2 ho ht (k r σ' h H locs ls hP hS hl)
theorem V_tabDef {a : Int32} {dflt lo1 hi1 : Int} {offs : Array Int} {len : Nat} {tgt : Nat} (X : XG x z own cc nL fr lo) (hd : decode cc pc = .ok (.tableswitch dflt lo1 hi1 offs, len)) (ho : a.toInt < lo1 ∨ hi1 < a.toInt) (ht : (pc : Int) + dflt = (tgt : Int)) (k : VK x z nL Q tgt L st σ κ) : VK x z nL Q pc L (.int a :: st) σ κ := by
  obtain ⟨p, l, e, R, s, m, args, below, meth, c⟩ := x
  obtain ⟨hx, hb, hml, hown, hts, hK, hz, hfr, hlo, hlk⟩ := X
  intro r σ' h H locs ls hP hS hl
  exact lv_tableOut hx hb hd ho ht (k r σ' h H locs ls hP hS hl)
theorem V_look {a : Int32} {dflt : Int} {ps : Array (Int × Int)} {len : Nat} {off : Int} {tgt : Nat} (X : XG x z own cc nL fr lo) (hd : decode cc pc = .ok (.lookupswitch dflt ps, len)) (hp : (ps.toList.zip (ps.toList.drop 1)).all (fun (a, next) => a.1 < next.1) = true) (ho : Op.lookupswitch.offset ps.toList dflt a.toInt = off) (ht : (pc : Int) + off = (tgt : Int)) (k : VK x z nL Q tgt L st σ κ) : VK x z nL Q pc L (.int a :: st) σ κ := by
  obtain ⟨p, l, e, R, s, m, args, below, meth, c⟩ := x
  obtain ⟨hx, hb, hml, hown, hts, hK, hz, hfr, hlo, hlk⟩ := X
  intro r σ' h H locs ls hP hS hl
  exact lv_lookup hx hb hd hp ho ht (k r σ' h H locs ls hP hS hl)
theorem V_lcmp {a b : Int64} (X : XG x z own cc nL fr lo) (hd : decode cc pc = .ok (.lcmp, 1)) (k : VK x z nL Q (pc + 1) L (.int (lg_cmp a b) :: st) σ κ) : VK x z nL Q pc L (.long b :: .long a :: st) σ κ := by
  obtain ⟨p, l, e, R, s, m, args, below, meth, c⟩ := x
  obtain ⟨hx, hb, hml, hown, hts, hK, hz, hfr, hlo, hlk⟩ := X
  intro r σ' h H locs ls hP hS hl
  exact W.lcmp hx hb hd (k r σ' h H locs ls hP hS hl)
theorem swOut {a : Int32} {lo1 hi1 : Int} (h : ∀ v : Int, lo1 ≤ v → v ≤ hi1 → a.toInt ≠ v) : a.toInt < lo1 ∨ hi1 < a.toInt := by
  have h1 := h a.toInt
  omega
theorem sw_ne {a : Int32} {v : Int} {c : Int32} (h : ¬ a = c) (hc : c.toInt = v) : a.toInt ≠ v := fun q => h (Int32.toInt_inj.mp (q.trans hc.symm))
end VKC
