/-! constructors: the world is a list of cells and grows -/
def nestL : List (String × Nat × MethodName × String) := [(RX9, 41, yX0_init, RX11), (RX9, 42, yX8_init, RX11), (RX9, 43, yX4_init, RX11), (RX11, 26, yX6_init, RX11), (RX6, 11, yX0_init, RX11), (RX6, 20, yX8_init, RX11), (RX6, 27, yX4_init, RX11), (RX11, 33, yX2_init, RX11), (RX2, 11, yX0_init, RX11), (RX11, 40, yX1_init, RX11), (RX1, 11, yX2_init, RX11), (RX11, 47, yX10_init, RX11), (RX10, 11, yX2_init, RX11), (RX11, 54, yX7_init, RX11), (RX7, 17, yX2_init, RX11), (RX11, 61, yX3_init, RX11), (RX3, 17, yX2_init, RX11), (RX11, 68, yX5_init, RX11), (RX5, 55, yX11_leastTerms, RX11)]
def EN (U : State) : Prop := (∀ q ∈ nestL, va_Nw (.methodLinkNest q.1 q.2.1 q.2.2.1 q.2.2.2) U) ∧ va_AO RX0 U ∧ va_AO RX8 U ∧ va_AO RX4 U ∧ va_AO RX9 U
theorem EN.warm {s U : State} (h : EN s) (hW : s.WarmedH U.vm) : EN U := ⟨fun q hq => va_Nw.warmM hW (h.1 q hq), h.2.1.moved hW.alike, h.2.2.1.moved hW.alike, h.2.2.2.1.moved hW.alike, h.2.2.2.2.moved hW.alike⟩
theorem EN.same {s U : State} (h : EN s) (hv : s.vm = U.vm) : EN U := ⟨fun q hq => va_Nw.same rfl hv (h.1 q hq), h.2.1.moved (hv ▸ Vm.Alike.refl _), h.2.2.1.moved (hv ▸ Vm.Alike.refl _), h.2.2.2.1.moved (hv ▸ Vm.Alike.refl _), h.2.2.2.2.moved (hv ▸ Vm.Alike.refl _)⟩
def XC (x : Cx) (z : Sx) (A : Nat → Prop) (own : String) (cc : ByteArray) (nL fr lo cb sb : Nat) : Prop := match x with
  | (p, _, _, R, s, m, args, _, meth, c) => p.tables.exec = Jvm.exec ∧ c.code = cc ∧ c.maxLocals = nL ∧ s.vm.findClass own = some m.cls ∧ (∀ w ∈ Tg, w.before args s = true) ∧ va_K z.1 classes (mty z) s ∧ (∀ q, s.heap.size ≤ q → A q) ∧ fr ≤ R.frames ∧ lo ≤ R.locals ∧ cb ≤ R.cells ∧ sb ≤ R.slots ∧ meth.locks = false ∧ meth.name = "<init>" ∧ EN s ∧ meth.sig.returnType = none
def XWl (x : Cx) (H : Heap) (locs : List Loc) (cn sn : Nat) (Q : State → Prop) (pc : Nat) (ls : Array Slot) (st : List Value) : Prop := match x with
  | (p, l, e, R, s, m, args, below, meth, c) => W p l e R s m args below meth c H locs cn sn Q (F0 m pc ls st)
def VL (x : Cx) (z : Sx) (A : Nat → Prop) (nL : Nat) (Q : State → Prop) (cn sn pc : Nat) (L : List (Nat × Value)) (st : List Value) (ws : va_W) : Prop :=
  ∀ (H : Heap) (locs : List Loc) (ls : Array Slot), va_P z.1 classes ws H → va_D A ws → va_S A x.2.2.2.2.1.heap H locs → lv_has ls nL L → XWl x H locs cn sn Q pc ls st
theorem ra_uniq {U : State} {a b : ClassId} {ty : FieldType} (h1 : va_RA U a ty) (h2 : va_RA U b ty) : a = b := by
  cases ty with
  | object C =>
    obtain ⟨_, _, _, _, _, g1⟩ := h1
    obtain ⟨_, _, _, _, _, g2⟩ := h2
    exact Option.some.inj (g1.symm.trans g2)
  | _ => exact Option.some.inj (Eq.trans (Eq.symm h1) h2)
theorem k_last {D : va_G} {cl : List vw_C} {tys : List (ClassId × FieldType)} {U : State} {c : ClassId} {ty : FieldType} (h : va_K D cl (tys ++ [(c, ty)]) U) : va_RA U c ty := (h.2 tys.length (c, ty) (by rw [List.getElem?_append_right (Nat.le_refl _), Nat.sub_self]; rfl)).2
theorem join_last {A : Nat → Prop} {D : va_G} {cl : List vw_C} {wr w1 : va_W} {a : Nat} {e : va_E} {H H1 : Heap} (hP : va_P D cl (wr ++ [(a, e)]) H) (hD : va_D A (wr ++ [(a, e)])) (hA : ∀ q, H.size ≤ q → A q) (hk : ∀ q : Nat, q < H.size → ¬ va_A [(a, e)] H.size q → H1[q]? = H[q]?) (hP1 : va_P D cl w1 H1) (hD1 : va_D (va_A [(a, e)] H.size) w1) : va_P D cl (wr ++ w1) H1 ∧ va_D A (wr ++ w1) := by
  have hl : (wr ++ [(a, e)])[wr.length]? = some (a, e) := by rw [List.getElem?_append_right (Nat.le_refl _), Nat.sub_self]; rfl
  have hr : ∀ (k : Nat) (q : Nat × va_E), wr[k]? = some q → (wr ++ [(a, e)])[k]? = some q := fun k q h => by rw [List.getElem?_append_left (List.getElem?_eq_some_iff.mp h).1]; exact h
  have hne : ∀ (k : Nat) (q : Nat × va_E), wr[k]? = some q → q.1 < H.size ∧ ¬ va_A [(a, e)] H.size q.1 := fun k q h => by
    have h1 : q.1 < H.size := (hP k q (hr k q h)).lt
    refine ⟨h1, fun g => ?_⟩
    rcases g with ⟨j, e', hj⟩ | g
    · have hj0 : j = 0 := by
        cases j with
        | zero => rfl
        | succ j => simp at hj
      subst hj0
      have hj1 : a = q.1 := by simp at hj; exact hj.1
      have := hD.1 k wr.length q (a, e) (hr k q h) hl hj1.symm
      have hk' := (List.getElem?_eq_some_iff.mp h).1
      omega
    · omega
  refine ⟨va_P.app (fun k q h => (hP k q (hr k q h)).kept (hk q.1 (hne k q h).1 (hne k q h).2)) hP1, ?_, ?_⟩
  · intro i j p q hi hj hpq
    by_cases h1 : i < wr.length
    · rw [List.getElem?_append_left h1] at hi
      by_cases h2 : j < wr.length
      · rw [List.getElem?_append_left h2] at hj
        exact hD.1 i j p q (hr i p hi) (hr j q hj) hpq
      · rw [List.getElem?_append_right (by omega)] at hj
        exact absurd (hpq ▸ hD1.2 _ q hj) (hne i p hi).2
    · rw [List.getElem?_append_right (by omega)] at hi
      by_cases h2 : j < wr.length
      · rw [List.getElem?_append_left h2] at hj
        exact absurd (hpq.symm ▸ hD1.2 _ p hi) (hne j q hj).2
      · rw [List.getElem?_append_right (by omega)] at hj
        have := hD1.1 _ _ p q hi hj hpq
        omega
  · intro k q hk'
    by_cases h1 : k < wr.length
    · rw [List.getElem?_append_left h1] at hk'
      exact hD.2 k q (hr k q hk')
    · rw [List.getElem?_append_right (by omega)] at hk'
      rcases hD1.2 _ q hk' with ⟨j, e', hj⟩ | g
      · have hj0 : j = 0 := by
          cases j with
          | zero => rfl
          | succ j => simp at hj
        subst hj0
        have hj1 : a = q.1 := by simp at hj; exact hj.1
        rw [← hj1]
        exact hD.2 wr.length (a, e) hl
      · exact hA _ g
/-- a constructor's contract: out of its one cell come the cells of PW -/
def CtC (y : MethodName) (cc : ByteArray) (nL fr lo mc ms : Nat) (l : Launch) (z : Sx) (e0 : va_E) (PW : (Nat → Nat) → va_W) : Prop :=
  ∀ (h sz : Nat), Met l y (Cond.code y cc nL none :: Tg) { frames := fr, cells := mc, slots := ms, locals := lo } (va_Pc [.ref h] (fun U => U.heap.size = sz ∧ va_P z.1 classes [(h, e0)] U.heap ∧ va_K z.1 classes (mty z) U ∧ EN U)) (va_Qv (fun u : Nat → Nat => u 0 = h) (fun u t => va_P z.1 classes (PW u) t.heap ∧ va_D (va_A [(h, e0)] sz) (PW u)) (va_A [(h, e0)] sz)) mc ms (va_A [(h, e0)] sz)
def BL (x : Cx) (z : Sx) (h : Nat) (e0 : va_E) (PW : (Nat → Nat) → va_W) (mc ms : Nat) : State → Prop := match x with
  | (_, _, _, _, s, _, args, below, _, _) => MQ below (va_Qv (fun u : Nat → Nat => u 0 = h) (fun u t => va_P z.1 classes (PW u) t.heap ∧ va_D (va_A [(h, e0)] s.heap.size) (PW u)) (va_A [(h, e0)] s.heap.size)) args s mc ms (va_A [(h, e0)] s.heap.size)
theorem CtC_of {y : MethodName} {cc : ByteArray} {nL fr lo mc ms : Nat} {l : Launch} {z : Sx} {e0 : va_E} {PW : (Nat → Nat) → va_W} (hy : plainName y.cls = true) (hlen : 1 ≤ nL) (hnm : y.name = "<init>")
    (body : ∀ (x : Cx) (h : Nat), x.2.1 = l → XC x z (va_A [(h, e0)] x.2.2.2.2.1.heap.size) y.cls cc nL fr lo mc ms → VL x z (va_A [(h, e0)] x.2.2.2.2.1.heap.size) nL (BL x z h e0 PW mc ms) 0 0 0 [(0, .ref h)] [] [(h, e0)]) : CtC y cc nL fr lo mc ms l z e0 PW := by
  intro h sz
  refine Met.ofW (cc := cc) (maxL := nL) (ret := none) hy rfl ?_
  intro p e s m args below meth c s₁ B hml hv
  obtain ⟨rfl, rfl, hP, hK, hE⟩ := hv
  have hts := atoms_spec (ws := Cond.code y cc nL none :: Tg) B.pre
  have hl := lv_entry [Value.ref h] (n := nL) hlen
  rw [lg_entry_eq]
  refine body (p, l, e, _, s, m, _, below, meth, c) h rfl ⟨B.exec, B.bytes, hml, findClass_of_methodNamed B.named, fun w hw => hts w (List.mem_cons_of_mem _ hw), hK, fun q hq => Or.inr hq, Nat.le_refl _, Nat.le_refl _, Nat.le_refl _, Nat.le_refl _, B.notSynchronized, (name_of_methodNamed B.named B.method).1.trans hnm, hE, B.returns⟩ s.heap [] _ hP ?_ va_S.rf hl
  refine ⟨fun i j a b hi hj _ => ?_, fun k q hk => va_A.in hk⟩
  have h1 := (List.getElem?_eq_some_iff.mp hi).1
  have h2 := (List.getElem?_eq_some_iff.mp hj).1
  simp at h1 h2
  omega
section VLR
variable {x : Cx} {z : Sx} {A : Nat → Prop} {own : String} {cc : ByteArray} {nL fr lo cb sb cn sn : Nat} {Q : State → Prop} {pc : Nat} {L : List (Nat × Value)} {st : List Value} {ws : va_W}
theorem VL_iconst {n : Int} {v : Int32} (X : XC x z A own cc nL fr lo cb sb) (hd : decode cc pc = .ok (.iconst n, 1)) (hv : Int32.ofInt n = v) (k : VL x z A nL Q cn sn (pc + 1) L (.int v :: st) ws) : VL x z A nL Q cn sn pc L (st) ws := by
  obtain ⟨p, l, e, R, s, m, args, below, meth, c⟩ := x
  obtain ⟨hx, hb, hml, hown, hts, hK, hA, hfr, hlo, hcb, hsb, hlk, hin, hE, hr⟩ := X
  intro H locs ls hP hD hS hl
  exact lv_iconst hx hb hd hv (k H locs ls hP hD hS hl)
theorem VL_bipush {n : Int} {v : Int32} (X : XC x z A own cc nL fr lo cb sb) (hd : decode cc pc = .ok (.bipush n, 2)) (hv : (Int8.ofInt n).toInt32 = v) (k : VL x z A nL Q cn sn (pc + 2) L (.int v :: st) ws) : VL x z A nL Q cn sn pc L (st) ws := by
  obtain ⟨p, l, e, R, s, m, args, below, meth, c⟩ := x
  obtain ⟨hx, hb, hml, hown, hts, hK, hA, hfr, hlo, hcb, hsb, hlk, hin, hE, hr⟩ := X
  intro H locs ls hP hD hS hl
  exact lv_bipush hx hb hd hv (k H locs ls hP hD hS hl)
theorem VL_sipush {n : Int} {v : Int32} (X : XC x z A own cc nL fr lo cb sb) (hd : decode cc pc = .ok (.sipush n, 3)) (hv : (Int16.ofInt n).toInt32 = v) (k : VL x z A nL Q cn sn (pc + 3) L (.int v :: st) ws) : VL x z A nL Q cn sn pc L (st) ws := by
  obtain ⟨p, l, e, R, s, m, args, below, meth, c⟩ := x
  obtain ⟨hx, hb, hml, hown, hts, hK, hA, hfr, hlo, hcb, hsb, hlk, hin, hE, hr⟩ := X
  intro H locs ls hP hD hS hl
  exact lv_sipush hx hb hd hv (k H locs ls hP hD hS hl)
theorem VL_iload_n {v : Int32} {j : Fin 4} {i : Nat} (q : Nat) (X : XC x z A own cc nL fr lo cb sb) (hd : decode cc pc = .ok (.iload_n j, 1)) (hi : (j : Nat) = i) (hL : L[q]? = some (i, .int v)) (k : VL x z A nL Q cn sn (pc + 1) L (.int v :: st) ws) : VL x z A nL Q cn sn pc L (st) ws := by
  obtain ⟨p, l, e, R, s, m, args, below, meth, c⟩ := x
  obtain ⟨hx, hb, hml, hown, hts, hK, hA, hfr, hlo, hcb, hsb, hlk, hin, hE, hr⟩ := X
  intro H locs ls hP hD hS hl
  exact lv_iload_n hx hb hd hi (lv_at hl q hL) (k H locs ls hP hD hS hl)
theorem VL_aload_n {v : Nat} {j : Fin 4} {i : Nat} (q : Nat) (X : XC x z A own cc nL fr lo cb sb) (hd : decode cc pc = .ok (.aload_n j, 1)) (hi : (j : Nat) = i) (hL : L[q]? = some (i, .ref v)) (k : VL x z A nL Q cn sn (pc + 1) L (.ref v :: st) ws) : VL x z A nL Q cn sn pc L (st) ws := by
  obtain ⟨p, l, e, R, s, m, args, below, meth, c⟩ := x
  obtain ⟨hx, hb, hml, hown, hts, hK, hA, hfr, hlo, hcb, hsb, hlk, hin, hE, hr⟩ := X
  intro H locs ls hP hD hS hl
  exact lv_aload_n hx hb hd hi (lv_at hl q hL) (k H locs ls hP hD hS hl)
theorem VL_dup {v : Value} (X : XC x z A own cc nL fr lo cb sb) (hd : decode cc pc = .ok (.dup, 1)) (hv : v.category = 1) (k : VL x z A nL Q cn sn (pc + 1) L (v :: v :: st) ws) : VL x z A nL Q cn sn pc L (v :: st) ws := by
  obtain ⟨p, l, e, R, s, m, args, below, meth, c⟩ := x
  obtain ⟨hx, hb, hml, hown, hts, hK, hA, hfr, hlo, hcb, hsb, hlk, hin, hE, hr⟩ := X
  intro H locs ls hP hD hS hl
  exact lv_dup hx hb hd hv (k H locs ls hP hD hS hl)
theorem VL_istore_n {v : Int32} {j : Fin 4} {i : Nat} {L' : List (Nat × Value)} (X : XC x z A own cc nL fr lo cb sb) (hd : decode cc pc = .ok (.istore_n j, 1)) (hi : (j : Nat) = i) (hn : i < nL) (hl' : (i, Value.int v) :: L.filter (fun q => !(q.1 == i) && !(q.1 + 1 == i && q.2.category == 2)) = L') (k : VL x z A nL Q cn sn (pc + 1) L' st ws) : VL x z A nL Q cn sn pc L (.int v :: st) ws := by
  obtain ⟨p, l, e, R, s, m, args, below, meth, c⟩ := x
  obtain ⟨hx, hb, hml, hown, hts, hK, hA, hfr, hlo, hcb, hsb, hlk, hin, hE, hr⟩ := X
  intro H locs ls hP hD hS hl
  exact lv_istore_n hx hb hd hi hl hn hl' (fun ls hl => k H locs ls hP hD hS hl)
theorem VL_iinc {i : Nat} {n : Int} {a v : Int32} {L' : List (Nat × Value)} (q : Nat) (X : XC x z A own cc nL fr lo cb sb) (hd : decode cc pc = .ok (.iinc i n, 3)) (hL : L[q]? = some (i, .int a)) (hv : a + Int32.ofInt n = v) (hn : i < nL) (hl' : (i, Value.int v) :: L.filter (fun q => !(q.1 == i) && !(q.1 + 1 == i && q.2.category == 2)) = L') (k : VL x z A nL Q cn sn (pc + 3) L' st ws) : VL x z A nL Q cn sn pc L st ws := by
  obtain ⟨p, l, e, R, s, m, args, below, meth, c⟩ := x
  obtain ⟨hx, hb, hml, hown, hts, hK, hA, hfr, hlo, hcb, hsb, hlk, hin, hE, hr⟩ := X
  intro H locs ls hP hD hS hl
  exact lv_iinc hx hb hd hl hL hv hn hl' (fun ls hl => k H locs ls hP hD hS hl)
theorem VL_geT {a b : Int32} {off : Int} {tgt : Nat} (X : XC x z A own cc nL fr lo cb sb) (hd : decode cc pc = .ok (.if_icmp .ge off, 3)) (ht : (pc : Int) + off = (tgt : Int)) (hc : b ≤ a) (k : VL x z A nL Q cn sn tgt L st ws) : VL x z A nL Q cn sn pc L (.int b :: .int a :: st) ws := by
  obtain ⟨p, l, e, R, s, m, args, below, meth, c⟩ := x
  obtain ⟨hx, hb, hml, hown, hts, hK, hA, hfr, hlo, hcb, hsb, hlk, hin, hE, hr⟩ := X
  intro H locs ls hP hD hS hl
  exact lv_icmp_ge hx hb hd ht (fun _ => (k H locs ls hP hD hS hl)) (fun q => absurd hc q)
theorem VL_geF {a b : Int32} {off : Int} (X : XC x z A own cc nL fr lo cb sb) (hd : decode cc pc = .ok (.if_icmp .ge off, 3)) (tgt : Nat) (ht : (pc : Int) + off = (tgt : Int)) (hc : ¬ b ≤ a) (k : VL x z A nL Q cn sn (pc + 3) L st ws) : VL x z A nL Q cn sn pc L (.int b :: .int a :: st) ws := by
  obtain ⟨p, l, e, R, s, m, args, below, meth, c⟩ := x
  obtain ⟨hx, hb, hml, hown, hts, hK, hA, hfr, hlo, hcb, hsb, hlk, hin, hE, hr⟩ := X
  intro H locs ls hP hD hS hl
  exact lv_icmp_ge hx hb hd ht (fun q => absurd q hc) (fun _ => (k H locs ls hP hD hS hl))
theorem VL_goto {off : Int} {tgt : Nat} (X : XC x z A own cc nL fr lo cb sb) (hd : decode cc pc = .ok (.goto off, 3)) (ht : (pc : Int) + off = (tgt : Int)) (k : VL x z A nL Q cn sn tgt L st ws) : VL x z A nL Q cn sn pc L st ws := by
  obtain ⟨p, l, e, R, s, m, args, below, meth, c⟩ := x
  obtain ⟨hx, hb, hml, hown, hts, hK, hA, hfr, hlo, hcb, hsb, hlk, hin, hE, hr⟩ := X
  intro H locs ls hP hD hS hl
  exact lv_goto hx hb hd ht (k H locs ls hP hD hS hl)
theorem VL_obj {idx a : Nat} (X : XC x z A own cc nL fr lo cb sb) (hd : decode cc pc = .ok (.invokespecial idx, 3)) (h1 : Cond.methodLink own idx objectInit ∈ Tg) (h2 : Cond.instanceMethod objectInit ∈ Tg) (h3 : Cond.code objectInit ⟨#[0xb1]⟩ 1 none ∈ Tg) (hfr1 : 1 ≤ fr) (hlo1 : (st.map fun v => v.category).sum + 12 ≤ lo) (k : VL x z A nL Q cn sn (pc + 3) L st ws) : VL x z A nL Q cn sn pc L (.ref a :: st) ws := by
  obtain ⟨p, l, e, R, s, m, args, below, meth, c⟩ := x
  obtain ⟨hx, hb, hml, hown, hts, hK, hA, hfr, hlo, hcb, hsb, hlk, hin, hE, hr⟩ := X
  intro H locs ls hP hD hS hl
  refine W.objInit hx hb hown (hts _ h1) (hts _ h2) (hts _ h3) rfl (by rw [hml]; exact hl.1) rfl hd (Nat.le_trans hfr1 hfr) ?_ ?_
  · have : 2 * (F0 m pc ls (.ref a :: st)).monitorRoom = 0 := rfl
    omega
  · exact (k H locs ls hP hD hS hl)
theorem VL_new {C : String} {T : u_T} {N ci index : Nat} {ty : Nat → FieldType} {fs : List Value} (X : XC x z A own cc nL fr lo cb sb) (hd : decode cc pc = .ok (.new index, 3)) (hC : CO ci C T N ty) (h1 : Cond.classLink own index C ∈ Tg) (h2 : Cond.instantiable C N ∈ Tg) (h3 : Cond.initialized C ∈ Tg) (hfs : ∀ j, j < N → defaultValue (ty j) = vp_V fs j) (hc : cn + 1 ≤ cb) (hs : sn + N ≤ sb) (k : ∀ q : Nat, VL x z A nL Q (cn + 1) (sn + N) (pc + 3) L (.ref q :: st) (ws ++ [(q, .inr (ci, fs))])) : VL x z A nL Q cn sn pc L st ws := by
  obtain ⟨p, l, e, R, s, m, args, below, meth, c⟩ := x
  obtain ⟨hx, hb, hml, hown, hts, hK, hA, hfr, hlo, hcb, hsb, hlk, hin, hE, hr⟩ := X
  intro H locs ls hP hD hS hl
  obtain ⟨c1, c2, c3, c4, c5, c6⟩ := hC
  exact va_new (ci := ci) (fs := fs) (C := C) (T := T) (N := N) hx hb hts c4 ty c5 hown (hts _ h1) (hts _ h2) (hts _ h3) hK hP hD hS hA c1 hfs (Nat.le_trans hc hcb) (Nat.le_trans hs hsb) hd (fun q H hP hD hS => k q H locs ls hP hD hS hl)
theorem VL_newa {atype : ArrayType} {ty : FieldType} {n : Int32} {N' t0 : Nat} {c0 : ClassId} {a0 : vp_A} (X : XC x z A own cc nL fr lo cb sb) (hd : decode cc pc = .ok (.newarray atype, 2)) (h1 : Cond.arrayClass (newarray.typeOf atype) ∈ Tg) (hty : newarray.typeOf atype = ty) (ha : ∀ cA : ClassId, vp_cell cA a0 = arrV cA N' (fun _ => defaultValue ty)) (hn : ¬ n < 0) (hN : n.toNatClampNeg = N') (hbt : N' * componentBytes ty ≤ 536870912) (ht : (mty z)[t0]? = some (c0, ty)) (hc : cn + 1 ≤ cb) (hs : sn + N' ≤ sb) (k : ∀ q : Nat, VL x z A nL Q (cn + 1) (sn + N') (pc + 2) L (.ref q :: st) (ws ++ [(q, .inl (c0, a0))])) : VL x z A nL Q cn sn pc L (.int n :: st) ws := by
  obtain ⟨p, l, e, R, s, m, args, below, meth, c⟩ := x
  obtain ⟨hx, hb, hml, hown, hts, hK, hA, hfr, hlo, hcb, hsb, hlk, hin, hE, hr⟩ := X
  intro H locs ls hP hD hS hl
  refine va_newa hx hb (hts _ h1) hty hK hP hD hS hA ha hn hN hbt (Nat.le_trans hc hcb) (Nat.le_trans hs hsb) hd (fun q cA H hK1 hP hD hS => ?_)
  have e1 : cA = c0 := ra_uniq (k_last hK1) (hK.2 t0 _ ht).2
  subst e1
  exact k q H locs ls hP hD hS hl
theorem VL_newq {C : String} {index : Nat} {n : Int32} {N' t0 : Nat} {c0 : ClassId} (X : XC x z A own cc nL fr lo cb sb) (hd : decode cc pc = .ok (.anewarray index, 3)) (h1 : Cond.classLink own index C ∈ Tg) (h2 : ∀ U : State, EN U → va_AO C U) (hn : ¬ n < 0) (hN : n.toNatClampNeg = N') (hbt : N' * 4 ≤ 536870912) (ht : (mty z)[t0]? = some (c0, .object C)) (hc : cn + 1 ≤ cb) (hs : sn + N' ≤ sb) (k : ∀ q : Nat, VL x z A nL Q (cn + 1) (sn + N') (pc + 3) L (.ref q :: st) (ws ++ [(q, .inl (c0, N', .inr (.inr (.inr (.inr (fun _ => none))))))])) : VL x z A nL Q cn sn pc L (.int n :: st) ws := by
  obtain ⟨p, l, e, R, s, m, args, below, meth, c⟩ := x
  obtain ⟨hx, hb, hml, hown, hts, hK, hA, hfr, hlo, hcb, hsb, hlk, hin, hE, hr⟩ := X
  intro H locs ls hP hD hS hl
  refine va_newq hx hb hown (hts _ h1) (h2 _ hE) hK hP hD hS hA hn hN hbt (Nat.le_trans hc hcb) (Nat.le_trans hs hsb) hd (fun q cA H hK1 hP hD hS => ?_)
  have e1 : cA = c0 := ra_uniq (k_last hK1) (hK.2 t0 _ ht).2
  subst e1
  exact k q H locs ls hP hD hS hl
theorem VL_getR {C : String} {T : u_T} {N ci index a : Nat} {ty : Nat → FieldType} {fs : List Value} {v : Value} (q0 j : Nat) (X : XC x z A own cc nL fr lo cb sb) (hd : decode cc pc = .ok (.getfield index, 3)) (hC : CO ci C T N ty) (he : ws[q0]? = some (a, .inr (ci, fs))) (hj : j < N) (hw : Cond.fieldLink own index (T j).1 (T j).2.1 (T j).2.2.1 ∈ Tg) (hv : fs[j]? = some v) (k : VL x z A nL Q cn sn (pc + 3) L (v :: st) ws) : VL x z A nL Q cn sn pc L (.ref a :: st) ws := by
  obtain ⟨p, l, e, R, s, m, args, below, meth, c⟩ := x
  obtain ⟨hx, hb, hml, hown, hts, hK, hA, hfr, hlo, hcb, hsb, hlk, hin, hE, hr⟩ := X
  intro H locs ls hP hD hS hl
  obtain ⟨c1, c2, c3, c4, c5, c6⟩ := hC
  exact va_get (D := z.1) (ci := ci) (C := C) (T := T) (N := N) hx hb hts c4 hown hK hP q0 he c1 j hj (hts _ hw) (fun _ h9 => h9) hv hd (k H locs ls hP hD hS hl)
theorem VL_put {C : String} {T : u_T} {N ci index a : Nat} {ty : Nat → FieldType} {fs : List Value} {v : Value} {ws' : va_W} (q0 j : Nat) (X : XC x z A own cc nL fr lo cb sb) (hd : decode cc pc = .ok (.putfield index, 3)) (hC : CO ci C T N ty) (he : ws[q0]? = some (a, .inr (ci, fs))) (hj : j < N) (hw : Cond.fieldLink own index (T j).1 (T j).2.1 (T j).2.2.1 ∈ Tg) (hfin : (T j).2.2.2 = false) (hn : narrow (ty j) v = v) (hft : fits (ty j) v = true) (hjl : j < fs.length) (hw' : ws.set q0 (a, .inr (ci, fs.set j v)) = ws') (k : VL x z A nL Q cn sn (pc + 3) L st ws') : VL x z A nL Q cn sn pc L (v :: .ref a :: st) ws := by
  obtain ⟨p, l, e, R, s, m, args, below, meth, c⟩ := x
  obtain ⟨hx, hb, hml, hown, hts, hK, hA, hfr, hlo, hcb, hsb, hlk, hin, hE, hr⟩ := X
  intro H locs ls hP hD hS hl
  obtain ⟨c1, c2, c3, c4, c5, c6⟩ := hC
  subst hw'
  exact va_put (D := z.1) (ci := ci) (ty := ty j) (C := C) (T := T) (N := N) hx hb hts c4 ty c5 c6 hown hK hP hD hS q0 he c1 j hj (hts _ hw) (fun _ h9 => h9) hfin (c5 j hj) hn hft hjl hd (fun H1 locs1 hP hD hS => k H1 locs1 ls hP hD hS hl)
theorem VL_putF {C : String} {T : u_T} {N ci index a : Nat} {ty : Nat → FieldType} {fs : List Value} {v : Value} {ws' : va_W} (q0 j : Nat) (X : XC x z A own cc nL fr lo cb sb) (hd : decode cc pc = .ok (.putfield index, 3)) (hC : CO ci C T N ty) (he : ws[q0]? = some (a, .inr (ci, fs))) (hj : j < N) (hw : Cond.fieldLink own index (T j).1 (T j).2.1 (T j).2.2.1 ∈ Tg) (hfin : (T j).2.2.2 = true) (hdecl : (T j).1 = own) (hn : narrow (ty j) v = v) (hft : fits (ty j) v = true) (hjl : j < fs.length) (hw' : ws.set q0 (a, .inr (ci, fs.set j v)) = ws') (k : VL x z A nL Q cn sn (pc + 3) L st ws') : VL x z A nL Q cn sn pc L (v :: .ref a :: st) ws := by
  obtain ⟨p, l, e, R, s, m, args, below, meth, c⟩ := x
  obtain ⟨hx, hb, hml, hown, hts, hK, hA, hfr, hlo, hcb, hsb, hlk, hin, hE, hr⟩ := X
  intro H locs ls hP hD hS hl
  obtain ⟨c1, c2, c3, c4, c5, c6⟩ := hC
  subst hw'
  exact va_putF (D := z.1) (ci := ci) (ty := ty j) (C := C) (T := T) (N := N) hx hb hts c4 ty c5 c6 hown hK hP hD hS q0 he c1 j hj (hts _ hw) (fun _ h9 => h9) hfin hin hdecl (c5 j hj) hn hft hjl hd (fun H1 locs1 hP hD hS => k H1 locs1 ls hP hD hS hl)
theorem VL_astq {t0 a v n : Nat} {r : vw_C} {vs : List Value} {cA : ClassId} {f : Nat → Option Nat} {i : Int32} {ws' : va_W} (q0 qk ci : Nat) (X : XC x z A own cc nL fr lo cb sb) (hd : decode cc pc = .ok (.aastore, 1)) (ha : ws[q0]? = some (a, .inl (cA, n, .inr (.inr (.inr (.inr f)))))) (ht : (mty z)[t0]? = some (cA, .object r.1)) (hv : ws[qk]? = some (v, .inr (ci, vs))) (hc : classes[ci]? = some r) (hin' : vp_in i n) (hw' : ws.set q0 (a, .inl (cA, n, .inr (.inr (.inr (.inr (va_up f i.toNatClampNeg (some v))))))) = ws') (k : VL x z A nL Q cn sn (pc + 1) L st ws') : VL x z A nL Q cn sn pc L (.ref v :: .int i :: .ref a :: st) ws := by
  obtain ⟨p, l, e, R, s, m, args, below, meth, c⟩ := x
  obtain ⟨hx, hb, hml, hown, hts, hK, hA, hfr, hlo, hcb, hsb, hlk, hin, hE, hr⟩ := X
  intro H locs ls hP hD hS hl
  subst hw'
  exact va_astq hx hb hK hP hD hS q0 t0 qk ci ha ht hv hc hin' hd (fun H1 locs1 hP hD hS => k H1 locs1 ls hP hD hS hl)
theorem VL_iast {t0 a n : Nat} {cA : ClassId} {f : Nat → Int32} {i v : Int32} {ws' : va_W} (q0 : Nat) (X : XC x z A own cc nL fr lo cb sb) (hd : decode cc pc = .ok (.iastore, 1)) (ha : ws[q0]? = some (a, .inl (cA, n, .inl f))) (ht : (mty z)[t0]? = some (cA, .int)) (hin' : vp_in i n) (hw' : ws.set q0 (a, .inl (cA, n, .inl (upd f i.toNatClampNeg v))) = ws') (k : VL x z A nL Q cn sn (pc + 1) L st ws') : VL x z A nL Q cn sn pc L (.int v :: .int i :: .ref a :: st) ws := by
  obtain ⟨p, l, e, R, s, m, args, below, meth, c⟩ := x
  obtain ⟨hx, hb, hml, hown, hts, hK, hA, hfr, hlo, hcb, hsb, hlk, hin, hE, hr⟩ := X
  intro H locs ls hP hD hS hl
  subst hw'
  exact va_iast hx hb hK hP hD hS q0 t0 ha ht hin' hd (fun H1 locs1 hP hD hS => k H1 locs1 ls hP hD hS hl)
theorem VL_ret {h : Nat} {e0 : va_E} {PW : (Nat → Nat) → va_W} (u : Nat → Nat) (X : XC x z (va_A [(h, e0)] x.2.2.2.2.1.heap.size) own cc nL fr lo cb sb) (hd : decode cc pc = .ok (.return_, 1)) (hu : u 0 = h) (hw : ws = PW u) : VL x z (va_A [(h, e0)] x.2.2.2.2.1.heap.size) nL (BL x z h e0 PW cn sn) cn sn pc L [] ws := by
  obtain ⟨p, l, e, R, s, m, args, below, meth, c⟩ := x
  obtain ⟨hx, hb, hml, hown, hts, hK, hA, hfr, hlo, hcb, hsb, hlk, hin, hE, hr⟩ := X
  intro H locs ls hP hD hS hl
  subst hw
  exact W.vret hx hb hr (fun t ht hW => ⟨⟨u, rfl, hu, by rw [ht]; exact hP, hD⟩, hS.F ht⟩) hS.2.2 hd hlk
theorem VL_callN {y : MethodName} {cc' : ByteArray} {nL' fr' lo' mc ms idx a : Nat} {e0 : va_E} {wr : va_W} {PW : (Nat → Nat) → va_W} (X : XC x z A own cc nL fr lo cb sb) (hd : decode cc pc = .ok (.invokespecial idx, 3)) (hM : CtC y cc' nL' fr' lo' mc ms x.2.1 z e0 PW) (hcd : Cond.code y cc' nL' none ∈ Tg) (h4 : Cond.initialized y.cls ∈ Tg) (h5 : Cond.instanceMethod y ∈ Tg) (q9 : Nat) (hq : nestL[q9]? = some (own, idx, y, RX11)) (hyn : y.name = "<init>") (hy : y.cls ≠ "java/lang/invoke/MethodHandle" ∧ y.cls ≠ "java/lang/invoke/VarHandle" ∧ (parseMethodDescriptor y.desc).map (fun d => d.parameters.length) = some 0) (hrm : fr' + 1 ≤ fr ∧ 8 + (nL' + 11) + lo' ≤ lo) (hcat : (st.map fun v => v.category).sum ≤ 8) (hc : cn + mc ≤ cb) (hs : sn + ms ≤ sb) (hws : ws = wr ++ [(a, e0)]) (k : ∀ u : Nat → Nat, u 0 = a → VL x z A nL Q (cn + mc) (sn + ms) (pc + 3) L st (wr ++ PW u)) : VL x z A nL Q cn sn pc L (.ref a :: st) ws := by
  obtain ⟨p, l, e, R, s, m, args, below, meth, c⟩ := x
  obtain ⟨hx, hb, hml, hown, hts, hK, hA, hfr, hlo, hcb, hsb, hlk, hin, hE, hr⟩ := X
  intro H locs ls hP hD hS hl
  subst hws
  have hG : GoodIn Tg (Cond.code y cc' nL' none :: Tg) := fun w hw => (List.mem_cons.mp hw).elim (fun e => e ▸ tgood hcd) tgood
  have hl0 : (wr ++ [(a, e0)])[wr.length]? = some (a, e0) := by rw [List.getElem?_append_right (Nat.le_refl _), Nat.sub_self]; rfl
  have hPc : va_P z.1 classes [(a, e0)] H := fun k q hk => by
    cases k with
    | zero => cases hk; exact hP _ _ hl0
    | succ k => simp at hk
  have hAH : ∀ q, H.size ≤ q → A q := fun q hq => hA q (Nat.le_trans hS.1 hq)
  have hFc : ∀ q, va_A [(a, e0)] H.size q → A q := fun q hq => by
    rcases hq with ⟨j, e', hj⟩ | hq
    · have hj0 : j = 0 := by
        cases j with
        | zero => rfl
        | succ j => simp at hj
      subst hj0
      have hj1 : a = q := by simp at hj; exact hj.1
      rw [← hj1]; exact hD.2 _ _ hl0
    · exact hAH q hq
  refine va_callv (va_runIN (host := RX11) (As := []) (rest := st) ⟨hx, hb, hml, hown, hts⟩ (hM a H.size) ⟨va_cnB 0 hts hG rfl rfl rfl (hE.1 _ (List.mem_of_getElem? hq)) (hts _ h4) hy ⟨Nat.le_trans hrm.1 hfr, Nat.le_trans hrm.2 hlo⟩, hyn, hts _ h5⟩ ⟨fun a U g mk q => by obtain ⟨q0, q1, qP, qK, qE⟩ := q; exact ⟨q0, q1, qP, va_K.moved (u := U) (U := U.calling g mk a) (Vm.Alike.refl U.vm) qK, EN.same qE rfl⟩, fun U hU hW => ⟨rfl, by rw [hU], by rw [hU]; exact hPc, va_K.moved hW.alike hK, hE.warm hW⟩⟩ rfl rfl hl.1 rfl (lv_room hcat) hd ⟨Nat.le_trans hc hcb, Nat.le_trans hs hsb⟩) hS (fun q _ hq => hFc q hq) hFc (fun u t H1 locs1 ht hvm hw hB hz1 hk1 hS1 => ?_)
  obtain ⟨hP1, hD1⟩ := hB
  rw [ht] at hP1
  obtain ⟨hP2, hD2⟩ := join_last hP hD hAH hk1 hP1 hD1
  exact k u hw H1 locs1 ls hP2 hD2 hS1 hl
theorem VL_call {y : MethodName} {cc' : ByteArray} {nL' fr' lo' mc ms idx a : Nat} {e0 : va_E} {wr : va_W} {PW : (Nat → Nat) → va_W} (X : XC x z A own cc nL fr lo cb sb) (hd : decode cc pc = .ok (.invokespecial idx, 3)) (hM : CtC y cc' nL' fr' lo' mc ms x.2.1 z e0 PW) (hcd : Cond.code y cc' nL' none ∈ Tg) (h4 : Cond.initialized y.cls ∈ Tg) (h5 : Cond.instanceMethod y ∈ Tg) (h6 : Cond.methodLink own idx y ∈ Tg) (hyn : y.name = "<init>") (hy : y.cls ≠ "java/lang/invoke/MethodHandle" ∧ y.cls ≠ "java/lang/invoke/VarHandle" ∧ (parseMethodDescriptor y.desc).map (fun d => d.parameters.length) = some 0) (hrm : fr' + 1 ≤ fr ∧ 8 + (nL' + 11) + lo' ≤ lo) (hcat : (st.map fun v => v.category).sum ≤ 8) (hc : cn + mc ≤ cb) (hs : sn + ms ≤ sb) (hws : ws = wr ++ [(a, e0)]) (k : ∀ u : Nat → Nat, u 0 = a → VL x z A nL Q (cn + mc) (sn + ms) (pc + 3) L st (wr ++ PW u)) : VL x z A nL Q cn sn pc L (.ref a :: st) ws := by
  obtain ⟨p, l, e, R, s, m, args, below, meth, c⟩ := x
  obtain ⟨hx, hb, hml, hown, hts, hK, hA, hfr, hlo, hcb, hsb, hlk, hin, hE, hr⟩ := X
  intro H locs ls hP hD hS hl
  subst hws
  have hG : GoodIn Tg (Cond.code y cc' nL' none :: Tg) := fun w hw => (List.mem_cons.mp hw).elim (fun e => e ▸ tgood hcd) tgood
  have hl0 : (wr ++ [(a, e0)])[wr.length]? = some (a, e0) := by rw [List.getElem?_append_right (Nat.le_refl _), Nat.sub_self]; rfl
  have hPc : va_P z.1 classes [(a, e0)] H := fun k q hk => by
    cases k with
    | zero => cases hk; exact hP _ _ hl0
    | succ k => simp at hk
  have hAH : ∀ q, H.size ≤ q → A q := fun q hq => hA q (Nat.le_trans hS.1 hq)
  have hFc : ∀ q, va_A [(a, e0)] H.size q → A q := fun q hq => by
    rcases hq with ⟨j, e', hj⟩ | hq
    · have hj0 : j = 0 := by
        cases j with
        | zero => rfl
        | succ j => simp at hj
      subst hj0
      have hj1 : a = q := by simp at hj; exact hj.1
      rw [← hj1]; exact hD.2 _ _ hl0
    · exact hAH q hq
  refine va_callv (va_runI (As := []) (rest := st) ⟨hx, hb, hml, hown, hts⟩ (hM a H.size) (cwI 0 hts hG rfl rfl rfl (hts _ h4) (hts _ h6) (hts _ h5) hyn hy ⟨Nat.le_trans hrm.1 hfr, Nat.le_trans hrm.2 hlo⟩) ⟨fun a U g mk q => by obtain ⟨q0, q1, qP, qK, qE⟩ := q; exact ⟨q0, q1, qP, va_K.moved (u := U) (U := U.calling g mk a) (Vm.Alike.refl U.vm) qK, EN.same qE rfl⟩, fun U hU hW => ⟨rfl, by rw [hU], by rw [hU]; exact hPc, va_K.moved hW.alike hK, hE.warm hW⟩⟩ rfl rfl hl.1 rfl (lv_room hcat) hd ⟨Nat.le_trans hc hcb, Nat.le_trans hs hsb⟩) hS (fun q _ hq => hFc q hq) hFc (fun u t H1 locs1 ht hvm hw hB hz1 hk1 hS1 => ?_)
  obtain ⟨hP1, hD1⟩ := hB
  rw [ht] at hP1
  obtain ⟨hP2, hD2⟩ := join_last hP hD hAH hk1 hP1 hD1
  exact k u hw H1 locs1 ls hP2 hD2 hS1 hl
end VLR
