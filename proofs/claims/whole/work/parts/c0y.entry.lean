/-! The law's entry. -/
theorem eL_7 : Cond.classLink RL 7 RX11 ∈ Tg := (tg_in (List.mem_append_right _ (List.mem_of_getElem? (i := 23) (by decide +kernel))) rfl)
theorem eL_10 : Cond.classLink RL 10 RX12 ∈ Tg := (tg_in (List.mem_append_right _ (List.mem_of_getElem? (i := 1275) (by decide +kernel))) rfl)
theorem eI_11 : Cond.instantiable RX11 10 ∈ Tg := (tg_in (List.mem_append_right _ (List.mem_of_getElem? (i := 24) (by decide +kernel))) rfl)
theorem eI_12 : Cond.instantiable RX12 35 ∈ Tg := (tg_in (List.mem_append_right _ (List.mem_of_getElem? (i := 1276) (by decide +kernel))) rfl)
theorem eN_11 : Cond.initialized RX11 ∈ Tg := (tg_in (List.mem_append_right _ (List.mem_of_getElem? (i := 1) (by decide +kernel))) rfl)
theorem eN_12 : Cond.initialized RX12 ∈ Tg := (tg_in (List.mem_append_right _ (List.mem_of_getElem? (i := 13) (by decide +kernel))) rfl)
theorem eM_9 : Cond.methodLink RL 9 yX11_init ∈ Tg := (tg_in (List.mem_append_right _ (List.mem_of_getElem? (i := 25) (by decide +kernel))) rfl)
theorem eM_12 : Cond.methodLink RL 12 yX12_init ∈ Tg := (tg_in (List.mem_append_right _ (List.mem_of_getElem? (i := 1277) (by decide +kernel))) rfl)
theorem eS_11 : Cond.instanceMethod yX11_init ∈ Tg := (tg_in (List.mem_append_right _ (List.mem_of_getElem? (i := 26) (by decide +kernel))) rfl)
theorem eS_12 : Cond.instanceMethod yX12_init ∈ Tg := (tg_in (List.mem_append_right _ (List.mem_of_getElem? (i := 1278) (by decide +kernel))) rfl)
theorem eC_11 : Cond.code yX11_init cX11_init 2 none ∈ Tg := (tg_in (List.mem_append_right _ (List.mem_of_getElem? (i := 27) (by decide +kernel))) rfl)
theorem eC_12 : Cond.code yX12_init cX12_init 1 none ∈ Tg := (tg_in (List.mem_append_right _ (List.mem_of_getElem? (i := 1279) (by decide +kernel))) rfl)
def XD (x : Cx) (z : Sx) (A : Nat → Prop) (cc : ByteArray) (nL fr lo cb sb : Nat) : Prop := match x with
  | (p, _, _, R, s, m, args, _, _, c) => p.tables.exec = Jvm.exec ∧ c.code = cc ∧ c.maxLocals = nL ∧ s.vm.findClass RL = some m.cls ∧ (∀ w ∈ Tg, w.before args s = true) ∧ va_K z.1 classes (mty z) s ∧ (∀ q, s.heap.size ≤ q → A q) ∧ fr ≤ R.frames ∧ lo ≤ R.locals ∧ cb ≤ R.cells ∧ sb ≤ R.slots ∧ EN s
section VDR
variable {x : Cx} {z : Sx} {A : Nat → Prop} {cc : ByteArray} {nL fr lo cb sb cn sn : Nat} {Q : State → Prop} {pc : Nat} {L : List (Nat × Value)} {st : List Value} {ws : va_W}
theorem VD_iconst {n : Int} {v : Int32} (X : XD x z A cc nL fr lo cb sb) (hd : decode cc pc = .ok (.iconst n, 1)) (hv : Int32.ofInt n = v) (k : VL x z A nL Q cn sn (pc + 1) L (.int v :: st) ws) : VL x z A nL Q cn sn pc L (st) ws := by
  obtain ⟨p, l, e, R, s, m, args, below, meth, c⟩ := x
  obtain ⟨hx, hb, hml, hown, hts, hK, hA, hfr, hlo, hcb, hsb, hE⟩ := X
  intro H locs ls hP hD hS hl
  exact lv_iconst hx hb hd hv (k H locs ls hP hD hS hl)
theorem VD_dup {v : Value} (X : XD x z A cc nL fr lo cb sb) (hd : decode cc pc = .ok (.dup, 1)) (hv : v.category = 1) (k : VL x z A nL Q cn sn (pc + 1) L (v :: v :: st) ws) : VL x z A nL Q cn sn pc L (v :: st) ws := by
  obtain ⟨p, l, e, R, s, m, args, below, meth, c⟩ := x
  obtain ⟨hx, hb, hml, hown, hts, hK, hA, hfr, hlo, hcb, hsb, hE⟩ := X
  intro H locs ls hP hD hS hl
  exact lv_dup hx hb hd hv (k H locs ls hP hD hS hl)
theorem VD_istore_n {v : Int32} {j : Fin 4} {i : Nat} {L' : List (Nat × Value)} (X : XD x z A cc nL fr lo cb sb) (hd : decode cc pc = .ok (.istore_n j, 1)) (hi : (j : Nat) = i) (hn : i < nL) (hl' : (i, Value.int v) :: L.filter (fun q => !(q.1 == i) && !(q.1 + 1 == i && q.2.category == 2)) = L') (k : VL x z A nL Q cn sn (pc + 1) L' st ws) : VL x z A nL Q cn sn pc L (.int v :: st) ws := by
  obtain ⟨p, l, e, R, s, m, args, below, meth, c⟩ := x
  obtain ⟨hx, hb, hml, hown, hts, hK, hA, hfr, hlo, hcb, hsb, hE⟩ := X
  intro H locs ls hP hD hS hl
  exact lv_istore_n hx hb hd hi hl hn hl' (fun ls hl => k H locs ls hP hD hS hl)
theorem VD_astore_n {v : Nat} {j : Fin 4} {i : Nat} {L' : List (Nat × Value)} (X : XD x z A cc nL fr lo cb sb) (hd : decode cc pc = .ok (.astore_n j, 1)) (hi : (j : Nat) = i) (hn : i < nL) (hl' : (i, Value.ref v) :: L.filter (fun q => !(q.1 == i) && !(q.1 + 1 == i && q.2.category == 2)) = L') (k : VL x z A nL Q cn sn (pc + 1) L' st ws) : VL x z A nL Q cn sn pc L (.ref v :: st) ws := by
  obtain ⟨p, l, e, R, s, m, args, below, meth, c⟩ := x
  obtain ⟨hx, hb, hml, hown, hts, hK, hA, hfr, hlo, hcb, hsb, hE⟩ := X
  intro H locs ls hP hD hS hl
  exact lv_astore_n hx hb hd hi hl hn hl' (fun ls hl => k H locs ls hP hD hS hl)
theorem VD_new {C : String} {T : u_T} {N ci index : Nat} {ty : Nat → FieldType} {fs : List Value} (X : XD x z A cc nL fr lo cb sb) (hd : decode cc pc = .ok (.new index, 3)) (hC : CO ci C T N ty) (h1 : Cond.classLink RL index C ∈ Tg) (h2 : Cond.instantiable C N ∈ Tg) (h3 : Cond.initialized C ∈ Tg) (hfs : ∀ j, j < N → defaultValue (ty j) = vp_V fs j) (hc : cn + 1 ≤ cb) (hs : sn + N ≤ sb) (k : ∀ q : Nat, VL x z A nL Q (cn + 1) (sn + N) (pc + 3) L (.ref q :: st) (ws ++ [(q, .inr (ci, fs))])) : VL x z A nL Q cn sn pc L st ws := by
  obtain ⟨p, l, e, R, s, m, args, below, meth, c⟩ := x
  obtain ⟨hx, hb, hml, hown, hts, hK, hA, hfr, hlo, hcb, hsb, hE⟩ := X
  intro H locs ls hP hD hS hl
  obtain ⟨c1, c2, c3, c4, c5, c6⟩ := hC
  exact va_new (ci := ci) (fs := fs) (C := C) (T := T) (N := N) hx hb hts c4 ty c5 hown (hts _ h1) (hts _ h2) (hts _ h3) hK hP hD hS hA c1 hfs (Nat.le_trans hc hcb) (Nat.le_trans hs hsb) hd (fun q H hP hD hS => k q H locs ls hP hD hS hl)
theorem VD_call {y : MethodName} {cc' : ByteArray} {nL' fr' lo' mc ms idx a : Nat} {e0 : va_E} {wr : va_W} {PW : (Nat → Nat) → va_W} (X : XD x z A cc nL fr lo cb sb) (hd : decode cc pc = .ok (.invokespecial idx, 3)) (hM : CtC y cc' nL' fr' lo' mc ms x.2.1 z e0 PW) (hcd : Cond.code y cc' nL' none ∈ Tg) (h4 : Cond.initialized y.cls ∈ Tg) (h5 : Cond.instanceMethod y ∈ Tg) (h6 : Cond.methodLink RL idx y ∈ Tg) (hyn : y.name = "<init>") (hy : y.cls ≠ "java/lang/invoke/MethodHandle" ∧ y.cls ≠ "java/lang/invoke/VarHandle" ∧ (parseMethodDescriptor y.desc).map (fun d => d.parameters.length) = some 0) (hrm : fr' + 1 ≤ fr ∧ 8 + (nL' + 11) + lo' ≤ lo) (hcat : (st.map fun v => v.category).sum ≤ 8) (hc : cn + mc ≤ cb) (hs : sn + ms ≤ sb) (hws : ws = wr ++ [(a, e0)]) (k : ∀ u : Nat → Nat, u 0 = a → VL x z A nL Q (cn + mc) (sn + ms) (pc + 3) L st (wr ++ PW u)) : VL x z A nL Q cn sn pc L (.ref a :: st) ws := by
  obtain ⟨p, l, e, R, s, m, args, below, meth, c⟩ := x
  obtain ⟨hx, hb, hml, hown, hts, hK, hA, hfr, hlo, hcb, hsb, hE⟩ := X
  intro H locs ls hP hD hS hl
  subst hws
  have hG : GoodIn Tg (Cond.code y cc' nL' none :: Tg) := fun w hw => (List.mem_cons.mp hw).elim (fun e => e ▸ tgood hcd) tgood
  have hl0 : (wr ++ [(a, e0)])[wr.length]? = some (a, e0) := by rw [List.getElem?_append_right (Nat.le_refl _), Nat.sub_self]; rfl
  have hPc : va_P z.1 classes [(a, e0)] H := fun k q hk => by
    cases k with
    | zero => cases hk; exact hP _ _ hl0
    | succ k => simp at hk
  have hAH : ∀ q, H.size ≤ q → A q := fun q hq => hA q (Nat.le_trans hS.1 hq)
  have hFc : ∀ q, va_A [(a, e0)] H.size q → A q := fun q hq => by
    rcases hq with ⟨j, e', hj⟩ | hq
    · have hj0 : j = 0 := by
        cases j with
        | zero => rfl
        | succ j => simp at hj
      subst hj0
      have hj1 : a = q := by simp at hj; exact hj.1
      rw [← hj1]; exact hD.2 _ _ hl0
    · exact hAH q hq
  refine va_callv (va_runI (As := []) (rest := st) ⟨hx, hb, hml, hown, hts⟩ (hM a H.size) (cwI 0 hts hG rfl rfl rfl (hts _ h4) (hts _ h6) (hts _ h5) hyn hy ⟨Nat.le_trans hrm.1 hfr, Nat.le_trans hrm.2 hlo⟩) ⟨fun a U g mk q => by obtain ⟨q0, q1, qP, qK, qE⟩ := q; exact ⟨q0, q1, qP, va_K.moved (u := U) (U := U.calling g mk a) (Vm.Alike.refl U.vm) qK, EN.same qE rfl⟩, fun U hU hW => ⟨rfl, by rw [hU], by rw [hU]; exact hPc, va_K.moved hW.alike hK, hE.warm hW⟩⟩ rfl rfl hl.1 rfl (lv_room hcat) hd ⟨Nat.le_trans hc hcb, Nat.le_trans hs hsb⟩) hS (fun q _ hq => hFc q hq) hFc (fun u t H1 locs1 ht hvm hw hB hz1 hk1 hS1 => ?_)
  obtain ⟨hP1, hD1⟩ := hB
  rw [ht] at hP1
  obtain ⟨hP2, hD2⟩ := join_last hP hD hAH hk1 hP1 hD1
  exact k u hw H1 locs1 ls hP2 hD2 hS1 hl
end VDR
set_option maxRecDepth 100000 in
set_option maxHeartbeats 4000000 in
theorem law_entry {x : Cx} {z : Sx} {A : Nat → Prop} {Q : State → Prop} {b : Nat} (X : XD x z A code 4 20 487 284 16456) (k : ∀ u1 u2 : Nat → Nat, VL x z A 4 Q (0 + 1 + 269 + 1 + 13) (0 + 10 + 5419 + 35 + 10992) 18 [(3, .int 0), (2, .ref (u2 0)), (1, .ref (u1 0)), (0, .ref b)] [] (([] ++ PW_11 z u1) ++ PW_12 z u2)) : VL x z A 4 Q 0 0 0 [(0, .ref b)] [] [] := by
  refine VD_new (ci := 11) (fs := [.null, .null, .null, .null, .null, .null, .null, .null, .null, .null]) X dL_law_0 co11 eL_7 eI_11 eN_11 (by decide +kernel) (by decide) (by decide) (fun q1 => ?_)
  refine VD_dup X dL_law_3 rfl ?_
  refine VD_call X dL_law_4 (kcX11 x.2.1 z) eC_11 eN_11 eS_11 eM_9 rfl (by decide +kernel) ⟨by decide, by decide⟩ (Nat.le_of_ble_eq_true rfl) (by decide) (by decide) rfl (fun u1 h1 => ?_)
  subst h1
  refine VD_astore_n (L' := [(1, .ref (u1 0)), (0, .ref b)]) X dL_law_7 rfl (by decide) rfl ?_
  refine VD_new (ci := 12) (fs := [.null, .null, .int 0, .int 0, .int 0, .int 0, .int 0, .int 0, .int 0, .int 0, .null, .int 0, .int 0, .int 0, .int 0, .int 0, .int 0, .null, .null, .null, .null, .int 0, .int 0, .int 0, .int 0, .int 0, .int 0, .null, .null, .null, .null, .null, .null, .int 0, .int 0]) X dL_law_8 co12 eL_10 eI_12 eN_12 (by decide +kernel) (by decide) (by decide) (fun q2 => ?_)
  refine VD_dup X dL_law_11 rfl ?_
  refine VD_call X dL_law_12 (kcX12 x.2.1 z) eC_12 eN_12 eS_12 eM_12 rfl (by decide +kernel) ⟨by decide, by decide⟩ (Nat.le_of_ble_eq_true rfl) (by decide) (by decide) rfl (fun u2 h2 => ?_)
  subst h2
  refine VD_astore_n (L' := [(2, .ref (u2 0)), (1, .ref (u1 0)), (0, .ref b)]) X dL_law_15 rfl (by decide) rfl ?_
  refine VD_iconst (v := 0) X dL_law_16 (by decide) ?_
  refine VD_istore_n (L' := [(3, .int 0), (2, .ref (u2 0)), (1, .ref (u1 0)), (0, .ref b)]) X dL_law_17 rfl (by decide) rfl ?_
  exact k u1 u2
theorem D_l {A : Nat → Prop} {a b : va_W} (h : va_D A (a ++ b)) : va_D A a := ⟨fun i j p q hi hj e => h.1 i j p q (by rw [List.getElem?_append_left (List.getElem?_eq_some_iff.mp hi).1]; exact hi) (by rw [List.getElem?_append_left (List.getElem?_eq_some_iff.mp hj).1]; exact hj) e, fun k q hk => h.2 k q (by rw [List.getElem?_append_left (List.getElem?_eq_some_iff.mp hk).1]; exact hk)⟩
theorem ap_r {a b : va_W} {k : Nat} {q : Nat × va_E} (hk : b[k]? = some q) : (a ++ b)[a.length + k]? = some q := by rw [List.getElem?_append_right (by omega), Nat.add_sub_cancel_left]; exact hk
theorem D_r {A : Nat → Prop} {a b : va_W} (h : va_D A (a ++ b)) : va_D A b := ⟨fun i j p q hi hj e => by have := h.1 _ _ p q (ap_r (a := a) hi) (ap_r (a := a) hj) e; omega, fun k q hk => h.2 _ q (ap_r (a := a) hk)⟩
theorem D_x {A : Nat → Prop} {a b : va_W} (h : va_D A (a ++ b)) {i j : Nat} {p q : Nat × va_E} (hi : a[i]? = some p) (hj : b[j]? = some q) : p.1 ≠ q.1 := fun e => by
  have l := (List.getElem?_eq_some_iff.mp hi).1
  have := h.1 i _ p q (by rw [List.getElem?_append_left l]; exact hi) (ap_r (a := a) hj) e
  omega
theorem pw_at {z : Sx} {u : Nat → Nat} {a : Nat} (ha : a < 270) : ∃ (i : Nat) (e : va_E), (PW_11 z u)[i]? = some (u a, e) := by
  have h2 : ((PW_11 z u).map Prod.fst)[posL.getD a 0]? = some (u a) := by rw [pm_11, List.getElem?_map, pos_get a ha]; rfl
  rw [List.getElem?_map] at h2
  cases h3 : (PW_11 z u)[posL.getD a 0]? with
  | none => rw [h3] at h2; cases h2
  | some q =>
    rw [h3] at h2
    have h4 : q.1 = u a := Option.some.inj h2
    exact ⟨_, q.2, by rw [← h4]; exact h3⟩
theorem rr_start : RR s0C s0M := by
  have z3 : ∀ j, s0C.1 3 j = 0 := fun _ => rfl
  have by0 : ∀ k, (s0L.filter (fun q => q.1 == k)) = [] → byOk (s0C.1 k) 600 = true := fun k h => by
    rw [byOk_iff]
    intro i _
    have e : s0C.1 k i = 0 := by
      show s0F (s0L.filter (fun q => q.1 == k)) k i = 0
      rw [h]; rfl
    rw [e]
    decide
  refine ⟨⟨⟨0, by omega, rfl, rfl, fun i hi => absurd hi (Nat.not_lt_zero i)⟩, ⟨rfl, rfl⟩, ⟨0, by omega, rfl, rfl, fun i hi => absurd hi (Nat.not_lt_zero i)⟩, ⟨0, by omega, rfl, rfl, fun i hi => absurd hi (Nat.not_lt_zero i)⟩, ⟨0, by omega, rfl, rfl, fun i hi => absurd hi (Nat.not_lt_zero i)⟩, by0 2 (by decide)⟩, fun k hk => ⟨?_, Or.inl ⟨?_, ?_⟩⟩, ?_, Or.inl ⟨?_, ?_⟩⟩
  · have cs : k = 0 ∨ k = 1 ∨ k = 2 := by omega
    rcases cs with e | e | e <;> subst e <;> exact by0 _ (by decide)
  · have cs : k = 0 ∨ k = 1 ∨ k = 2 := by omega
    rcases cs with e | e | e <;> subst e <;> decide
  · have cs : k = 0 ∨ k = 1 ∨ k = 2 := by omega
    rcases cs with e | e | e <;> subst e <;> decide
  · decide
  · decide
  · decide
