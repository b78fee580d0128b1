def kdCT : List (Nat × Nat) := [(11, 0), (9, 0), (52, 600), (50, 3), (60, 2), (61, 2), (62, 2), (0, 0), (50, 8), (50, 8), (50, 8), (50, 8), (50, 8), (50, 8), (50, 6), (50, 6), (0, 0), (50, 8), (50, 8), (50, 8), (50, 8), (50, 8), (50, 8), (50, 6), (50, 6), (8, 0), (50, 40), (50, 40), (50, 40), (8, 0), (50, 40), (50, 40), (50, 40), (4, 0), (50, 8), (50, 8), (50, 8), (50, 8), (4, 0), (50, 8), (50, 8), (50, 8), (50, 8), (63, 3), (9, 0), (52, 600), (50, 3), (60, 2), (61, 2), (62, 2), (0, 0), (50, 8), (50, 8), (50, 8), (50, 8), (50, 8), (50, 8), (50, 6), (50, 6), (0, 0), (50, 8), (50, 8), (50, 8), (50, 8), (50, 8), (50, 8), (50, 6), (50, 6), (8, 0), (50, 40), (50, 40), (50, 40), (8, 0), (50, 40), (50, 40), (50, 40), (4, 0), (50, 8), (50, 8), (50, 8), (50, 8), (4, 0), (50, 8), (50, 8), (50, 8), (50, 8), (9, 0), (52, 600), (50, 3), (60, 2), (61, 2), (62, 2), (0, 0), (50, 8), (50, 8), (50, 8), (50, 8), (50, 8), (50, 8), (50, 6), (50, 6), (0, 0), (50, 8), (50, 8), (50, 8), (50, 8), (50, 8), (50, 8), (50, 6), (50, 6), (8, 0), (50, 40), (50, 40), (50, 40), (8, 0), (50, 40), (50, 40), (50, 40), (4, 0), (50, 8), (50, 8), (50, 8), (50, 8), (4, 0), (50, 8), (50, 8), (50, 8), (50, 8), (9, 0), (52, 600), (50, 3), (60, 2), (61, 2), (62, 2), (0, 0), (50, 8), (50, 8), (50, 8), (50, 8), (50, 8), (50, 8), (50, 6), (50, 6), (0, 0), (50, 8), (50, 8), (50, 8), (50, 8), (50, 8), (50, 8), (50, 6), (50, 6), (8, 0), (50, 40), (50, 40), (50, 40), (8, 0), (50, 40), (50, 40), (50, 40), (4, 0), (50, 8), (50, 8), (50, 8), (50, 8), (4, 0), (50, 8), (50, 8), (50, 8), (50, 8), (51, 3), (6, 0), (0, 0), (50, 8), (50, 8), (50, 8), (50, 8), (50, 8), (50, 8), (50, 6), (50, 6), (8, 0), (50, 40), (50, 40), (50, 40), (4, 0), (50, 8), (50, 8), (50, 8), (50, 8), (52, 0), (50, 4), (2, 0), (0, 0), (50, 8), (50, 8), (50, 8), (50, 8), (50, 8), (50, 8), (50, 6), (50, 6), (50, 8), (50, 8), (50, 8), (1, 0), (2, 0), (0, 0), (50, 8), (50, 8), (50, 8), (50, 8), (50, 8), (50, 8), (50, 6), (50, 6), (50, 8), (50, 8), (50, 8), (50, 8), (10, 0), (2, 0), (0, 0), (50, 8), (50, 8), (50, 8), (50, 8), (50, 8), (50, 8), (50, 6), (50, 6), (50, 8), (50, 8), (50, 8), (53, 10), (53, 10), (7, 0), (50, 6), (2, 0), (0, 0), (50, 8), (50, 8), (50, 8), (50, 8), (50, 8), (50, 8), (50, 6), (50, 6), (50, 8), (50, 8), (50, 8), (3, 0), (50, 3), (2, 0), (0, 0), (50, 8), (50, 8), (50, 8), (50, 8), (50, 8), (50, 8), (50, 6), (50, 6), (50, 8), (50, 8), (50, 8), (5, 0), (50, 8), (50, 8), (50, 256)]
def kdC : Kn := fun k => kdCT.getD k (99, 0)
theorem kdC_lt {k : Nat} (h : (kdC k).1 < 99) : k < 270 := by
  rcases Nat.lt_or_ge k 270 with q | q
  · exact q
  · have : kdC k = (99, 0) := by
      unfold kdC
      rw [List.getD_eq_getElem?_getD, List.getElem?_eq_none (by rw [show kdCT.length = 270 by decide +kernel]; exact q)]; rfl
    rw [this] at h; exact absurd h (by decide)
def ktB (c off : Nat) (K : Nat × Nat) : Bool := (List.range 270).all (fun k => !(decide (kdC k = (c, 0))) || decide (kdC (k + off) = K))
theorem kt {c off : Nat} {K : Nat × Nat} (h : ktB c off K = true) (hc : c < 99) {z : Sx} (hZ : z.2.2.2.1 = kdC) {k : Nat} (hk : z.2.2.2.1 k = (c, 0)) : z.2.2.2.1 (k + off) = K := by
  rw [hZ] at hk ⊢
  have hl : k < 270 := kdC_lt (by rw [hk]; exact hc)
  have h1 := List.all_eq_true.mp h k (List.mem_range.mpr hl)
  rw [hk] at h1
  simpa using h1
def keB (c n : Nat) (K : Nat × Nat) : Bool := (List.range 270).all (fun k => !(decide (kdC k = (c, n))) || (List.range n).all (fun j => decide (kdC (raE c k j) = K)))
theorem ke {c n : Nat} {K : Nat × Nat} (h : keB c n K = true) (hc : c < 99) {z : Sx} (hZ : z.2.2.2.1 = kdC) {k : Nat} (hk : z.2.2.2.1 k = (c, n)) {i : Int32} (hi : inb i n = true) : z.2.2.2.1 (raE c k i.toNatClampNeg) = K := by
  rw [hZ] at hk ⊢
  have hl : k < 270 := kdC_lt (by rw [hk]; exact hc)
  have h1 := List.all_eq_true.mp h k (List.mem_range.mpr hl)
  rw [hk] at h1
  have hb : i.toNatClampNeg < n := by
    simp only [inb, Bool.and_eq_true, decide_eq_true_eq] at hi
    exact hi.2
  simp only [decide_true, Bool.not_true, Bool.false_or] at h1
  exact of_decide_eq_true (List.all_eq_true.mp h1 _ (List.mem_range.mpr hb))
theorem kbl {z : Sx} (hz : ZOk z) {k : Nat} {K : Nat × Nat} (hk : z.2.2.2.1 k = K) (h : K.1 < 99) : k < z.2.2.2.2 := hz.2.1 k (by rw [hk]; exact h)
theorem xz {x : Cx} {z : Sx} {own : String} {cc : ByteArray} {nL fr lo : Nat} (X : XG x z own cc nL fr lo) : ZOk z := by
  obtain ⟨p, l, e, R, s, m, args, below, meth, c⟩ := x
  exact X.2.2.2.2.2.2.1
def mqK {α : Type} (K : Nat × Nat) (o : Option Nat) (k0 : Option α) (k1 : Nat → Option α) : Option α := match o with
  | none => k0
  | some a => gd (decide (kdC a = K)) (k1 a)
/-- n entries of row a over those of row b -/
def cpM (σ : Mem) (a b n : Nat) : Mem := (fun k i => if k = b ∧ i < n then σ.1 a i else σ.1 k i, σ.2)
def byOk (f : Nat → Int32) (n : Nat) : Bool := (List.range n).all (fun i => fits .byte (.int (f i)))
def mxI (a b : Int32) : Int32 := if a < b then b else a
def mnI (a b : Int32) : Int32 := if b < a then b else a
def abI (a : Int32) : Int32 := if 0 ≤ a then a else 0 - a
section VKX
variable {ρ : Type} {x : Cx} {z : Sx} {own : String} {cc : ByteArray} {nL fr lo : Nat} {Q : ρ → Mem → State → Prop} {pc : Nat} {L : List (Nat × Value)} {st stk : List Value} {σ : Mem} {κ κ1 κ2 : Option (ρ × Mem)}
theorem V_getQC {C : String} {T : u_T} {N ci index k0 : Nat} {ty : Nat → FieldType} {K : Nat × Nat} (j : Nat) (X : XG x z own cc nL fr lo) (hZ : z.2.2.2.1 = kdC) (hd : decode cc pc = .ok (.getfield index, 3)) (hC : CO ci C T N ty) (hk : z.2.2.2.1 k0 = (ci, 0)) (hj : j < N) (hf : fk ci j = 2) (hw : Cond.fieldLink own index (T j).1 (T j).2.1 (T j).2.2.1 ∈ Tg) (k : z.2.2.2.1 (σ.1 k0 j).toNatClampNeg = K → VK x z nL Q (pc + 3) L (.ref (z.2.2.1 (σ.1 k0 j).toNatClampNeg) :: st) σ κ) : VK x z nL Q pc L (.ref (z.2.2.1 k0) :: st) σ (gd (decide (kdC (σ.1 k0 j).toNatClampNeg = K)) κ) := by
  have h := V_getQ (K := K) j X hd hC hk hj hf hw k
  rw [hZ] at h
  exact h
theorem V_callQC {y : MethodName} {cc' : ByteArray} {nL' fr' lo' idx n t ci N : Nat} {ret : Option FieldType} {C : String} {T : u_T} {ty : Nat → FieldType} {κc : Option (Option Nat × Mem)} {κ0 : Mem → Option (ρ × Mem)} {κ3 : Mem → Nat → Option (ρ × Mem)} {K : Nat × Nat} (As st : List Value) (X : XG x z own cc nL fr lo) (E : XE x z) (hZ : z.2.2.2.1 = kdC) (hd : decode cc pc = .ok (.invokevirtual idx, 3)) (hM : Ct QQ y cc' nL' ret fr' lo' x.2.1 z (.ref (z.2.2.1 t) :: As) σ κc) (hC : CO ci C T N ty) (hk : z.2.2.2.1 t = (ci, 0)) (hg : GoodIn Tg (wsV own idx C y (Cond.code y cc' nL' ret :: Tg))) (hy : y.cls = C ∧ y.cls ≠ "java/lang/invoke/MethodHandle" ∧ y.cls ≠ "java/lang/invoke/VarHandle" ∧ (parseMethodDescriptor y.desc).map (fun d => d.parameters.length) = some n) (hn : As.length = n) (hrm : fr' + 1 ≤ fr ∧ 8 + (nL' + 11) + lo' ≤ lo) (hs : stk = As.reverse ++ .ref (z.2.2.1 t) :: st) (hc : (st.map fun v => v.category).sum ≤ 8) (k0 : ∀ (σ1 : Mem), VK x z nL Q (pc + 3) L (.null :: st) σ1 (κ0 σ1)) (k1 : ∀ (a : Nat) (σ1 : Mem), z.2.2.2.1 a = K → VK x z nL Q (pc + 3) L (.ref (z.2.2.1 a) :: st) σ1 (κ3 σ1 a)) : VK x z nL Q pc L stk σ (bd κc (fun o σ1 => mqK K o (κ0 σ1) (κ3 σ1))) := by
  refine V_callQ (f := fun o σ1 => mqK K o (κ0 σ1) (κ3 σ1)) As st X E hd hM hC hk hg hy hn hrm hs hc (fun σ1 _ => k0 σ1) (fun a σ1 _ => ?_)
  intro r σ' h
  obtain ⟨h1, h⟩ := gd_some h
  exact k1 a σ1 (by rw [hZ]; exact of_decide_eq_true h1) r σ' h
theorem V_alen53 {k0 n : Nat} {v : Int32} (X : XG x z own cc nL fr lo) (hd : decode cc pc = .ok (.arraylength, 1)) (hk : z.2.2.2.1 k0 = (53, n)) (hv : Int32.ofNat n = v) (k : VK x z nL Q (pc + 1) L (.int v :: st) σ κ) : VK x z nL Q pc L (.ref (z.2.2.1 k0) :: st) σ κ := by
  obtain ⟨p, l, e, R, s, m, args, below, meth, c⟩ := x
  obtain ⟨hx, hb, hml, hown, hts, hK, hz, hfr, hlo, hlk⟩ := X
  intro r σ' h H locs ls hP hS hl
  have hlt : k0 < z.2.2.2.2 := hz.2.1 k0 (by rw [hk]; show 53 < 99; omega)
  exact va_alen hx hb hK hP k0 3 (by rw [mws_at hlt, ent_lng hk]) rfl hv hd (k r σ' h H locs ls hP hS hl)
theorem V_copy50 {index a0 b0 n0 n1 : Nat} {n : Int32} {f : Mem → Option (ρ × Mem)} (X : XG x z own cc nL fr lo) (hd : decode cc pc = .ok (.invokestatic index, 3)) (hk0 : z.2.2.2.1 a0 = (50, n0)) (hk1 : z.2.2.2.1 b0 = (50, n1)) (hl1 : Cond.methodLink own index arraycopyName ∈ Tg) (hl2 : Cond.native arraycopyName ∈ Tg) (hl3 : Cond.static arraycopyName ∈ Tg) (hl4 : Cond.initialized "java/lang/System" ∈ Tg) (hn : ¬ n < 0) (h4 : n.toNatClampNeg ≤ n0) (h5 : n.toNatClampNeg ≤ n1) (hfr1 : 1 ≤ fr) (hlo1 : (st.map fun v => v.category).sum + (nativeFrameWords "java/lang/System" "arraycopy" 5 + 11) ≤ lo) (k : ∀ σ1, VK x z nL Q (pc + 3) L st σ1 (f σ1)) : VK x z nL Q pc L (.int n :: .int 0 :: .ref (z.2.2.1 b0) :: .int 0 :: .ref (z.2.2.1 a0) :: st) σ (lt_ (cpM σ a0 b0 n.toNatClampNeg) f) := by
  obtain ⟨p, l, e, R, s, m, args, below, meth, c⟩ := x
  obtain ⟨hx, hb, hml, hown, hts, hK, hz, hfr, hlo, hlk⟩ := X
  intro r σ' h H locs ls hP hS hl
  have hlt0 : a0 < z.2.2.2.2 := hz.2.1 a0 (by rw [hk0]; show 50 < 99; omega)
  have hlt1 : b0 < z.2.2.2.2 := hz.2.1 b0 (by rw [hk1]; show 50 < 99; omega)
  refine va_copyi (ty := .int) (f := σ.1 a0) (g := σ.1 b0) hx hb (hml.trans hl.1.symm) hown (hts _ hl1) (hts _ hl2) (hts _ hl3) (hts _ hl4) hK hP (mws_D hz σ) hS a0 b0 0 0 (by rw [mws_at hlt0, ent_int hk0 (by omega) (by omega)]) (by rw [mws_at hlt1, ent_int hk1 (by omega) (by omega)]) rfl rfl rfl (by decide) (by decide) hn (by rw [show (0 : Int32).toNatClampNeg = 0 from rfl]; omega) (by rw [show (0 : Int32).toNatClampNeg = 0 from rfl]; omega) (by rw [show (0 : Int32).toNatClampNeg = 0 from rfl]; exact fun _ _ => rfl) (Nat.le_trans hfr1 hfr) (Nat.le_trans hlo1 hlo) hd (fun H1 locs1 hP hD hS => ?_)
  rw [mws_set (σ' := cpM σ a0 b0 n.toNatClampNeg) (by
    rw [ent_int hk1 (by omega) (by omega)]; congr 4; funext i; simp [cpM, va_cpy]) (fun i hi => by
    have e1 : (cpM σ a0 b0 n.toNatClampNeg).1 i = σ.1 i := by funext a; simp [cpM, hi]
    have e2 : fv z.2.2.2.1 z.2.2.1 (cpM σ a0 b0 n.toNatClampNeg) i = fv z.2.2.2.1 z.2.2.1 σ i := by funext a; unfold fv; rw [e1]
    unfold ent; rw [e1, e2]; rfl)] at hP
  exact k _ r σ' h H1 locs1 ls hP hS hl
theorem V_copy52 {index a0 b0 n0 n1 : Nat} {n : Int32} {f : Mem → Option (ρ × Mem)} (X : XG x z own cc nL fr lo) (hd : decode cc pc = .ok (.invokestatic index, 3)) (hk0 : z.2.2.2.1 a0 = (52, n0)) (hk1 : z.2.2.2.1 b0 = (52, n1)) (hl1 : Cond.methodLink own index arraycopyName ∈ Tg) (hl2 : Cond.native arraycopyName ∈ Tg) (hl3 : Cond.static arraycopyName ∈ Tg) (hl4 : Cond.initialized "java/lang/System" ∈ Tg) (hn : ¬ n < 0) (h4 : n.toNatClampNeg ≤ n0) (h5 : n.toNatClampNeg ≤ n1) (hfr1 : 1 ≤ fr) (hlo1 : (st.map fun v => v.category).sum + (nativeFrameWords "java/lang/System" "arraycopy" 5 + 11) ≤ lo) (k : ∀ σ1, VK x z nL Q (pc + 3) L st σ1 (f σ1)) : VK x z nL Q pc L (.int n :: .int 0 :: .ref (z.2.2.1 b0) :: .int 0 :: .ref (z.2.2.1 a0) :: st) σ (gd (byOk (σ.1 a0) n.toNatClampNeg) (lt_ (cpM σ a0 b0 n.toNatClampNeg) f)) := by
  obtain ⟨p, l, e, R, s, m, args, below, meth, c⟩ := x
  obtain ⟨hx, hb, hml, hown, hts, hK, hz, hfr, hlo, hlk⟩ := X
  intro r σ' h H locs ls hP hS hl
  obtain ⟨hby, h⟩ := gd_some h
  have hlt0 : a0 < z.2.2.2.2 := hz.2.1 a0 (by rw [hk0]; show 52 < 99; omega)
  have hlt1 : b0 < z.2.2.2.2 := hz.2.1 b0 (by rw [hk1]; show 52 < 99; omega)
  refine va_copyi (ty := .byte) (f := σ.1 a0) (g := σ.1 b0) hx hb (hml.trans hl.1.symm) hown (hts _ hl1) (hts _ hl2) (hts _ hl3) (hts _ hl4) hK hP (mws_D hz σ) hS a0 b0 2 2 (by rw [mws_at hlt0, ent_int hk0 (by omega) (by omega)]) (by rw [mws_at hlt1, ent_int hk1 (by omega) (by omega)]) rfl rfl rfl (by decide) (by decide) hn (by rw [show (0 : Int32).toNatClampNeg = 0 from rfl]; omega) (by rw [show (0 : Int32).toNatClampNeg = 0 from rfl]; omega) (by rw [show (0 : Int32).toNatClampNeg = 0 from rfl]; intro i hi; rw [Nat.zero_add]; exact List.all_eq_true.mp hby i (List.mem_range.mpr hi)) (Nat.le_trans hfr1 hfr) (Nat.le_trans hlo1 hlo) hd (fun H1 locs1 hP hD hS => ?_)
  rw [mws_set (σ' := cpM σ a0 b0 n.toNatClampNeg) (by
    rw [ent_int hk1 (by omega) (by omega)]; congr 4; funext i; simp [cpM, va_cpy]) (fun i hi => by
    have e1 : (cpM σ a0 b0 n.toNatClampNeg).1 i = σ.1 i := by funext a; simp [cpM, hi]
    have e2 : fv z.2.2.2.1 z.2.2.1 (cpM σ a0 b0 n.toNatClampNeg) i = fv z.2.2.2.1 z.2.2.1 σ i := by funext a; unfold fv; rw [e1]
    unfold ent; rw [e1, e2]; rfl)] at hP
  exact k _ r σ' h H1 locs1 ls hP hS hl
theorem V_mmax {index : Nat} {a b : Int32} (X : XG x z own cc nL fr lo) (hd : decode cc pc = .ok (.invokestatic index, 3)) (h1 : Cond.methodLink own index Lib.Math.max.name ∈ Tg) (h2 : Cond.static Lib.Math.max.name ∈ Tg) (h3 : Cond.initialized "java/lang/Math" ∈ Tg) (h4 : Cond.code Lib.Math.max.name Lib.Math.max.code 2 (some .int) ∈ Tg) (hfr1 : 1 ≤ fr) (hlo1 : (st.map fun v => v.category).sum + 13 ≤ lo) (k : VK x z nL Q (pc + 3) L (.int (mxI a b) :: st) σ κ) : VK x z nL Q pc L (.int b :: .int a :: st) σ κ := by
  obtain ⟨p, l, e, R, s, m, args, below, meth, c⟩ := x
  obtain ⟨hx, hb, hml, hown, hts, hK, hz, hfr, hlo, hlk⟩ := X
  intro r σ' h H locs ls hP hS hl
  exact va_mmax hx hb (hml.trans hl.1.symm) hown (hts _ h1) (hts _ h2) (hts _ h3) (hts _ h4) (Nat.le_trans hfr1 hfr) (Nat.le_trans hlo1 hlo) (Nat.zero_le _) (Nat.zero_le _) hd (k r σ' h H locs ls hP hS hl)
theorem V_mmin {index : Nat} {a b : Int32} (X : XG x z own cc nL fr lo) (hd : decode cc pc = .ok (.invokestatic index, 3)) (h1 : Cond.methodLink own index Lib.Math.min.name ∈ Tg) (h2 : Cond.static Lib.Math.min.name ∈ Tg) (h3 : Cond.initialized "java/lang/Math" ∈ Tg) (h4 : Cond.code Lib.Math.min.name Lib.Math.min.code 2 (some .int) ∈ Tg) (hfr1 : 1 ≤ fr) (hlo1 : (st.map fun v => v.category).sum + 13 ≤ lo) (k : VK x z nL Q (pc + 3) L (.int (mnI a b) :: st) σ κ) : VK x z nL Q pc L (.int b :: .int a :: st) σ κ := by
  obtain ⟨p, l, e, R, s, m, args, below, meth, c⟩ := x
  obtain ⟨hx, hb, hml, hown, hts, hK, hz, hfr, hlo, hlk⟩ := X
  intro r σ' h H locs ls hP hS hl
  exact va_mmin hx hb (hml.trans hl.1.symm) hown (hts _ h1) (hts _ h2) (hts _ h3) (hts _ h4) (Nat.le_trans hfr1 hfr) (Nat.le_trans hlo1 hlo) (Nat.zero_le _) (Nat.zero_le _) hd (k r σ' h H locs ls hP hS hl)
theorem V_mabs {index : Nat} {a : Int32} (X : XG x z own cc nL fr lo) (hd : decode cc pc = .ok (.invokestatic index, 3)) (h1 : Cond.methodLink own index Lib.Math.abs.name ∈ Tg) (h2 : Cond.static Lib.Math.abs.name ∈ Tg) (h3 : Cond.initialized "java/lang/Math" ∈ Tg) (h4 : Cond.code Lib.Math.abs.name Lib.Math.abs.code 1 (some .int) ∈ Tg) (hfr1 : 1 ≤ fr) (hlo1 : (st.map fun v => v.category).sum + 13 ≤ lo) (k : VK x z nL Q (pc + 3) L (.int (abI a) :: st) σ κ) : VK x z nL Q pc L (.int a :: st) σ κ := by
  obtain ⟨p, l, e, R, s, m, args, below, meth, c⟩ := x
  obtain ⟨hx, hb, hml, hown, hts, hK, hz, hfr, hlo, hlk⟩ := X
  intro r σ' h H locs ls hP hS hl
  exact va_mabs hx hb (hml.trans hl.1.symm) hown (hts _ h1) (hts _ h2) (hts _ h3) (hts _ h4) (Nat.le_trans hfr1 hfr) (Nat.le_trans hlo1 hlo) (Nat.zero_le _) (Nat.zero_le _) hd (k r σ' h H locs ls hP hS hl)
end VKX
