/-! the law: the class's picture z1 and the reference's z2 beside each other, the script at b -/
def X2 (x : Cx) (z z1 z2 : Sx) (cc : ByteArray) (nL fr lo b Ln : Nat) (xs : Nat → Int32) : Prop := match x with
  | (p, _, _, R, s, m, args, _, meth, c) => p.tables.exec = Jvm.exec ∧ c.code = cc ∧ c.maxLocals = nL ∧ s.vm.findClass RL = some m.cls ∧ (∀ w ∈ Tg, w.before args s = true) ∧ va_K z.1 classes (mty z) s ∧ (z1.1 = z.1 ∧ z1.2.1 = z.2.1 ∧ z2.1 = z.1 ∧ z2.2.1 = z.2.1) ∧ ZOk z1 ∧ ZOk z2 ∧ EX z1 s ∧ EX z2 s ∧ (∀ q, zA z1 q → s.heap.size ≤ q) ∧ (∀ q, zA z2 q → s.heap.size ≤ q) ∧ (∀ q, zA z1 q → ¬ zA z2 q) ∧ va_X b Ln xs s s.heap ∧ b < s.heap.size ∧ fr ≤ R.frames ∧ lo ≤ R.locals ∧ meth.locks = false
/-- from here the law ends in Q, if the program κ answers 1 -/
def V2 (x : Cx) (z z1 z2 : Sx) (nL cn sn : Nat) (Q : State → Prop) (pc : Nat) (L : List (Nat × Value)) (st : List Value) (σ1 σ2 : Mem) (κ : Option Int32) : Prop :=
  κ = some 1 → ∀ (H : Heap) (locs : List Loc) (ls : Array Slot), va_P z.1 classes (mws z1 σ1) H → va_P z.1 classes (mws z2 σ2) H → va_S (fun q => x.2.2.2.2.1.heap.size ≤ q) x.2.2.2.2.1.heap H locs → lv_has ls nL L → XWl x H locs cn sn Q pc ls st
theorem gd2_some {b : Bool} {κ : Option Int32} (h : gd b κ = some 1) : b = true ∧ κ = some 1 := gd_some h
section V2R
variable {x : Cx} {z z1 z2 : Sx} {cc : ByteArray} {nL fr lo b Ln cn sn : Nat} {xs : Nat → Int32} {Q : State → Prop} {pc : Nat} {L : List (Nat × Value)} {st stk : List Value} {σ1 σ2 : Mem} {κ κ1 κ2 : Option Int32}
theorem V2_sub {L' : List (Nat × Value)} (ks : List Nat) (h : lv_pick L ks = L') (k : V2 x z z1 z2 nL cn sn Q pc L' st σ1 σ2 κ) : V2 x z z1 z2 nL cn sn Q pc L st σ1 σ2 κ :=
  fun e H locs ls hP1 hP2 hS hl => k e H locs ls hP1 hP2 hS (lv_sub hl ks h)
theorem V2_iconst {n : Int} {v : Int32} (X : X2 x z z1 z2 cc nL fr lo b Ln xs) (hd : decode cc pc = .ok (.iconst n, 1)) (hv : Int32.ofInt n = v) (k : V2 x z z1 z2 nL cn sn Q (pc + 1) L (.int v :: st) σ1 σ2 κ) : V2 x z z1 z2 nL cn sn Q pc L (st) σ1 σ2 κ := by
  obtain ⟨p, l, e, R, s, m, args, below, meth, c⟩ := x
  obtain ⟨hx, hb, hml, hown, hts, hK, hzz, hz1, hz2, hE1, hE2, hA1, hA2, hdj, hX, hbl, hfr, hlo, hlk⟩ := X
  intro h H locs ls hP1 hP2 hS hl
  exact lv_iconst hx hb hd hv (k h H locs ls hP1 hP2 hS hl)
theorem V2_bipush {n : Int} {v : Int32} (X : X2 x z z1 z2 cc nL fr lo b Ln xs) (hd : decode cc pc = .ok (.bipush n, 2)) (hv : (Int8.ofInt n).toInt32 = v) (k : V2 x z z1 z2 nL cn sn Q (pc + 2) L (.int v :: st) σ1 σ2 κ) : V2 x z z1 z2 nL cn sn Q pc L (st) σ1 σ2 κ := by
  obtain ⟨p, l, e, R, s, m, args, below, meth, c⟩ := x
  obtain ⟨hx, hb, hml, hown, hts, hK, hzz, hz1, hz2, hE1, hE2, hA1, hA2, hdj, hX, hbl, hfr, hlo, hlk⟩ := X
  intro h H locs ls hP1 hP2 hS hl
  exact lv_bipush hx hb hd hv (k h H locs ls hP1 hP2 hS hl)
theorem V2_iload_n {v : Int32} {j : Fin 4} {i : Nat} (q : Nat) (X : X2 x z z1 z2 cc nL fr lo b Ln xs) (hd : decode cc pc = .ok (.iload_n j, 1)) (hi : (j : Nat) = i) (hL : L[q]? = some (i, .int v)) (k : V2 x z z1 z2 nL cn sn Q (pc + 1) L (.int v :: st) σ1 σ2 κ) : V2 x z z1 z2 nL cn sn Q pc L (st) σ1 σ2 κ := by
  obtain ⟨p, l, e, R, s, m, args, below, meth, c⟩ := x
  obtain ⟨hx, hb, hml, hown, hts, hK, hzz, hz1, hz2, hE1, hE2, hA1, hA2, hdj, hX, hbl, hfr, hlo, hlk⟩ := X
  intro h H locs ls hP1 hP2 hS hl
  exact lv_iload_n hx hb hd hi (lv_at hl q hL) (k h H locs ls hP1 hP2 hS hl)
theorem V2_aload_n {v : Nat} {j : Fin 4} {i : Nat} (q : Nat) (X : X2 x z z1 z2 cc nL fr lo b Ln xs) (hd : decode cc pc = .ok (.aload_n j, 1)) (hi : (j : Nat) = i) (hL : L[q]? = some (i, .ref v)) (k : V2 x z z1 z2 nL cn sn Q (pc + 1) L (.ref v :: st) σ1 σ2 κ) : V2 x z z1 z2 nL cn sn Q pc L (st) σ1 σ2 κ := by
  obtain ⟨p, l, e, R, s, m, args, below, meth, c⟩ := x
  obtain ⟨hx, hb, hml, hown, hts, hK, hzz, hz1, hz2, hE1, hE2, hA1, hA2, hdj, hX, hbl, hfr, hlo, hlk⟩ := X
  intro h H locs ls hP1 hP2 hS hl
  exact lv_aload_n hx hb hd hi (lv_at hl q hL) (k h H locs ls hP1 hP2 hS hl)
theorem V2_iadd {a b0 : Int32} (X : X2 x z z1 z2 cc nL fr lo b Ln xs) (hd : decode cc pc = .ok (.iadd, 1)) (k : V2 x z z1 z2 nL cn sn Q (pc + 1) L (.int (a + b0) :: st) σ1 σ2 κ) : V2 x z z1 z2 nL cn sn Q pc L (.int b0 :: .int a :: st) σ1 σ2 κ := by
  obtain ⟨p, l, e, R, s, m, args, below, meth, c⟩ := x
  obtain ⟨hx, hb, hml, hown, hts, hK, hzz, hz1, hz2, hE1, hE2, hA1, hA2, hdj, hX, hbl, hfr, hlo, hlk⟩ := X
  intro h H locs ls hP1 hP2 hS hl
  exact lv_iadd hx hb hd (k h H locs ls hP1 hP2 hS hl)
theorem V2_isub {a b0 : Int32} (X : X2 x z z1 z2 cc nL fr lo b Ln xs) (hd : decode cc pc = .ok (.isub, 1)) (k : V2 x z z1 z2 nL cn sn Q (pc + 1) L (.int (a - b0) :: st) σ1 σ2 κ) : V2 x z z1 z2 nL cn sn Q pc L (.int b0 :: .int a :: st) σ1 σ2 κ := by
  obtain ⟨p, l, e, R, s, m, args, below, meth, c⟩ := x
  obtain ⟨hx, hb, hml, hown, hts, hK, hzz, hz1, hz2, hE1, hE2, hA1, hA2, hdj, hX, hbl, hfr, hlo, hlk⟩ := X
  intro h H locs ls hP1 hP2 hS hl
  exact lv_isub hx hb hd (k h H locs ls hP1 hP2 hS hl)
theorem V2_iand {a b0 : Int32} (X : X2 x z z1 z2 cc nL fr lo b Ln xs) (hd : decode cc pc = .ok (.iand, 1)) (k : V2 x z z1 z2 nL cn sn Q (pc + 1) L (.int (a &&& b0) :: st) σ1 σ2 κ) : V2 x z z1 z2 nL cn sn Q pc L (.int b0 :: .int a :: st) σ1 σ2 κ := by
  obtain ⟨p, l, e, R, s, m, args, below, meth, c⟩ := x
  obtain ⟨hx, hb, hml, hown, hts, hK, hzz, hz1, hz2, hE1, hE2, hA1, hA2, hdj, hX, hbl, hfr, hlo, hlk⟩ := X
  intro h H locs ls hP1 hP2 hS hl
  exact lv_iand hx hb hd (k h H locs ls hP1 hP2 hS hl)
theorem V2_lcmp {a b0 : Int64} (X : X2 x z z1 z2 cc nL fr lo b Ln xs) (hd : decode cc pc = .ok (.lcmp, 1)) (k : V2 x z z1 z2 nL cn sn Q (pc + 1) L (.int (lg_cmp a b0) :: st) σ1 σ2 κ) : V2 x z z1 z2 nL cn sn Q pc L (.long b0 :: .long a :: st) σ1 σ2 κ := by
  obtain ⟨p, l, e, R, s, m, args, below, meth, c⟩ := x
  obtain ⟨hx, hb, hml, hown, hts, hK, hzz, hz1, hz2, hE1, hE2, hA1, hA2, hdj, hX, hbl, hfr, hlo, hlk⟩ := X
  intro h H locs ls hP1 hP2 hS hl
  exact W.lcmp hx hb hd (k h H locs ls hP1 hP2 hS hl)
theorem V2_iinc {i : Nat} {n : Int} {a v : Int32} {L' : List (Nat × Value)} (q : Nat) (X : X2 x z z1 z2 cc nL fr lo b Ln xs) (hd : decode cc pc = .ok (.iinc i n, 3)) (hL : L[q]? = some (i, .int a)) (hv : a + Int32.ofInt n = v) (hn : i < nL) (hl' : (i, Value.int v) :: L.filter (fun q => !(q.1 == i) && !(q.1 + 1 == i && q.2.category == 2)) = L') (k : V2 x z z1 z2 nL cn sn Q (pc + 3) L' st σ1 σ2 κ) : V2 x z z1 z2 nL cn sn Q pc L st σ1 σ2 κ := by
  obtain ⟨p, l, e, R, s, m, args, below, meth, c⟩ := x
  obtain ⟨hx, hb, hml, hown, hts, hK, hzz, hz1, hz2, hE1, hE2, hA1, hA2, hdj, hX, hbl, hfr, hlo, hlk⟩ := X
  intro h H locs ls hP1 hP2 hS hl
  exact lv_iinc hx hb hd hl hL hv hn hl' (fun ls hl => k h H locs ls hP1 hP2 hS hl)
theorem V2_goto {off : Int} {tgt : Nat} (X : X2 x z z1 z2 cc nL fr lo b Ln xs) (hd : decode cc pc = .ok (.goto off, 3)) (ht : (pc : Int) + off = (tgt : Int)) (k : V2 x z z1 z2 nL cn sn Q tgt L st σ1 σ2 κ) : V2 x z z1 z2 nL cn sn Q pc L st σ1 σ2 κ := by
  obtain ⟨p, l, e, R, s, m, args, below, meth, c⟩ := x
  obtain ⟨hx, hb, hml, hown, hts, hK, hzz, hz1, hz2, hE1, hE2, hA1, hA2, hdj, hX, hbl, hfr, hlo, hlk⟩ := X
  intro h H locs ls hP1 hP2 hS hl
  exact lv_goto hx hb hd ht (k h H locs ls hP1 hP2 hS hl)
theorem V2_slen (X : X2 x z z1 z2 cc nL fr lo b Ln xs) (hd : decode cc pc = .ok (.arraylength, 1)) (k : V2 x z z1 z2 nL cn sn Q (pc + 1) L (.int (Int32.ofNat Ln) :: st) σ1 σ2 κ) : V2 x z z1 z2 nL cn sn Q pc L (.ref b :: st) σ1 σ2 κ := by
  obtain ⟨p, l, e, R, s, m, args, below, meth, c⟩ := x
  obtain ⟨hx, hb, hml, hown, hts, hK, hzz, hz1, hz2, hE1, hE2, hA1, hA2, hdj, hX, hbl, hfr, hlo, hlk⟩ := X
  intro h H locs ls hP1 hP2 hS hl
  exact va_slen hx hb hX hbl (Nat.not_le.mpr hbl) hS hd (k h H locs ls hP1 hP2 hS hl)
theorem V2_sld {i : Int32} (X : X2 x z z1 z2 cc nL fr lo b Ln xs) (hd : decode cc pc = .ok (.iaload, 1)) (k : V2 x z z1 z2 nL cn sn Q (pc + 1) L (.int (xs i.toNatClampNeg) :: st) σ1 σ2 κ) : V2 x z z1 z2 nL cn sn Q pc L (.int i :: .ref b :: st) σ1 σ2 (gd (inb i Ln) κ) := by
  obtain ⟨p, l, e, R, s, m, args, below, meth, c⟩ := x
  obtain ⟨hx, hb, hml, hown, hts, hK, hzz, hz1, hz2, hE1, hE2, hA1, hA2, hdj, hX, hbl, hfr, hlo, hlk⟩ := X
  intro h H locs ls hP1 hP2 hS hl
  obtain ⟨h1, h⟩ := gd2_some h
  exact va_sld hx hb hX hbl (Nat.not_le.mpr hbl) hS (inb_in h1) hd (k h H locs ls hP1 hP2 hS hl)
theorem V2_icmp_eq {a b0 : Int32} {off : Int} {tgt : Nat} (X : X2 x z z1 z2 cc nL fr lo b Ln xs) (hd : decode cc pc = .ok (.if_icmp .eq off, 3)) (ht : (pc : Int) + off = (tgt : Int)) (k1 : V2 x z z1 z2 nL cn sn Q tgt L st σ1 σ2 κ1) (k2 : V2 x z z1 z2 nL cn sn Q (pc + 3) L st σ1 σ2 κ2) : V2 x z z1 z2 nL cn sn Q pc L (.int b0 :: .int a :: st) σ1 σ2 (if a = b0 then κ1 else κ2) := by
  obtain ⟨p, l, e, R, s, m, args, below, meth, c⟩ := x
  obtain ⟨hx, hb, hml, hown, hts, hK, hzz, hz1, hz2, hE1, hE2, hA1, hA2, hdj, hX, hbl, hfr, hlo, hlk⟩ := X
  intro h H locs ls hP1 hP2 hS hl
  exact lv_icmp_eq hx hb hd ht (fun q => k1 (by rw [if_pos q] at h; exact h) H locs ls hP1 hP2 hS hl) (fun q => k2 (by rw [if_neg q] at h; exact h) H locs ls hP1 hP2 hS hl)
theorem V2_icmp_ne {a b0 : Int32} {off : Int} {tgt : Nat} (X : X2 x z z1 z2 cc nL fr lo b Ln xs) (hd : decode cc pc = .ok (.if_icmp .ne off, 3)) (ht : (pc : Int) + off = (tgt : Int)) (k1 : V2 x z z1 z2 nL cn sn Q tgt L st σ1 σ2 κ1) (k2 : V2 x z z1 z2 nL cn sn Q (pc + 3) L st σ1 σ2 κ2) : V2 x z z1 z2 nL cn sn Q pc L (.int b0 :: .int a :: st) σ1 σ2 (if a = b0 then κ2 else κ1) := by
  obtain ⟨p, l, e, R, s, m, args, below, meth, c⟩ := x
  obtain ⟨hx, hb, hml, hown, hts, hK, hzz, hz1, hz2, hE1, hE2, hA1, hA2, hdj, hX, hbl, hfr, hlo, hlk⟩ := X
  intro h H locs ls hP1 hP2 hS hl
  exact lv_icmp_ne hx hb hd ht (fun q => k1 (by rw [if_neg q] at h; exact h) H locs ls hP1 hP2 hS hl) (fun q => k2 (by rw [if_pos q] at h; exact h) H locs ls hP1 hP2 hS hl)
theorem V2_icmp_gt {a b0 : Int32} {off : Int} {tgt : Nat} (X : X2 x z z1 z2 cc nL fr lo b Ln xs) (hd : decode cc pc = .ok (.if_icmp .gt off, 3)) (ht : (pc : Int) + off = (tgt : Int)) (k1 : V2 x z z1 z2 nL cn sn Q tgt L st σ1 σ2 κ1) (k2 : V2 x z z1 z2 nL cn sn Q (pc + 3) L st σ1 σ2 κ2) : V2 x z z1 z2 nL cn sn Q pc L (.int b0 :: .int a :: st) σ1 σ2 (if b0 < a then κ1 else κ2) := by
  obtain ⟨p, l, e, R, s, m, args, below, meth, c⟩ := x
  obtain ⟨hx, hb, hml, hown, hts, hK, hzz, hz1, hz2, hE1, hE2, hA1, hA2, hdj, hX, hbl, hfr, hlo, hlk⟩ := X
  intro h H locs ls hP1 hP2 hS hl
  exact lv_icmp_gt hx hb hd ht (fun q => k1 (by rw [if_pos q] at h; exact h) H locs ls hP1 hP2 hS hl) (fun q => k2 (by rw [if_neg q] at h; exact h) H locs ls hP1 hP2 hS hl)
theorem V2_if_eq {a : Int32} {off : Int} {tgt : Nat} (X : X2 x z z1 z2 cc nL fr lo b Ln xs) (hd : decode cc pc = .ok (.ifCond .eq off, 3)) (ht : (pc : Int) + off = (tgt : Int)) (k1 : V2 x z z1 z2 nL cn sn Q tgt L st σ1 σ2 κ1) (k2 : V2 x z z1 z2 nL cn sn Q (pc + 3) L st σ1 σ2 κ2) : V2 x z z1 z2 nL cn sn Q pc L (.int a :: st) σ1 σ2 (if a = 0 then κ1 else κ2) := by
  obtain ⟨p, l, e, R, s, m, args, below, meth, c⟩ := x
  obtain ⟨hx, hb, hml, hown, hts, hK, hzz, hz1, hz2, hE1, hE2, hA1, hA2, hdj, hX, hbl, hfr, hlo, hlk⟩ := X
  intro h H locs ls hP1 hP2 hS hl
  exact lv_if_eq hx hb hd ht (fun q => k1 (by rw [if_pos q] at h; exact h) H locs ls hP1 hP2 hS hl) (fun q => k2 (by rw [if_neg q] at h; exact h) H locs ls hP1 hP2 hS hl)
theorem V2_if_ne {a : Int32} {off : Int} {tgt : Nat} (X : X2 x z z1 z2 cc nL fr lo b Ln xs) (hd : decode cc pc = .ok (.ifCond .ne off, 3)) (ht : (pc : Int) + off = (tgt : Int)) (k1 : V2 x z z1 z2 nL cn sn Q tgt L st σ1 σ2 κ1) (k2 : V2 x z z1 z2 nL cn sn Q (pc + 3) L st σ1 σ2 κ2) : V2 x z z1 z2 nL cn sn Q pc L (.int a :: st) σ1 σ2 (if a = 0 then κ2 else κ1) := by
  obtain ⟨p, l, e, R, s, m, args, below, meth, c⟩ := x
  obtain ⟨hx, hb, hml, hown, hts, hK, hzz, hz1, hz2, hE1, hE2, hA1, hA2, hdj, hX, hbl, hfr, hlo, hlk⟩ := X
  intro h H locs ls hP1 hP2 hS hl
  exact lv_if_ne hx hb hd ht (fun q => k1 (by rw [if_neg q] at h; exact h) H locs ls hP1 hP2 hS hl) (fun q => k2 (by rw [if_pos q] at h; exact h) H locs ls hP1 hP2 hS hl)
theorem V2_split {a c0 : Int32} (k1 : a = c0 → V2 x z z1 z2 nL cn sn Q pc L st σ1 σ2 κ1) (k2 : ¬ a = c0 → V2 x z z1 z2 nL cn sn Q pc L st σ1 σ2 κ2) : V2 x z z1 z2 nL cn sn Q pc L st σ1 σ2 (if a = c0 then κ1 else κ2) := by
  intro h
  by_cases q : a = c0
  · rw [if_pos q] at h; exact k1 q h
  · rw [if_neg q] at h; exact k2 q h
theorem V2_tabAt {a c0 : Int32} {dflt lo1 hi1 : Int} {offs : Array Int} {len : Nat} {off : Int} {tgt : Nat} (X : X2 x z z1 z2 cc nL fr lo b Ln xs) (hd : decode cc pc = .ok (.tableswitch dflt lo1 hi1 offs, len)) (ha : a = c0) (h1 : ¬ c0.toInt < lo1) (h2 : ¬ hi1 < c0.toInt) (ho : offs[(c0.toInt - lo1).toNat]? = some off) (ht : (pc : Int) + off = (tgt : Int)) (k : V2 x z z1 z2 nL cn sn Q tgt L st σ1 σ2 κ) : V2 x z z1 z2 nL cn sn Q pc L (.int a :: st) σ1 σ2 κ := by
  subst ha
  obtain ⟨p, l, e, R, s, m, args, below, meth, c⟩ := x
  obtain ⟨hx, hb, hml, hown, hts, hK, hzz, hz1, hz2, hE1, hE2, hA1, hA2, hdj, hX, hbl, hfr, hlo, hlk⟩ := X
  intro h H locs ls hP1 hP2 hS hl
  exact lv_tableIn hx hb hd h1 h2 ho ht (k h H locs ls hP1 hP2 hS hl)
theorem V2_tabDef {a : Int32} {dflt lo1 hi1 : Int} {offs : Array Int} {len : Nat} {tgt : Nat} (X : X2 x z z1 z2 cc nL fr lo b Ln xs) (hd : decode cc pc = .ok (.tableswitch dflt lo1 hi1 offs, len)) (ho : a.toInt < lo1 ∨ hi1 < a.toInt) (ht : (pc : Int) + dflt = (tgt : Int)) (k : V2 x z z1 z2 nL cn sn Q tgt L st σ1 σ2 κ) : V2 x z z1 z2 nL cn sn Q pc L (.int a :: st) σ1 σ2 κ := by
  obtain ⟨p, l, e, R, s, m, args, below, meth, c⟩ := x
  obtain ⟨hx, hb, hml, hown, hts, hK, hzz, hz1, hz2, hE1, hE2, hA1, hA2, hdj, hX, hbl, hfr, hlo, hlk⟩ := X
  intro h H locs ls hP1 hP2 hS hl
  exact lv_tableOut hx hb hd ho ht (k h H locs ls hP1 hP2 hS hl)
theorem V2_callI1 {y : MethodName} {cc' : ByteArray} {nL' fr' lo' idx n t ci N : Nat} {ret : Option FieldType} {C : String} {T : u_T} {ty : Nat → FieldType} {κc : Option (Int32 × Mem)} {f : Int32 → Mem → Option Int32} (As st : List Value) (X : X2 x z z1 z2 cc nL fr lo b Ln xs) (hd : decode cc pc = .ok (.invokevirtual idx, 3)) (hM : Ct QI y cc' nL' ret fr' lo' x.2.1 z1 (.ref (z1.2.2.1 t) :: As) σ1 κc) (hC : CO ci C T N ty) (hk : z1.2.2.2.1 t = (ci, 0)) (hg : GoodIn Tg (wsV RL idx C y (Cond.code y cc' nL' ret :: Tg))) (hy : y.cls = C ∧ y.cls ≠ "java/lang/invoke/MethodHandle" ∧ y.cls ≠ "java/lang/invoke/VarHandle" ∧ (parseMethodDescriptor y.desc).map (fun d => d.parameters.length) = some n) (hn : As.length = n) (hrm : fr' + 1 ≤ fr ∧ 8 + (nL' + 11) + lo' ≤ lo) (hs : stk = As.reverse ++ .ref (z1.2.2.1 t) :: st) (hc : (st.map fun v => v.category).sum ≤ 8) (hcr : ∀ R : Room, (match x with | (_, _, _, R', _) => R') = R → cn ≤ R.cells ∧ sn ≤ R.slots) (k : ∀ (a : Int32) (s1 : Mem), V2 x z z1 z2 nL cn sn Q (pc + 3) L (.int a :: st) s1 σ2 (f a s1)) : V2 x z z1 z2 nL cn sn Q pc L stk σ1 σ2 (bd κc f) := by
  obtain ⟨p, l, e, R, s, m, args, below, meth, c⟩ := x
  obtain ⟨hx, hb, hml, hown, hts, hK, hzz, hz1, hz2, hE1, hE2, hA1, hA2, hdj, hX, hbl, hfr, hlo, hlk⟩ := X
  intro h H locs ls hP1 hP2 hS hl
  obtain ⟨r0, s1, h0, h⟩ := bd_some h
  subst hs
  obtain ⟨c1, c2, c3, c4, c5, c6⟩ := hC
  have hlt : t < z1.2.2.2.2 := hz1.2.1 t (by rw [hk]; show ci < 99; omega)
  have hKz : va_K z1.1 classes (mty z1) s := by
    have e9 : mty z1 = mty z := by unfold mty; rw [hzz.2.1]
    rw [e9, hzz.1]; exact hK
  have hPz : va_P z1.1 classes (mws z1 σ1) H := by rw [hzz.1]; exact hP1
  have hS9 : va_S (zA z1) s.heap H [] := ⟨hS.1, fun q h1 _ => hS.2.1 q h1 (Nat.not_le.mpr h1), fun _ h9 => absurd h9 List.not_mem_nil⟩
  refine va_calli (va_runV (As := As) (rest := st) ⟨hx, hb, hml, hown, hts⟩ (hM r0 s1 h0) (cwV n hts hg rfl rfl rfl hy ⟨Nat.le_trans hrm.1 hfr, Nat.le_trans hrm.2 hlo⟩) ⟨mu_blind, va_recv hKz hPz (ci := ci) (q0 := t) c1 (by rw [mws_at hlt, ent_obj hk c3]), fun U hU hW => ⟨rfl, by rw [hU]; exact hPz, va_K.moved hW.alike hKz, hz1, EX.go hE1 hS9 hU hW⟩⟩ rfl hn hl.1 rfl (lv_room hc) hd ⟨(hcr R rfl).1, (hcr R rfl).2⟩) hS (fun q _ hq => hA1 q hq) (fun q hq => hA1 q hq) (fun v u t1 H1 locs1 ht hvm hw hB hz9 hk1 hS1 => ?_)
  subst hw
  obtain ⟨hPn, -, -, -⟩ := hB
  rw [ht, hzz.1] at hPn
  have hPo : va_P z.1 classes (mws z2 σ2) H1 := hP2.kept (fun k q hkq => hk1 q.1 ((hP2 k q hkq).lt) (by
    have h8 := (mws_D hz2 σ2).2 k q hkq
    exact fun h7 => hdj _ h7 h8))
  exact k v s1 h H1 locs1 ls hPn hPo hS1 hl
theorem V2_callL1 {y : MethodName} {cc' : ByteArray} {nL' fr' lo' idx n t ci N : Nat} {ret : Option FieldType} {C : String} {T : u_T} {ty : Nat → FieldType} {κc : Option (Int64 × Mem)} {f : Int64 → Mem → Option Int32} (As st : List Value) (X : X2 x z z1 z2 cc nL fr lo b Ln xs) (hd : decode cc pc = .ok (.invokevirtual idx, 3)) (hM : Ct QL y cc' nL' ret fr' lo' x.2.1 z1 (.ref (z1.2.2.1 t) :: As) σ1 κc) (hC : CO ci C T N ty) (hk : z1.2.2.2.1 t = (ci, 0)) (hg : GoodIn Tg (wsV RL idx C y (Cond.code y cc' nL' ret :: Tg))) (hy : y.cls = C ∧ y.cls ≠ "java/lang/invoke/MethodHandle" ∧ y.cls ≠ "java/lang/invoke/VarHandle" ∧ (parseMethodDescriptor y.desc).map (fun d => d.parameters.length) = some n) (hn : As.length = n) (hrm : fr' + 1 ≤ fr ∧ 8 + (nL' + 11) + lo' ≤ lo) (hs : stk = As.reverse ++ .ref (z1.2.2.1 t) :: st) (hc : (st.map fun v => v.category).sum ≤ 8) (hcr : ∀ R : Room, (match x with | (_, _, _, R', _) => R') = R → cn ≤ R.cells ∧ sn ≤ R.slots) (k : ∀ (a : Int64) (s1 : Mem), V2 x z z1 z2 nL cn sn Q (pc + 3) L (.long a :: st) s1 σ2 (f a s1)) : V2 x z z1 z2 nL cn sn Q pc L stk σ1 σ2 (bd κc f) := by
  obtain ⟨p, l, e, R, s, m, args, below, meth, c⟩ := x
  obtain ⟨hx, hb, hml, hown, hts, hK, hzz, hz1, hz2, hE1, hE2, hA1, hA2, hdj, hX, hbl, hfr, hlo, hlk⟩ := X
  intro h H locs ls hP1 hP2 hS hl
  obtain ⟨r0, s1, h0, h⟩ := bd_some h
  subst hs
  obtain ⟨c1, c2, c3, c4, c5, c6⟩ := hC
  have hlt : t < z1.2.2.2.2 := hz1.2.1 t (by rw [hk]; show ci < 99; omega)
  have hKz : va_K z1.1 classes (mty z1) s := by
    have e9 : mty z1 = mty z := by unfold mty; rw [hzz.2.1]
    rw [e9, hzz.1]; exact hK
  have hPz : va_P z1.1 classes (mws z1 σ1) H := by rw [hzz.1]; exact hP1
  have hS9 : va_S (zA z1) s.heap H [] := ⟨hS.1, fun q h1 _ => hS.2.1 q h1 (Nat.not_le.mpr h1), fun _ h9 => absurd h9 List.not_mem_nil⟩
  refine va_calll (va_runV (As := As) (rest := st) ⟨hx, hb, hml, hown, hts⟩ (hM r0 s1 h0) (cwV n hts hg rfl rfl rfl hy ⟨Nat.le_trans hrm.1 hfr, Nat.le_trans hrm.2 hlo⟩) ⟨mu_blind, va_recv hKz hPz (ci := ci) (q0 := t) c1 (by rw [mws_at hlt, ent_obj hk c3]), fun U hU hW => ⟨rfl, by rw [hU]; exact hPz, va_K.moved hW.alike hKz, hz1, EX.go hE1 hS9 hU hW⟩⟩ rfl hn hl.1 rfl (lv_room hc) hd ⟨(hcr R rfl).1, (hcr R rfl).2⟩) hS (fun q _ hq => hA1 q hq) (fun q hq => hA1 q hq) (fun v u t1 H1 locs1 ht hvm hw hB hz9 hk1 hS1 => ?_)
  subst hw
  obtain ⟨hPn, -, -, -⟩ := hB
  rw [ht, hzz.1] at hPn
  have hPo : va_P z.1 classes (mws z2 σ2) H1 := hP2.kept (fun k q hkq => hk1 q.1 ((hP2 k q hkq).lt) (by
    have h8 := (mws_D hz2 σ2).2 k q hkq
    exact fun h7 => hdj _ h7 h8))
  exact k v s1 h H1 locs1 ls hPn hPo hS1 hl
theorem V2_callI2 {y : MethodName} {cc' : ByteArray} {nL' fr' lo' idx n t ci N : Nat} {ret : Option FieldType} {C : String} {T : u_T} {ty : Nat → FieldType} {κc : Option (Int32 × Mem)} {f : Int32 → Mem → Option Int32} (As st : List Value) (X : X2 x z z1 z2 cc nL fr lo b Ln xs) (hd : decode cc pc = .ok (.invokevirtual idx, 3)) (hM : Ct QI y cc' nL' ret fr' lo' x.2.1 z2 (.ref (z2.2.2.1 t) :: As) σ2 κc) (hC : CO ci C T N ty) (hk : z2.2.2.2.1 t = (ci, 0)) (hg : GoodIn Tg (wsV RL idx C y (Cond.code y cc' nL' ret :: Tg))) (hy : y.cls = C ∧ y.cls ≠ "java/lang/invoke/MethodHandle" ∧ y.cls ≠ "java/lang/invoke/VarHandle" ∧ (parseMethodDescriptor y.desc).map (fun d => d.parameters.length) = some n) (hn : As.length = n) (hrm : fr' + 1 ≤ fr ∧ 8 + (nL' + 11) + lo' ≤ lo) (hs : stk = As.reverse ++ .ref (z2.2.2.1 t) :: st) (hc : (st.map fun v => v.category).sum ≤ 8) (hcr : ∀ R : Room, (match x with | (_, _, _, R', _) => R') = R → cn ≤ R.cells ∧ sn ≤ R.slots) (k : ∀ (a : Int32) (s1 : Mem), V2 x z z1 z2 nL cn sn Q (pc + 3) L (.int a :: st) σ1 s1 (f a s1)) : V2 x z z1 z2 nL cn sn Q pc L stk σ1 σ2 (bd κc f) := by
  obtain ⟨p, l, e, R, s, m, args, below, meth, c⟩ := x
  obtain ⟨hx, hb, hml, hown, hts, hK, hzz, hz1, hz2, hE1, hE2, hA1, hA2, hdj, hX, hbl, hfr, hlo, hlk⟩ := X
  intro h H locs ls hP1 hP2 hS hl
  obtain ⟨r0, s1, h0, h⟩ := bd_some h
  subst hs
  obtain ⟨c1, c2, c3, c4, c5, c6⟩ := hC
  have hlt : t < z2.2.2.2.2 := hz2.2.1 t (by rw [hk]; show ci < 99; omega)
  have hKz : va_K z2.1 classes (mty z2) s := by
    have e9 : mty z2 = mty z := by unfold mty; rw [hzz.2.2.2]
    rw [e9, hzz.2.2.1]; exact hK
  have hPz : va_P z2.1 classes (mws z2 σ2) H := by rw [hzz.2.2.1]; exact hP2
  have hS9 : va_S (zA z2) s.heap H [] := ⟨hS.1, fun q h1 _ => hS.2.1 q h1 (Nat.not_le.mpr h1), fun _ h9 => absurd h9 List.not_mem_nil⟩
  refine va_calli (va_runV (As := As) (rest := st) ⟨hx, hb, hml, hown, hts⟩ (hM r0 s1 h0) (cwV n hts hg rfl rfl rfl hy ⟨Nat.le_trans hrm.1 hfr, Nat.le_trans hrm.2 hlo⟩) ⟨mu_blind, va_recv hKz hPz (ci := ci) (q0 := t) c1 (by rw [mws_at hlt, ent_obj hk c3]), fun U hU hW => ⟨rfl, by rw [hU]; exact hPz, va_K.moved hW.alike hKz, hz2, EX.go hE2 hS9 hU hW⟩⟩ rfl hn hl.1 rfl (lv_room hc) hd ⟨(hcr R rfl).1, (hcr R rfl).2⟩) hS (fun q _ hq => hA2 q hq) (fun q hq => hA2 q hq) (fun v u t1 H1 locs1 ht hvm hw hB hz9 hk1 hS1 => ?_)
  subst hw
  obtain ⟨hPn, -, -, -⟩ := hB
  rw [ht, hzz.2.2.1] at hPn
  have hPo : va_P z.1 classes (mws z1 σ1) H1 := hP1.kept (fun k q hkq => hk1 q.1 ((hP1 k q hkq).lt) (by
    have h8 := (mws_D hz1 σ1).2 k q hkq
    exact fun h7 => hdj _ h8 h7))
  exact k v s1 h H1 locs1 ls hPo hPn hS1 hl
theorem V2_callL2 {y : MethodName} {cc' : ByteArray} {nL' fr' lo' idx n t ci N : Nat} {ret : Option FieldType} {C : String} {T : u_T} {ty : Nat → FieldType} {κc : Option (Int64 × Mem)} {f : Int64 → Mem → Option Int32} (As st : List Value) (X : X2 x z z1 z2 cc nL fr lo b Ln xs) (hd : decode cc pc = .ok (.invokevirtual idx, 3)) (hM : Ct QL y cc' nL' ret fr' lo' x.2.1 z2 (.ref (z2.2.2.1 t) :: As) σ2 κc) (hC : CO ci C T N ty) (hk : z2.2.2.2.1 t = (ci, 0)) (hg : GoodIn Tg (wsV RL idx C y (Cond.code y cc' nL' ret :: Tg))) (hy : y.cls = C ∧ y.cls ≠ "java/lang/invoke/MethodHandle" ∧ y.cls ≠ "java/lang/invoke/VarHandle" ∧ (parseMethodDescriptor y.desc).map (fun d => d.parameters.length) = some n) (hn : As.length = n) (hrm : fr' + 1 ≤ fr ∧ 8 + (nL' + 11) + lo' ≤ lo) (hs : stk = As.reverse ++ .ref (z2.2.2.1 t) :: st) (hc : (st.map fun v => v.category).sum ≤ 8) (hcr : ∀ R : Room, (match x with | (_, _, _, R', _) => R') = R → cn ≤ R.cells ∧ sn ≤ R.slots) (k : ∀ (a : Int64) (s1 : Mem), V2 x z z1 z2 nL cn sn Q (pc + 3) L (.long a :: st) σ1 s1 (f a s1)) : V2 x z z1 z2 nL cn sn Q pc L stk σ1 σ2 (bd κc f) := by
  obtain ⟨p, l, e, R, s, m, args, below, meth, c⟩ := x
  obtain ⟨hx, hb, hml, hown, hts, hK, hzz, hz1, hz2, hE1, hE2, hA1, hA2, hdj, hX, hbl, hfr, hlo, hlk⟩ := X
  intro h H locs ls hP1 hP2 hS hl
  obtain ⟨r0, s1, h0, h⟩ := bd_some h
  subst hs
  obtain ⟨c1, c2, c3, c4, c5, c6⟩ := hC
  have hlt : t < z2.2.2.2.2 := hz2.2.1 t (by rw [hk]; show ci < 99; omega)
  have hKz : va_K z2.1 classes (mty z2) s := by
    have e9 : mty z2 = mty z := by unfold mty; rw [hzz.2.2.2]
    rw [e9, hzz.2.2.1]; exact hK
  have hPz : va_P z2.1 classes (mws z2 σ2) H := by rw [hzz.2.2.1]; exact hP2
  have hS9 : va_S (zA z2) s.heap H [] := ⟨hS.1, fun q h1 _ => hS.2.1 q h1 (Nat.not_le.mpr h1), fun _ h9 => absurd h9 List.not_mem_nil⟩
  refine va_calll (va_runV (As := As) (rest := st) ⟨hx, hb, hml, hown, hts⟩ (hM r0 s1 h0) (cwV n hts hg rfl rfl rfl hy ⟨Nat.le_trans hrm.1 hfr, Nat.le_trans hrm.2 hlo⟩) ⟨mu_blind, va_recv hKz hPz (ci := ci) (q0 := t) c1 (by rw [mws_at hlt, ent_obj hk c3]), fun U hU hW => ⟨rfl, by rw [hU]; exact hPz, va_K.moved hW.alike hKz, hz2, EX.go hE2 hS9 hU hW⟩⟩ rfl hn hl.1 rfl (lv_room hc) hd ⟨(hcr R rfl).1, (hcr R rfl).2⟩) hS (fun q _ hq => hA2 q hq) (fun q hq => hA2 q hq) (fun v u t1 H1 locs1 ht hvm hw hB hz9 hk1 hS1 => ?_)
  subst hw
  obtain ⟨hPn, -, -, -⟩ := hB
  rw [ht, hzz.2.2.1] at hPn
  have hPo : va_P z.1 classes (mws z1 σ1) H1 := hP1.kept (fun k q hkq => hk1 q.1 ((hP1 k q hkq).lt) (by
    have h8 := (mws_D hz1 σ1).2 k q hkq
    exact fun h7 => hdj _ h8 h7))
  exact k v s1 h H1 locs1 ls hPo hPn hS1 hl
end V2R
