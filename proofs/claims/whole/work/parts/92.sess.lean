theorem h2_pl {α β : Type} {κ1 : Option (α × Mem)} {κ2 : Option (β × Mem)} {Q : α → Mem → β → Mem → Prop} (h : H2 κ1 κ2 Q) : Ho κ1 (fun r1 s1 => ∃ r2 s2, Q r1 s1 r2 s2) := ho_mono h (fun _ _ q => by
  obtain ⟨r, s, _, x⟩ := ho_ex q
  exact ⟨r, s, x⟩)
theorem h2_pr {α β : Type} {κ1 : Option (α × Mem)} {κ2 : Option (β × Mem)} {Q : α → Mem → β → Mem → Prop} (h : H2 κ1 κ2 Q) : Ho κ2 (fun r2 s2 => ∃ r1 s1, Q r1 s1 r2 s2) := ho_mono (h2_swap.mp h) (fun _ _ q => by
  obtain ⟨r, s, _, x⟩ := ho_ex q
  exact ⟨r, s, x⟩)
theorem CJ.fin {h c np nw : Nat} {C S : Vw} {a1 a2 σ1 σ2 x1 x2 : Mem} (P : CJ h c C np nw a1 a2 S σ1 σ2) (K1 : KC x1 a1) (K2 : KM x2 a2) (hh : h = 205) : KC x1 σ1 ∧ KM x2 σ2 := ⟨K1.fr P.2.2.2.2.2.2.1 (by omega), K2.trans P.2.2.2.2.2.2.2⟩
theorem mn_self {v : Int32} : mnI v v = v := by unfold mnI; split <;> rfl
theorem nz_rem {a b : Nat} (ha : a < 2147483648) (hb : b < 2147483648) : rmI (Int32.ofNat a) (Int32.ofNat b) = Int32.ofNat (a % b) := by
  have hq : a / b ≤ a := Nat.div_le_self a b
  have d : Int32.ofNat a / Int32.ofNat b = Int32.ofNat (a / b) := by
    rw [i32_eq, nz_toInt (by omega), Int32.toInt_div, nz_toInt ha, nz_toInt hb, ← Int.ofNat_tdiv]
    generalize a / b = q at hq
    apply Int.bmod_eq_of_le <;> omega
  unfold rmI
  rw [d, nz_mul]
  have e : a = a % b + a / b * b := by
    have := Nat.mod_add_div a b
    rw [Nat.mul_comm] at this; omega
  have h2 : Int32.ofNat a = Int32.ofNat (a % b) + Int32.ofNat (a / b * b) := by rw [nz_add, ← e]
  rw [h2, Int32.add_sub_cancel]
theorem us16 (x : Int32) : ∃ A, A < 65536 ∧ usI x 16 = Int32.ofNat A := by
  refine ⟨x.toBitVec.toNat / 65536, ?_, ?_⟩
  · have := x.toBitVec.isLt; omega
  · apply Int32.toBitVec_inj.mp
    unfold usI
    show (x.toUInt32 >>> (Int32.toUInt32 16 &&& Int32.toUInt32 31)).toBitVec = BitVec.ofNat 32 _
    rw [UInt32.toBitVec_shiftRight, BitVec.ushiftRight_eq']
    apply BitVec.eq_of_toNat_eq
    rw [BitVec.toNat_ushiftRight, Nat.shiftRight_eq_div_pow]
    have : ((Int32.toUInt32 16 &&& Int32.toUInt32 31).toBitVec % 32).toNat = 16 := by decide
    rw [this, BitVec.toNat_ofNat]
    show x.toBitVec.toNat / 2 ^ 16 = _
    have := x.toBitVec.isLt
    omega
section QSE
variable {σ1 σ2 : Mem} {N : Nat}
theorem t_stop (hN : 10000 ≤ N) (R : RR σ1 σ2) (v1 v2 : Int32) : H2 (fX11_stop N 0 v1 v2 σ1) (fX12_stop N v1 v2 σ2) (QU σ1 σ2) := by
  unfold fX11_stop fX12_stop
  refine q_se R v1 v2 (fun j i C np nw s2 hj hi W HC HM K E h23 => ?_)
  obtain ⟨n, n1, n2, n3, n4⟩ := E
  apply h2_lr
  rw [n2]
  refine h2_mono (follow_2 hN W HC (by omega) HM ⟨n, n1, n2, n3, n4⟩ (by omega) (by omega) h23 (Int32.ofNat n) 40 n n n2 n1 (Nat.le_refl n) (fun i hi => by rw [nz_le (by omega) (by omega)]; omega) (fun i hi => by rw [z_le (by omega) (by omega)]; omega) (Or.inr rfl) (Or.inr rfl) mn_self) (fun r1 t1 r2 t2 ⟨i, S, i1, i2, i3, P⟩ => ?_)
  rw [i2, i3]
  exact ⟨rfl, P.fin R.kc K rfl⟩
theorem t_state (hN : 10000 ≤ N) (R : RR σ1 σ2) (v1 v2 v3 v4 : Int32) : H2 (fX11_state N 0 v1 v2 v3 v4 σ1) (fX12_state N v1 v2 v3 v4 σ2) (QU σ1 σ2) := by
  unfold fX11_state fX12_state
  refine q_se R v1 v2 (fun j i C np nw s2 hj hi W HC HM K E h23 => ?_)
  obtain ⟨n, n1, n2, n3, n4⟩ := E
  by_cases c0 : v3 < 0
  · rw [if_pos c0, if_pos c0]; exact ⟨rfl, R.kc, K⟩
  · rw [if_neg c0, if_neg c0, n2]
    have t0 : 0 ≤ v3.toInt := by rw [i32_lt] at c0; have : (0 : Int32).toInt = 0 := rfl; omega
    obtain ⟨x, x0, x1, x2⟩ := z_of (v := v3) (a := 0) (b := 2147483647) ⟨t0, by have := Int32.toInt_lt v3; omega⟩
    subst x2
    by_cases c1 : x ≤ n
    · rw [if_pos (show Int32.ofNat x ≤ Int32.ofNat n by rw [nz_le (by omega) (by omega)]; exact c1)]
      have F := follow_2 hN W HC (show 7 + 9 * j + 9 ≤ 0 + 205 by omega) HM ⟨n, n1, n2, n3, n4⟩ (by omega) (by omega) h23 (Int32.ofNat x) (Int32.ofNat x) n x n2 n1 c1 (fun i hi => by rw [nz_le (by omega) (by omega)]; omega) (fun i hi => by rw [nz_le (by omega) (by omega)]; omega) (Or.inl (Int32.le_refl _)) (Or.inl (Int32.le_refl _)) (by
        unfold mnI
        by_cases z : n < x
        · omega
        · rw [if_neg (by rw [nz_lt (by omega) (by omega)]; exact z)])
      by_cases c2 : 0 ≤ v4
      · rw [if_pos c2]
        apply h2_lr
        refine h2_mono F (fun r1 t1 r2 t2 ⟨i, S, i1, i2, i3, P⟩ => ?_)
        simp only [ho_lte]
        rw [i2, i3]
        by_cases z : i = x
        · subst z
          rw [if_pos (Int32.le_refl _), if_pos rfl]
          apply h2_lr
          refine h2_mono (tell_2 hN P v4 c2) (fun r1 u1 r2 u2 ⟨y1, y2, y3⟩ => ?_)
          rw [y2, y3]
          exact ⟨y1, P.fin R.kc K rfl⟩
        · rw [if_neg (show ¬ Int32.ofNat x ≤ Int32.ofNat i by rw [nz_le (by omega) (by omega)]; omega), if_neg (show ¬ Int32.ofNat i = Int32.ofNat x by rw [nz_inj (by omega) (by omega)]; exact z)]
          exact ⟨rfl, P.fin R.kc K rfl⟩
      · rw [if_neg c2]
        apply h2_l
        refine ho_mono (h2_pl F) (fun r1 t1 ⟨r2, t2, i, S, i1, i2, i3, P⟩ => ?_)
        simp only [ho_lte]
        have tv : v4.toInt < 0 := by rw [i32_le] at c2; have : (0 : Int32).toInt = 0 := rfl; omega
        have tell : fX1_tell N (0 + 205) v4 t1 = some (-2, t1) := by
          unfold fX1_tell
          have nz : ∀ m : Nat, m < 10 → ¬ v4 = Int32.ofNat m := fun m hm e => by
            have := congrArg Int32.toInt e
            rw [nz_toInt (by omega)] at this; omega
          rw [if_neg (show ¬ v4 = 0 from nz 0 (by omega)), if_neg (show ¬ v4 = 1 from nz 1 (by omega)), if_neg (show ¬ v4 = 2 from nz 2 (by omega)), if_neg (show ¬ v4 = 3 from nz 3 (by omega)), if_neg (show ¬ v4 = 4 from nz 4 (by omega)), if_neg (show ¬ v4 = 5 from nz 5 (by omega)), if_pos (show v4 < 10 by rw [i32_lt]; show v4.toInt < 10; omega)]
        rw [tell, ho_bds]
        have Z := P.fin R.kc K rfl
        by_cases z : Int32.ofNat x ≤ r1
        · rw [if_pos z]; exact ⟨rfl, Z.1, K⟩
        · rw [if_neg z]; exact ⟨rfl, Z.1, K⟩
    · rw [if_neg (show ¬ Int32.ofNat x ≤ Int32.ofNat n by rw [nz_le (by omega) (by omega)]; exact c1)]
      by_cases c2 : 0 ≤ v4
      · rw [if_pos c2]
        have F := follow_2 hN W HC (show 7 + 9 * j + 9 ≤ 0 + 205 by omega) HM ⟨n, n1, n2, n3, n4⟩ (by omega) (by omega) h23 (Int32.ofNat n) (Int32.ofNat x) n n n2 n1 (Nat.le_refl n) (fun i hi => by rw [nz_le (by omega) (by omega)]; omega) (fun i hi => by rw [nz_le (by omega) (by omega)]; omega) (Or.inr rfl) (Or.inr rfl) mn_self
        apply h2_r
        refine ho_mono (h2_pr F) (fun r2 t2 ⟨r1, t1, i, S, i1, i2, i3, P⟩ => ?_)
        rw [i3, if_neg (show ¬ Int32.ofNat i = Int32.ofNat x by rw [nz_inj (by omega) (by omega)]; omega)]
        exact ⟨rfl, R.kc, (P.fin R.kc K rfl).2⟩
      · rw [if_neg c2]; exact ⟨rfl, R.kc, K⟩
theorem t_deed (hN : 10000 ≤ N) (R : RR σ1 σ2) (v1 v2 v3 : Int32) : H2 (fX11_deed N 0 v1 v2 v3 σ1) (fX12_deed N v1 v2 v3 σ2) (QU σ1 σ2) := by
  unfold fX11_deed fX12_deed
  have e0 : (0 + 1 : Nat) = 1 := rfl
  rw [e0]
  rcases se2 (N := N) R v1 with ⟨d1, d2⟩ | ⟨i, hi, d1, d2, n, n1, n2, n3, n4⟩
  · rw [d1, d2, ho_bds, ho_bds, if_pos rfl]; exact ⟨rfl, R.kc, KM.refl _⟩
  · rw [d1, d2, ho_bds, ho_bds, if_neg (by decide)]
    simp only [mqK, kd25 i hi, ho_gdt]
    rw [bd_ret]
    have E : ∀ x : Int32, H2 (some (x, σ1)) (some (x, pI σ2 0 23 (Int32.ofNat (736 + 121 * i)))) (QU σ1 σ2) := fun x => ⟨rfl, R.kc, pI_ne (by omega), pI_ne (by omega)⟩
    unfold fX8_tell
    simp (disch := omega) only [pI_eq, pI_nq, nz_inb (show 736 + 121 * i < 2147483648 by omega), nz_nat (show 736 + 121 * i < 2147483648 by omega), show 736 + 121 * i < 4176 by omega, decide_true, ho_gdt, n2, n3, isIn_M v2 (show n ≤ 100000 by omega), isIn_Z v3, ho_bds, Int32.reduceToInt, ite10]
    by_cases k1 : v2 = -1
    · rw [if_pos k1, if_pos k1]
      by_cases z : v3 = 0
      · rw [if_pos z, if_pos z]; exact E _
      · rw [if_neg z, if_neg z]; exact E _
    · rw [if_neg k1, if_neg k1]
      by_cases q : inb v2 n = true
      · obtain ⟨k, k2, k3, k4⟩ := inb_nat q
        subst k3
        obtain ⟨t, a, b, t1, t2, t3, t4, t5, t6, t7, t8⟩ := n4 k k2
        rw [if_neg (z_neg (by omega)), if_pos (show Int32.ofNat k < Int32.ofNat n by rw [nz_lt (by omega) (by omega)]; exact k2), if_neg (show ¬ ¬ inb (Int32.ofNat k) n = true from fun z => z q)]
        simp only [nz_inb (show k < 2147483648 by omega), show k < 40 by omega, decide_true, ho_gdt, nz_nat (show k < 2147483648 by omega), t1, t2, t3]
        by_cases w : 0 ≤ v3.toInt ∧ v3.toInt ≤ 2
        · obtain ⟨x, x1, x2, x3⟩ := z_of (v := v3) (a := 0) (b := 2) w
          subst x3
          rw [if_neg (show ¬ ¬ (0 ≤ (Int32.ofNat x).toInt ∧ (Int32.ofNat x).toInt ≤ 2) from fun z => z w), show (3 : Int32) * Int32.ofNat k = Int32.ofNat (3 * k) from nz_mul, nz_succ, nz_add, nz_add]
          simp only [nz_inb (show 736 + 121 * i + 1 + 3 * k + x < 2147483648 by omega), show 736 + 121 * i + 1 + 3 * k + x < 4176 by omega, decide_true, ho_gdt, nz_nat (show 736 + 121 * i + 1 + 3 * k + x < 2147483648 by omega)]
          have cs : x = 0 ∨ x = 1 ∨ x = 2 := by omega
          rcases cs with e | e | e
          · subst e; rw [if_pos (show Int32.ofNat 0 = 0 from rfl), Nat.add_zero, t4]; exact E _
          · subst e; rw [if_neg (show ¬ Int32.ofNat 1 = 0 by decide), if_pos (show Int32.ofNat 1 = 1 from rfl), t5]; exact E _
          · subst e; rw [if_neg (show ¬ Int32.ofNat 2 = 0 by decide), if_neg (show ¬ Int32.ofNat 2 = 1 by decide), if_pos (show Int32.ofNat 2 = 2 from rfl), t6]; exact E _
        · rw [if_pos w]
          have nz : ∀ m : Nat, m < 3 → ¬ v3 = Int32.ofNat m := fun m hm e => by
            have := congrArg Int32.toInt e
            rw [nz_toInt (by omega)] at this; omega
          rw [if_neg (show ¬ v3 = 0 from nz 0 (by omega)), if_neg (show ¬ v3 = 1 from nz 1 (by omega)), if_neg (show ¬ v3 = 2 from nz 2 (by omega))]; exact E _
      · have ub := mt inb_iff.mpr q
        rw [if_pos q]
        by_cases z : v2 < 0
        · rw [if_pos z]; exact E _
        · rw [if_neg z, if_neg]
          · exact E _
          · rw [i32_lt] at z; rw [i32_lt, nz_toInt (by omega)]
            have : (0 : Int32).toInt = 0 := rfl
            omega
end QSE
/-! sessions by a seed -/
section DRAW
variable {N h c k np nw : Nat} {C S : Vw} {a1 a2 σ1 σ2 : Mem}
theorem below_2 (P : CJ h c C np nw a1 a2 S σ1 σ2) (he : σ1.1 h 6 = σ2.1 0 34) {n : Nat} (h0 : 0 < n) (hn : n < 1000) : ∃ r x, r < n ∧ fX1_drawBelow N h (Int32.ofNat n) σ1 = some (Int32.ofNat r, pI σ1 h 6 x) ∧ fX12_below N (Int32.ofNat n) σ2 = some (Int32.ofNat r, pI σ2 0 34 x) ∧ CJ h c C np nw a1 a2 S (pI σ1 h 6 x) (pI σ2 0 34 x) := by
  obtain ⟨A, hA, eA⟩ := us16 (σ1.1 h 6 * 1103515245 + 12345)
  refine ⟨A % n, σ1.1 h 6 * 1103515245 + 12345, Nat.mod_lt _ h0, ?_, ?_, (P.p5 (by omega)).m26 (by omega)⟩
  · unfold fX1_drawBelow
    rw [if_pos (show (0 : Int32) < Int32.ofNat n by rw [z_lt (by omega) (by omega)]; exact h0)]
    simp only [ho_lte]
    rw [pI_eq, eA, nz_rem (by omega) (by omega), decide_eq_false (show ¬ Int32.ofNat n = 0 by rw [z_eq (by omega) (by omega)]; omega)]
    rfl
  · unfold fX12_below
    simp only [ho_lte]
    rw [pI_eq, ← he, eA, nz_rem (by omega) (by omega), decide_eq_false (show ¬ Int32.ofNat n = 0 by rw [z_eq (by omega) (by omega)]; omega)]
    rfl
theorem below_0 {σ : Mem} : fX1_drawBelow N h (Int32.ofNat 0) σ = some (-1, σ) := by
  unfold fX1_drawBelow
  rw [if_neg (by decide)]
abbrev DrQ (h c : Nat) (C : Vw) (np nw : Nat) (a1 a2 : Mem) : Unit → Mem → Unit → Mem → Prop := fun _ s1 _ s2 => (∃ S', CJ h c C np nw a1 a2 S' s1 s2) ∧ s1.1 h 6 = s2.1 0 34
theorem de_dr {κ1 κ2 : Option (Int32 × Mem)} (he : σ1.1 h 6 = σ2.1 0 34) (H : H2 κ1 κ2 (DeQ h c C np nw a1 a2 σ1 σ2)) : H2 (bd κ1 (fun _ s => some ((), s))) (bd (bd κ2 (fun r s => gd (decide (r = 0 ∨ r = 1)) (some (r, s)))) (fun _ s => some ((), s))) (DrQ h c C np nw a1 a2) := by
  have e : bd (bd κ2 (fun r s => gd (decide (r = 0 ∨ r = 1)) (some (r, s)))) (fun _ s => some ((), s)) = bd κ2 (fun r s => gd (decide (r = 0 ∨ r = 1)) (some ((), s))) := by
    cases κ2 with
    | none => rfl
    | some a =>
      obtain ⟨r, s⟩ := a
      rw [ho_bds, ho_bds]
      by_cases z : r = 0 ∨ r = 1
      · rw [gd01 z, gd01 z, ho_bds]
      · rw [decide_eq_false z]; rfl
  rw [e]
  apply h2_lr
  refine h2_mono H (fun r1 s1 r2 s2 ⟨x1, x2, x3, x4⟩ => ?_)
  rw [← x1, gd01 x2]
  exact ⟨x3, by rw [x4.1, x4.2.2.1 0 34 (by omega) (by omega)]; exact he⟩
theorem no_dr (P : CJ h c C np nw a1 a2 S σ1 σ2) (he : σ1.1 h 6 = σ2.1 0 34) : DrQ h c C np nw a1 a2 () σ1 () σ2 := ⟨⟨S, P⟩, he⟩
/-- an answer that can't be changes nothing -/
theorem de_dl {κ1 : Option (Int32 × Mem)} {r : Int32} (P : CJ h c C np nw a1 a2 S σ1 σ2) (he : σ1.1 h 6 = σ2.1 0 34) (H : κ1 = some (r, σ1)) : H2 (bd κ1 (fun _ s => some ((), s))) (some ((), σ2)) (DrQ h c C np nw a1 a2) := by
  rw [H, ho_bds]; exact no_dr P he
theorem stand_m1 (P : CJ h c C np nw a1 a2 S σ1 σ2) : fX1_standsUp N h (-1) σ1 = some (0, σ1) := by
  unfold fX1_standsUp
  rw [hasw_eq (np := nw) _ P.c0.2.1 (by have := P.1.2.1; omega), ho_bds, if_neg (show ¬ inb (-1) nw = true by rw [inb_iff]; show ¬ (0 ≤ (-1 : Int) ∧ _); omega), if_pos rfl]
theorem wax_m1 (P : CJ h c C np nw a1 a2 S σ1 σ2) : fX1_takesWax N h (-1) σ1 = some (0, σ1) := by
  unfold fX1_takesWax
  rw [has_eq (np := np) _ P.c0.1 P.1.1, ho_bds, if_neg (show ¬ inb (-1) np = true by rw [inb_iff]; show ¬ (0 ≤ (-1 : Int) ∧ _); omega), if_pos rfl]
theorem set_m1 (P : CJ h c C np nw a1 a2 S σ1 σ2) : fX1_isSetUp N h (-1) σ1 = some (0, σ1) := by
  unfold fX1_isSetUp
  rw [has_eq (np := np) _ P.c0.1 P.1.1, ho_bds, if_neg (show ¬ inb (-1) np = true by rw [inb_iff]; show ¬ (0 ≤ (-1 : Int) ∧ _); omega), if_pos rfl]
theorem sit_m1 (P : CJ h c C np nw a1 a2 S σ1 σ2) {w : Nat} (hw : w < nw) : fX1_sitsDown N h (Int32.ofNat w) (-1) σ1 = some (0, σ1) := by
  have := P.1.2.1
  unfold fX1_sitsDown
  rw [hasw_eq (np := nw) _ P.c0.2.1 (by omega), ho_bds, if_pos (show inb (Int32.ofNat w) nw = true by rw [nz_inb (by omega)]; exact decide_eq_true hw), if_neg (by decide), has_eq (np := np) _ P.c0.1 P.1.1, ho_bds, if_neg (show ¬ inb (-1) np = true by rw [inb_iff]; show ¬ (0 ≤ (-1 : Int) ∧ _); omega), if_pos rfl]
theorem does_1 {a b : Int32} {σ : Mem} : fX12_does N 1 a b σ = bd (fX12_stands N a σ) (fun r s => gd (decide (r = 0 ∨ r = 1)) (some (r, s))) := by
  unfold fX12_does; rw [if_neg (by decide), if_pos rfl]
theorem does_w {a b : Int32} {σ : Mem} : fX12_does N 2 a b σ = bd (fX12_waxes N a σ) (fun r s => gd (decide (r = 0 ∨ r = 1)) (some (r, s))) := by
  unfold fX12_does; rw [if_neg (by decide), if_neg (by decide), if_pos rfl]
theorem does_s {a b : Int32} {σ : Mem} : fX12_does N 3 a b σ = bd (fX12_sets N a σ) (fun r s => gd (decide (r = 0 ∨ r = 1)) (some (r, s))) := by
  unfold fX12_does; rw [if_neg (by decide), if_neg (by decide), if_neg (by decide), if_pos rfl]
theorem does_4 {a b : Int32} {σ : Mem} : fX12_does N 4 a b σ = bd (fX12_sits N a b σ) (fun r s => gd (decide (r = 0 ∨ r = 1)) (some (r, s))) := by
  unfold fX12_does; rw [if_neg (by decide), if_neg (by decide), if_neg (by decide), if_neg (by decide), if_pos rfl]
theorem does_5 {a b : Int32} {σ : Mem} : fX12_does N 5 a b σ = bd (fX12_dampens N 1 σ) (fun r s => gd (decide (r = 0 ∨ r = 1)) (some (r, s))) := by
  unfold fX12_does; rw [if_neg (by decide), if_neg (by decide), if_neg (by decide), if_neg (by decide), if_neg (by decide), if_pos rfl]
theorem does_6 {a b : Int32} {σ : Mem} : fX12_does N 6 a b σ = bd (fX12_dampens N (-1) σ) (fun r s => gd (decide (r = 0 ∨ r = 1)) (some (r, s))) := by
  unfold fX12_does; rw [if_neg (by decide), if_neg (by decide), if_neg (by decide), if_neg (by decide), if_neg (by decide), if_neg (by decide), if_pos rfl]
theorem does_7 {a b : Int32} {σ : Mem} : fX12_does N 7 a b σ = bd (fX12_sleeps N σ) (fun _ s => some (1, s)) := by
  unfold fX12_does; rw [if_neg (by decide), if_neg (by decide), if_neg (by decide), if_neg (by decide), if_neg (by decide), if_neg (by decide), if_neg (by decide)]
theorem does_0 {a b : Int32} {σ : Mem} : fX12_does N 0 a b σ = bd (fX12_puts N a σ) (fun _ s => some (1, s)) := by
  unfold fX12_does; rw [if_pos rfl]
theorem bd_bd {α β γ : Type} {κ : Option (α × Mem)} {f : α → Mem → Option (β × Mem)} {g : β → Mem → Option (γ × Mem)} : bd (bd κ f) g = bd κ (fun r s => bd (f r s) g) := by
  cases κ with
  | none => rfl
  | some a => rfl
theorem draws_2 (hN : 10000 ≤ N) (P : CJ h c C np nw a1 a2 S σ1 σ2) (he : σ1.1 h 6 = σ2.1 0 34) : H2 (fX1_drawDeed N h σ1) (fX12_draws N σ2) (DrQ h c C np nw a1 a2) := by
  have hn := P.1.1
  have hw6 := P.1.2.1
  obtain ⟨r, x, hr, e1, e2, P'⟩ := below_2 (N := N) P he (n := 8) (by omega) (by omega)
  unfold fX1_drawDeed fX12_draws
  simp only [ho_lte]
  rw [show (8 : Int32) = Int32.ofNat 8 from rfl, e1, e2, ho_bds, ho_bds, P.c0.1, P.c0.2.1]
  have m12 : (pI σ2 0 34 x).1 0 12 = Int32.ofNat np := P'.c0.2.2.1
  have m13 : (pI σ2 0 34 x).1 0 13 = Int32.ofNat nw := P'.c0.2.2.2
  rw [m12, m13]
  have he' : (pI σ1 h 6 x).1 h 6 = (pI σ2 0 34 x).1 0 34 := by rw [pI_eq, pI_eq]
  generalize pI σ1 h 6 x = u1 at *
  generalize pI σ2 0 34 x = u2 at *
  unfold fX1_drawDeed_b72 fX1_drawDeed_b147 fX12_draws_b143 fX1_drawSitting
  have put : H2 (bd (fX1_drawBelow N h 64 u1) (fun r23 s24 => bd (fX1_putMotion N h r23 s24) (fun r25 s26 => some ((), s26)))) (bd (fX12_below N 64 u2) (fun r19 s20 => bd (fX12_does N 0 r19 (-1) s20) (fun r21 s22 => some ((), s22)))) (DrQ h c C np nw a1 a2) := by
    obtain ⟨m, y, hm, d1, d2, Q⟩ := below_2 (N := N) P' he' (n := 64) (by omega) (by omega)
    rw [show (64 : Int32) = Int32.ofNat 64 from rfl, d1, d2, ho_bds, ho_bds, does_0, bd_bd]
    apply h2_lr
    refine h2_mono (put_2 hN Q hm) (fun _ s1 _ s2 ⟨S', b, q1, q2⟩ => ?_)
    rw [ho_bds]
    exact ⟨⟨S', q1⟩, by rw [q2.1.2, q2.2.1.1 0 34 (by omega) (by omega), pI_eq, pI_eq]⟩
  have cs : r = 0 ∨ r = 1 ∨ r = 2 ∨ r = 3 ∨ r = 4 ∨ r = 5 ∨ r = 6 ∨ r = 7 := by omega
  rcases cs with e | e | e | e | e | e | e | e
  · subst e
    rw [if_pos (show Int32.ofNat 0 = 0 from rfl), if_neg (show ¬ (2 : Int32) ≤ Int32.ofNat 0 by decide)]
    exact put
  · subst e
    rw [if_neg (show ¬ Int32.ofNat 1 = 0 by decide), if_pos (show Int32.ofNat 1 = 1 from rfl), if_neg (show ¬ (2 : Int32) ≤ Int32.ofNat 1 by decide)]
    exact put
  · subst e
    rw [if_neg (show ¬ Int32.ofNat 2 = 0 by decide), if_neg (show ¬ Int32.ofNat 2 = 1 by decide), if_pos (show Int32.ofNat 2 = 2 from rfl), if_pos (show (2 : Int32) ≤ Int32.ofNat 2 by decide), if_neg (show ¬ (4 : Int32) ≤ Int32.ofNat 2 by decide)]
    simp only [ho_lte]
    by_cases z : nw = 0
    · subst z
      rw [below_0, ho_bds, if_pos rfl, ho_bds, if_pos (show Int32.ofNat 0 = 0 from rfl)]; exact no_dr P' he'
    · obtain ⟨w, y, hw, d1, d2, Q⟩ := below_2 (N := N) P' he' (n := nw) (by omega) (by omega)
      rw [if_neg (show ¬ Int32.ofNat nw = 0 by rw [z_eq (by omega) (by omega)]; exact z), d1, d2, ho_bds, ho_bds, if_neg (show ¬ Int32.ofNat w = -1 from z_m1 (by omega)), if_neg (show ¬ Int32.ofNat 2 = 3 by decide), Q.c0.2.2.1]
      have qe : (pI u1 h 6 y).1 h 6 = (pI u2 0 34 y).1 0 34 := by rw [pI_eq, pI_eq]
      by_cases z2 : np = 0
      · subst z2
        rw [below_0, ho_bds, if_pos (show Int32.ofNat 0 ≤ 0 by decide), sit_m1 Q hw, ho_bds, ho_bds]; exact no_dr Q qe
      · obtain ⟨p, y2, hp, d3, d4, Q2⟩ := below_2 (N := N) Q qe (n := np) (by omega) (by omega)
        rw [if_neg (show ¬ Int32.ofNat np ≤ 0 by rw [z_ge (by omega) (by omega)]; omega), d3, d4, ho_bds, ho_bds, does_4, bd_bd]
        simp only [ho_bds]
        exact de_dr (by rw [pI_eq, pI_eq]) (sit_2 Q2 _ _)
  · subst e
    rw [if_neg (show ¬ Int32.ofNat 3 = 0 by decide), if_neg (show ¬ Int32.ofNat 3 = 1 by decide), if_neg (show ¬ Int32.ofNat 3 = 2 by decide), if_pos (show Int32.ofNat 3 = 3 from rfl), if_pos (show (2 : Int32) ≤ Int32.ofNat 3 by decide), if_neg (show ¬ (4 : Int32) ≤ Int32.ofNat 3 by decide)]
    skip
    by_cases z : nw = 0
    · subst z
      rw [below_0, ho_bds, if_pos (show Int32.ofNat 0 = 0 from rfl)]; exact de_dl P' he' (stand_m1 P')
    · obtain ⟨w, y, hw, d1, d2, Q⟩ := below_2 (N := N) P' he' (n := nw) (by omega) (by omega)
      rw [if_neg (show ¬ Int32.ofNat nw = 0 by rw [z_eq (by omega) (by omega)]; exact z), d1, d2, ho_bds, ho_bds, if_pos (show Int32.ofNat 3 = 3 from rfl), does_1]
      exact de_dr (by rw [pI_eq, pI_eq]) (stand_2 Q _)
  · subst e
    rw [if_neg (show ¬ Int32.ofNat 4 = 0 by decide), if_neg (show ¬ Int32.ofNat 4 = 1 by decide), if_neg (show ¬ Int32.ofNat 4 = 2 by decide), if_neg (show ¬ Int32.ofNat 4 = 3 by decide), if_pos (show Int32.ofNat 4 = 4 from rfl), if_pos (show (2 : Int32) ≤ Int32.ofNat 4 by decide), if_pos (show (4 : Int32) ≤ Int32.ofNat 4 by decide), if_neg (show ¬ (6 : Int32) ≤ Int32.ofNat 4 by decide)]
    by_cases z : np = 0
    · subst z
      rw [below_0, ho_bds, if_pos (show Int32.ofNat 0 ≤ 0 by decide)]; exact de_dl P' he' (wax_m1 P')
    · obtain ⟨p, y, hp, d1, d2, Q⟩ := below_2 (N := N) P' he' (n := np) (by omega) (by omega)
      rw [if_neg (show ¬ Int32.ofNat np ≤ 0 by rw [z_ge (by omega) (by omega)]; omega), d1, d2, ho_bds, ho_bds, show Int32.ofNat 4 - 2 = 2 from rfl, does_w]
      exact de_dr (by rw [pI_eq, pI_eq]) (wax_2 Q _)
  · subst e
    rw [if_neg (show ¬ Int32.ofNat 5 = 0 by decide), if_neg (show ¬ Int32.ofNat 5 = 1 by decide), if_neg (show ¬ Int32.ofNat 5 = 2 by decide), if_neg (show ¬ Int32.ofNat 5 = 3 by decide), if_neg (show ¬ Int32.ofNat 5 = 4 by decide), if_pos (show Int32.ofNat 5 = 5 from rfl), if_pos (show (2 : Int32) ≤ Int32.ofNat 5 by decide), if_pos (show (4 : Int32) ≤ Int32.ofNat 5 by decide), if_neg (show ¬ (6 : Int32) ≤ Int32.ofNat 5 by decide)]
    by_cases z : np = 0
    · subst z
      rw [below_0, ho_bds, if_pos (show Int32.ofNat 0 ≤ 0 by decide)]; exact de_dl P' he' (set_m1 P')
    · obtain ⟨p, y, hp, d1, d2, Q⟩ := below_2 (N := N) P' he' (n := np) (by omega) (by omega)
      rw [if_neg (show ¬ Int32.ofNat np ≤ 0 by rw [z_ge (by omega) (by omega)]; omega), d1, d2, ho_bds, ho_bds, show Int32.ofNat 5 - 2 = 3 from rfl, does_s]
      exact de_dr (by rw [pI_eq, pI_eq]) (set_2 Q _)
  · subst e
    rw [if_neg (show ¬ Int32.ofNat 6 = 0 by decide), if_neg (show ¬ Int32.ofNat 6 = 1 by decide), if_neg (show ¬ Int32.ofNat 6 = 2 by decide), if_neg (show ¬ Int32.ofNat 6 = 3 by decide), if_neg (show ¬ Int32.ofNat 6 = 4 by decide), if_neg (show ¬ Int32.ofNat 6 = 5 by decide), if_pos (show Int32.ofNat 6 = 6 from rfl), if_pos (show (2 : Int32) ≤ Int32.ofNat 6 by decide), if_pos (show (4 : Int32) ≤ Int32.ofNat 6 by decide), if_pos (show (6 : Int32) ≤ Int32.ofNat 6 by decide), if_neg (show ¬ Int32.ofNat 6 = 7 by decide)]
    obtain ⟨p, y, hp, d1, d2, Q⟩ := below_2 (N := N) P' he' (n := 2) (by omega) (by omega)
    rw [show (2 : Int32) = Int32.ofNat 2 from rfl, d1, d2, ho_bds, ho_bds]
    have qe : (pI u1 h 6 y).1 h 6 = (pI u2 0 34 y).1 0 34 := by rw [pI_eq, pI_eq]
    have cs : p = 0 ∨ p = 1 := by omega
    rcases cs with e | e
    · subst e
      rw [if_pos (show Int32.ofNat 0 = 0 from rfl), show (5 : Int32) + Int32.ofNat 0 = 5 from rfl, does_5]
      exact de_dr qe (damp_2 Q _)
    · subst e
      rw [if_neg (show ¬ Int32.ofNat 1 = 0 by decide), show (5 : Int32) + Int32.ofNat 1 = 6 from rfl, does_6]
      generalize (-1 : Int32) = d6
      exact de_dr qe (damp_2 Q d6)
  · subst e
    rw [if_neg (show ¬ Int32.ofNat 7 = 0 by decide), if_neg (show ¬ Int32.ofNat 7 = 1 by decide), if_neg (show ¬ Int32.ofNat 7 = 2 by decide), if_neg (show ¬ Int32.ofNat 7 = 3 by decide), if_neg (show ¬ Int32.ofNat 7 = 4 by decide), if_neg (show ¬ Int32.ofNat 7 = 5 by decide), if_neg (show ¬ Int32.ofNat 7 = 6 by decide), if_pos (show (2 : Int32) ≤ Int32.ofNat 7 by decide), if_pos (show (4 : Int32) ≤ Int32.ofNat 7 by decide), if_pos (show (6 : Int32) ≤ Int32.ofNat 7 by decide), if_pos (show Int32.ofNat 7 = 7 from rfl), does_7, bd_bd]
    have nn := night_2 hN P'
    have e3 : bd (fX2_passNight N (h + 1) u1) (fun _ s => some ((), s)) = bd (bd (fX2_passNight N (h + 1) u1) (fun _ s => some ((1 : Int32), s))) (fun _ s => some ((), s)) := by rw [bd_bd]; rfl
    have e4 : bd (fX12_sleeps N u2) (fun r s => bd (some ((1 : Int32), s)) (fun _ s => some ((), s))) = bd (bd (fX12_sleeps N u2) (fun _ s => some ((1 : Int32), s))) (fun _ s => some ((), s)) := by rw [bd_bd]
    rw [e3, e4]
    apply h2_lr
    refine h2_mono nn (fun r1 s1 r2 s2 ⟨x1, x2, x3, x4⟩ => ?_)
    exact ⟨x3, by rw [x4.1, x4.2.2.1 0 34 (by omega) (by omega)]; exact he'⟩
end DRAW
theorem t_drawn {σ1 σ2 : Mem} {N : Nat} (hN : 10000 ≤ N) (R : RR σ1 σ2) (v1 v2 v3 v4 : Int32) : H2 (fX11_drawn N 0 v1 v2 v3 v4 σ1) (fX12_drawn N v1 v2 v3 v4 σ2) (QU σ1 σ2) := by
  unfold fX11_drawn fX12_drawn
  refine q_ch R v1 (fun j C np nw s2 hj W HC HM K => ?_)
  rw [isIn_Z, ho_bds]
  simp only [ite10, Int32.reduceToInt]
  by_cases c0 : 0 ≤ v3.toInt ∧ v3.toInt ≤ 60
  · obtain ⟨n, n1, n2, n3⟩ := z_of (v := v3) (a := 0) (b := 60) c0
    rw [if_neg (show ¬ v3 < 0 by rw [i32_lt]; show ¬ v3.toInt < 0; omega), if_pos (show v3 ≤ 60 by rw [i32_le]; exact c0.2), if_neg (fun z => z c0)]
    subst n3
    have HM' : HcM (pI s2 0 34 v2) (610 + 63 * j) C np nw := HM.ag (pI_ne (by omega)) (fun j _ _ => pI_nq (by omega))
    have K' : KM σ2 (pI s2 0 34 v2) := K.trans ⟨pI_ne (by omega), pI_ne (by omega)⟩
    unfold fX1_draw
    -- the loops beside each other
    have L : ∀ (t1 t2 : Mem) (f2 : Mem → Option (Int32 × Mem)), (∃ S', CJ (0 + 205) (610 + 63 * j) C np nw σ1 (pI s2 0 34 v2) S' t1 t2) → t1.1 (0 + 205) 6 = t2.1 0 34 → (∀ u1 u2, (∃ S', CJ (0 + 205) (610 + 63 * j) C np nw σ1 (pI s2 0 34 v2) S' u1 u2) → H2 (bd (fX1_tell N (0 + 205) v4 u1) (fun r6 s7 => some (r6, s7))) (bd (fX12_nowOf N v4 u2) (fun r9 s10 => some (r9, s10))) (QU σ1 σ2)) → H2 (bd (fX1_draw_l13 N (0 + 205) N (Int32.ofNat n) 0 t1) (fun _ s5 => bd (fX1_tell N (0 + 205) v4 s5) (fun r6 s7 => some (r6, s7)))) (fX12_drawn_l38 N N (Int32.ofNat n) v4 0 t2) (QU σ1 σ2) := by
      intro t1 t2 _ P he fin
      refine h2_loop (F1 := fun m (v : Int32) s => bd (fX1_draw_l13 N (0 + 205) m (Int32.ofNat n) v s) (fun _ s5 => bd (fX1_tell N (0 + 205) v4 s5) (fun r6 s7 => some (r6, s7)))) (F2 := fun m (v : Int32) s => fX12_drawn_l38 N m (Int32.ofNat n) v4 v s) (fun i v s v' s' => v = Int32.ofNat i ∧ v' = Int32.ofNat i ∧ (∃ S', CJ (0 + 205) (610 + 63 * j) C np nw σ1 (pI s2 0 34 v2) S' s s') ∧ s.1 (0 + 205) 6 = s'.1 0 34) n ?_ ?_ n N N 0 0 t1 0 t2 (by omega) (by omega) (by omega) ⟨rfl, rfl, P, he⟩
      · rintro m1 m2 i v s v' s' hi ⟨e1, e2, ⟨S', P⟩, he⟩ rec
        subst e1 e2
        simp only [fX1_draw_l13, fX12_drawn_l38, fX1_draw_b13, fX12_drawn_b38, ho_lte, nz_succ]
        rw [if_neg (show ¬ Int32.ofNat n ≤ Int32.ofNat i by rw [nz_le (by omega) (by omega)]; omega), if_neg (show ¬ Int32.ofNat n ≤ Int32.ofNat i by rw [nz_le (by omega) (by omega)]; omega), bd_bd]
        apply h2_lr
        refine h2_mono (draws_2 hN P he) (fun _ u1 _ u2 ⟨P', he'⟩ => ?_)
        exact rec _ _ _ _ ⟨rfl, rfl, P', he'⟩
      · rintro m1 m2 v s v' s' ⟨e1, e2, P, he⟩
        subst e1 e2
        simp only [fX1_draw_l13, fX12_drawn_l38, fX1_draw_b13, fX12_drawn_b38]
        rw [if_pos (Int32.le_refl _), if_pos (Int32.le_refl _), ho_bds]
        exact fin _ _ P
    by_cases c2 : 0 ≤ v4
    · rw [if_pos c2, bd_bd]
      simp only [ho_lte]
      apply h2_lr
      refine h2_mono (begin_2 (h := 0 + 205) hN W HC (by omega) HM') (fun _ t1 _ t2 ⟨P, B, _, z26, _⟩ => ?_)
      refine L _ _ (fun _ => none) ⟨_, P.p5 (by omega)⟩ ?_ (fun u1 u2 ⟨S', P'⟩ => ?_)
      · rw [pI_eq, B.1 0 34 (by omega) (by omega), pI_eq]
      · apply h2_lr
        refine h2_mono (tell_2 hN P' v4 c2) (fun r1 w1 r2 w2 ⟨y1, y2, y3⟩ => ?_)
        rw [y2, y3]
        exact ⟨y1, P'.fin R.kc K' rfl⟩
    · rw [if_neg c2]
      have tv : v4.toInt < 0 := by rw [i32_le] at c2; have : (0 : Int32).toInt = 0 := rfl; omega
      have tell : ∀ t1, fX1_tell N (0 + 205) v4 t1 = some (-2, t1) := by
        intro t1
        unfold fX1_tell
        have nz : ∀ m : Nat, m < 10 → ¬ v4 = Int32.ofNat m := fun m hm e => by
          have := congrArg Int32.toInt e
          rw [nz_toInt (by omega)] at this; omega
        rw [if_neg (show ¬ v4 = 0 from nz 0 (by omega)), if_neg (show ¬ v4 = 1 from nz 1 (by omega)), if_neg (show ¬ v4 = 2 from nz 2 (by omega)), if_neg (show ¬ v4 = 3 from nz 3 (by omega)), if_neg (show ¬ v4 = 4 from nz 4 (by omega)), if_neg (show ¬ v4 = 5 from nz 5 (by omega)), if_pos (show v4 < 10 by rw [i32_lt]; show v4.toInt < 10; omega)]
      -- the reference's own run at 0 tells that the class's ends
      have G : H2 (bd (fX1_begin N (0 + 205) (7 + 9 * j) σ1) (fun _ s2 => bd (fX1_draw_l13 N (0 + 205) N (Int32.ofNat n) 0 (pI s2 (0 + 205) 6 v2)) (fun r s => some (r, s)))) (bd (fX12_begins N (pI s2 0 34 v2)) (fun _ s7 => fX12_drawn_l38 N N (Int32.ofNat n) 0 0 s7)) (fun _ s1 _ _ => KC σ1 s1) := by
        apply h2_lr
        refine h2_mono (begin_2 (h := 0 + 205) hN W HC (by omega) HM') (fun _ t1 _ t2 ⟨P, B, _, z26, _⟩ => ?_)
        refine h2_loop (F1 := fun m (v : Int32) s => bd (fX1_draw_l13 N (0 + 205) m (Int32.ofNat n) v s) (fun r s => some (r, s))) (F2 := fun m (v : Int32) s => fX12_drawn_l38 N m (Int32.ofNat n) 0 v s) (fun i v s v' s' => v = Int32.ofNat i ∧ v' = Int32.ofNat i ∧ (∃ S', CJ (0 + 205) (610 + 63 * j) C np nw σ1 (pI s2 0 34 v2) S' s s') ∧ s.1 (0 + 205) 6 = s'.1 0 34) n ?_ ?_ n N N 0 0 _ 0 t2 (by omega) (by omega) (by omega) ⟨rfl, rfl, ⟨_, P.p5 (by omega)⟩, by rw [pI_eq, B.1 0 34 (by omega) (by omega), pI_eq]⟩
        · rintro m1 m2 i v s v' s' hi ⟨e1, e2, ⟨S', P⟩, he⟩ rec
          subst e1 e2
          simp only [fX1_draw_l13, fX12_drawn_l38, fX1_draw_b13, fX12_drawn_b38, ho_lte, nz_succ]
          rw [if_neg (show ¬ Int32.ofNat n ≤ Int32.ofNat i by rw [nz_le (by omega) (by omega)]; omega), if_neg (show ¬ Int32.ofNat n ≤ Int32.ofNat i by rw [nz_le (by omega) (by omega)]; omega), bd_bd]
          apply h2_lr
          refine h2_mono (draws_2 hN P he) (fun _ u1 _ u2 ⟨P', he'⟩ => ?_)
          exact rec _ _ _ _ ⟨rfl, rfl, P', he'⟩
        · rintro m1 m2 v s v' s' ⟨e1, e2, ⟨S', P⟩, he⟩
          subst e1 e2
          simp only [fX1_draw_l13, fX12_drawn_l38, fX1_draw_b13, fX12_drawn_b38]
          rw [if_pos (Int32.le_refl _), if_pos (Int32.le_refl _), ho_bds]
          apply h2_r
          refine ho_mono (h2_pr (tell_2 hN P 0 (Int32.le_refl _))) (fun r w _ => ?_)
          exact (P.fin R.kc K' rfl).1
      have G' := h2_pl G
      simp only [bd_ret] at G'
      rw [bd_bd] 
      simp only [ho_lte]
      rw [ho_bd] at G'
      apply h2_l
      refine ho_mono G' (fun _ t1 q => ?_)
      apply h2_l
      refine ho_mono q (fun _ u1 ⟨_, _, k1⟩ => ?_)
      rw [tell, ho_bds]
      exact ⟨rfl, k1, K⟩
  · rw [if_pos c0]
    by_cases c1 : v3 < 0
    · rw [if_pos c1]; exact ⟨rfl, R.kc, K⟩
    · rw [if_neg c1, if_neg]
      · exact ⟨rfl, R.kc, K⟩
      · rw [i32_lt] at c1; rw [i32_le]
        have : (0 : Int32).toInt = 0 := rfl
        have : (60 : Int32).toInt = 60 := rfl
        omega
