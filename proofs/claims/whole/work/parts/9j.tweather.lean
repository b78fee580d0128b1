theorem upd2 : ∀ i, i < 10 → ((9 : Int32) ≤ Int32.ofNat i ↔ 9 ≤ i) ∧ (Int32.ofNat i ≤ 0 ↔ i = 0) := by decide +kernel
/-- the reference's chances: row at o -/
def WeM (o : Nat) (t : Mem) (r : Nat → Nat) : Prop := ∀ d, d < 10 → t.2 13 (o + d) = Int64.ofNat (r d)
theorem weather_M {N c np nw mm n p d0 : Nat} {C : Vw} {s : Mem} {v5 : Int32} (hN : 10000 ≤ N) (W : WfV C np nw) (H : HaM s c C (asT C) np nw) (hm : mm < 64) (hn : n ≤ 9) (hp : p ≤ 10) (hd0 : d0 ≤ 9) (e0 : C 1 2 = Int32.ofNat d0) : Ho (fX12_weather_l47 N N (Int32.ofNat mm) (Int32.ofNat n) (Int32.ofNat p) v5 0 s) (fun v t => v = Int64.ofNat ((if v5 = 0 then wsN (wqV C np nw mm) (rowN p d0 n) 10 else 10 ^ n) / Nat.gcd (wsN (wqV C np nw mm) (rowN p d0 n) 10) (10 ^ n)) ∧ KM s t) := by
  have de : s.1 0 14 = Int32.ofNat d0 := by rw [H.2.1.1, asT_at (by omega), e0]
  refine ho_loop (F := fun m (b : Int32) t => fX12_weather_l47 N m (Int32.ofNat mm) (Int32.ofNat n) (Int32.ofNat p) v5 b t) (fun i b t => b = Int32.ofNat i ∧ t.1 = s.1 ∧ ∀ d, d < i → t.2 13 d = Int64.ofNat (if d = d0 then 1 else 0)) 20 ?_ ?_ 20 N 0 0 s (by omega) (by omega) ⟨rfl, rfl, fun d hd => absurd hd (Nat.not_lt_zero d)⟩
  · rintro m i b t hi ⟨e1, e2, e3⟩ rec
    subst e1
    simp only [fX12_weather_l47, fX12_weather_b47, fX12_weather_b74, ho_lte, nz_succ]
    rw [if_neg (show ¬ (20 : Int32) ≤ Int32.ofNat i by rw [z_le (by omega) (by omega)]; omega), e2, de, nz_inb (by omega), nz_nat (by omega), decide_eq_true hi, ho_gdt, ho_gdt]
    by_cases q : i = d0
    · rw [if_pos (show Int32.ofNat i = Int32.ofNat d0 by rw [q])]
      refine rec _ _ ⟨rfl, e2, fun d hd => ?_⟩
      rw [pL_at]
      by_cases c : d = i
      · rw [if_pos ⟨rfl, c⟩, if_pos (by omega)]; rfl
      · rw [if_neg (fun h => c h.2)]; exact e3 d (by omega)
    · rw [if_neg (show ¬ Int32.ofNat i = Int32.ofNat d0 by rw [nz_inj (by omega) (by omega)]; exact q)]
      refine rec _ _ ⟨rfl, e2, fun d hd => ?_⟩
      rw [pL_at]
      by_cases c : d = i
      · rw [if_pos ⟨rfl, c⟩, if_neg (by omega)]; rfl
      · rw [if_neg (fun h => c h.2)]; exact e3 d (by omega)
  · rintro m b t ⟨e1, e2, e3⟩
    subst e1
    simp only [fX12_weather_l47, fX12_weather_b47, ho_lte]
    rw [if_pos (by decide)]
    refine ho_loop (F := fun m (b : Int64 × Int32 × Int32) t => fX12_weather_l90 N m (Int32.ofNat mm) (Int32.ofNat n) (Int32.ofNat p) v5 b.1 b.2.1 b.2.2 t) (fun i b t => b.1 = Int64.ofNat (10 ^ i) ∧ b.2.2 = Int32.ofNat i ∧ t.1 = s.1 ∧ ∃ o, (o = 0 ∨ o = 10) ∧ b.2.1 = Int32.ofNat o ∧ WeM o t (rowN p d0 i)) n ?_ ?_ n N 0 (1, 0, 0) t (by omega) (by omega) ⟨rfl, rfl, e2, 0, Or.inl rfl, rfl, fun d hd => by rw [Nat.zero_add]; exact e3 d (by omega)⟩
    · rintro m i ⟨v6, v8, v9⟩ t hi ⟨e1, e2, e3, o, ho, e4, We⟩ rec
      dsimp only at e1 e2 e4; subst e1 e2 e4
      obtain ⟨o', ho', e5⟩ : ∃ o', (o' = 0 ∨ o' = 10) ∧ o' = 10 - o := ⟨10 - o, by omega, rfl⟩
      have e6 : (10 : Int32) - Int32.ofNat o = Int32.ofNat o' := by rcases ho with rfl | rfl <;> subst e5 <;> rfl
      simp only [fX12_weather_l90, fX12_weather_b90, ho_lte]
      rw [if_neg (show ¬ Int32.ofNat n ≤ Int32.ofNat i by rw [nz_le (by omega) (by omega)]; omega), e6]
      refine ho_loop (F := fun m' (b : Int32) t => fX12_weather_l106 N (fX12_weather_l90 N m) m' (Int32.ofNat mm) (Int32.ofNat n) (Int32.ofNat p) v5 (Int64.ofNat (10 ^ i)) (Int32.ofNat o) (Int32.ofNat i) (Int32.ofNat o') b t) (fun j b t => b = Int32.ofNat j ∧ t.1 = s.1 ∧ WeM o t (rowN p d0 i) ∧ ∀ d, d < j → t.2 13 (o' + d) = 0) 10 ?_ ?_ 10 N 0 0 t (by omega) (by omega) ⟨rfl, e3, We, fun d hd => absurd hd (Nat.not_lt_zero d)⟩
      · rintro m' j b t hj ⟨g1, g2, g3, g4⟩ rec'
        subst g1
        simp only [fX12_weather_l106, fX12_weather_b106, ho_lte, nz_succ, nz_add]
        rw [if_neg (show ¬ (10 : Int32) ≤ Int32.ofNat j by rw [z_le (by omega) (by omega)]; omega), nz_inb (by omega), nz_nat (by omega), decide_eq_true (by omega), ho_gdt]
        refine rec' _ _ ⟨rfl, g2, fun d hd => ?_, fun d hd => ?_⟩
        · rw [pL_at, if_neg (by omega)]; exact g3 d hd
        · rw [pL_at]
          by_cases c : d = j
          · rw [if_pos ⟨rfl, by omega⟩]
          · rw [if_neg (by omega)]; exact g4 d (by omega)
      · rintro m' b t ⟨g1, g2, g3, g4⟩
        subst g1
        simp only [fX12_weather_l106, fX12_weather_b106, ho_lte]
        rw [if_pos (by decide)]
        refine ho_loop (F := fun m' (b : Int32) t => fX12_weather_l133 N (fX12_weather_l90 N m) m' (Int32.ofNat mm) (Int32.ofNat n) (Int32.ofNat p) v5 (Int64.ofNat (10 ^ i)) (Int32.ofNat o) (Int32.ofNat i) (Int32.ofNat o') b t) (fun j b t => b = Int32.ofNat j ∧ t.1 = s.1 ∧ WeM o t (rowN p d0 i) ∧ WeM o' t (psN p (rowN p d0 i) j)) 10 ?_ ?_ 10 N 0 0 t (by omega) (by omega) ⟨rfl, g2, g3, fun d hd => by rw [g4 d hd]; rfl⟩
        · rintro m' j b t hj ⟨g1, g2, g3, g4⟩ rec'
          subst g1
          have ud := upd2 j hj
          have u9 : (if 9 ≤ j then 9 else j + 1) < 10 := by split <;> omega
          have tail : fX12_weather_b162 N (fX12_weather_l90 N m) (fX12_weather_l133 N (fX12_weather_l90 N m) m') (Int32.ofNat mm) (Int32.ofNat n) (Int32.ofNat p) v5 (Int64.ofNat (10 ^ i)) (Int32.ofNat o) (Int32.ofNat i) (Int32.ofNat o') (Int32.ofNat j) (Int32.ofNat (if 9 ≤ j then 9 else j + 1)) (Int32.ofNat o') t = fX12_weather_l133 N (fX12_weather_l90 N m) m' (Int32.ofNat mm) (Int32.ofNat n) (Int32.ofNat p) v5 (Int64.ofNat (10 ^ i)) (Int32.ofNat o) (Int32.ofNat i) (Int32.ofNat o') (Int32.ofNat (j + 1)) (pL (pL t 13 (o' + (if 9 ≤ j then 9 else j + 1)) (t.2 13 (o' + (if 9 ≤ j then 9 else j + 1)) + Int64.ofNat p * t.2 13 (o + j))) 13 (o' + (j - 1)) ((pL t 13 (o' + (if 9 ≤ j then 9 else j + 1)) (t.2 13 (o' + (if 9 ≤ j then 9 else j + 1)) + Int64.ofNat p * t.2 13 (o + j))).2 13 (o' + (j - 1)) + Int64.ofNat (10 - p) * t.2 13 (o + j))) := by
            generalize (if 9 ≤ j then 9 else j + 1) = z at u9
            simp only [fX12_weather_b162, fX12_weather_b200, ho_lte, nz_succ, nz_add]
            have i1 : inb (Int32.ofNat (o' + z)) 20 = true := by rw [nz_inb (by omega)]; exact decide_eq_true (by omega)
            have i2 : inb (Int32.ofNat (o + j)) 20 = true := by rw [nz_inb (by omega)]; exact decide_eq_true (by omega)
            have n1 : (Int32.ofNat (o' + z)).toNatClampNeg = o' + z := nz_nat (by omega)
            have n2 : (Int32.ofNat (o + j)).toNatClampNeg = o + j := nz_nat (by omega)
            have n3 : (Int32.ofNat (o' + (j - 1))).toNatClampNeg = o' + (j - 1) := nz_nat (by omega)
            have i3 : inb (Int32.ofNat (o' + (j - 1))) 20 = true := by rw [nz_inb (by omega)]; exact decide_eq_true (by omega)
            have far : ∀ v, (pL t 13 (o' + z) v).2 13 (o + j) = t.2 13 (o + j) := fun v => by rw [pL_at, if_neg (by omega)]
            rw [gdT i1, gdT i2, gdT i1, n1, n2, i64n (show p < 2147483648 by omega), ten_sub p (by omega)]
            by_cases c : j = 0
            · have e : Int32.ofNat o' + (0 : Int32) = Int32.ofNat (o' + (j - 1)) := by rw [c, Int32.add_zero]; rfl
              rw [if_pos (ud.2.mpr c), e, gdT i3, gdT i2, gdT i3, n3, far]
            · have e : Int32.ofNat o' + (Int32.ofNat j - 1) = Int32.ofNat (o' + (j - 1)) := by
                obtain ⟨d, rfl⟩ : ∃ d, j = d + 1 := ⟨j - 1, by omega⟩
                rw [z_sub1, nz_add, Nat.add_sub_cancel]
              rw [if_neg (fun h => c (ud.2.mp h)), e, gdT i3, gdT i2, gdT i3, n3, far]
          have go : Ho (fX12_weather_l133 N (fX12_weather_l90 N m) (m' + 1) (Int32.ofNat mm) (Int32.ofNat n) (Int32.ofNat p) v5 (Int64.ofNat (10 ^ i)) (Int32.ofNat o) (Int32.ofNat i) (Int32.ofNat o') (Int32.ofNat j) t) (fun v t => v = Int64.ofNat ((if v5 = 0 then wsN (wqV C np nw mm) (rowN p d0 n) 10 else 10 ^ n) / Nat.gcd (wsN (wqV C np nw mm) (rowN p d0 n) 10) (10 ^ n)) ∧ KM s t) := by
            have e : fX12_weather_l133 N (fX12_weather_l90 N m) (m' + 1) (Int32.ofNat mm) (Int32.ofNat n) (Int32.ofNat p) v5 (Int64.ofNat (10 ^ i)) (Int32.ofNat o) (Int32.ofNat i) (Int32.ofNat o') (Int32.ofNat j) t = fX12_weather_b162 N (fX12_weather_l90 N m) (fX12_weather_l133 N (fX12_weather_l90 N m) m') (Int32.ofNat mm) (Int32.ofNat n) (Int32.ofNat p) v5 (Int64.ofNat (10 ^ i)) (Int32.ofNat o) (Int32.ofNat i) (Int32.ofNat o') (Int32.ofNat j) (Int32.ofNat (if 9 ≤ j then 9 else j + 1)) (Int32.ofNat o') t := by
              simp only [fX12_weather_l133, fX12_weather_b133, nz_succ]
              rw [if_neg (show ¬ (10 : Int32) ≤ Int32.ofNat j by rw [z_le (by omega) (by omega)]; omega)]
              by_cases c : 9 ≤ j
              · rw [if_pos (ud.1.mpr c), if_pos c]; rfl
              · rw [if_neg (fun h => c (ud.1.mp h)), if_neg c]
            rw [e, tail]
            refine rec' _ _ ⟨rfl, g2, fun d hd => ?_, fun d hd => ?_⟩
            · rw [pL_at, if_neg (by omega), pL_at, if_neg (by omega)]; exact g3 d hd
            · have ps : psN p (rowN p d0 i) (j + 1) d = (if d = j - 1 then (if d = (if 9 ≤ j then 9 else j + 1) then psN p (rowN p d0 i) j d + rowN p d0 i j * p else psN p (rowN p d0 i) j d) + rowN p d0 i j * (10 - p) else (if d = (if 9 ≤ j then 9 else j + 1) then psN p (rowN p d0 i) j d + rowN p d0 i j * p else psN p (rowN p d0 i) j d)) := rfl
              rw [ps, g3 j hj, l_mul, l_mul, Nat.mul_comm p, Nat.mul_comm (10 - p)]
              generalize hz : (if 9 ≤ j then 9 else j + 1) = z at u9
              rw [g4 z u9, l_add]
              have one : ∀ d, d < 10 → (pL t 13 (o' + z) (Int64.ofNat (psN p (rowN p d0 i) j z + rowN p d0 i j * p))).2 13 (o' + d) = Int64.ofNat (if d = z then psN p (rowN p d0 i) j d + rowN p d0 i j * p else psN p (rowN p d0 i) j d) := by
                intro d hd
                rw [pL_at]
                by_cases c : d = z
                · rw [if_pos ⟨rfl, by omega⟩, if_pos c, c]
                · rw [if_neg (by omega), if_neg c]; exact g4 d hd
              rw [one (j - 1) (by omega), l_add, pL_at]
              by_cases c : d = j - 1
              · rw [if_pos ⟨rfl, by omega⟩, if_pos c, ← c]
              · rw [if_neg (by omega), if_neg c]; exact one d hd
          exact go
        · rintro m' b t ⟨g1, g2, g3, g4⟩
          subst g1
          simp only [fX12_weather_l133, fX12_weather_b133, ho_lte, nz_succ]
          rw [if_pos (by decide), show (10 : Int64) = Int64.ofNat 10 from rfl, l_mul]
          exact rec (_, _, _) _ ⟨by rw [Nat.pow_succ]; rfl, rfl, g2, o', ho', rfl, g4⟩
    · rintro m ⟨v6, v8, v9⟩ t ⟨e1, e2, e3, o, ho, e4, We⟩
      dsimp only at e1 e2 e4; subst e1 e2 e4
      simp only [fX12_weather_l90, fX12_weather_b90, ho_lte]
      rw [if_pos (show Int32.ofNat n ≤ Int32.ofNat n by rw [nz_le (by omega) (by omega)]; omega)]
      have HA : HaM t c C (asT C) np nw := H.ag ⟨by rw [e3], by rw [e3], by rw [e3], by rw [e3], fun _ _ _ => by rw [e3]⟩
      have rl := row_le hp (show d0 < 10 by omega) (wqV C np nw mm) hn
      refine ho_loop (F := fun m (b : Int64 × Int32) t => fX12_weather_l252 N m (Int32.ofNat mm) v5 (Int64.ofNat (10 ^ n)) (Int32.ofNat o) b.1 b.2 t) (fun i b u => b.1 = Int64.ofNat (wsN (wqV C np nw mm) (rowN p d0 n) i) ∧ b.2 = Int32.ofNat i ∧ (∃ x, HaM u c C (upV (asT C) 1 2 x) np nw) ∧ KM s u ∧ u.2 = t.2) 10 ?_ ?_ 10 N 0 (0, 0) t (by omega) (by omega) ⟨rfl, rfl, ⟨_, asT_up ▸ HA⟩, ⟨by rw [e3], by rw [e3]⟩, rfl⟩
      · rintro m i ⟨a, b⟩ u hi ⟨g1, g2, ⟨x, H1⟩, g4, g5⟩ rec
        dsimp only at g1 g2; subst g1 g2
        have H2' := H1.damp (v := Int32.ofNat i)
        rw [upV_up] at H2'
        have W2 : WfV (upV (asT C) 1 2 (Int32.ofNat i)) np nw := upV_wf (asT_wf W) (by omega)
        simp only [fX12_weather_l252, fX12_weather_b252, fX12_weather_b289, ho_lte, nz_succ, nz_add]
        rw [if_neg (show ¬ (10 : Int32) ≤ Int32.ofNat i by rw [z_le (by omega) (by omega)]; omega), ho_bd]
        refine ho_mono (answers_M hN W2 H2') (fun r u2 ⟨hr, V⟩ => ?_)
        have K2 : KM s u2 := g4.trans ⟨by rw [V.1.toH.km.1, pI_ne (by omega)], by rw [V.1.toH.km.2, pI_ne (by omega)]⟩
        have g5' : u2.2 = t.2 := by rw [V.1.2, pI_2, g5]
        rw [hr, nz_inb (by omega), nz_nat (by omega), decide_eq_true (by omega), ho_gdt, g5', We i hi, l_add]
        simp only [ite10]
        by_cases q : carV (upV (asT C) 1 2 (Int32.ofNat i)) np nw (Int32.ofNat mm) = true
        · rw [if_neg (show ¬ ¬ carV (upV (asT C) 1 2 (Int32.ofNat i)) np nw (Int32.ofNat mm) = true from fun h => h q)]
          exact rec (_, _) _ ⟨by simp only [wsN]; rw [if_pos (show wqV C np nw mm i = true from q)]; rfl, rfl, ⟨_, H2'.ag V.1.ag⟩, K2, g5'⟩
        · rw [if_pos q]
          exact rec (_, _) _ ⟨by simp only [wsN]; rw [if_neg (show ¬ wqV C np nw mm i = true from q)]; exact Int64.add_zero _, rfl, ⟨_, H2'.ag V.1.ag⟩, K2, g5'⟩
      · rintro m ⟨a, b⟩ u ⟨g1, g2, _, g4, g5⟩
        dsimp only at g1 g2; subst g1 g2
        simp only [fX12_weather_l252, fX12_weather_b252, fX12_weather_b310]
        rw [if_pos (by decide), common_M hN (by omega) (by omega), ho_bds, ho_bds]
        have g0 : 0 < Nat.gcd (wsN (wqV C np nw mm) (rowN p d0 n) 10) (10 ^ n) := Nat.gcd_pos_of_pos_right _ (by omega)
        have g1 : Nat.gcd (wsN (wqV C np nw mm) (rowN p d0 n) 10) (10 ^ n) ≤ 10 ^ n := Nat.gcd_le_right _ (by omega)
        rw [decide_eq_false (fun h => by have := (l_zero (by omega)).mp h; omega), Bool.not_false, ho_gdt, ho_gdt, l_div (by omega) (by omega), l_div (by omega) (by omega)]
        by_cases z : v5 = 0
        · rw [if_pos z, if_pos z]; exact ⟨rfl, g4⟩
        · rw [if_neg z, if_neg z]; exact ⟨rfl, g4⟩
theorem t_weather {σ1 σ2 : Mem} {N : Nat} (hN : 10000 ≤ N) (R : RR σ1 σ2) (v1 v2 v3 v4 v5 : Int32) : H2 (fX11_weather N 0 v1 v2 v3 v4 v5 σ1) (fX12_weather N v1 v2 v3 v4 v5 σ2) (QU σ1 σ2) := by
  unfold fX11_weather fX12_weather
  refine q_as R v1 v2 (fun j C np nw s2 mm hj hm em W HC HM K => ?_)
  subst em
  obtain ⟨d0, hd0, e0⟩ := W.2.1
  rw [isIn_Z, ho_bds, isIn_Z, ho_bds]
  simp only [ite10, Int32.reduceToInt]
  by_cases c0 : 0 ≤ v3.toInt ∧ v3.toInt ≤ 9
  · obtain ⟨n, n1, n2, n3⟩ := z_of (a := 0) (b := 9) c0
    rw [if_neg (show ¬ v3 < 0 by rw [i32_lt]; show ¬ v3.toInt < 0; omega), if_neg (show ¬ 9 < v3 by rw [i32_lt]; show ¬ 9 < v3.toInt; omega), if_neg (show ¬ ¬ (0 ≤ v3.toInt ∧ v3.toInt ≤ 9) from fun h => h c0)]
    by_cases c1 : 0 ≤ v4.toInt ∧ v4.toInt ≤ 10
    · obtain ⟨p, p1, p2, p3⟩ := z_of (a := 0) (b := 10) c1
      rw [if_neg (show ¬ v4 < 0 by rw [i32_lt]; show ¬ v4.toInt < 0; omega), if_pos (show v4 ≤ 10 by rw [i32_le]; exact c1.2), if_neg (show ¬ ¬ (0 ≤ v4.toInt ∧ v4.toInt ≤ 10) from fun h => h c1)]
      subst n3 p3
      have rl := row_le p2 (show d0 < 10 by omega) (wqV C np nw mm) n2
      apply h2_l
      refine ho_mono (behind_C hN W.1 HC (by omega) hm n2 p2 hd0 e0 R.kc) (fun v t1 ⟨hv, E1⟩ => ?_)
      subst hv
      rw [pten_C hN (by omega) rfl, ho_bds, least_C hN (by omega) (by omega) (by omega), ho_bds]
      apply h2_r
      refine ho_mono (asTold_M hN HM) (fun _ t2 ⟨HA, F2, _, _⟩ => ?_)
      simp only [ho_lte]
      apply h2_sl
      refine ho_mono (weather_M hN W.1 HA hm n2 p2 hd0 e0) (fun v t3 ⟨hv, K3⟩ => ?_)
      exact ⟨hv.symm, E1, (K.trans F2.km).trans K3⟩
    · rw [if_pos c1]
      by_cases d : v4 < 0
      · rw [if_pos d]; exact ⟨rfl, R.kc, K⟩
      · rw [if_neg d, if_neg]
        · exact ⟨rfl, R.kc, K⟩
        · rw [i32_lt] at d; rw [i32_le]
          have : (0 : Int32).toInt = 0 := rfl
          have : (10 : Int32).toInt = 10 := rfl
          omega
  · rw [if_pos c0]
    by_cases d : v3 < 0
    · rw [if_pos d]; exact ⟨rfl, R.kc, K⟩
    · rw [if_neg d, if_pos]
      · exact ⟨rfl, R.kc, K⟩
      · rw [i32_lt] at d; rw [i32_lt]
        have : (0 : Int32).toInt = 0 := rfl
        have : (9 : Int32).toInt = 9 := rfl
        omega
