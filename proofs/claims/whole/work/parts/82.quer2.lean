theorem isIn_Z {N : Nat} {σ : Mem} (v lo hi : Int32) : fX12_isIn N v lo hi σ = some (if lo.toInt ≤ v.toInt ∧ v.toInt ≤ hi.toInt then 1 else 0, σ) := by
  unfold fX12_isIn
  simp only [i32_lt]
  (repeat' split) <;> first | rfl | omega
theorem z_of {v : Int32} {a b : Nat} (h : (a : Int) ≤ v.toInt ∧ v.toInt ≤ b) : ∃ q, a ≤ q ∧ q ≤ b ∧ v = Int32.ofNat q := by
  have hv := Int32.toInt_lt v
  refine ⟨v.toInt.toNat, by omega, by omega, ?_⟩
  rw [i32_eq, nz_toInt (by omega)]; omega
theorem rm10 : ∀ q, q < 100 → rmI (Int32.ofNat q) 10 = Int32.ofNat (q % 10) := by decide +kernel
theorem nz_subL {n q : Nat} (h : (OfNat.ofNat n : Nat) ≤ q) (hq : q < 2147483648) : Int32.ofNat q - (OfNat.ofNat n : Int32) = Int32.ofNat (q - (OfNat.ofNat n : Nat)) := by
  rw [show (OfNat.ofNat n : Int32) = Int32.ofNat (OfNat.ofNat n : Nat) from rfl]
  generalize (OfNat.ofNat n : Nat) = k at h
  obtain ⟨d, rfl⟩ : ∃ d, q = d + k := ⟨q - k, by omega⟩
  rw [← nz_add, Int32.add_sub_cancel, Nat.add_sub_cancel]
theorem ite10 {c : Prop} [Decidable c] : ((if c then (1 : Int32) else 0) = 0) ↔ ¬ c := by
  by_cases h : c <;> simp [h]
section QT
variable {σ1 σ2 : Mem} {N : Nat}
theorem t_kin (hN : 10000 ≤ N) (R : RR σ1 σ2) (v1 v2 v3 : Int32) : H2 (fX11_kin N 0 v1 v2 v3 σ1) (fX12_kin N v1 v2 v3 σ2) (QU σ1 σ2) := by
  unfold fX11_kin fX12_kin
  refine q_ch R v1 (fun j C np nw s2 hj W HC HM K => ?_)
  have hn := W.1.1
  unfold fX10_agreements
  rw [bd_ret, has_eq (np := np) v2 (HC.nn W).1 hn, isPiece_M (np := np) v2 HM.2.1.2.1 hn, ho_bds, ho_bds]
  by_cases ha : inb v2 np = true
  · rw [if_pos ha, if_neg (by decide), if_neg (by decide), has_eq (np := np) v3 (HC.nn W).1 hn, isPiece_M (np := np) v3 HM.2.1.2.1 hn, ho_bds, ho_bds]
    by_cases hb : inb v3 np = true
    · rw [if_pos hb, if_neg (by decide), if_neg (by decide)]
      obtain ⟨pa, a1, a2, a3⟩ := inb_nat ha
      obtain ⟨pb, b1, b2, b3⟩ := inb_nat hb
      subst a2 b2
      refine pj_enter hN W HC (by omega) HM (fun r1 r2 t1 t2 P _ _ _ _ => ?_)
      simp only [ho_lte]
      refine h2_loop (F1 := fun n (b : Int32 × Int32) s => fX10_agreements_l32 N (0 + 220) n (Int32.ofNat pa) (Int32.ofNat pb) b.1 b.2 s) (F2 := fun n (b : Int32 × Int32) s => fX12_kin_l36 N n (Int32.ofNat pa) (Int32.ofNat pb) b.1 b.2 s) (fun i b s b' s' => b = b' ∧ b.2 = Int32.ofNat i ∧ PJ (0 + 220 + 1) (610 + 63 * j) C np nw σ1 s2 (asT C) s s') 64 ?_ ?_ 64 N N 0 (0, 0) t1 (0, 0) t2 (by omega) (by omega) (by omega) ⟨rfl, rfl, P⟩
      · rintro n1 n2 i ⟨a, v⟩ s ⟨a', v'⟩ s' hi ⟨e1, e2, P⟩ rec
        cases e1; dsimp only at e2; subst e2
        simp only [fX10_agreements_l32, fX12_kin_l36, fX10_agreements_b32, fX12_kin_b36, fX10_agreements_b85, fX12_kin_b80, fX12_kin_b81, ho_lte, nz_succ, nz_inb (show pa < 2147483648 by omega), nz_inb (show pb < 2147483648 by omega), show pa < 8 by omega, show pb < 8 by omega, decide_true, ho_gdt, nz_nat (show pa < 2147483648 by omega), nz_nat (show pb < 2147483648 by omega)]
        rw [if_neg (by rw [z_le (by omega) (by omega)]; omega), if_neg (by rw [z_le (by omega) (by omega)]; omega)]
        refine pj_vote hN P hi (fun x b u1 u2 hb hx _ P V1 V2 => ?_)
        rw [V1.2.2.2 pa a1, V1.2.2.2 pb b1, V2.2.2.2 pa a1, V2.2.2.2 pb b1]
        by_cases c1 : saidV (asT C) nw (Int32.ofNat i) pa = 0
        · rw [if_pos c1, if_pos c1]; exact rec (_, _) _ (_, _) _ ⟨by rw [Int32.add_zero], rfl, P⟩
        · rw [if_neg c1, if_neg c1]
          by_cases c2 : saidV (asT C) nw (Int32.ofNat i) pa = saidV (asT C) nw (Int32.ofNat i) pb
          · rw [if_pos c2, if_pos c2]; exact rec (_, _) _ (_, _) _ ⟨rfl, rfl, P⟩
          · rw [if_neg c2, if_neg c2]; exact rec (_, _) _ (_, _) _ ⟨by rw [Int32.add_zero], rfl, P⟩
      · rintro n1 n2 ⟨a, v⟩ s ⟨a', v'⟩ s' ⟨e1, e2, P⟩
        cases e1; dsimp only at e2; subst e2
        simp only [fX10_agreements_l32, fX12_kin_l36, fX10_agreements_b32, fX12_kin_b36]
        rw [if_pos (by decide), if_pos (by decide)]
        exact ⟨rfl, P.end_ R.kc K (by omega)⟩
    · rw [if_neg hb, if_pos rfl, if_pos rfl]
      exact ⟨rfl, R.kc, K⟩
  · rw [if_neg ha, if_pos rfl, if_pos rfl]
    exact ⟨rfl, R.kc, K⟩
theorem t_answer (hN : 10000 ≤ N) (R : RR σ1 σ2) (v1 v2 v3 : Int32) : H2 (fX11_answer N 0 v1 v2 v3 σ1) (fX12_answer N v1 v2 v3 σ2) (QU σ1 σ2) := by
  unfold fX11_answer fX12_answer
  refine q_as R v1 v2 (fun j C np nw s2 mm hj hm em W HC HM K => ?_)
  subst em
  have hn := W.1.1
  refine pj_enter hN W HC (by omega) HM (fun r1 r2 t1 t2 P _ _ _ _ => ?_)
  refine pj_vote hN P hm (fun x b t1 t2 hb hx _ P V1 V2 => ?_)
  have E := P.end_ R.kc K (by omega)
  have k0 := ((P.told HC (by omega)).nn W).1
  have hc : carV (asT C) np nw (Int32.ofNat mm) = decide (noV (asT C) np nw (Int32.ofNat mm) < ayV (asT C) np nw (Int32.ofNat mm)) := rfl
  have ec : (if ayV (asT C) np nw (Int32.ofNat mm) ≤ noV (asT C) np nw (Int32.ofNat mm) then some ((0 : Int32), t1) else some (1, t1)) = some (if b = true then 1 else 0, t1) := by
    have hab : (ayV (asT C) np nw (Int32.ofNat mm) ≤ noV (asT C) np nw (Int32.ofNat mm)) ↔ b = false := by
      rw [← Int32.not_lt, ← hb, hc, decide_eq_false_iff_not]
    cases b with
    | false => rw [if_pos (hab.mpr rfl)]; rfl
    | true => rw [if_neg (by rw [hab]; decide)]; rfl
  have er : (if (if b = true then (1 : Int32) else 0) = 0 then some ((0 : Int32), t2) else some (1, t2)) = some (if b = true then 1 else 0, t2) := by cases b <;> rfl
  have hv : (∃ q, q < 30 ∧ v3 = Int32.ofNat q) ∨ (v3.toInt < 0 ∨ 30 ≤ v3.toInt) := by
    by_cases c0 : 0 ≤ v3.toInt ∧ v3.toInt ≤ 29
    · obtain ⟨q, q1, q2, q3⟩ := z_of (a := 0) (b := 29) c0
      exact Or.inl ⟨q, by omega, q3⟩
    · exact Or.inr (by omega)
  unfold fX11_answer_b117
  simp only [ho_lte, isIn_Z, ho_bds, V1.2.1, V1.2.2.1, V2.2.1, V2.2.2.1, k0, Int32.reduceToInt, isPiece_M (np := np) _ P.m12.1 hn, ec, er, ite10]
  rcases hv with ⟨q, hq, rfl⟩ | hv
  · rw [show (10 : Int32) + Int32.ofNat np = Int32.ofNat (10 + np) from nz_add, show (20 : Int32) + Int32.ofNat np = Int32.ofNat (20 + np) from nz_add]
    simp (disch := omega) only [rm10, nz_inb, decide_eq_true_eq, i32_eq, i32_lt, i32_le, nz_toInt, Int32.reduceToInt]
    by_cases c2 : q < 20
    · have e2 : 10 ≤ q → Int32.ofNat q - 10 = Int32.ofNat (q - 10) := fun h => nz_subL h (by omega)
      have e3 : 10 ≤ q → q - 10 < np → fX2_loud N (0 + 192) (Int32.ofNat q - 10) (Int32.ofNat mm) t1 = some (loudV (asT C) nw (Int32.ofNat mm) (q - 10), t1) := fun h h' => by rw [e2 h]; exact loud_C P.1 P.2.1 h' hm
      have e4 : 10 ≤ q → q - 10 < np → fX12_loudOf N (Int32.ofNat (q % 10)) (Int32.ofNat mm) t2 = some (loudV (asT C) nw (Int32.ofNat mm) (q - 10), t2) := fun h h' => by
        rw [show q % 10 = q - 10 by omega]; exact loud_M hN P.2.2.1 h'
      (repeat' split) <;> first | exact ⟨rfl, E⟩ | omega | (rw [e3 (by omega) (by omega), e4 (by omega) (by omega)]; exact ⟨rfl, E⟩)
    · have e2 : Int32.ofNat q - 20 = Int32.ofNat (q - 20) := nz_subL (by omega) (by omega)
      rw [e2, show q % 10 = q - 20 by omega]
      (repeat' split) <;> first | exact ⟨rfl, E⟩ | omega | (simp (disch := omega) only [nz_inb, decide_eq_true_eq, nz_nat, ho_gdt, show q - 20 < 8 by omega, decide_true]; exact ⟨(V1.2.2.2 _ (by omega)).trans (V2.2.2.2 _ (by omega)).symm, E⟩)
  · rw [show (10 : Int32) + Int32.ofNat np = Int32.ofNat (10 + np) from nz_add, show (20 : Int32) + Int32.ofNat np = Int32.ofNat (20 + np) from nz_add]
    simp (disch := omega) only [i32_eq, i32_lt, i32_le, nz_toInt, Int32.reduceToInt]
    (repeat' split) <;> first | exact ⟨rfl, E⟩ | omega
theorem t_hinge (hN : 10000 ≤ N) (R : RR σ1 σ2) (v1 v2 v3 : Int32) : H2 (fX11_hinge N 0 v1 v2 v3 σ1) (fX12_hinge N v1 v2 v3 σ2) (QU σ1 σ2) := by
  unfold fX11_hinge fX12_hinge
  refine q_as R v1 v2 (fun j C np nw s2 mm hj hm em W HC HM K => ?_)
  subst em
  have hn := W.1.1
  by_cases c0 : v3 = 0
  · simp only [if_pos c0]
    unfold fX3_hinges
    rw [bd_ret]
    refine pj_enter hN W HC (by omega) HM (fun r1 r2 t1 t2 P _ _ _ _ => ?_)
    refine pj_vote hN P hm (fun x b t1 t2 hb hx _ P V1 V2 => ?_)
    have key : ∀ t : Int32, t = (if b = true then 1 else 0) → H2 (fX3_hinges_b24 N (0 + 251) (7 + 9 * j) (Int32.ofNat mm) t t1) (lt_ (if b = true then (1 : Int32) else 0) (fun v4_9 => lt_ 0 (fun v5_10 => lt_ 0 (fun v6_11 => fX12_hinge_l44 N N (Int32.ofNat mm) v4_9 v5_10 v6_11 t2)))) (QU σ1 σ2) := by
      intro t ht
      unfold fX3_hinges_b24
      simp only [ho_lte, ← ht]
      refine h2_loop (F1 := fun n (b : Int32 × Int32) s => fX3_hinges_l31 N (0 + 251) n (7 + 9 * j) (Int32.ofNat mm) t b.1 b.2 s) (F2 := fun n (b : Int32 × Int32) s => fX12_hinge_l44 N n (Int32.ofNat mm) t b.1 b.2 s) (fun i b s b' s' => b = b' ∧ b.2 = Int32.ofNat i ∧ ∃ S, PJ (0 + 251 + 2) (610 + 63 * j) C np nw σ1 s2 S s s') np ?_ ?_ np N N 0 (0, 0) t1 (0, 0) t2 (by omega) (by omega) (by omega) ⟨rfl, rfl, asT C, P⟩
      · rintro n1 n2 i ⟨a, v⟩ s ⟨a', v'⟩ s' hi ⟨e1, e2, S, P⟩ rec
        cases e1; dsimp only at e2; subst e2
        simp only [fX3_hinges_l31, fX12_hinge_l44, fX3_hinges_b31, fX12_hinge_b44, ho_lte]
        rw [((P.told HC (by omega)).nn W).1, P.m12.1, if_neg (by rw [nz_le (by omega) (by omega)]; omega), if_neg (by rw [nz_le (by omega) (by omega)]; omega)]
        refine pj_vote hN P.over hm (fun x b u1 u2 hb hx _ P V1 V2 => ?_)
        have tl2 : ∀ y : Int32, y = (if b = true then 1 else 0) → H2 (fX3_hinges_b67 N (0 + 251) (fX3_hinges_l31 N (0 + 251) n1) (7 + 9 * j) (Int32.ofNat mm) t a (Int32.ofNat i) y u1) (if (if b = true then (1 : Int32) else 0) = t then fX12_hinge_b81 N (fX12_hinge_l44 N n2) (Int32.ofNat mm) t (Int32.ofNat i) 0 a u2 else fX12_hinge_b81 N (fX12_hinge_l44 N n2) (Int32.ofNat mm) t (Int32.ofNat i) (1 <<< (Int32.ofNat i &&& 31)) a u2) (QU σ1 σ2) := by
          intro y hy
          unfold fX3_hinges_b67 fX3_hinges_b80 fX12_hinge_b81
          simp only [← hy, ho_lte, nz_succ]
          by_cases c1 : y = t
          · rw [if_pos c1, if_pos c1]; exact rec (_, _) _ (_, _) _ ⟨by rw [Int32.or_zero], rfl, _, P⟩
          · rw [if_neg c1, if_neg c1]; exact rec (_, _) _ (_, _) _ ⟨rfl, rfl, _, P⟩
        cases b with
        | false => rw [if_pos (hx.mpr rfl)]; exact tl2 _ rfl
        | true => rw [if_neg (by rw [hx]; decide)]; exact tl2 _ rfl
      · rintro n1 n2 ⟨a, v⟩ s ⟨a', v'⟩ s' ⟨e1, e2, S, P⟩
        cases e1; dsimp only at e2; subst e2
        simp only [fX3_hinges_l31, fX12_hinge_l44, fX3_hinges_b31, fX12_hinge_b44]
        rw [((P.told HC (by omega)).nn W).1, P.m12.1, if_pos (Int32.le_refl _), if_pos (Int32.le_refl _)]
        exact ⟨rfl, P.end_ R.kc K (by omega)⟩
    cases b with
    | false => rw [if_pos (hx.mpr rfl)]; exact key _ rfl
    | true => rw [if_neg (by rw [hx]; decide)]; exact key _ rfl
  · simp only [if_neg c0]
    unfold fX3_loudestPiece fX12_loudestOf fX12_loudestOf_b12
    rw [bd_ret]
    refine pj_enter hN W HC (by omega) HM (fun r1 r2 t1 t2 P _ _ _ _ => ?_)
    rw [bd_ret]
    simp only [ho_lte, P.m12.1]
    have main : ∀ n1 n2 (l1 l2 : Int32) (i : Nat), i ≤ np → 9 ≤ n1 → 9 ≤ n2 → i ≤ np → (∃ l, l < i ∧ l1 = Int32.ofNat l ∧ l2 = loudV (asT C) nw (Int32.ofNat mm) l) → H2 (fX3_loudestPiece_l16 N (0 + 251) n1 (7 + 9 * j) (Int32.ofNat mm) l1 l2 (Int32.ofNat i) t1) (fX12_loudestOf_l15 N n2 (Int32.ofNat mm) l1 (Int32.ofNat i) t2) (QU σ1 σ2) := by
      intro n1 n2 l1 l2 i hi hn1 hn2 hi2 hl
      refine h2_loop (F1 := fun n (b : Int32 × Int32 × Int32) s => fX3_loudestPiece_l16 N (0 + 251) n (7 + 9 * j) (Int32.ofNat mm) b.1 b.2.1 b.2.2 s) (F2 := fun n (b : Int32 × Int32) s => fX12_loudestOf_l15 N n (Int32.ofNat mm) b.1 b.2 s) (fun i b s b' s' => b.2.2 = Int32.ofNat i ∧ b'.2 = Int32.ofNat i ∧ s = t1 ∧ s' = t2 ∧ b.1 = b'.1 ∧ ∃ l, l < i ∧ b.1 = Int32.ofNat l ∧ b.2.1 = loudV (asT C) nw (Int32.ofNat mm) l) np ?_ ?_ (np - i) n1 n2 i (l1, l2, Int32.ofNat i) t1 (l1, Int32.ofNat i) t2 (by omega) (by omega) (by omega) ⟨rfl, rfl, rfl, rfl, rfl, hl⟩
      · rintro m1 m2 i ⟨x1, x2, x3⟩ s ⟨y1, y2⟩ s' hi ⟨e1, e2, e3, e4, e5, l, hl, f1, f2⟩ rec
        dsimp only at e1 e2 e5 f1 f2
        subst e1 e2 e3 e4 e5 f1 f2
        simp only [fX3_loudestPiece_l16, fX12_loudestOf_l15, fX3_loudestPiece_b16, fX12_loudestOf_b15, fX3_loudestPiece_b51, fX12_loudestOf_b43, ho_lte, nz_succ]
        rw [((P.told HC (by omega)).nn W).1, P.m12.1, if_neg (by rw [nz_le (by omega) (by omega)]; omega), if_neg (by rw [nz_le (by omega) (by omega)]; omega), loud_C P.1 P.2.1 hi hm, ho_bds, loud_M hN P.2.2.1 hi, ho_bds, loud_M hN P.2.2.1 (by omega), ho_bds]
        by_cases q : loudV (asT C) nw (Int32.ofNat mm) i ≤ loudV (asT C) nw (Int32.ofNat mm) l
        · rw [if_pos q, if_pos q]; exact rec (_, _, _) _ (_, _) _ ⟨rfl, rfl, rfl, rfl, rfl, l, by omega, rfl, rfl⟩
        · rw [if_neg q, if_neg q]; exact rec (_, _, _) _ (_, _) _ ⟨rfl, rfl, rfl, rfl, rfl, i, by omega, rfl, rfl⟩
      · rintro m1 m2 ⟨x1, x2, x3⟩ s ⟨y1, y2⟩ s' ⟨e1, e2, e3, e4, e5, l, hl, f1, f2⟩
        dsimp only at e1 e2 e5 f1 f2
        subst e1 e2 e3 e4 e5 f1 f2
        simp only [fX3_loudestPiece_l16, fX12_loudestOf_l15, fX3_loudestPiece_b16, fX12_loudestOf_b15]
        rw [((P.told HC (by omega)).nn W).1, P.m12.1, if_pos (Int32.le_refl _), if_pos (Int32.le_refl _)]
        exact ⟨rfl, P.end_ R.kc K (by omega)⟩
    obtain ⟨M, rfl⟩ : ∃ M, N = M + 1 := ⟨N - 1, by omega⟩
    by_cases z0 : np = 0
    · subst z0
      rw [if_pos (show Int32.ofNat 0 = 0 from rfl)]
      simp only [fX3_loudestPiece_l16, fX12_loudestOf_l15, fX3_loudestPiece_b16, fX12_loudestOf_b15]
      rw [((P.told HC (by omega)).nn W).1, P.m12.1, if_pos (by decide), if_pos (by decide)]
      exact ⟨rfl, P.end_ R.kc K (by omega)⟩
    · rw [if_neg (by rw [z_eq (by omega) (by omega)]; omega)]
      rw [fX3_loudestPiece_l16]
      unfold fX3_loudestPiece_b16 fX3_loudestPiece_b51
      rw [((P.told HC (by omega)).nn W).1, if_neg (by rw [z_ge (by omega) (by omega)]; omega), show (0 : Int32) = Int32.ofNat 0 from rfl, loud_C P.1 P.2.1 (by omega) hm, ho_bds]
      simp only [ho_lte, nz_succ]
      rw [if_neg]
      · exact main M (M + 1) _ _ 1 (by omega) (by omega) (by omega) (by omega) ⟨0, by omega, rfl, rfl⟩
      · have : 0 ≤ (loudV (asT C) nw (Int32.ofNat mm) 0).toInt := by
          unfold loudV mxI
          split
          · next h => rw [i32_lt] at h; have : (0 : Int32).toInt = 0 := rfl; omega
          · decide
        rw [i32_le, show (-1 : Int32).toInt = -1 from rfl]; omega
theorem t_trade (hN : 10000 ≤ N) (R : RR σ1 σ2) (v1 v2 : Int32) : H2 (fX11_trade N 0 v1 v2 σ1) (fX12_trade N v1 v2 σ2) (QU σ1 σ2) := by
  unfold fX11_trade fX12_trade
  refine q_as R v1 v2 (fun j C np nw s2 mm hj hm em W HC HM K => ?_)
  subst em
  have hn := W.1.1
  have hw6 := W.1.2.1
  unfold fX7_firstTrade
  rw [bd_ret]
  refine pj_enter hN W HC (by omega) HM (fun r1 r2 t1 t2 P _ _ _ _ => ?_)
  refine pj_vote hN P hm (fun x b t1 t2 hb hx _ P V1 V2 => ?_)
  have key : ∀ t : Int32, t = (if b = true then 1 else 0) → H2 (fX7_firstTrade_b24 N (0 + 236) (7 + 9 * j) (Int32.ofNat mm) t t1) (lt_ (if b = true then (1 : Int32) else 0) (fun v3_9 => lt_ 0 (fun v4_10 => fX12_trade_l30 N N (Int32.ofNat mm) v3_9 v4_10 t2))) (QU σ1 σ2) := by
    intro t ht
    unfold fX7_firstTrade_b24
    simp only [ho_lte, ← ht]
    refine h2_loop (F1 := fun n (v : Int32) s => fX7_firstTrade_l28 N (0 + 236) n (7 + 9 * j) (Int32.ofNat mm) t v s) (F2 := fun n (v : Int32) s => fX12_trade_l30 N n (Int32.ofNat mm) t v s) (fun i v s v' s' => v = Int32.ofNat i ∧ v' = Int32.ofNat i ∧ ∃ S, PJ (0 + 236 + 2) (610 + 63 * j) C np nw σ1 s2 S s s') nw ?_ ?_ nw N N 0 0 t1 0 t2 (by omega) (by omega) (by omega) ⟨rfl, rfl, asT C, P⟩
    · rintro n1 n2 i v s v' s' hi ⟨e1, e2, S, P⟩ rec
      subst e1 e2
      simp only [fX7_firstTrade_l28, fX12_trade_l30, fX7_firstTrade_b28, fX12_trade_b30, ho_lte, nz_succ]
      rw [((P.told HC (by omega)).nn W).2, P.m12.2, if_neg (by rw [nz_le (by omega) (by omega)]; omega), if_neg (by rw [nz_le (by omega) (by omega)]; omega)]
      refine h2_loop (F1 := fun n (v : Int32) s => fX7_firstTrade_l43 N (0 + 236) (fX7_firstTrade_l28 N (0 + 236) n1) n (7 + 9 * j) (Int32.ofNat mm) t (Int32.ofNat i) v s) (F2 := fun n (v : Int32) s => fX12_trade_l45 N (fX12_trade_l30 N n2) n (Int32.ofNat mm) t (Int32.ofNat i) v s) (fun i v s v' s' => v = Int32.ofNat i ∧ v' = Int32.ofNat i ∧ ∃ S, PJ (0 + 236 + 2) (610 + 63 * j) C np nw σ1 s2 S s s') nw ?_ ?_ (nw - (i + 1)) N N (i + 1) _ s _ s' (by omega) (by omega) (by omega) ⟨rfl, rfl, S, P⟩
      · rintro m1 m2 w v s v' s' hw ⟨e1, e2, S, P⟩ rec2
        subst e1 e2
        simp only [fX7_firstTrade_l43, fX12_trade_l45, fX7_firstTrade_b43, fX12_trade_b45, ho_lte, nz_succ, nz_inb (show i < 2147483648 by omega), show i < 6 by omega, nz_inb (show w < 2147483648 by omega), show w < 6 by omega, decide_true, ho_gdt, nz_nat (show i < 2147483648 by omega), nz_nat (show w < 2147483648 by omega)]
        rw [((P.told HC (by omega)).nn W).2, P.m12.2, if_neg (by rw [nz_le (by omega) (by omega)]; omega), if_neg (by rw [nz_le (by omega) (by omega)]; omega), ((P.told HC (by omega)).2.2.2.2 w hw).2, ofP_M1 P.2.2.1.1 hw, ho_bds]
        refine pj_seat P hi (seatW W hw) (fun _ u1 P => ?_)
        rw [((P.told HC (by omega)).2.2.2.2 i hi).2, ofP_M1 P.2.2.1.1 hi, ho_bds]
        refine pj_seat P hw (seatW W hi) (fun _ u1 P => ?_)
        refine pj_vote hN P hm (fun x b u1 u2 hb hx _ P V1 V2 => ?_)
        have tl2 : ∀ y : Int32, y = (if b = true then 1 else 0) → H2 (fX7_firstTrade_b100 N (0 + 236) (fX7_firstTrade_l28 N (0 + 236) n1) (fX7_firstTrade_l43 N (0 + 236) (fX7_firstTrade_l28 N (0 + 236) n1) m1) (7 + 9 * j) (Int32.ofNat mm) t (Int32.ofNat i) (Int32.ofNat w) y u1) (if (if b = true then (1 : Int32) else 0) = t then bd (fX12_ofPerson N (Int32.ofNat i) 1 u2) (fun r21 s22 => bd (fX12_ofPerson N (Int32.ofNat w) 1 (pI s22 6 i r21)) (fun r24 s25 => fX12_trade_l45 N (fX12_trade_l30 N n2) m2 (Int32.ofNat mm) t (Int32.ofNat i) (Int32.ofNat (w + 1)) (pI s25 6 w r24))) else some ((10 * Int32.ofNat i) + Int32.ofNat w, u2)) (QU σ1 σ2) := by
          intro y hy
          unfold fX7_firstTrade_b100
          simp only [← hy, ho_lte, nz_succ, nz_inb (show i < 2147483648 by omega), show i < 6 by omega, nz_inb (show w < 2147483648 by omega), show w < 6 by omega, decide_true, ho_gdt, nz_nat (show i < 2147483648 by omega), nz_nat (show w < 2147483648 by omega)]
          by_cases c1 : y = t
          · rw [if_pos c1, if_pos c1, ((P.told HC (by omega)).2.2.2.2 i hi).2, ofP_M1 P.2.2.1.1 hi, ho_bds]
            refine pj_seat P hi (seatW W hi) (fun _ u3 P => ?_)
            rw [((P.told HC (by omega)).2.2.2.2 w hw).2, ofP_M1 P.2.2.1.1 hw, ho_bds]
            refine pj_seat P hw (seatW W hw) (fun _ u4 P => ?_)
            exact rec2 _ _ _ _ ⟨rfl, rfl, _, P⟩
          · rw [if_neg c1, if_neg c1]
            exact ⟨rfl, P.end_ R.kc K (by omega)⟩
        cases b with
        | false => rw [if_pos (hx.mpr rfl)]; exact tl2 _ rfl
        | true => rw [if_neg (by rw [hx]; decide)]; exact tl2 _ rfl
      · rintro m1 m2 v s v' s' ⟨e1, e2, S, P⟩
        subst e1 e2
        simp only [fX7_firstTrade_l43, fX12_trade_l45, fX7_firstTrade_b43, fX12_trade_b45, ho_lte, nz_succ]
        rw [((P.told HC (by omega)).nn W).2, P.m12.2, if_pos (Int32.le_refl _), if_pos (Int32.le_refl _)]
        exact rec _ _ _ _ ⟨rfl, rfl, S, P⟩
    · rintro n1 n2 v s v' s' ⟨e1, e2, S, P⟩
      subst e1 e2
      simp only [fX7_firstTrade_l28, fX12_trade_l30, fX7_firstTrade_b28, fX12_trade_b30]
      rw [((P.told HC (by omega)).nn W).2, P.m12.2, if_pos (Int32.le_refl _), if_pos (Int32.le_refl _)]
      exact ⟨rfl, P.end_ R.kc K (by omega)⟩
  cases b with
  | false => rw [if_pos (hx.mpr rfl)]; exact key _ rfl
  | true => rw [if_neg (by rw [hx]; decide)]; exact key _ rfl
end QT
