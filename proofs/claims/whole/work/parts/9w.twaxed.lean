theorem t_waxed {σ1 σ2 : Mem} {N : Nat} (hN : 10000 ≤ N) (R : RR σ1 σ2) (v1 v2 v3 v4 : Int32) : H2 (fX11_waxed N 0 v1 v2 v3 v4 σ1) (fX12_waxed N v1 v2 v3 v4 σ2) (QU σ1 σ2) := by
  unfold fX11_waxed fX12_waxed
  refine q_as R v1 v2 (fun j C np nw s2 mm hj hm em W HC HM K => ?_)
  subst em
  have hn := W.1.1
  have i1 : (-1 : Int32).toInt = -1 := by decide
  apply h2_l
  refine ho_mono (fewW_C (wd := v3) hN W.1 HC (by omega) hm) (fun v t1 ⟨F1, Y⟩ => ?_)
  have E1 : KC σ1 t1 := R.kc.fr F1 (by omega)
  simp only [ho_lte]
  by_cases c0 : (-1 : Int32) ≤ v4
  · rw [if_pos c0]
    rw [i32_le, i1] at c0
    generalize hL : (if v4 = -1 then some (v, t1) else if v4 < 0 then some (-1, t1) else if v ≤ v4 then some (-1, t1) else gd (inb v4 3) (some (t1.1 (0 + 251 + 1) v4.toNatClampNeg, t1))) = L
    suffices hs : ∃ a, L = some (a, t1) ∧ Ho (fX12_waxed_l26 N N (Int32.ofNat mm) v3 v4 0 s2) (fun r t => r = a ∧ KM σ2 t) by
      obtain ⟨a, h1, h2⟩ := hs
      rw [h1]
      apply h2_sl
      exact ho_mono h2 (fun r t ⟨h3, h4⟩ => ⟨h3.symm, E1, h4⟩)
    rcases Y with ⟨r, c, hr, hv, w1, w2, w3⟩ | ⟨hv, w2⟩
    · have cl := wfN_lt hn r _ _ c w1
      have sp := (wfN_sp hn r _ _).1 c w1
      have ans : ∃ a, L = some (a, t1) ∧ a = (if v4 = -1 then Int32.ofNat r else if Int32.ofNat r ≤ v4 then -1 else Int32.ofNat (rwN r c v4.toNatClampNeg)) := by
        rw [← hL, hv]
        by_cases z : v4 = -1
        · rw [if_pos z, if_pos z]; exact ⟨_, rfl, rfl⟩
        · have zi : v4.toInt ≠ -1 := fun h => z (toI_inj (by rw [h, i1]))
          rw [if_neg z, if_neg z, if_neg (show ¬ v4 < 0 by rw [i32_lt]; show ¬ v4.toInt < 0; omega)]
          by_cases y : Int32.ofNat r ≤ v4
          · rw [if_pos y, if_pos y]; exact ⟨_, rfl, rfl⟩
          · rw [if_neg y, if_neg y]
            rw [i32_le, nz_toInt (by omega)] at y
            obtain ⟨q, q1, q2, q3⟩ := inb_nat (inb_iff.mpr ⟨by omega, by omega⟩ : inb v4 r = true)
            have i3 : inb v4 3 = true := inb_iff.mpr ⟨by omega, by omega⟩
            rw [gdT i3, q3, w3 q q1]
            exact ⟨_, rfl, rfl⟩
      obtain ⟨a, ha, hae⟩ := ans
      refine ⟨a, ha, ?_⟩
      refine ho_loop (F := fun n (b : Int32) t => fX12_waxed_l26 N n (Int32.ofNat mm) v3 v4 b t) (fun i b t => b = Int32.ofNat i ∧ i ≤ r ∧ HcM t (610 + 63 * j) C np nw ∧ KM σ2 t) (r + 1) ?_ ?_ (r + 1) N 0 0 s2 (by omega) (by omega) ⟨rfl, by omega, HM, K⟩
      · rintro n i b t hi ⟨e1, e2, H1, K1⟩ rec
        subst e1
        simp only [fX12_waxed_l26, fX12_waxed_b26]
        rw [if_neg (show ¬ (4 : Int32) ≤ Int32.ofNat i by rw [z_le (by omega) (by omega)]; omega), ho_bd]
        refine ho_mono (waxed_M (wd := v3) hN W.1 H1 K1 (show i ≤ 3 by omega)) (fun v u ⟨H2', K2, Y⟩ => ?_)
        by_cases q : i = r
        · subst q
          rcases Y with ⟨x, x1, x2, x3, x4, x5⟩ | ⟨x1, x2⟩
          · have xc : x = c := by
              have h1 : ¬ x < c := fun h => sp.2 x h x2
              have h2 : ¬ c < x := fun h => x3 c h sp.1
              omega
            subst xc
            rw [if_neg (show ¬ v = 0 by rw [x4]; decide), hae]
            by_cases z : v4 = -1
            · rw [if_pos z, if_pos z]; exact ⟨rfl, K2⟩
            · have zi : v4.toInt ≠ -1 := fun h => z (toI_inj (by rw [h, i1]))
              rw [if_neg z, if_neg z]
              by_cases y : Int32.ofNat i ≤ v4
              · rw [if_pos y, if_pos y]; exact ⟨rfl, K2⟩
              · rw [if_neg y, if_neg y]
                rw [i32_le, nz_toInt (by omega)] at y
                obtain ⟨q, q1, q2, q3⟩ := inb_nat (inb_iff.mpr ⟨by omega, by omega⟩ : inb v4 i = true)
                have i3 : inb v4 3 = true := inb_iff.mpr ⟨by omega, by omega⟩
                rw [gdT i3, q3, x5 q q1]
                exact ⟨rfl, K2⟩
          · exact absurd sp.1 (x2 c cl)
        · rcases Y with ⟨x, x1, x2, x3, x4, x5⟩ | ⟨x1, x2⟩
          · exact absurd x2 ((wfN_sp hn i _ _).2 (w2 i (by omega)) x x1)
          · rw [if_pos x1]
            simp only [ho_lte, nz_succ]
            exact rec _ _ ⟨rfl, by omega, H2', K2⟩
      · rintro n b t ⟨e1, e2, _, _⟩
        omega
    · have ans : L = some (-1, t1) := by
        rw [← hL, hv]
        by_cases z : v4 = -1
        · rw [if_pos z]
        · have zi : v4.toInt ≠ -1 := fun h => z (toI_inj (by rw [h, i1]))
          rw [if_neg z, if_neg (show ¬ v4 < 0 by rw [i32_lt]; show ¬ v4.toInt < 0; omega), if_pos (show (-1 : Int32) ≤ v4 by rw [i32_le, i1]; exact c0)]
      refine ⟨-1, ans, ?_⟩
      refine ho_loop (F := fun n (b : Int32) t => fX12_waxed_l26 N n (Int32.ofNat mm) v3 v4 b t) (fun i b t => b = Int32.ofNat i ∧ HcM t (610 + 63 * j) C np nw ∧ KM σ2 t) 4 ?_ ?_ 4 N 0 0 s2 (by omega) (by omega) ⟨rfl, HM, K⟩
      · rintro n i b t hi ⟨e1, H1, K1⟩ rec
        subst e1
        simp only [fX12_waxed_l26, fX12_waxed_b26]
        rw [if_neg (show ¬ (4 : Int32) ≤ Int32.ofNat i by rw [z_le (by omega) (by omega)]; omega), ho_bd]
        refine ho_mono (waxed_M (wd := v3) hN W.1 H1 K1 (show i ≤ 3 by omega)) (fun v u ⟨H2', K2, Y⟩ => ?_)
        rcases Y with ⟨x, x1, x2, x3, x4, x5⟩ | ⟨x1, x2⟩
        · exact absurd x2 ((wfN_sp hn i _ _).2 (w2 i (by omega)) x x1)
        · rw [if_pos x1]
          simp only [ho_lte, nz_succ]
          exact rec _ _ ⟨rfl, H2', K2⟩
      · rintro n b t ⟨e1, _, K1⟩
        subst e1
        simp only [fX12_waxed_l26, fX12_waxed_b26]
        rw [if_pos (by decide)]
        exact ⟨rfl, K1⟩
  · rw [if_neg c0]
    rw [i32_le, i1] at c0
    have z : ¬ v4 = -1 := fun h => c0 (by rw [h, i1]; omega)
    rw [if_neg z, if_pos (show v4 < 0 by rw [i32_lt]; show v4.toInt < 0; omega)]
    exact ⟨rfl, E1, K⟩
