theorem movers_M {N c np nw mm : Nat} {C : Vw} {σ s : Mem} (hN : 10000 ≤ N) (W : WfV C np nw) (H : HcM s c C np nw) (K : KM σ s) : Ho (fX12_movers N (Int32.ofNat mm) s) (fun v t => v = (fwV (asT C) np nw (Int32.ofNat mm)).1 ∧ (∀ r, (fwV (asT C) np nw (Int32.ofNat mm)).2 = some r → ∀ w, w < nw → t.1 9 w = r w) ∧ KM σ t) := by
  have W' := asT_wf W
  have h6 := W.2.1
  unfold fX12_movers
  rw [ho_bd]
  refine ho_mono (asTold_M hN H) (fun _ u ⟨HA, F2, _, _⟩ => ?_)
  simp only [ho_lt]
  refine ho_loop (F := fun n (b : Int32) t => fX12_movers_l6 N n (Int32.ofNat mm) b t) (fun i b t => b = Int32.ofNat i ∧ HaM t c C (asT C) np nw ∧ KM σ t ∧ ∀ x, x < i → t.1 9 x = asT C 9 x) nw ?_ ?_ nw N 0 0 u (by omega) (by omega) ⟨rfl, HA, K.trans F2.km, fun x hx => absurd hx (Nat.not_lt_zero x)⟩
  · rintro n i b t hi ⟨e1, e2, e3, e4⟩ rec
    subst e1
    simp only [fX12_movers_l6, fX12_movers_b6, ho_lte, nz_succ]
    rw [e2.1.2.1.2.2, if_neg (show ¬ Int32.ofNat nw ≤ Int32.ofNat i by rw [nz_le (by omega) (by omega)]; omega), nz_inb (by omega), nz_nat (by omega), decide_eq_true (show i < 6 by omega), ho_gdt, ho_gdt, (e2.2.2.2 i hi).1]
    refine rec _ _ ⟨rfl, e2.c12 (by omega), e3.c12 (by omega), fun x hx => ?_⟩
    by_cases d : x = i
    · subst d; rw [pI_eq]
    · rw [pI_nq (by omega)]; exact e4 x (by omega)
  · rintro n b t ⟨e1, e2, e3, e4⟩
    subst e1
    simp only [fX12_movers_l6, fX12_movers_b6]
    rw [e2.1.2.1.2.2, if_pos (show Int32.ofNat nw ≤ Int32.ofNat nw by rw [nz_le (by omega) (by omega)]; omega), ho_bd]
    refine ho_mono (answers_M hN W' e2) (fun r t2 ⟨hr, V⟩ => ?_)
    have H2' := e2.ag V.1.ag
    have K2 := e3.trans V.1.toH.km
    have L2 : ∀ x, t2.1 9 x = t.1 9 x := fun x => V.1.1 9 x (by omega) (by omega)
    rw [hr]
    simp only [ite10]
    by_cases q : carV (asT C) np nw (Int32.ofNat mm) = true
    · rw [if_neg (show ¬ ¬ carV (asT C) np nw (Int32.ofNat mm) = true from fun h => h q)]
      have e : fwV (asT C) np nw (Int32.ofNat mm) = (0, some (asT C 9)) := by unfold fwV; rw [if_pos q]
      rw [e]
      refine ⟨rfl, fun r hr w hw => ?_, K2⟩
      cases hr
      rw [L2, e4 w hw]
    · rw [if_pos q, ho_bd]
      have ef : fwV (asT C) np nw (Int32.ofNat mm) = (match pfB (asT C) np nw (Int32.ofNat mm) none 0 nw with
        | some r => (1, some r)
        | none => match alB (asT C) np nw (Int32.ofNat mm) none nw with
          | some r => (2, some r)
          | none => (-1, none)) := by unfold fwV; rw [if_neg q]; rfl
      refine ho_mono (moved0_M hN W H2'.1 K2) (fun v t3 ⟨H3, B3, K3⟩ => ?_)
      rcases B3 with ⟨b1, b2⟩ | ⟨r, b1, _, b3, b4⟩
      · rw [b1] at ef
        rw [if_pos b2, ho_bd]
        refine ho_mono (moved1_M hN W H3 K3) (fun v t4 ⟨H4, B4, K4⟩ => ?_)
        rcases B4 with ⟨c1, c2⟩ | ⟨r, c1, _, c3, c4⟩
        · rw [c1] at ef
          rw [if_pos c2, ef]
          exact ⟨rfl, (fun r hr => by cases hr), K4⟩
        · rw [c1] at ef
          rw [if_neg (show ¬ v = 0 by rw [c3]; decide), ef]
          exact ⟨rfl, (fun r' hr => by cases hr; exact c4), K4⟩
      · rw [b1] at ef
        rw [if_neg (show ¬ v = 0 by rw [b3]; decide), ef]
        exact ⟨rfl, (fun r' hr => by cases hr; exact b4), K3⟩
theorem fwV_m1 {S : Vw} {np nw : Nat} {m : Int32} (h : (fwV S np nw m).1 ≠ -1) : ∃ r, (fwV S np nw m).2 = some r := by
  unfold fwV at *
  by_cases c : carV S np nw m = true
  · rw [if_pos c]; exact ⟨_, rfl⟩
  · rw [if_neg c] at h ⊢
    cases hb : pfB S np nw m none 0 nw with
    | some r => exact ⟨r, rfl⟩
    | none =>
      rw [hb] at h
      cases hb2 : alB S np nw m none nw with
      | some r => exact ⟨r, rfl⟩
      | none => rw [hb2] at h; exact absurd rfl h
theorem t_moves {σ1 σ2 : Mem} {N : Nat} (hN : 10000 ≤ N) (R : RR σ1 σ2) (v1 v2 v3 : Int32) : H2 (fX11_moves N 0 v1 v2 v3 σ1) (fX12_moves N v1 v2 v3 σ2) (QU σ1 σ2) := by
  unfold fX11_moves fX12_moves
  refine q_as R v1 v2 (fun j C np nw s2 mm hj hm em W HC HM K => ?_)
  subst em
  have h6 := W.1.2.1
  rw [(HC.nn W).2, isPerson_M v3 HM.2.1.2.2 (by omega), ho_bds]
  simp only [ite10]
  have i1 : (-1 : Int32).toInt = -1 := by decide
  have key : v3 = -1 ∨ inb v3 nw = true → H2 (bd (fX7_fewestMoves N (0 + 236) (7 + 9 * j) (Int32.ofNat mm) σ1) (fun r4 s5 => lt_ r4 (fun v5_6 => if v5_6 = -1 then some (v5_6, s5) else if v3 = -1 then some (v5_6, s5) else gd (inb v3 6) (some (s5.1 (0 + 236 + 1) v3.toNatClampNeg, s5))))) (fX12_moves_b30 N (Int32.ofNat mm) v3 s2) (QU σ1 σ2) := by
    intro hv
    unfold fX12_moves_b30 fX12_moves_b48
    apply h2_l
    refine ho_mono (fewest_C hN W.1 HC (by omega) hm) (fun r t1 ⟨hr, B1, F1⟩ => ?_)
    have E1 : KC σ1 t1 := R.kc.fr F1 (by omega)
    apply h2_r
    refine ho_mono (movers_M hN W.1 HM K) (fun r' t2 ⟨hr', M2, K2⟩ => ?_)
    simp only [ho_lte]
    rw [hr, hr']
    by_cases z : (fwV (asT C) np nw (Int32.ofNat mm)).1 = -1
    · rw [if_pos z, if_pos z]; exact ⟨rfl, E1, K2⟩
    · rw [if_neg z, if_neg z]
      by_cases y : v3 = -1
      · rw [if_pos y, if_pos y]; exact ⟨rfl, E1, K2⟩
      · rw [if_neg y, if_neg y]
        obtain ⟨w, w1, w2, w3⟩ := inb_nat (hv.resolve_left y)
        obtain ⟨row, hrow⟩ := fwV_m1 z
        have i6 : inb v3 6 = true := by rw [w2, nz_inb (by omega)]; exact decide_eq_true (by omega)
        rw [gdT i6, gdT i6, w3, M2 row hrow w w1]
        rcases B1 with ⟨b1, _⟩ | ⟨r2, b1, _, _, b4⟩
        · rw [hrow] at b1; cases b1
        · rw [hrow] at b1; cases b1
          rw [b4 w w1]
          exact ⟨rfl, E1, K2⟩
  by_cases a : v3 = -1
  · rw [if_neg (show ¬ v3 < -1 by rw [a]; decide), if_pos (show v3 < Int32.ofNat nw by rw [i32_lt, a, i1, nz_toInt (by omega)]; omega), if_pos a]
    exact key (Or.inl a)
  · rw [if_neg a]
    by_cases b : inb v3 nw = true
    · have b' := inb_iff.mp b
      rw [if_neg (show ¬ v3 < -1 by rw [i32_lt, i1]; omega), if_pos (show v3 < Int32.ofNat nw by rw [i32_lt, nz_toInt (by omega)]; exact b'.2), if_neg (show ¬ ¬ inb v3 nw = true from fun h => h b)]
      exact key (Or.inr b)
    · rw [if_pos b]
      have na : v3.toInt ≠ -1 := fun h => a (toI_inj (by rw [h, i1]))
      by_cases d : v3 < -1
      · rw [if_pos d]; exact ⟨rfl, R.kc, K⟩
      · rw [if_neg d, if_neg]
        · exact ⟨rfl, R.kc, K⟩
        · rw [i32_lt, i1] at d
          rw [i32_lt, nz_toInt (by omega)]
          intro h
          exact b (inb_iff.mpr ⟨by omega, h⟩)
