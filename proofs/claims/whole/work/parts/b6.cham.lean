section CHAM2
variable {N : Nat} {B : Nat → Nat} {n s s0 : Nat} {σ σ1 σ2 a1 a2 : Mem}
theorem b27_1 {v3 : Int32} : fX12_personLine_b27 N 1 v3 σ = bd (fX12_numbered N 1 30 σ) (fun r4 s5 => bd (fX12_numbered N 0 7 s5) (fun r7 s8 => fX12_personLine_b52 N 1 v3 r4 r7 s8)) := by
  unfold fX12_personLine_b27
  simp only [ho_lte, if_neg (show ¬ (1 : Int32) = 0 by decide)]
theorem b27_0 {v3 : Int32} : fX12_personLine_b27 N 0 v3 σ = bd (fX12_numbered N 1 30 σ) (fun r4 s5 => fX12_personLine_b77 N v3 r4 8 (s5.1 0 9) s5) := by
  unfold fX12_personLine_b27 fX12_personLine_b52 fX12_personLine_b73
  simp only [ho_lte, if_true]
theorem b52_1 {v3 v4 x : Int32} : fX12_personLine_b52 N 1 v3 v4 x σ = fX12_personLine_b77 N v3 v4 x (if x ≤ σ.1 0 9 then σ.1 0 9 else x) σ := by
  unfold fX12_personLine_b52 fX12_personLine_b73
  rw [ho_lte, if_neg (show ¬ (1 : Int32) = 0 by decide)]
  split <;> rfl
theorem pe_W {nw : Nat} {t : Mem} {v3 v4 v5 t0 : Int32} (w : WrG s a2 t) (h1 : t.1 3 1 = Int32.ofNat nw) (hv : (v3 = 1 ∧ nw < 6) ∨ v3 = 0) : Ho (bd (fX12_personLine_b77 N v3 v4 v5 t0 t) (fun _ u => fX12_chamberLine_b105 N u)) (fun _ u => WrG s a2 u) := by
  rcases hv with ⟨hv, hn⟩ | hv
  · subst hv
    rw [ho_bd]
    refine ho_mono (b77_M hn h1) (fun _ u ⟨_, _, f⟩ => ?_)
    have w2 := w.w (fun k j h1 h2 => f k j h2 (by omega))
    rw [b105_eq, line_W w2.1]
    exact w2
  · subst hv
    have w2 := w.w (u := pI t 0 9 t0) (fun k j h1 h2 => pI_nq (by omega))
    rw [b77_0, ho_bds, b105_eq, line_W w2.1]
    exact w2
theorem DD.person {np nw g x : Nat} {t1 t2 : Mem} (h : DD np nw σ1 σ2) (hb : 1 ≤ g ∧ g ≤ 30 ∧ x ≤ 8) (h1 : t1.1 179 nw = Int32.ofNat g ∧ t1.1 180 nw = Int32.ofNat x) (h2 : t2.1 3 (51 + 2 * nw) = Int32.ofNat g ∧ t2.1 3 (51 + 2 * nw + 1) = Int32.ofNat x) (hf : (x = 8 ∧ t2.1 0 9 = σ2.1 0 9) ∨ (x ≤ 7 ∧ t2.1 0 9 = if Int32.ofNat x ≤ σ2.1 0 9 then σ2.1 0 9 else Int32.ofNat x))
    (f1 : ∀ k j, 172 ≤ k → k ≤ 180 → ¬ (k = 172 ∧ j = 1) → ¬ (179 ≤ k ∧ k ≤ 180 ∧ j = nw) → t1.1 k j = σ1.1 k j) (f2 : ∀ j, j ≠ 1 → ¬ (51 + 2 * nw ≤ j ∧ j < 51 + 2 * nw + 2) → t2.1 3 j = σ2.1 3 j) (hn : nw < 6) (hnp : np ≤ 8) : DD np (nw + 1) t1 t2 := by
  obtain ⟨d1, d2, d3, d4⟩ := h
  have e8 : (8 : Int32) = Int32.ofNat 8 := rfl
  have old : ∀ w, w < nw → t1.1 180 w = σ1.1 180 w := fun w hw => f1 180 w (by omega) (by omega) (by omega) (by omega)
  refine ⟨?_, fun p hp => ?_, fun w hw => ?_, ?_⟩
  · rw [f1 172 2 (by omega) (by omega) (by omega) (by omega), f2 2 (by omega) (by omega)]; exact d1
  · rw [f1 173 p (by omega) (by omega) (by omega) (by omega), f1 174 p (by omega) (by omega) (by omega) (by omega), f1 175 p (by omega) (by omega) (by omega) (by omega), f1 176 p (by omega) (by omega) (by omega) (by omega), f1 177 p (by omega) (by omega) (by omega) (by omega), f1 178 p (by omega) (by omega) (by omega) (by omega), f2 (3 + 6 * p) (by omega) (by omega), f2 (3 + 6 * p + 1) (by omega) (by omega), f2 (3 + 6 * p + 2) (by omega) (by omega), f2 (3 + 6 * p + 3) (by omega) (by omega), f2 (3 + 6 * p + 4) (by omega) (by omega), f2 (3 + 6 * p + 5) (by omega) (by omega)]
    exact d2 p hp
  · by_cases q : w = nw
    · subst q; exact ⟨g, x, hb, h1, h2⟩
    · rw [f1 179 w (by omega) (by omega) (by omega) (by omega), f1 180 w (by omega) (by omega) (by omega) (by omega), f2 (51 + 2 * w) (by omega) (by omega), f2 (51 + 2 * w + 1) (by omega) (by omega)]
      exact d3 w (by omega)
  · rcases hf with ⟨x8, ef⟩ | ⟨x7, ef⟩
    · subst x8
      rw [ef]
      rcases d4 with ⟨q1, q2⟩ | ⟨F, q1, q2, ⟨w, q3, q3'⟩, q4⟩
      · left
        refine ⟨q1, fun w hw => ?_⟩
        by_cases q : w = nw
        · subst q; exact h1.2
        · rw [old w (by omega)]; exact q2 w (by omega)
      · right
        refine ⟨F, q1, q2, ⟨w, by omega, by rw [old w q3]; exact q3'⟩, fun w' x' hw' hx' e => ?_⟩
        by_cases q : w' = nw
        · subst q
          rw [h1.2, nz_inj (by omega) (by omega)] at e
          omega
        · rw [old w' (by omega)] at e
          exact q4 w' x' (by omega) hx' e
    · rw [ef]
      right
      rcases d4 with ⟨q1, q2⟩ | ⟨F, q1, q2, ⟨w, q3, q3'⟩, q4⟩
      · refine ⟨x, x7, ?_, ⟨nw, by omega, h1.2⟩, fun w' x' hw' hx' e => ?_⟩
        · rw [q1, if_neg (show ¬ Int32.ofNat x ≤ -1 by rw [i32_le, nz_toInt (by omega), show (-1 : Int32).toInt = -1 from rfl]; omega)]
        · by_cases q : w' = nw
          · subst q
            rw [h1.2, nz_inj (by omega) (by omega)] at e
            omega
          · rw [old w' (by omega), q2 w' (by omega), e8, nz_inj (by omega) (by omega)] at e
            omega
      · by_cases le : x ≤ F
        · refine ⟨F, q1, ?_, ⟨w, by omega, by rw [old w q3]; exact q3'⟩, fun w' x' hw' hx' e => ?_⟩
          · rw [q2, if_pos (show Int32.ofNat x ≤ Int32.ofNat F by rw [nz_le (by omega) (by omega)]; exact le)]
          · by_cases q : w' = nw
            · subst q
              rw [h1.2, nz_inj (by omega) (by omega)] at e
              omega
            · rw [old w' (by omega)] at e
              exact q4 w' x' (by omega) hx' e
        · refine ⟨x, x7, ?_, ⟨nw, by omega, h1.2⟩, fun w' x' hw' hx' e => ?_⟩
          · rw [q2, if_neg (show ¬ Int32.ofNat x ≤ Int32.ofNat F by rw [nz_le (by omega) (by omega)]; exact le)]
          · by_cases q : w' = nw
            · subst q
              rw [h1.2, nz_inj (by omega) (by omega)] at e
              omega
            · rw [old w' (by omega)] at e
              have := q4 w' x' (by omega) hx' e
              omega
theorem rng_4 : (rngT.getD (4 * 9) 0 = Int32.ofNat 2 ∧ rngT.getD (4 * 9 + 1 + 0) 0 = Int32.ofNat 1 ∧ rngT.getD (4 * 9 + 5 + 0) 0 = Int32.ofNat 30) ∧ (rngT.getD (4 * 9) 0 = Int32.ofNat 2 ∧ rngT.getD (4 * 9 + 1 + (0 + 1)) 0 = Int32.ofNat 0 ∧ rngT.getD (4 * 9 + 5 + (0 + 1)) 0 = Int32.ofNat 7) := by decide +kernel
theorem rng_5 : rngT.getD (5 * 9) 0 = Int32.ofNat 1 ∧ rngT.getD (5 * 9 + 1 + 0) 0 = Int32.ofNat 1 ∧ rngT.getD (5 * 9 + 5 + 0) 0 = Int32.ofNat 30 := by decide +kernel
theorem rng_6 : rngT.getD (6 * 9) 0 = Int32.ofNat 1 ∧ rngT.getD (6 * 9 + 1 + 0) 0 = Int32.ofNat 0 ∧ rngT.getD (6 * 9 + 5 + 0) 0 = Int32.ofNat 9 := by decide +kernel
theorem sits_J {np nw : Nat} {v3 v4 : Int32} (hN : 10000 ≤ N) (hn : n < 900) (h0 : s0 ≤ s) (P : PS B n s σ1 σ2) (Fj : FJ s σ1 σ2) (G1 : GC a1 σ1) (G2 : GM a2 σ2) (Dn : DN np nw σ1 σ2) (hv : (v3 = 1 ∧ nw < 6) ∨ (v3 = 0 ∧ 6 ≤ nw ∧ ¬ σ1.1 171 3 = 0)) :
    H2 (fX6_readLine_b70 N 171 (Int32.ofNat 4) v4 σ1) (bd (fX12_personLine_b27 N 1 v3 σ2) (fun _ u => fX12_chamberLine_b105 N u)) (QLn B n DC0 a1 a2 s0) := by
  obtain ⟨M, hM⟩ : ∃ M, N = M + 5 := ⟨N - 5, by omega⟩
  have rg := rng_4
  have hv' : (v3 = 1 ∧ nw < 6) ∨ v3 = 0 := hv.elim Or.inl (fun z => Or.inr z.1)
  have hnp := Dn.1
  have d1 := Dn.2.1.2.2.2
  rw [rn_eq hM (by omega), b27_1, bd_bd]
  have C0 : FrAc σ1 (pI (pI σ1 191 0 (-1)) 191 1 (-1)) := FrAc.nums
  have c0 : (pI (pI σ1 191 0 (-1)) 191 1 (-1)).1 171 3 = σ1.1 171 3 := by rw [pI_nq (by omega), pI_nq (by omega)]
  refine nb_J (lo := 1) (hi := 30) hN rfl rfl rg.1 (by omega) P.nums Fj.nums (fun s1 x1 r1 u1 w1 g1 P1 F1 A1 B1 m1 o1 l1 u1' c1 => ?_) (fun t w => ?_)
  · rw [bd_bd]
    refine nb_J (lo := 0) (hi := 7) hN rfl rfl rg.2 (by omega) P1 F1 (fun s4 x2 r2 u4 w4 g2 P4 F4 A2 B2 m2 o2 l2 u2' c2 => ?_) (fun t w => ?_)
    · rw [show (0 + 1 + 1 : Nat) = 2 from rfl, l33_end rg.1.1 (by omega), ho_bds, b52_1]
      have cl : u4.1 171 3 = 0 → σ1.1 171 3 = 0 ∧ x1 = r1 ∧ x2 = r2 := fun z => by
        obtain ⟨z2, e2⟩ := c2 z
        obtain ⟨z1, e1⟩ := c1 z2
        exact ⟨by rw [← c0]; exact z1, e1, e2⟩
      have FA := (C0.trans A1).trans A2
      have FB := B1.trans B2
      have D4 : DN np nw u4 w4 := Dn.fr FA FB (fun z => (cl z).1)
      have y0 : u4.1 191 0 = Int32.ofNat x1 := by rw [o2 0 (by omega)]; exact m1
      have y1 : u4.1 191 1 = Int32.ofNat x2 := m2
      rcases hv with ⟨hv, hn8⟩ | ⟨hv, hn8, hcl⟩
      · subst hv
        apply h2_r
        refine ho_mono (b77_M hn8 D4.2.1.2.2.2) (fun _ y ⟨q0, q1, qf⟩ => ?_)
        rw [b105_eq]
        have PY : PS B n s4 u4 y := P4.ag (fun _ _ _ => rfl) (fun _ => rfl) (fun j _ _ => qf _ _ (by omega) (by omega)) (fun j _ => qf _ _ (by omega) (by omega))
        have FY : FJ s4 u4 y := F4.ag rfl rfl (qf _ _ (by omega) (by omega)) (qf _ _ (by omega) (by omega)) (qf _ _ (by omega) (by omega))
        refine fin_J hN PY FY (G1.trans FA.gc) ((G2.trans FB.gm).trans ⟨fun j _ _ => qf _ _ (by omega) (by omega), fun j => qf _ _ (by omega) (by omega)⟩) (by omega) hn (fun t1 t2 L1 L2 => ?_)
        rw [addLine_4]
        refine ho_mono (addPerson_C (nw := nw) hn8 (by rw [L1 _ _ (by omega)]; exact D4.2.1.2.1)) (fun _ z ⟨z0, z1, zf⟩ => ?_)
        refine ⟨fun k j h => zf k j (by omega) (by omega), np, nw + 1, ⟨Dn.1.1, by omega⟩, ⟨?_, z0, ?_, ?_⟩, fun cz => ?_⟩
        · rw [zf _ _ (by omega) (by omega), L1 _ _ (by omega)]; exact D4.2.1.1
        · rw [L2 _ _ (by omega), qf _ _ (by omega) (by omega)]; exact D4.2.1.2.2.1
        · rw [L2 _ _ (by omega)]; exact q0
        · rw [zf _ _ (by omega) (by omega), L1 _ _ (by omega)] at cz
          obtain ⟨_, e1, e2⟩ := cl cz
          subst e1 e2
          refine (D4.2.2 cz).person (g := x1) (x := x2) (by omega) ?_ ?_ (Or.inr ⟨by omega, ?_⟩) ?_ ?_ hn8 hnp.1
          · rw [L1 191 0 (by omega), L1 191 1 (by omega), y0, y1] at z1
            exact z1
          · rw [L2 _ _ (by omega), L2 _ _ (by omega)]
            exact ⟨q1.1, q1.2.1⟩
          · rw [L2 _ _ (by omega)]
            exact q1.2.2
          · intro k j h1 h2 h3 h4
            rw [zf _ _ (by omega) (by omega), L1 _ _ (by omega)]
          · intro j h1 h2
            rw [L2 _ _ (by omega), qf _ _ (by omega) (by omega)]
      · subst hv
        rw [b77_0, ho_bds, b105_eq]
        generalize (if Int32.ofNat r2 ≤ w4.1 0 9 then w4.1 0 9 else Int32.ofNat r2) = far
        have qf : ∀ k j, ¬ (k = 0 ∧ j = 9) → (pI w4 0 9 far).1 k j = w4.1 k j := fun k j h => pI_nq h
        have PY : PS B n s4 u4 (pI w4 0 9 far) := P4.ag (fun _ _ _ => rfl) (fun _ => rfl) (fun j _ _ => qf _ _ (by omega)) (fun j _ => qf _ _ (by omega))
        have FY : FJ s4 u4 (pI w4 0 9 far) := F4.ag rfl rfl (qf _ _ (by omega)) (qf _ _ (by omega)) (qf _ _ (by omega))
        refine fin_J hN PY FY (G1.trans FA.gc) ((G2.trans FB.gm).trans ⟨fun j _ _ => qf _ _ (by omega), fun j => qf _ _ (by omega)⟩) (by omega) hn (fun t1 t2 L1 L2 => ?_)
        rw [addLine_4, addPerson_n (nw := nw) hn8 (by omega) (by rw [L1 _ _ (by omega)]; exact D4.2.1.2.1)]
        refine ⟨fun _ _ _ => rfl, np, nw, Dn.1, ⟨?_, ?_, ?_, ?_⟩, fun cz => ?_⟩
        · rw [L1 _ _ (by omega)]; exact D4.2.1.1
        · rw [L1 _ _ (by omega)]; exact D4.2.1.2.1
        · rw [L2 _ _ (by omega), qf _ _ (by omega)]; exact D4.2.1.2.2.1
        · rw [L2 _ _ (by omega), qf _ _ (by omega)]; exact D4.2.1.2.2.2
        · rw [L1 _ _ (by omega)] at cz
          exact absurd (cl cz).1 hcl
    · have FA := C0.trans A1
      refine bad_J (N := N) P1 (G1.trans FA.gc) ?_
      rw [b52_1]
      exact pe_W (w.g (G2.trans B1.gm)) (by rw [w.2.2.2 _ _ (by omega) (by omega), B1 _ _ (by omega) (by omega)]; exact d1) hv'
  · refine bad_J (N := N) P.nums (G1.trans C0.gc) ?_
    simp only [num_W w.1, ho_bds, b52_1]
    exact pe_W (w.g G2) (by rw [w.2.2.2 _ _ (by omega) (by omega)]; exact d1) hv'
theorem stands_J {np nw : Nat} {v3 v4 : Int32} (hN : 10000 ≤ N) (hn : n < 900) (h0 : s0 ≤ s) (P : PS B n s σ1 σ2) (Fj : FJ s σ1 σ2) (G1 : GC a1 σ1) (G2 : GM a2 σ2) (Dn : DN np nw σ1 σ2) (hv : (v3 = 1 ∧ nw < 6) ∨ (v3 = 0 ∧ 6 ≤ nw ∧ ¬ σ1.1 171 3 = 0)) :
    H2 (fX6_readLine_b70 N 171 (Int32.ofNat 5) v4 σ1) (bd (fX12_personLine_b27 N 0 v3 σ2) (fun _ u => fX12_chamberLine_b105 N u)) (QLn B n DC0 a1 a2 s0) := by
  obtain ⟨M, hM⟩ : ∃ M, N = M + 5 := ⟨N - 5, by omega⟩
  have rg := rng_5
  have hv' : (v3 = 1 ∧ nw < 6) ∨ v3 = 0 := hv.elim Or.inl (fun z => Or.inr z.1)
  have hnp := Dn.1
  have d1 := Dn.2.1.2.2.2
  rw [rn_eq hM (by omega), b27_0, bd_bd]
  have C0 : FrAc σ1 (pI (pI σ1 191 0 (-1)) 191 1 (-1)) := FrAc.nums
  have c0 : (pI (pI σ1 191 0 (-1)) 191 1 (-1)).1 171 3 = σ1.1 171 3 := by rw [pI_nq (by omega), pI_nq (by omega)]
  refine nb_J (lo := 1) (hi := 30) hN rfl rfl rg (by omega) P.nums Fj.nums (fun s4 x1 r1 u4 w4 g1 P4 F4 A1 B1 m1 o1 l1 u1' c1 => ?_) (fun t w => ?_)
  · rw [show (0 + 1 : Nat) = 1 from rfl, l33_end rg.1 (by omega), ho_bds]
    have cl : u4.1 171 3 = 0 → σ1.1 171 3 = 0 ∧ x1 = r1 := fun z => by
      obtain ⟨z1, e1⟩ := c1 z
      exact ⟨by rw [← c0]; exact z1, e1⟩
    have FA := C0.trans A1
    have FB := B1
    have D4 : DN np nw u4 w4 := Dn.fr FA FB (fun z => (cl z).1)
    have y0 : u4.1 191 0 = Int32.ofNat x1 := m1
    rcases hv with ⟨hv, hn8⟩ | ⟨hv, hn8, hcl⟩
    · subst hv
      apply h2_r
      refine ho_mono (b77_M hn8 D4.2.1.2.2.2) (fun _ y ⟨q0, q1, qf⟩ => ?_)
      rw [b105_eq]
      have PY : PS B n s4 u4 y := P4.ag (fun _ _ _ => rfl) (fun _ => rfl) (fun j _ _ => qf _ _ (by omega) (by omega)) (fun j _ => qf _ _ (by omega) (by omega))
      have FY : FJ s4 u4 y := F4.ag rfl rfl (qf _ _ (by omega) (by omega)) (qf _ _ (by omega) (by omega)) (qf _ _ (by omega) (by omega))
      refine fin_J hN PY FY (G1.trans FA.gc) ((G2.trans FB.gm).trans ⟨fun j _ _ => qf _ _ (by omega) (by omega), fun j => qf _ _ (by omega) (by omega)⟩) (by omega) hn (fun t1 t2 L1 L2 => ?_)
      rw [addLine_5]
      refine ho_mono (addPerson_C (nw := nw) hn8 (by rw [L1 _ _ (by omega)]; exact D4.2.1.2.1)) (fun _ z ⟨z0, z1, zf⟩ => ?_)
      refine ⟨fun k j h => zf k j (by omega) (by omega), np, nw + 1, ⟨Dn.1.1, by omega⟩, ⟨?_, z0, ?_, ?_⟩, fun cz => ?_⟩
      · rw [zf _ _ (by omega) (by omega), L1 _ _ (by omega)]; exact D4.2.1.1
      · rw [L2 _ _ (by omega), qf _ _ (by omega) (by omega)]; exact D4.2.1.2.2.1
      · rw [L2 _ _ (by omega)]; exact q0
      · rw [zf _ _ (by omega) (by omega), L1 _ _ (by omega)] at cz
        obtain ⟨_, e1⟩ := cl cz
        subst e1
        refine (D4.2.2 cz).person (g := x1) (x := 8) (by omega) ?_ ?_ (Or.inl ⟨rfl, ?_⟩) ?_ ?_ hn8 hnp.1
        · rw [L1 191 0 (by omega), y0] at z1
          exact z1
        · rw [L2 _ _ (by omega), L2 _ _ (by omega)]
          exact ⟨q1.1, q1.2.1⟩
        · rw [L2 _ _ (by omega)]
          exact q1.2.2
        · intro k j h1 h2 h3 h4
          rw [zf _ _ (by omega) (by omega), L1 _ _ (by omega)]
        · intro j h1 h2
          rw [L2 _ _ (by omega), qf _ _ (by omega) (by omega)]
    · subst hv
      rw [b77_0, ho_bds, b105_eq]
      generalize w4.1 0 9 = far
      have qf : ∀ k j, ¬ (k = 0 ∧ j = 9) → (pI w4 0 9 far).1 k j = w4.1 k j := fun k j h => pI_nq h
      have PY : PS B n s4 u4 (pI w4 0 9 far) := P4.ag (fun _ _ _ => rfl) (fun _ => rfl) (fun j _ _ => qf _ _ (by omega)) (fun j _ => qf _ _ (by omega))
      have FY : FJ s4 u4 (pI w4 0 9 far) := F4.ag rfl rfl (qf _ _ (by omega)) (qf _ _ (by omega)) (qf _ _ (by omega))
      refine fin_J hN PY FY (G1.trans FA.gc) ((G2.trans FB.gm).trans ⟨fun j _ _ => qf _ _ (by omega), fun j => qf _ _ (by omega)⟩) (by omega) hn (fun t1 t2 L1 L2 => ?_)
      rw [addLine_5, addPerson_n (nw := nw) hn8 (by omega) (by rw [L1 _ _ (by omega)]; exact D4.2.1.2.1)]
      refine ⟨fun _ _ _ => rfl, np, nw, Dn.1, ⟨?_, ?_, ?_, ?_⟩, fun cz => ?_⟩
      · rw [L1 _ _ (by omega)]; exact D4.2.1.1
      · rw [L1 _ _ (by omega)]; exact D4.2.1.2.1
      · rw [L2 _ _ (by omega), qf _ _ (by omega)]; exact D4.2.1.2.2.1
      · rw [L2 _ _ (by omega), qf _ _ (by omega)]; exact D4.2.1.2.2.2
      · rw [L1 _ _ (by omega)] at cz
        exact absurd (cl cz).1 hcl
  · refine bad_J (N := N) P.nums (G1.trans C0.gc) ?_
    exact pe_W (w.g G2) (by rw [w.2.2.2 _ _ (by omega) (by omega)]; exact d1) hv'
theorem damp_J {np nw : Nat} {v4 : Int32} (hN : 10000 ≤ N) (hn : n < 900) (h0 : s0 ≤ s) (P : PS B n s σ1 σ2) (Fj : FJ s σ1 σ2) (G1 : GC a1 σ1) (G2 : GM a2 σ2) (Dn : DN np nw σ1 σ2) :
    H2 (fX6_readLine_b70 N 171 (Int32.ofNat 6) v4 σ1) (bd (fX12_numbered N 0 9 σ2) (fun r5 s6 => gd (inb 2 121) (lt_ (pI s6 3 (2 : Int32).toNatClampNeg r5) (fun s7 => fX12_chamberLine_b105 N s7)))) (QLn B n DC0 a1 a2 s0) := by
  obtain ⟨M, hM⟩ : ∃ M, N = M + 5 := ⟨N - 5, by omega⟩
  have rg := rng_6
  have i2 : inb 2 121 = true := by decide
  have n2 : (2 : Int32).toNatClampNeg = 2 := rfl
  rw [rn_eq hM (by omega)]
  have C0 : FrAc σ1 (pI (pI σ1 191 0 (-1)) 191 1 (-1)) := FrAc.nums
  have c0 : (pI (pI σ1 191 0 (-1)) 191 1 (-1)).1 171 3 = σ1.1 171 3 := by rw [pI_nq (by omega), pI_nq (by omega)]
  refine nb_J (lo := 0) (hi := 9) hN rfl rfl rg (by omega) P.nums Fj.nums (fun s4 x1 r1 u4 w4 g1 P4 F4 A1 B1 m1 o1 l1 u1' c1 => ?_) (fun t w => ?_)
  · rw [show (0 + 1 : Nat) = 1 from rfl, l33_end rg.1 (by omega), ho_bds, gdT i2, n2, ho_lte, b105_eq]
    have cl : u4.1 171 3 = 0 → σ1.1 171 3 = 0 ∧ x1 = r1 := fun z => by
      obtain ⟨z1, e1⟩ := c1 z
      exact ⟨by rw [← c0]; exact z1, e1⟩
    have FA := C0.trans A1
    have D4 : DN np nw u4 w4 := Dn.fr FA B1 (fun z => (cl z).1)
    have qf : ∀ k j, ¬ (k = 3 ∧ j = 2) → (pI w4 3 2 (Int32.ofNat r1)).1 k j = w4.1 k j := fun k j h => pI_nq h
    have PY : PS B n s4 u4 (pI w4 3 2 (Int32.ofNat r1)) := P4.ag (fun _ _ _ => rfl) (fun _ => rfl) (fun j _ _ => qf _ _ (by omega)) (fun j _ => qf _ _ (by omega))
    have FY : FJ s4 u4 (pI w4 3 2 (Int32.ofNat r1)) := F4.ag rfl rfl (qf _ _ (by omega)) (qf _ _ (by omega)) (qf _ _ (by omega))
    refine fin_J hN PY FY (G1.trans FA.gc) ((G2.trans B1.gm).trans ⟨fun j _ _ => qf _ _ (by omega), fun j => qf _ _ (by omega)⟩) (by omega) hn (fun t1 t2 L1 L2 => ?_)
    rw [addLine_6]
    refine ⟨fun k j h => pI_nq (by omega), np, nw, Dn.1, ⟨?_, ?_, ?_, ?_⟩, fun cz => ?_⟩
    · rw [pI_nq (by omega), L1 _ _ (by omega)]; exact D4.2.1.1
    · rw [pI_nq (by omega), L1 _ _ (by omega)]; exact D4.2.1.2.1
    · rw [L2 _ _ (by omega), qf _ _ (by omega)]; exact D4.2.1.2.2.1
    · rw [L2 _ _ (by omega), qf _ _ (by omega)]; exact D4.2.1.2.2.2
    · rw [pI_nq (by omega), L1 _ _ (by omega)] at cz
      have e1 := (cl cz).2
      subst e1
      obtain ⟨_, d2, d3, d4⟩ := D4.2.2 cz
      have f1 : ∀ k j, 172 ≤ k → k ≤ 180 → ¬ (k = 172 ∧ j = 2) → (pI t1 172 2 (t1.1 191 0)).1 k j = u4.1 k j := fun k j h1 h2 h3 => by rw [pI_nq (by omega), L1 _ _ (by omega)]
      have f2 : ∀ j, j ≠ 2 → t2.1 3 j = w4.1 3 j := fun j hj => by rw [L2 _ _ (by omega), qf _ _ (by omega)]
      have f3 : t2.1 0 9 = w4.1 0 9 := by rw [L2 _ _ (by omega), qf _ _ (by omega)]
      refine ⟨⟨x1, by omega, ?_, ?_⟩, fun p hp => ?_, fun w hw => ?_, ?_⟩
      · rw [pI_eq, L1 _ _ (by omega)]; exact m1
      · rw [L2 _ _ (by omega), pI_eq]
      · rw [f1 173 p (by omega) (by omega) (by omega), f1 174 p (by omega) (by omega) (by omega), f1 175 p (by omega) (by omega) (by omega), f1 176 p (by omega) (by omega) (by omega), f1 177 p (by omega) (by omega) (by omega), f1 178 p (by omega) (by omega) (by omega), f2 (3 + 6 * p) (by omega), f2 (3 + 6 * p + 1) (by omega), f2 (3 + 6 * p + 2) (by omega), f2 (3 + 6 * p + 3) (by omega), f2 (3 + 6 * p + 4) (by omega), f2 (3 + 6 * p + 5) (by omega)]
        exact d2 p hp
      · rw [f1 179 w (by omega) (by omega) (by omega), f1 180 w (by omega) (by omega) (by omega), f2 (51 + 2 * w) (by omega), f2 (51 + 2 * w + 1) (by omega)]
        exact d3 w hw
      · simp only [fun w => f1 180 w (by omega) (by omega) (by omega), f3]
        exact d4
  · refine bad_J (N := N) P.nums (G1.trans C0.gc) ?_
    rw [gdT i2, n2, ho_lte, b105_eq]
    have w2 := (w.g G2).w (u := pI t 3 2 (Int32.ofNat 0)) (fun k j h1 h2 => pI_nq (by omega))
    rw [line_W w2.1]
    exact w2
end CHAM2
