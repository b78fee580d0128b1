/-! Sessions and logs. -/
def SN (k : Nat) (σ1 σ2 : Mem) : Prop := k ≤ 40 ∧ (σ1.1 181 0 = Int32.ofNat k ∧ σ2.1 3 0 = Int32.ofNat k) ∧ (σ1.1 171 3 = 0 → ∀ d, d < k → ∃ t a b, σ1.1 182 d = Int32.ofNat t ∧ σ1.1 183 d = a ∧ σ1.1 184 d = b ∧ σ2.1 3 (1 + 3 * d) = Int32.ofNat t ∧ σ2.1 3 (1 + 3 * d + 1) = a ∧ σ2.1 3 (1 + 3 * d + 2) = b ∧ t ≤ 7 ∧ (t = 0 → ∃ m, m < 64 ∧ a = Int32.ofNat m))
def DS0 (σ1 σ2 : Mem) : Prop := ∃ k, SN k σ1 σ2
def LN (k : Nat) (σ1 σ2 : Mem) : Prop := k ≤ 8 ∧ (σ1.1 185 0 = Int32.ofNat k ∧ σ2.1 3 0 = Int32.ofNat k) ∧ (σ1.1 171 3 = 0 → ∀ d, d < k → ∃ t a b m, t ≤ 1 ∧ a ≤ 60 ∧ b ≤ 9 ∧ m ≤ 6 ∧ σ1.1 186 d = Int32.ofNat t ∧ σ1.1 187 d = Int32.ofNat a ∧ σ1.1 188 d = Int32.ofNat b ∧ σ1.1 189 d = Int32.ofNat m ∧ σ2.1 3 (1 + 4 * d) = Int32.ofNat t ∧ σ2.1 3 (1 + 4 * d + 1) = Int32.ofNat a ∧ σ2.1 3 (1 + 4 * d + 2) = Int32.ofNat b ∧ σ2.1 3 (1 + 4 * d + 3) = Int32.ofNat m)
def DL0 (σ1 σ2 : Mem) : Prop := ∃ k, LN k σ1 σ2
section SELINE
variable {N : Nat} {B : Nat → Nat} {n s s0 : Nat} {σ σ1 σ2 a1 a2 : Mem}
theorem SN.fr {k : Nat} {t1 t2 : Mem} (h : SN k σ1 σ2) (F1 : FrAc σ1 t1) (F2 : FrBm σ2 t2) (c : t1.1 171 3 = 0 → σ1.1 171 3 = 0) : SN k t1 t2 := by
  obtain ⟨h1, ⟨h2, h3⟩, h4⟩ := h
  refine ⟨h1, ⟨?_, ?_⟩, fun z d hd => ?_⟩
  · rw [F1 _ _ (by omega) (by omega)]; exact h2
  · rw [F2 _ _ (by omega) (by omega)]; exact h3
  · rw [F1 182 d (by omega) (by omega), F1 183 d (by omega) (by omega), F1 184 d (by omega) (by omega), F2 3 (1 + 3 * d) (by omega) (by omega), F2 3 (1 + 3 * d + 1) (by omega) (by omega), F2 3 (1 + 3 * d + 2) (by omega) (by omega)]
    exact h4 (c z) d hd
theorem LN.fr {k : Nat} {t1 t2 : Mem} (h : LN k σ1 σ2) (F1 : FrAc σ1 t1) (F2 : FrBm σ2 t2) (c : t1.1 171 3 = 0 → σ1.1 171 3 = 0) : LN k t1 t2 := by
  obtain ⟨h1, ⟨h2, h3⟩, h4⟩ := h
  refine ⟨h1, ⟨?_, ?_⟩, fun z d hd => ?_⟩
  · rw [F1 _ _ (by omega) (by omega)]; exact h2
  · rw [F2 _ _ (by omega) (by omega)]; exact h3
  · rw [F1 186 d (by omega) (by omega), F1 187 d (by omega) (by omega), F1 188 d (by omega) (by omega), F1 189 d (by omega) (by omega), F2 3 (1 + 4 * d) (by omega) (by omega), F2 3 (1 + 4 * d + 1) (by omega) (by omega), F2 3 (1 + 4 * d + 2) (by omega) (by omega), F2 3 (1 + 4 * d + 3) (by omega) (by omega)]
    exact h4 (c z) d hd
theorem addLine_s {k : Nat} {w : Int32} (hk : k < 8) : fX6_addLine N 171 (Int32.ofNat (7 + k)) w σ = fX8_add N 181 (Int32.ofNat k) (σ.1 191 0) (σ.1 191 1) σ := by
  unfold fX6_addLine
  rw [if_pos (show (4 : Int32) ≤ Int32.ofNat (7 + k) by rw [z_le (by omega) (by omega)]; omega), if_neg (show ¬ Int32.ofNat (7 + k) = 4 by rw [z_eq (by omega) (by omega)]; omega), if_neg (show ¬ Int32.ofNat (7 + k) = 5 by rw [z_eq (by omega) (by omega)]; omega), if_pos (show (7 : Int32) ≤ Int32.ofNat (7 + k) by rw [z_le (by omega) (by omega)]; omega), if_neg (show ¬ (15 : Int32) ≤ Int32.ofNat (7 + k) by rw [z_le (by omega) (by omega)]; omega), gdT (by decide), gdT (by decide), bd_unit, nz_subk (a := 7) (v := 7) rfl]
  rfl
theorem addLine_l {k : Nat} {w : Int32} (hk : k < 2) : fX6_addLine N 171 (Int32.ofNat (15 + k)) w σ = fX4_add N 185 (Int32.ofNat k) (σ.1 191 0) (σ.1 191 1) (σ.1 191 2) σ := by
  unfold fX6_addLine
  rw [if_pos (show (4 : Int32) ≤ Int32.ofNat (15 + k) by rw [z_le (by omega) (by omega)]; omega), if_neg (show ¬ Int32.ofNat (15 + k) = 4 by rw [z_eq (by omega) (by omega)]; omega), if_neg (show ¬ Int32.ofNat (15 + k) = 5 by rw [z_eq (by omega) (by omega)]; omega), if_pos (show (7 : Int32) ≤ Int32.ofNat (15 + k) by rw [z_le (by omega) (by omega)]; omega), if_pos (show (15 : Int32) ≤ Int32.ofNat (15 + k) by rw [z_le (by omega) (by omega)]; omega), gdT (by decide), gdT (by decide), gdT (by decide), bd_unit, nz_subk (a := 15) (v := 15) rfl]
  rfl
theorem isFull_s {k c : Nat} (hk : k < 8) (hn : c ≤ 40) (h : σ.1 181 0 = Int32.ofNat c) : fX6_isFull N 171 (Int32.ofNat (7 + k)) σ = some (if c < 40 then 0 else 1, σ) := by
  unfold fX6_isFull
  rw [if_pos (show (4 : Int32) ≤ Int32.ofNat (7 + k) by rw [z_le (by omega) (by omega)]; omega), if_pos (show (5 : Int32) < Int32.ofNat (7 + k) by rw [z_lt (by omega) (by omega)]; omega), if_pos (show (7 : Int32) ≤ Int32.ofNat (7 + k) by rw [z_le (by omega) (by omega)]; omega), if_neg (show ¬ (15 : Int32) ≤ Int32.ofNat (7 + k) by rw [z_le (by omega) (by omega)]; omega), show σ.1 (171 + 10) 0 = Int32.ofNat c from h]
  by_cases q : c < 40
  · rw [if_pos (show Int32.ofNat c < 40 by rw [z_gt (by omega) (by omega)]; exact q), if_pos q]
  · rw [if_neg (show ¬ Int32.ofNat c < 40 by rw [z_gt (by omega) (by omega)]; exact q), if_neg q]
theorem isFull_l {k c : Nat} (hk : k < 2) (hn : c ≤ 8) (h : σ.1 185 0 = Int32.ofNat c) : fX6_isFull N 171 (Int32.ofNat (15 + k)) σ = some (if c < 8 then 0 else 1, σ) := by
  unfold fX6_isFull
  rw [if_pos (show (4 : Int32) ≤ Int32.ofNat (15 + k) by rw [z_le (by omega) (by omega)]; omega), if_pos (show (5 : Int32) < Int32.ofNat (15 + k) by rw [z_lt (by omega) (by omega)]; omega), if_pos (show (7 : Int32) ≤ Int32.ofNat (15 + k) by rw [z_le (by omega) (by omega)]; omega), if_pos (show (15 : Int32) ≤ Int32.ofNat (15 + k) by rw [z_le (by omega) (by omega)]; omega), show σ.1 (171 + 14) 0 = Int32.ofNat c from h]
  by_cases q : c < 8
  · rw [if_pos (show Int32.ofNat c < 8 by rw [z_gt (by omega) (by omega)]; exact q), if_pos q]
  · rw [if_neg (show ¬ Int32.ofNat c < 8 by rw [z_gt (by omega) (by omega)]; exact q), if_neg q]
theorem se_W {k : Nat} {t : Mem} {v2 v3 v4 : Int32} (w : WrG s a2 t) (hk : k ≤ 40) (h0 : t.1 3 0 = Int32.ofNat k) : Ho (fX12_sessionLine_b97 N v2 v3 v4 t) (fun _ u => WrG s a2 u) := by
  rw [b97_eq]
  by_cases c : k < 40
  · rw [ho_bd]
    refine ho_mono (seT_M c h0) (fun _ u ⟨_, _, f⟩ => ?_)
    have w2 := w.w (fun k j h1 _ => f k j (by omega))
    rw [line_W w2.1]
    exact w2
  · rw [seT_n (k := k) (by omega) (by omega) h0, ho_bds, line_W w.1]
    exact w
theorem lo_W {k : Nat} {t : Mem} {v2 v3 v4 v5 : Int32} (w : WrG s a2 t) (hk : k ≤ 8) (h0 : t.1 3 0 = Int32.ofNat k) : Ho (bd (loT v2 v3 v4 v5 t) (fun _ u => fX12_endsLine N u)) (fun _ u => WrG s a2 u) := by
  by_cases c : k < 8
  · rw [ho_bd]
    refine ho_mono (loT_M c h0) (fun _ u ⟨_, _, f⟩ => ?_)
    have w2 := w.w (fun k j h1 _ => f k j (by omega))
    rw [line_W w2.1]
    exact w2
  · rw [loT_n (k := k) (by omega) (by omega) h0, ho_bds, line_W w.1]
    exact w
/-- a deed's end: its numbers have come -/
theorem seEnd_J {k c : Nat} {a b v4 : Int32} (hN : 10000 ≤ N) (hk : k < 8) (hn : n < 900) (h0 : s0 ≤ s) (P : PS B n s σ1 σ2) (Fj : FJ s σ1 σ2) (G1 : GC a1 σ1) (G2 : GM a2 σ2) (Sn : SN c σ1 σ2) (hc : c < 40 ∨ (40 ≤ c ∧ ¬ σ1.1 171 3 = 0)) (hv : σ1.1 171 3 = 0 → σ1.1 191 0 = a ∧ σ1.1 191 1 = b ∧ (k = 0 → ∃ m, m < 64 ∧ a = Int32.ofNat m)) :
    H2 (KK N (Int32.ofNat (7 + k)) v4 1 σ1) (fX12_sessionLine_b97 N (Int32.ofNat k) a b σ2) (QLn B n DS0 a1 a2 s0) := by
  rw [b97_eq]
  rcases hc with hc | ⟨hc, hcl⟩
  · apply h2_r
    refine ho_mono (seT_M hc Sn.2.1.2) (fun _ y ⟨q0, q1, qf⟩ => ?_)
    have PY : PS B n s σ1 y := P.ag (fun _ _ _ => rfl) (fun _ => rfl) (fun j _ _ => qf _ _ (by omega)) (fun j _ => qf _ _ (by omega))
    have FY : FJ s σ1 y := Fj.ag rfl rfl (qf _ _ (by omega)) (qf _ _ (by omega)) (qf _ _ (by omega))
    refine fin_J hN PY FY G1 (G2.trans ⟨fun j _ _ => qf _ _ (by omega), fun j => qf _ _ (by omega)⟩) h0 hn (fun t1 t2 L1 L2 => ?_)
    rw [addLine_s hk]
    refine ho_mono (addDeed_C (k := c) hc (by rw [L1 _ _ (by omega)]; exact Sn.2.1.1)) (fun _ z ⟨z0, z1, zf⟩ => ?_)
    refine ⟨fun k j h => zf k j (by omega) (by omega), c + 1, by omega, ⟨z0, ?_⟩, fun cz d hd => ?_⟩
    · rw [L2 _ _ (by omega)]; exact q0
    · rw [zf _ _ (by omega) (by omega), L1 _ _ (by omega)] at cz
      obtain ⟨x1, x2, x3⟩ := hv cz
      rw [L1 191 0 (by omega), L1 191 1 (by omega), x1, x2] at z1
      by_cases q : d = c
      · subst q
        refine ⟨k, a, b, z1.1, z1.2.1, z1.2.2, ?_, ?_, ?_, by omega, x3⟩
        · rw [L2 _ _ (by omega)]; exact q1.1
        · rw [L2 _ _ (by omega)]; exact q1.2.1
        · rw [L2 _ _ (by omega)]; exact q1.2.2
      · rw [zf 182 d (by omega) (by omega), zf 183 d (by omega) (by omega), zf 184 d (by omega) (by omega), L1 182 d (by omega), L1 183 d (by omega), L1 184 d (by omega), L2 3 (1 + 3 * d) (by omega), L2 3 (1 + 3 * d + 1) (by omega), L2 3 (1 + 3 * d + 2) (by omega), qf 3 (1 + 3 * d) (by omega), qf 3 (1 + 3 * d + 1) (by omega), qf 3 (1 + 3 * d + 2) (by omega)]
        exact Sn.2.2 cz d (by omega)
  · have s4 := Sn.1
    rw [seT_n (k := c) hc (by omega) Sn.2.1.2, ho_bds]
    refine fin_J hN P Fj G1 G2 h0 hn (fun t1 t2 L1 L2 => ?_)
    rw [addLine_s hk, addDeed_n (k := c) hc (by omega) (by rw [L1 _ _ (by omega)]; exact Sn.2.1.1)]
    exact ⟨fun _ _ _ => rfl, c, Sn.fr L1.toA L2.toB (fun z => by rw [L1 _ _ (by omega)] at z; exact z)⟩
def hiS (k : Nat) : Nat := if k = 0 then 63 else if k = 1 ∨ k = 4 then 5 else 7
theorem rng_s : ∀ k, k < 4 → rngT.getD ((7 + k) * 9) 0 = Int32.ofNat 1 ∧ rngT.getD ((7 + k) * 9 + 1 + 0) 0 = Int32.ofNat 0 ∧ rngT.getD ((7 + k) * 9 + 5 + 0) 0 = Int32.ofNat (hiS k) := by decide +kernel
theorem rng_s4 : (rngT.getD ((7 + 4) * 9) 0 = Int32.ofNat 2 ∧ rngT.getD ((7 + 4) * 9 + 1 + 0) 0 = Int32.ofNat 0 ∧ rngT.getD ((7 + 4) * 9 + 5 + 0) 0 = Int32.ofNat (hiS 4)) ∧ (rngT.getD ((7 + 4) * 9) 0 = Int32.ofNat 2 ∧ rngT.getD ((7 + 4) * 9 + 1 + (0 + 1)) 0 = Int32.ofNat 0 ∧ rngT.getD ((7 + 4) * 9 + 5 + (0 + 1)) 0 = Int32.ofNat 7) := by decide +kernel
theorem rng_s5 : ∀ k, k < 8 → 5 ≤ k → rngT.getD ((7 + k) * 9) 0 = Int32.ofNat 0 := by decide +kernel
theorem b41_k : ∀ k, k < 5 → fX12_sessionLine_b41 N (Int32.ofNat k) σ = bd (fX12_numbered N 0 (Int32.ofNat (hiS k)) σ) (fun r s => fX12_sessionLine_b80 N (Int32.ofNat k) r s) := by
  intro k hk
  have cs : k = 0 ∨ k = 1 ∨ k = 2 ∨ k = 3 ∨ k = 4 := by omega
  rcases cs with e | e | e | e | e <;> subst e <;> rfl
theorem b41_5 {k : Nat} (h5 : 5 ≤ k) (hk : k < 8) : fX12_sessionLine_b41 N (Int32.ofNat k) σ = fX12_sessionLine_b97 N (Int32.ofNat k) (-1) (-1) σ := by
  unfold fX12_sessionLine_b41 fX12_sessionLine_b80
  rw [if_pos (show (5 : Int32) ≤ Int32.ofNat k by rw [z_le (by omega) (by omega)]; omega), ho_lte, if_neg (show ¬ Int32.ofNat k = 4 by rw [z_eq (by omega) (by omega)]; omega)]
theorem b80_n {k : Nat} {r : Int32} (h4 : k ≠ 4) (hk : k < 8) : fX12_sessionLine_b80 N (Int32.ofNat k) r σ = fX12_sessionLine_b97 N (Int32.ofNat k) r (-1) σ := by
  unfold fX12_sessionLine_b80
  rw [ho_lte, if_neg (show ¬ Int32.ofNat k = 4 by rw [z_eq (by omega) (by omega)]; omega)]
theorem b80_4 {r : Int32} : fX12_sessionLine_b80 N (Int32.ofNat 4) r σ = bd (fX12_numbered N 0 7 σ) (fun r8 s9 => fX12_sessionLine_b97 N (Int32.ofNat 4) r r8 s9) := rfl
theorem deed_J {k c : Nat} {v4 : Int32} (hN : 10000 ≤ N) (hk : k < 8) (hn : n < 900) (h0 : s0 ≤ s) (P : PS B n s σ1 σ2) (Fj : FJ s σ1 σ2) (G1 : GC a1 σ1) (G2 : GM a2 σ2) (Sn : SN c σ1 σ2) (hc : c < 40 ∨ (40 ≤ c ∧ ¬ σ1.1 171 3 = 0)) :
    H2 (fX6_readLine_b70 N 171 (Int32.ofNat (7 + k)) v4 σ1) (fX12_sessionLine_b41 N (Int32.ofNat k) σ2) (QLn B n DS0 a1 a2 s0) := by
  obtain ⟨M, hM⟩ : ∃ M, N = M + 5 := ⟨N - 5, by omega⟩
  have d0 := Sn.2.1.2
  rw [rn_eq hM (by omega)]
  have C0 : FrAc σ1 (pI (pI σ1 191 0 (-1)) 191 1 (-1)) := FrAc.nums
  have c0 : (pI (pI σ1 191 0 (-1)) 191 1 (-1)).1 171 3 = σ1.1 171 3 := by rw [pI_nq (by omega), pI_nq (by omega)]
  have nm0 : (pI (pI σ1 191 0 (-1)) 191 1 (-1)).1 191 0 = -1 := by rw [pI_nq (by omega), pI_eq]
  have nm1 : (pI (pI σ1 191 0 (-1)) 191 1 (-1)).1 191 1 = -1 := pI_eq
  by_cases k5 : 5 ≤ k
  · rw [show Int32.ofNat 0 = Int32.ofNat 0 from rfl, l33_end (rng_s5 k hk k5) (by omega), ho_bds, b41_5 k5 hk]
    refine seEnd_J hN hk hn h0 P.nums Fj.nums (G1.trans C0.gc) G2 (Sn.fr C0 (FrBm.refl _) (fun z => by rw [← c0]; exact z)) ?_ (fun _ => ⟨nm0, nm1, fun z => by omega⟩)
    rcases hc with hc | ⟨hc, hcl⟩
    · exact Or.inl hc
    · exact Or.inr ⟨hc, by rw [c0]; exact hcl⟩
  · have hh : hiS k ≤ 99 := by unfold hiS; split; omega; split <;> omega
    rw [b41_k k (by omega)]
    have bad1 : ∀ t, WrM s σ2 t → H2 (KK N (Int32.ofNat (7 + k)) v4 0 (pI (pI σ1 191 0 (-1)) 191 1 (-1))) (fX12_sessionLine_b80 N (Int32.ofNat k) (Int32.ofNat 0) t) (QLn B n DS0 a1 a2 s0) := by
      intro t w
      refine bad_J (N := N) P.nums (G1.trans C0.gc) ?_
      have h0' : t.1 3 0 = Int32.ofNat c := by rw [w.2.2.2 _ _ (by omega) (by omega)]; exact d0
      by_cases k4 : k = 4
      · subst k4
        rw [b80_4, num_W w.1, ho_bds]
        exact se_W (w.g G2) Sn.1 h0'
      · rw [b80_n k4 hk]
        exact se_W (w.g G2) Sn.1 h0'
    by_cases k4 : k = 4
    · subst k4
      have rg := rng_s4
      refine nb_J (lo := 0) (hi := hiS 4) hN rfl rfl rg.1 (by omega) P.nums Fj.nums (fun s1 x1 r1 u1 w1 g1 P1 F1 A1 B1 m1 o1 l1 u1' c1 => ?_) bad1
      rw [b80_4]
      have FA1 := C0.trans A1
      refine nb_J (lo := 0) (hi := 7) hN rfl rfl rg.2 (by omega) P1 F1 (fun s2 x2 r2 u2 w2 g2 P2 F2 A2 B2 m2 o2 l2 u2' c2 => ?_) (fun t w => ?_)
      · rw [show (0 + 1 + 1 : Nat) = 2 from rfl, l33_end rg.1.1 (by omega), ho_bds]
        have cl : u2.1 171 3 = 0 → σ1.1 171 3 = 0 ∧ x1 = r1 ∧ x2 = r2 := fun z => by
          obtain ⟨z2, e2⟩ := c2 z
          obtain ⟨z1, e1⟩ := c1 z2
          exact ⟨by rw [← c0]; exact z1, e1, e2⟩
        have FA := FA1.trans A2
        have FB := B1.trans B2
        refine seEnd_J hN hk hn (by omega) P2 F2 (G1.trans FA.gc) (G2.trans FB.gm) (Sn.fr FA FB (fun z => (cl z).1)) ?_ (fun z => ?_)
        · rcases hc with hc | ⟨hc, hcl⟩
          · exact Or.inl hc
          · exact Or.inr ⟨hc, fun z => hcl (cl z).1⟩
        · obtain ⟨_, e1, e2⟩ := cl z
          refine ⟨?_, ?_, fun z => by omega⟩
          · rw [o2 0 (by omega), m1, e1]
          · rw [← e2]; exact m2
      · refine bad_J (N := N) P1 (G1.trans FA1.gc) ?_
        exact se_W (w.g (G2.trans B1.gm)) Sn.1 (by rw [w.2.2.2 _ _ (by omega) (by omega), B1 _ _ (by omega) (by omega)]; exact d0)
    · have rg := rng_s k (by omega)
      refine nb_J (lo := 0) (hi := hiS k) hN rfl rfl rg (by omega) P.nums Fj.nums (fun s1 x1 r1 u1 w1 g1 P1 F1 A1 B1 m1 o1 l1 u1' c1 => ?_) bad1
      rw [b80_n k4 hk, show (0 + 1 : Nat) = 1 from rfl, l33_end rg.1 (by omega), ho_bds]
      have cl : u1.1 171 3 = 0 → σ1.1 171 3 = 0 ∧ x1 = r1 := fun z => by
        obtain ⟨z1, e1⟩ := c1 z
        exact ⟨by rw [← c0]; exact z1, e1⟩
      have FA := C0.trans A1
      refine seEnd_J hN hk hn (by omega) P1 F1 (G1.trans FA.gc) (G2.trans B1.gm) (Sn.fr FA B1 (fun z => (cl z).1)) ?_ (fun z => ?_)
      · rcases hc with hc | ⟨hc, hcl⟩
        · exact Or.inl hc
        · exact Or.inr ⟨hc, fun z => hcl (cl z).1⟩
      · obtain ⟨_, e1⟩ := cl z
        refine ⟨by rw [← e1]; exact m1, by rw [o1 1 (by omega)]; exact nm1, fun z0 => ⟨r1, ?_, rfl⟩⟩
        subst z0
        have : hiS 0 = 63 := rfl
        omega
theorem sess_J (hN : 10000 ≤ N) (hn : n < 900) (P : PS B n s σ1 σ2) (Fj : FJ s σ1 σ2) (Dc : DS0 σ1 σ2) : H2 (fX6_readLine N 171 1 σ1) (fX12_sessionLine N σ2) (QLn B n DS0 σ1 σ2 s) := by
  obtain ⟨c, Sn⟩ := Dc
  have i0 : inb 0 121 = true := by decide
  have n0 : (0 : Int32).toNatClampNeg = 0 := rfl
  have sn := P.2.2.1
  have c40 := Sn.1
  unfold fX6_readLine fX6_headOf fX6_headOf_b24 fX6_headOf_b48 fX12_sessionLine
  rw [ho_lte, ho_lte, if_neg (show ¬ (1 : Int32) = 0 by decide), if_pos rfl, bd_bd, P.2.2.2.1.1, P.2.2.2.2.1]
  rcases wi_J (T := 1) (lo := 11) (cnt := 8) (v1 := 11) (v2 := 18) hN (by omega) (by omega) (by omega) (by omega) rfl rfl hd_1 P Fj.1 with ⟨k, hk, hsn, e1, e2⟩ | ⟨e1, e2⟩
  · rw [e1, e2, ho_bds, ho_lte, if_neg (z_m1 (by omega)), if_pos rfl, ho_bds, ho_lte, show Int32.ofNat k + 7 = Int32.ofNat (7 + k) by rw [show (7 : Int32) = Int32.ofNat 7 from rfl, nz_add, Nat.add_comm], if_neg (z_m1 (by omega)), bd_bd]
    refine adv_J hN P (fun s1 t1 t2 h1 h2 P1 F1 F2 => ?_)
    have ss := h2 hsn
    have FJ1 := Fj.fr F1 F2
    have S1 : SN c t1 t2 := Sn.fr F1.toA F2.toB (fun z => by rw [F1 _ _ (by omega)] at z; exact z)
    have sn1 := P1.2.2.1
    rw [ho_lte, if_pos (show (4 : Int32) ≤ Int32.ofNat (7 + k) by rw [z_le (by omega) (by omega)]; omega), ho_bds, ho_lte, nz_subk (a := 11) (v := 11) rfl, if_pos FJ1.1, gdT i0, n0, S1.2.1.2]
    have FF := full_J (N := N) (v4 := -1) (D := DS0) (a1 := σ1) (a2 := σ2) (s0 := s) (κ := fun t => fX12_sessionLine_b41 N (Int32.ofNat k) t) (isFull_s hk S1.1 S1.2.1.1) P1 FJ1 (by omega) (by omega) (fun u1 u2 P2 F3 A1 A2 c1 hc =>
      deed_J hN hk hn (by omega) P2 F3 (F1.toA.gc.trans (fun k j h => A1 k j (by omega))) (F2.toB.gm.trans ⟨fun j _ _ => A2 _ _ (by omega), fun j => A2 _ _ (by omega)⟩) (S1.fr (fun k j h1 h2 => A1 k j (by omega)) (fun k j h1 h2 => A2 k j (by omega)) c1) hc)
    by_cases q : c < 40
    · rw [if_pos q] at FF
      rw [if_pos (show Int32.ofNat c < 40 by rw [z_gt (by omega) (by omega)]; exact q)]
      exact FF
    · rw [if_neg q] at FF
      rw [if_neg (show ¬ Int32.ofNat c < 40 by rw [z_gt (by omega) (by omega)]; exact q)]
      exact FF
  · rw [e1, ho_bds, ho_lte, if_pos rfl, ho_bds, ho_lte, if_pos rfl, e2, bd_bd]
    obtain ⟨t2, w1, w2⟩ := ends_M (N := N) P Fj.1
    have w3 := w2.g (GM.refl σ2)
    refine bad_J (N := N) P (GC.refl _) ?_
    have m11 : fX12_sessionLine_b41 N (0 - 11) t2 = bd (fX12_numbered N 0 7 t2) (fun r s => fX12_sessionLine_b97 N (0 - 11) r (-1) s) := rfl
    rw [w1, ho_bds, ho_bds, ho_lte, w3.1, if_neg (show ¬ (1 : Int32) = 0 by decide), m11, num_W w3.1, ho_bds]
    exact se_W w3 Sn.1 (by rw [w2.2.2.2 _ _ (by omega) (by omega)]; exact Sn.2.1.2)
theorem rng_l : ∀ k, k < 2 → (rngT.getD ((15 + k) * 9) 0 = Int32.ofNat 3 ∧ rngT.getD ((15 + k) * 9 + 1 + 0) 0 = Int32.ofNat 0 ∧ rngT.getD ((15 + k) * 9 + 5 + 0) 0 = Int32.ofNat 60) ∧ (rngT.getD ((15 + k) * 9) 0 = Int32.ofNat 3 ∧ rngT.getD ((15 + k) * 9 + 1 + (0 + 1)) 0 = Int32.ofNat 0 ∧ rngT.getD ((15 + k) * 9 + 5 + (0 + 1)) 0 = Int32.ofNat 9) ∧ (rngT.getD ((15 + k) * 9) 0 = Int32.ofNat 3 ∧ rngT.getD ((15 + k) * 9 + 1 + (0 + 1 + 1)) 0 = Int32.ofNat 0 ∧ rngT.getD ((15 + k) * 9 + 5 + (0 + 1 + 1)) 0 = Int32.ofNat 6) := by decide +kernel
theorem fact_J {k c : Nat} {v4 : Int32} (hN : 10000 ≤ N) (hk : k < 2) (hn : n < 900) (h0 : s0 ≤ s) (P : PS B n s σ1 σ2) (Fj : FJ s σ1 σ2) (G1 : GC a1 σ1) (G2 : GM a2 σ2) (Ln : LN c σ1 σ2) (hc : c < 8 ∨ (8 ≤ c ∧ ¬ σ1.1 171 3 = 0)) :
    H2 (fX6_readLine_b70 N 171 (Int32.ofNat (15 + k)) v4 σ1) (fX12_logLine_b41 N (Int32.ofNat k) σ2) (QLn B n DL0 a1 a2 s0) := by
  obtain ⟨M, hM⟩ : ∃ M, N = M + 5 := ⟨N - 5, by omega⟩
  have rg := rng_l k hk
  have d0 := Ln.2.1.2
  rw [rn_eq hM (by omega), b41_eq]
  have C0 : FrAc σ1 (pI (pI σ1 191 0 (-1)) 191 1 (-1)) := FrAc.nums
  have c0 : (pI (pI σ1 191 0 (-1)) 191 1 (-1)).1 171 3 = σ1.1 171 3 := by rw [pI_nq (by omega), pI_nq (by omega)]
  refine nb_J (lo := 0) (hi := 60) hN rfl rfl rg.1 (by omega) P.nums Fj.nums (fun s1 x1 r1 u1 w1 g1 P1 F1 A1 B1 m1 o1 l1 u1' c1 => ?_) (fun t w => ?_)
  · refine nb_J (lo := 0) (hi := 9) hN rfl rfl rg.2.1 (by omega) P1 F1 (fun s2 x2 r2 u2 w2 g2 P2 F2 A2 B2 m2 o2 l2 u2' c2 => ?_) (fun t w => ?_)
    · refine nb_J (lo := 0) (hi := 6) hN rfl rfl rg.2.2 (by omega) P2 F2 (fun s3 x3 r3 u3 w3 g3 P3 F3 A3 B3 m3 o3 l3 u3' c3 => ?_) (fun t w => ?_)
      · rw [show (0 + 1 + 1 + 1 : Nat) = 3 from rfl, l33_end rg.1.1 (by omega), ho_bds]
        have cl : u3.1 171 3 = 0 → σ1.1 171 3 = 0 ∧ x1 = r1 ∧ x2 = r2 ∧ x3 = r3 := fun z => by
          obtain ⟨z3, e3⟩ := c3 z
          obtain ⟨z2, e2⟩ := c2 z3
          obtain ⟨z1, e1⟩ := c1 z2
          exact ⟨by rw [← c0]; exact z1, e1, e2, e3⟩
        have FA := ((C0.trans A1).trans A2).trans A3
        have FB := (B1.trans B2).trans B3
        have L4 : LN c u3 w3 := Ln.fr FA FB (fun z => (cl z).1)
        have y0 : u3.1 191 0 = Int32.ofNat x1 := by rw [o3 0 (by omega), o2 0 (by omega)]; exact m1
        have y1 : u3.1 191 1 = Int32.ofNat x2 := by rw [o3 1 (by omega)]; exact m2
        have y2 : u3.1 191 2 = Int32.ofNat x3 := m3
        rcases hc with hc | ⟨hc, hcl⟩
        · apply h2_r
          refine ho_mono (loT_M hc L4.2.1.2) (fun _ y ⟨q0, q1, qf⟩ => ?_)
          have PY : PS B n s3 u3 y := P3.ag (fun _ _ _ => rfl) (fun _ => rfl) (fun j _ _ => qf _ _ (by omega)) (fun j _ => qf _ _ (by omega))
          have FY : FJ s3 u3 y := F3.ag rfl rfl (qf _ _ (by omega)) (qf _ _ (by omega)) (qf _ _ (by omega))
          refine fin_J hN PY FY (G1.trans FA.gc) ((G2.trans FB.gm).trans ⟨fun j _ _ => qf _ _ (by omega), fun j => qf _ _ (by omega)⟩) (by omega) hn (fun t1 t2 L1 L2 => ?_)
          rw [addLine_l hk]
          refine ho_mono (addFact_C (k := c) hc (by rw [L1 _ _ (by omega)]; exact L4.2.1.1)) (fun _ z ⟨z0, z1, zf⟩ => ?_)
          refine ⟨fun k j h => zf k j (by omega) (by omega), c + 1, by omega, ⟨z0, ?_⟩, fun cz d hd => ?_⟩
          · rw [L2 _ _ (by omega)]; exact q0
          · rw [zf _ _ (by omega) (by omega), L1 _ _ (by omega)] at cz
            obtain ⟨_, e1, e2, e3⟩ := cl cz
            subst e1 e2 e3
            rw [L1 191 0 (by omega), L1 191 1 (by omega), L1 191 2 (by omega), y0, y1, y2] at z1
            by_cases q : d = c
            · subst q
              refine ⟨k, x1, x2, x3, by omega, by omega, by omega, by omega, z1.1, z1.2.1, z1.2.2.1, z1.2.2.2, ?_, ?_, ?_, ?_⟩
              · rw [L2 _ _ (by omega)]; exact q1.1
              · rw [L2 _ _ (by omega)]; exact q1.2.1
              · rw [L2 _ _ (by omega)]; exact q1.2.2.1
              · rw [L2 _ _ (by omega)]; exact q1.2.2.2
            · rw [zf 186 d (by omega) (by omega), zf 187 d (by omega) (by omega), zf 188 d (by omega) (by omega), zf 189 d (by omega) (by omega), L1 186 d (by omega), L1 187 d (by omega), L1 188 d (by omega), L1 189 d (by omega), L2 3 (1 + 4 * d) (by omega), L2 3 (1 + 4 * d + 1) (by omega), L2 3 (1 + 4 * d + 2) (by omega), L2 3 (1 + 4 * d + 3) (by omega), qf 3 (1 + 4 * d) (by omega), qf 3 (1 + 4 * d + 1) (by omega), qf 3 (1 + 4 * d + 2) (by omega), qf 3 (1 + 4 * d + 3) (by omega)]
              exact L4.2.2 cz d (by omega)
        · have l8 := Ln.1
          rw [loT_n (k := c) hc (by omega) L4.2.1.2, ho_bds]
          refine fin_J hN P3 F3 (G1.trans FA.gc) (G2.trans FB.gm) (by omega) hn (fun t1 t2 L1 L2 => ?_)
          rw [addLine_l hk, addFact_n (k := c) hc (by omega) (by rw [L1 _ _ (by omega)]; exact L4.2.1.1)]
          exact ⟨fun _ _ _ => rfl, c, L4.fr L1.toA L2.toB (fun z => by rw [L1 _ _ (by omega)] at z; exact z)⟩
      · have FA := (C0.trans A1).trans A2
        have FB := B1.trans B2
        exact bad_J (N := N) P2 (G1.trans FA.gc) (lo_W (w.g (G2.trans FB.gm)) Ln.1 (by rw [w.2.2.2 _ _ (by omega) (by omega), FB _ _ (by omega) (by omega)]; exact d0))
    · have FA := C0.trans A1
      refine bad_J (N := N) P1 (G1.trans FA.gc) ?_
      simp only [num_W w.1, ho_bds]
      exact lo_W (w.g (G2.trans B1.gm)) Ln.1 (by rw [w.2.2.2 _ _ (by omega) (by omega), B1 _ _ (by omega) (by omega)]; exact d0)
  · refine bad_J (N := N) P.nums (G1.trans C0.gc) ?_
    simp only [num_W w.1, ho_bds]
    exact lo_W (w.g G2) Ln.1 (by rw [w.2.2.2 _ _ (by omega) (by omega)]; exact d0)
theorem logl_J {v : Int32} (hv : ¬ v = 0 ∧ ¬ v = 1) (hN : 10000 ≤ N) (hn : n < 900) (P : PS B n s σ1 σ2) (Fj : FJ s σ1 σ2) (Dc : DL0 σ1 σ2) : H2 (fX6_readLine N 171 v σ1) (fX12_logLine N σ2) (QLn B n DL0 σ1 σ2 s) := by
  obtain ⟨c, Ln⟩ := Dc
  have i0 : inb 0 121 = true := by decide
  have n0 : (0 : Int32).toNatClampNeg = 0 := rfl
  have sn := P.2.2.1
  have c8 := Ln.1
  unfold fX6_readLine fX6_headOf fX6_headOf_b24 fX6_headOf_b48 fX12_logLine
  rw [ho_lte, ho_lte, if_neg hv.1, if_neg hv.2, bd_bd, P.2.2.2.1.1, P.2.2.2.2.1]
  rcases wi_J (T := 2) (lo := 19) (cnt := 2) (v1 := 19) (v2 := 20) hN (by omega) (by omega) (by omega) (by omega) rfl rfl hd_2 P Fj.1 with ⟨k, hk, hsn, e1, e2⟩ | ⟨e1, e2⟩
  · rw [e1, e2, ho_bds, ho_lte, if_neg (z_m1 (by omega)), if_neg hv.2, ho_bds, ho_lte, show Int32.ofNat k + 15 = Int32.ofNat (15 + k) by rw [show (15 : Int32) = Int32.ofNat 15 from rfl, nz_add, Nat.add_comm], if_neg (z_m1 (by omega)), bd_bd]
    refine adv_J hN P (fun s1 t1 t2 h1 h2 P1 F1 F2 => ?_)
    have ss := h2 hsn
    have FJ1 := Fj.fr F1 F2
    have S1 : LN c t1 t2 := Ln.fr F1.toA F2.toB (fun z => by rw [F1 _ _ (by omega)] at z; exact z)
    have sn1 := P1.2.2.1
    rw [ho_lte, if_pos (show (4 : Int32) ≤ Int32.ofNat (15 + k) by rw [z_le (by omega) (by omega)]; omega), ho_bds, ho_lte, nz_subk (a := 19) (v := 19) rfl, if_pos FJ1.1, gdT i0, n0, S1.2.1.2]
    have FF := full_J (N := N) (v4 := -1) (D := DL0) (a1 := σ1) (a2 := σ2) (s0 := s) (κ := fun t => fX12_logLine_b41 N (Int32.ofNat k) t) (isFull_l hk S1.1 S1.2.1.1) P1 FJ1 (by omega) (by omega) (fun u1 u2 P2 F3 A1 A2 c1 hc =>
      fact_J hN hk hn (by omega) P2 F3 (F1.toA.gc.trans (fun k j h => A1 k j (by omega))) (F2.toB.gm.trans ⟨fun j _ _ => A2 _ _ (by omega), fun j => A2 _ _ (by omega)⟩) (S1.fr (fun k j h1 h2 => A1 k j (by omega)) (fun k j h1 h2 => A2 k j (by omega)) c1) hc)
    by_cases q : c < 8
    · rw [if_pos q] at FF
      rw [if_pos (show Int32.ofNat c < 8 by rw [z_gt (by omega) (by omega)]; exact q)]
      exact FF
    · rw [if_neg q] at FF
      rw [if_neg (show ¬ Int32.ofNat c < 8 by rw [z_gt (by omega) (by omega)]; exact q)]
      exact FF
  · rw [e1, ho_bds, ho_lte, if_pos rfl, ho_bds, ho_lte, if_pos rfl, e2, bd_bd]
    obtain ⟨t2, w1, w2⟩ := ends_M (N := N) P Fj.1
    have w3 := w2.g (GM.refl σ2)
    refine bad_J (N := N) P (GC.refl _) ?_
    rw [w1, ho_bds, ho_bds, ho_lte, w3.1, if_neg (show ¬ (1 : Int32) = 0 by decide), b41_eq, num_W w3.1, ho_bds, num_W w3.1, ho_bds, num_W w3.1, ho_bds]
    exact lo_W w3 Ln.1 (by rw [w2.2.2.2 _ _ (by omega) (by omega)]; exact Ln.2.1.2)
end SELINE
