section CHLINE
variable {N : Nat} {B : Nat → Nat} {n s : Nat} {σ σ1 σ2 : Mem}
theorem isFull_p {k np : Nat} (hk : k < 4) (hn : np ≤ 8) (h : σ.1 172 0 = Int32.ofNat np) : fX6_isFull N 171 (Int32.ofNat k) σ = some (if np < 8 then 0 else 1, σ) := by
  unfold fX6_isFull
  rw [if_neg (show ¬ (4 : Int32) ≤ Int32.ofNat k by rw [z_le (by omega) (by omega)]; omega), show σ.1 (171 + 1) 0 = Int32.ofNat np from h]
  by_cases c : np < 8
  · rw [if_pos (show Int32.ofNat np < 8 by rw [z_gt (by omega) (by omega)]; exact c), if_pos c]
  · rw [if_neg (show ¬ Int32.ofNat np < 8 by rw [z_gt (by omega) (by omega)]; exact c), if_neg c]
theorem isFull_w {k nw : Nat} (hk : k = 4 ∨ k = 5) (hn : nw ≤ 6) (h : σ.1 172 1 = Int32.ofNat nw) : fX6_isFull N 171 (Int32.ofNat k) σ = some (if nw < 6 then 0 else 1, σ) := by
  unfold fX6_isFull
  rw [if_pos (show (4 : Int32) ≤ Int32.ofNat k by rw [z_le (by omega) (by omega)]; omega), if_neg (show ¬ (5 : Int32) < Int32.ofNat k by rw [z_lt (by omega) (by omega)]; omega), show σ.1 (171 + 1) 1 = Int32.ofNat nw from h]
  by_cases c : nw < 6
  · rw [if_pos (show Int32.ofNat nw < 6 by rw [z_gt (by omega) (by omega)]; exact c), if_pos c]
  · rw [if_neg (show ¬ Int32.ofNat nw < 6 by rw [z_gt (by omega) (by omega)]; exact c), if_neg c]
theorem isFull_6 : fX6_isFull N 171 (Int32.ofNat 6) σ = some (0, σ) := by
  unfold fX6_isFull
  rw [if_pos (by decide), if_pos (by decide), if_neg (by decide)]
theorem nz_subk {a b : Nat} {v : Int32} (e : v = Int32.ofNat a) : Int32.ofNat (a + b) - v = Int32.ofNat b := by
  rw [e, nz_subn (by omega), Nat.add_sub_cancel_left]
/-- a line of a chamber, its first word being one -/
theorem chp_J {k np nw at0 : Nat} {a1 a2 : Mem} (hN : 10000 ≤ N) (hk : k < 4) (hn : n < 900) (ha : at0 < s) (P : PS B n s σ1 σ2) (Fj : FJ at0 σ1 σ2) (G1 : GC a1 σ1) (G2 : GM a2 σ2) (Dn : DN np nw σ1 σ2) :
    H2 (bd (fX6_wordAmong N 171 3 σ1) (fun r8 s9 => lt_ r8 (fun v4_10 => if v4_10 = (-1) then bd (fX6_refuse N 171 s9) (fun _ s14 => some ((), s14)) else bd (fX6_advance N 171 s9) (fun _ s12 => fX6_readLine_b56 N 171 (Int32.ofNat at0) (Int32.ofNat k) v4_10 s12)))) (fX12_chamberLine_b97 N (Int32.ofNat at0) (Int32.ofNat (1 + k)) σ2) (QLn B n DC0 a1 a2 at0) := by
  have i0 : inb 0 121 = true := by decide
  have n0 : (0 : Int32).toNatClampNeg = 0 := rfl
  have sn := P.2.2.1
  unfold fX12_chamberLine_b97 fX12_pieceLine
  rw [nz_subk nz_1, bd_bd]
  rcases wi_J (T := 3) (lo := 8) (cnt := 3) (v1 := 8) (v2 := 10) hN (by omega) (by omega) (by omega) (by omega) rfl rfl hd_3 P Fj.1 with ⟨wd, hw, hsn, e1, e2⟩ | ⟨e1, e2⟩
  · rw [e1, e2, ho_bds, ho_lte, if_neg (z_m1 (by omega)), bd_bd]
    refine adv_J hN P (fun s1 t1 t2 h1 h2 P1 F1 F2 => ?_)
    have ss := h2 hsn
    have sn1 := P1.2.2.1
    have FJ1 := Fj.fr F1 F2
    have D1 : DN np nw t1 t2 := Dn.fr F1.toA F2.toB (fun z => by rw [F1 _ _ (by omega)] at z; exact z)
    rw [ho_bds, ho_lte, nz_subk (a := 8) (v := 8) rfl, gdT i0, n0, D1.2.1.2.2.1]
    unfold fX12_pieceLine_b28
    have FF := full_J (N := N) (v4 := Int32.ofNat wd) (D := DC0) (a1 := a1) (a2 := a2) (s0 := at0) (κ := fun t => bd (fX12_pieceLine_b48 N (Int32.ofNat k) (Int32.ofNat wd) (if np < 8 then 1 else 0) t) (fun _ u => fX12_chamberLine_b105 N u)) (isFull_p hk D1.1.1 D1.2.1.1) P1 FJ1 (by omega) (by omega) (fun u1 u2 P2 F3 A1 A2 c1 hc => by
      have D2 : DN np nw u1 u2 := D1.fr (fun k j h1 h2 => A1 k j (by omega)) (fun k j h1 h2 => A2 k j (by omega)) c1
      refine piece_J hN hk hw hn (by omega) P2 F3 ((G1.trans F1.toA.gc).trans (fun k j h => A1 k j (by omega))) ((G2.trans F2.toB.gm).trans ⟨fun j _ _ => A2 _ _ (by omega), fun j => A2 _ _ (by omega)⟩) D2 ?_
      rcases hc with hc | ⟨hc, hc2⟩
      · left; exact ⟨if_pos hc, hc⟩
      · right; exact ⟨if_neg (by omega), hc, hc2⟩)
    by_cases c : np < 8
    · rw [if_pos c, if_pos c] at FF
      rw [if_neg (show ¬ (8 : Int32) ≤ Int32.ofNat np by rw [z_le (by omega) (by omega)]; omega), ho_lte, if_pos FJ1.1, if_neg (show ¬ (1 : Int32) = 0 by decide)]
      exact FF
    · have d1 := D1.1.1
      rw [if_neg c, if_neg c] at FF
      rw [if_pos (show (8 : Int32) ≤ Int32.ofNat np by rw [z_le (by omega) (by omega)]; omega), ho_lte, if_pos FJ1.1, if_pos rfl, bd_bd]
      exact FF
  · rw [e1, ho_bds, ho_lte, if_pos rfl, e2, bd_bd]
    obtain ⟨t2, w1, w2⟩ := ends_M (N := N) P Fj.1
    have d1 := Dn.1.1
    have w3 := w2.g G2
    have h0 : t2.1 3 0 = Int32.ofNat np := by rw [w2.2.2.2 _ _ (by omega) (by omega)]; exact Dn.2.1.2.2.1
    refine bad_J (N := N) P G1 ?_
    rw [w1, ho_bds, ho_bds, ho_lte, gdT i0, n0, h0]
    unfold fX12_pieceLine_b28
    by_cases c : np < 8
    · rw [if_neg (show ¬ (8 : Int32) ≤ Int32.ofNat np by rw [z_le (by omega) (by omega)]; omega), ho_lte, w3.1, if_neg (show ¬ (1 : Int32) = 0 by decide), b48_eq]
      simp only [num_W w3.1, ho_bds]
      exact pc_W w3 h0 (Or.inl ⟨rfl, c⟩)
    · rw [if_pos (show (8 : Int32) ≤ Int32.ofNat np by rw [z_le (by omega) (by omega)]; omega), ho_lte, w3.1, if_neg (show ¬ (1 : Int32) = 0 by decide), b48_eq]
      simp only [num_W w3.1, ho_bds]
      exact pc_W w3 h0 (Or.inr rfl)
theorem chw_J {k np nw at0 : Nat} {v2 : Int32} {a1 a2 : Mem} (hN : 10000 ≤ N) (hk : (k = 4 ∧ v2 = 1) ∨ (k = 5 ∧ v2 = 0)) (hn : n < 900) (ha : at0 < s) (P : PS B n s σ1 σ2) (Fj : FJ at0 σ1 σ2) (G1 : GC a1 σ1) (G2 : GM a2 σ2) (Dn : DN np nw σ1 σ2) :
    H2 (fX6_readLine_b56 N 171 (Int32.ofNat at0) (Int32.ofNat k) (-1) σ1) (fX12_chamberLine_b75 N v2 (Int32.ofNat at0) σ2) (QLn B n DC0 a1 a2 at0) := by
  have i0 : inb 1 121 = true := by decide
  have n0 : (1 : Int32).toNatClampNeg = 1 := rfl
  have sn := P.2.2.1
  have d6 := Dn.1.2
  unfold fX12_chamberLine_b75 fX12_personLine fX12_personLine_b16
  rw [gdT i0, n0, Dn.2.1.2.2.2]
  have FF := full_J (N := N) (v4 := -1) (D := DC0) (a1 := a1) (a2 := a2) (s0 := at0) (κ := fun t => bd (fX12_personLine_b27 N v2 (if nw < 6 then 1 else 0) t) (fun _ u => fX12_chamberLine_b105 N u)) (isFull_w (hk.elim (fun z => Or.inl z.1) (fun z => Or.inr z.1)) Dn.1.2 Dn.2.1.2.1) P Fj (by omega) (by omega) (fun u1 u2 P2 F3 A1 A2 c1 hc => by
    have D2 : DN np nw u1 u2 := Dn.fr (fun k j h1 h2 => A1 k j (by omega)) (fun k j h1 h2 => A2 k j (by omega)) c1
    have GG1 : GC a1 u1 := G1.trans (fun k j h => A1 k j (by omega))
    have GG2 : GM a2 u2 := G2.trans ⟨fun j _ _ => A2 _ _ (by omega), fun j => A2 _ _ (by omega)⟩
    have hv : ((if nw < 6 then (1 : Int32) else 0) = 1 ∧ nw < 6) ∨ ((if nw < 6 then (1 : Int32) else 0) = 0 ∧ 6 ≤ nw ∧ ¬ u1.1 171 3 = 0) := by
      rcases hc with hc | ⟨hc, hc2⟩
      · left; exact ⟨if_pos hc, hc⟩
      · right; exact ⟨if_neg (by omega), hc, hc2⟩
    rcases hk with ⟨k1, k2⟩ | ⟨k1, k2⟩
    · subst k1 k2
      exact sits_J hN hn (by omega) P2 F3 GG1 GG2 D2 hv
    · subst k1 k2
      exact stands_J hN hn (by omega) P2 F3 GG1 GG2 D2 hv)
  by_cases c : nw < 6
  · rw [if_pos c, if_pos c] at FF
    rw [if_neg (show ¬ (6 : Int32) ≤ Int32.ofNat nw by rw [z_le (by omega) (by omega)]; omega), ho_lte, if_neg (show ¬ (1 : Int32) = 0 by decide)]
    exact FF
  · rw [if_neg c, if_neg c] at FF
    rw [if_pos (show (6 : Int32) ≤ Int32.ofNat nw by rw [z_le (by omega) (by omega)]; omega), ho_lte, if_pos rfl, bd_bd]
    exact FF
theorem cham_J (hN : 10000 ≤ N) (hn : n < 900) (P : PS B n s σ1 σ2) (Fj : FJ s σ1 σ2) (Dc : DC0 σ1 σ2) : H2 (fX6_readLine N 171 0 σ1) (fX12_chamberLine N σ2) (QLn B n DC0 σ1 σ2 s) := by
  obtain ⟨np, nw, Dn⟩ := Dc
  have sn := P.2.2.1
  unfold fX6_readLine fX6_headOf fX12_chamberLine
  rw [ho_lte, ho_lte, if_pos rfl, bd_bd, P.2.2.2.1.1, P.2.2.2.2.1]
  rcases wi_J (T := 0) (lo := 1) (cnt := 7) (v1 := 1) (v2 := 7) hN (by omega) (by omega) (by omega) (by omega) rfl rfl hd_0 P Fj.1 with ⟨k, hk, hsn, e1, e2⟩ | ⟨e1, e2⟩
  · rw [e1, e2, ho_bds, ho_bds, ho_lte, if_neg (z_m1 (by omega)), bd_bd]
    refine adv_J hN P (fun s1 t1 t2 h1 h2 P1 F1 F2 => ?_)
    have ss := h2 hsn
    have FJ1 := Fj.fr F1 F2
    have D1 : DN np nw t1 t2 := Dn.fr F1.toA F2.toB (fun z => by rw [F1 _ _ (by omega)] at z; exact z)
    have G1 : GC σ1 t1 := F1.toA.gc
    have G2 : GM σ2 t2 := F2.toB.gm
    have sn1 := P1.2.2.1
    simp only [ho_bds, ho_lte]
    by_cases c : k < 4
    · have pj := chp_J hN c hn ss P1 FJ1 G1 G2 D1
      rw [if_neg (show ¬ (4 : Int32) ≤ Int32.ofNat k by rw [z_le (by omega) (by omega)]; omega)]
      simp only [ho_lte] at pj
      have cs : k = 0 ∨ k = 1 ∨ k = 2 ∨ k = 3 := by omega
      rcases cs with e | e | e | e <;> subst e <;> exact pj
    · rw [if_pos (show (4 : Int32) ≤ Int32.ofNat k by rw [z_le (by omega) (by omega)]; omega)]
      have cs : k = 4 ∨ k = 5 ∨ k = 6 := by omega
      rcases cs with e | e | e <;> subst e
      · exact chw_J hN (Or.inl ⟨rfl, rfl⟩) hn ss P1 FJ1 G1 G2 D1
      · exact chw_J hN (Or.inr ⟨rfl, rfl⟩) hn ss P1 FJ1 G1 G2 D1
      · have dj := damp_J (v4 := -1) hN hn (show s ≤ s1 by omega) P1 (FJ1.mono (by omega) (by omega)) G1 G2 D1
        unfold fX6_readLine_b56
        rw [isFull_6, ho_bds, if_pos rfl]
        exact dj
  · rw [e1, ho_bds, ho_bds, ho_lte, if_pos rfl, e2, bd_bd]
    obtain ⟨t2, w1, w2⟩ := ends_M (N := N) P Fj.1
    have w3 := w2.g (GM.refl σ2)
    refine bad_J (N := N) P (GC.refl _) ?_
    rw [w1, ho_bds, ho_bds, ho_lte, if_pos rfl, b105_eq, line_W w3.1]
    exact w3
end CHLINE
