section
variable {N c np nw mm : Nat} {C : Vw} {σ s : Mem}
theorem seatT {w i : Nat} (h : okT (asT C) np w i = true) : Seat np (Int32.ofNat i) := by
  unfold okT at h
  rw [Bool.and_eq_true, Bool.or_eq_true, decide_eq_true_eq, decide_eq_true_eq] at h
  rcases h.1 with q | q
  · exact Or.inr ⟨i, q, rfl⟩
  · rw [q]; exact Or.inl rfl
theorem moved0_M (hN : 10000 ≤ N) (W : WfV C np nw) (H : HcM s c C np nw) (K : KM σ s) : Ho (fX12_areMoved N (Int32.ofNat mm) 0 s) (fun v t => HcM t c C np nw ∧ BsM t nw v (pfB (asT C) np nw (Int32.ofNat mm) none 0 nw) ∧ KM σ t) := by
  have W' := asT_wf W
  have h6 := W.2.1
  obtain ⟨k, hk⟩ : ∃ k, N = k + 2 := ⟨N - 2, by omega⟩
  unfold fX12_areMoved
  simp only [ho_lt]
  refine ho_loop (F := fun n (b : Int32 × Int32) t => fX12_areMoved_l5 N n (Int32.ofNat mm) 0 b.1 b.2 t) (fun w b t => b.2 = Int32.ofNat w ∧ HcM t c C np nw ∧ BsM t nw b.1 (pfB (asT C) np nw (Int32.ofNat mm) none 0 w) ∧ KM σ t) nw ?_ ?_ nw N 0 (0, 0) s (by omega) (by omega) ⟨rfl, H, Or.inl ⟨rfl, rfl⟩, K⟩
  · rintro n w ⟨v3, b⟩ t hw ⟨e1, H1, B1, K1⟩ rec
    dsimp only at e1 B1; subst e1
    simp only [fX12_areMoved_l5, fX12_areMoved_b5, ho_lte]
    rw [H1.2.1.2.2, if_neg (show ¬ Int32.ofNat nw ≤ Int32.ofNat w by rw [nz_le (by omega) (by omega)]; omega)]
    refine ho_loop (F := fun n' (b : Int32 × Int32) t => fX12_areMoved_l17 N (fX12_areMoved_l5 N n) n' (Int32.ofNat mm) 0 b.1 (Int32.ofNat w) b.2 t) (fun i b t => b.2 = Int32.ofNat i ∧ HcM t c C np nw ∧ BsM t nw b.1 (onB (asT C) np nw (Int32.ofNat mm) w (pfB (asT C) np nw (Int32.ofNat mm) none 0 w) i) ∧ KM σ t) 9 ?_ ?_ 9 N 0 (v3, 0) t (by omega) (by omega) ⟨rfl, H1, B1, K1⟩
    · rintro n' i ⟨v3, b⟩ t hi ⟨e1, H1, B1, K1⟩ rec'
      dsimp only at e1 B1; subst e1
      generalize hr17 : fX12_areMoved_l17 N (fX12_areMoved_l5 N n) n' = rc17 at rec'
      simp only [fX12_areMoved_l17, fX12_areMoved_b17, hr17]
      rw [if_neg (show ¬ (8 : Int32) < Int32.ofNat i by rw [z_lt (by omega) (by omega)]; omega), isSeat_M (t := 0) W H1 hw (by omega), ho_bds]
      simp only [ite10]
      have nx : onB (asT C) np nw (Int32.ofNat mm) w (pfB (asT C) np nw (Int32.ofNat mm) none 0 w) (i + 1) = if okT (asT C) np w i = true then upB (upV (asT C) 9 w (Int32.ofNat i)) np nw (Int32.ofNat mm) (onB (asT C) np nw (Int32.ofNat mm) w (pfB (asT C) np nw (Int32.ofNat mm) none 0 w) i) else onB (asT C) np nw (Int32.ofNat mm) w (pfB (asT C) np nw (Int32.ofNat mm) none 0 w) i := rfl
      by_cases o : okT (asT C) np w i = true
      · rw [if_neg (show ¬ ¬ okT (asT C) np w i = true from fun h => h o), if_pos trivial]
        rw [if_pos o] at nx
        generalize hr5 : fX12_areMoved_l5 N n = rc5
        have e53 : ∀ f, f = k + 2 → fX12_areMoved_l53 N rc5 rc17 f = fX12_areMoved_b53 N rc5 rc17 (fX12_areMoved_b53 N rc5 rc17 (fX12_areMoved_l53 N rc5 rc17 k)) := by rintro _ rfl; rfl
        have e76 : ∀ f rc, f = k + 2 → fX12_areMoved_l76 N rc5 rc17 rc f = fX12_areMoved_b76 N rc5 rc17 rc (fX12_areMoved_b76 N rc5 rc17 rc (fX12_areMoved_l76 N rc5 rc17 rc k)) := by rintro _ _ rfl; rfl
        unfold fX12_areMoved_b51
        rw [ho_lte, e53 N hk]
        have hd : Int32.ofNat w + 1 = Int32.ofNat (w + 1) := nz_succ
        rw [fX12_areMoved_b53, if_pos rfl, fX12_areMoved_b70, hd, if_neg (show ¬ Int32.ofNat (w + 1) ≤ Int32.ofNat w by rw [nz_le (by omega) (by omega)]; omega), ho_lte, e76 N _ hk]
        rw [fX12_areMoved_b76, if_pos rfl, fX12_areMoved_b88, if_neg (by decide), if_pos rfl, fX12_areMoved_b109, ho_bd]
        refine ho_mono (asTold_M hN H1) (fun _ u ⟨HA, F2, _, _⟩ => ?_)
        rw [if_pos rfl]
        have B2 := B1.ag (F2.cell (k := 9) (by omega))
        refine b126_M hN (upV_wf9 W' (seatT o)) HA B2 (K1.trans F2.km) hw (fun t' v HT BT KT => ?_)
        rw [fX12_areMoved_b76, if_pos rfl, fX12_areMoved_b88, if_pos (by decide), ho_lte, hd, fX12_areMoved_b53, if_pos rfl, fX12_areMoved_b70, hd, if_pos (show Int32.ofNat (w + 1) ≤ Int32.ofNat (w + 1) by rw [nz_le (by omega) (by omega)]; omega), fX12_areMoved_b203, ho_lte, nz_succ]
        exact rec' (_, _) _ ⟨rfl, HT.1, by rw [nx]; exact BT, KT⟩
      · rw [if_pos o, fX12_areMoved_b203, ho_lte, nz_succ]
        rw [if_neg o] at nx
        exact rec' (_, _) _ ⟨rfl, H1, by rw [nx]; exact B1, K1⟩
    · rintro n' ⟨v3, b⟩ t ⟨e1, H1, B1, K1⟩
      dsimp only at e1 B1; subst e1
      simp only [fX12_areMoved_l17, fX12_areMoved_b17, ho_lte, nz_succ]
      rw [if_pos (by decide)]
      exact rec (_, _) _ ⟨rfl, H1, by simp only [pfB]; rw [if_pos (Nat.zero_le _)]; exact B1, K1⟩
  · rintro n ⟨v3, b⟩ t ⟨e1, H1, B1, K1⟩
    dsimp only at e1 B1; subst e1
    simp only [fX12_areMoved_l5, fX12_areMoved_b5]
    have v01 : v3 = 0 ∨ v3 = 1 := by rcases B1 with ⟨_, h⟩ | ⟨_, _, _, h, _⟩ <;> simp [h]
    rw [H1.2.1.2.2, if_pos (show Int32.ofNat nw ≤ Int32.ofNat nw by rw [nz_le (by omega) (by omega)]; omega), gdD v01]
    exact ⟨H1, B1, K1⟩
theorem moved1_M (hN : 10000 ≤ N) (W : WfV C np nw) (H : HcM s c C np nw) (K : KM σ s) : Ho (fX12_areMoved N (Int32.ofNat mm) 1 s) (fun v t => HcM t c C np nw ∧ BsM t nw v (alB (asT C) np nw (Int32.ofNat mm) none nw) ∧ KM σ t) := by
  have W' := asT_wf W
  have h6 := W.2.1
  have n10 : ¬ (1 : Int32) = 0 := by decide
  unfold fX12_areMoved
  simp only [ho_lt]
  refine ho_loop (F := fun n (b : Int32 × Int32) t => fX12_areMoved_l5 N n (Int32.ofNat mm) 1 b.1 b.2 t) (fun w b t => b.2 = Int32.ofNat w ∧ HcM t c C np nw ∧ BsM t nw b.1 (alB (asT C) np nw (Int32.ofNat mm) none w) ∧ KM σ t) nw ?_ ?_ nw N 0 (0, 0) s (by omega) (by omega) ⟨rfl, H, Or.inl ⟨rfl, rfl⟩, K⟩
  · rintro n w ⟨v3, b⟩ t hw ⟨e1, H1, B1, K1⟩ rec
    dsimp only at e1 B1; subst e1
    simp only [fX12_areMoved_l5, fX12_areMoved_b5, ho_lte]
    rw [H1.2.1.2.2, if_neg (show ¬ Int32.ofNat nw ≤ Int32.ofNat w by rw [nz_le (by omega) (by omega)]; omega)]
    refine ho_loop (F := fun n' (b : Int32 × Int32) t => fX12_areMoved_l17 N (fX12_areMoved_l5 N n) n' (Int32.ofNat mm) 1 b.1 (Int32.ofNat w) b.2 t) (fun i b t => b.2 = Int32.ofNat i ∧ HcM t c C np nw ∧ BsM t nw b.1 (twB (asT C) np nw (Int32.ofNat mm) w (alB (asT C) np nw (Int32.ofNat mm) none w) i) ∧ KM σ t) 9 ?_ ?_ 9 N 0 (v3, 0) t (by omega) (by omega) ⟨rfl, H1, B1, K1⟩
    · rintro n' i ⟨v3, b⟩ t hi ⟨e1, H1, B1, K1⟩ rec'
      dsimp only at e1 B1; subst e1
      generalize hr17 : fX12_areMoved_l17 N (fX12_areMoved_l5 N n) n' = rc17 at rec'
      simp only [fX12_areMoved_l17, fX12_areMoved_b17, hr17]
      rw [if_neg (show ¬ (8 : Int32) < Int32.ofNat i by rw [z_lt (by omega) (by omega)]; omega), isSeat_M (t := 0) W H1 hw (by omega), ho_bds]
      simp only [ite10]
      generalize hB0 : alB (asT C) np nw (Int32.ofNat mm) none w = B0 at *
      have nx : twB (asT C) np nw (Int32.ofNat mm) w B0 (i + 1) = if okT (asT C) np w i = true then pfB (upV (asT C) 9 w (Int32.ofNat i)) np nw (Int32.ofNat mm) (twB (asT C) np nw (Int32.ofNat mm) w B0 i) (w + 1) nw else twB (asT C) np nw (Int32.ofNat mm) w B0 i := rfl
      by_cases o : okT (asT C) np w i = true
      · rw [if_neg (show ¬ ¬ okT (asT C) np w i = true from fun h => h o), if_neg n10]
        rw [if_pos o] at nx
        generalize hr5 : fX12_areMoved_l5 N n = rc5
        generalize hB2 : twB (asT C) np nw (Int32.ofNat mm) w B0 i = B2 at *
        unfold fX12_areMoved_b51
        rw [ho_lte, nz_succ]
        refine ho_loop (F := fun n'' (b : Int32 × Int32) t => fX12_areMoved_l53 N rc5 rc17 n'' (Int32.ofNat mm) 1 b.1 (Int32.ofNat w) (Int32.ofNat i) b.2 t) (fun q b t => b.2 = Int32.ofNat q ∧ w + 1 ≤ q ∧ HcM t c C np nw ∧ BsM t nw b.1 (pfB (upV (asT C) 9 w (Int32.ofNat i)) np nw (Int32.ofNat mm) B2 (w + 1) q) ∧ KM σ t) nw ?_ ?_ (nw - (w + 1)) N (w + 1) (v3, _) t (by omega) (by omega) ⟨rfl, Nat.le_refl _, H1, by rw [pfB_low _ (Nat.le_refl _)]; exact B1, K1⟩
        · rintro n'' q ⟨v3, b⟩ t hq ⟨e1, hwq, H1, B1, K1⟩ rec''
          dsimp only at e1 B1; subst e1
          generalize hr53 : fX12_areMoved_l53 N rc5 rc17 n'' = rc53 at rec''
          simp only [fX12_areMoved_l53, hr53]
          rw [fX12_areMoved_b53, if_neg n10, fX12_areMoved_b70, H1.2.1.2.2, if_neg (show ¬ Int32.ofNat nw ≤ Int32.ofNat q by rw [nz_le (by omega) (by omega)]; omega), ho_lte]
          generalize hB3 : pfB (upV (asT C) 9 w (Int32.ofNat i)) np nw (Int32.ofNat mm) B2 (w + 1) q = B3 at *
          refine ho_loop (F := fun n3 (b : Int32 × Int32) t => fX12_areMoved_l76 N rc5 rc17 rc53 n3 (Int32.ofNat mm) 1 b.1 (Int32.ofNat w) (Int32.ofNat i) (Int32.ofNat q) b.2 t) (fun x b t => b.2 = Int32.ofNat x ∧ HcM t c C np nw ∧ BsM t nw b.1 (onB (upV (asT C) 9 w (Int32.ofNat i)) np nw (Int32.ofNat mm) q B3 x) ∧ KM σ t) 9 ?_ ?_ 9 N 0 (v3, 0) t (by omega) (by omega) ⟨rfl, H1, B1, K1⟩
          · rintro n3 x ⟨v3, b⟩ t hx ⟨e1, H1, B1, K1⟩ rec3
            dsimp only at e1 B1; subst e1
            generalize hr76 : fX12_areMoved_l76 N rc5 rc17 rc53 n3 = rc76 at rec3
            simp only [fX12_areMoved_l76, hr76]
            rw [fX12_areMoved_b76, if_neg n10, fX12_areMoved_b88, if_neg (show ¬ (8 : Int32) < Int32.ofNat x by rw [z_lt (by omega) (by omega)]; omega), if_neg n10, isSeat_M (t := 0) W H1 hq (by omega), ho_bds]
            simp only [ite10]
            have ok2 : okT (upV (asT C) 9 w (Int32.ofNat i)) np q x = okT (asT C) np q x := by unfold okT; rw [upV_ne _ _ (by omega)]
            have nx2 : onB (upV (asT C) 9 w (Int32.ofNat i)) np nw (Int32.ofNat mm) q B3 (x + 1) = if okT (upV (asT C) 9 w (Int32.ofNat i)) np q x = true then upB (upV (upV (asT C) 9 w (Int32.ofNat i)) 9 q (Int32.ofNat x)) np nw (Int32.ofNat mm) (onB (upV (asT C) 9 w (Int32.ofNat i)) np nw (Int32.ofNat mm) q B3 x) else onB (upV (asT C) 9 w (Int32.ofNat i)) np nw (Int32.ofNat mm) q B3 x := rfl
            rw [ok2] at nx2
            by_cases o2 : okT (asT C) np q x = true
            · rw [if_neg (show ¬ ¬ okT (asT C) np q x = true from fun h => h o2), fX12_areMoved_b109, ho_bd]
              rw [if_pos o2, upV_comm (by omega)] at nx2
              refine ho_mono (asTold_M hN H1) (fun _ u ⟨HA, F2, _, _⟩ => ?_)
              rw [if_neg n10, nz_inb (by omega), nz_nat (by omega), decide_eq_true (show q < 6 by omega), ho_gdt, ho_lte]
              have B4 := (B1.ag (F2.cell (k := 9) (by omega))).ag (t' := pI u 6 q (Int32.ofNat x)) (pI_ne (by omega))
              have KU : KM σ (pI u 6 q (Int32.ofNat x)) := (K1.trans F2.km).trans ⟨pI_ne (by omega), pI_ne (by omega)⟩
              refine b126_M hN (upV_wf9 (upV_wf9 W' (seatT o2)) (seatT o)) HA.seat B4 KU hw (fun t' v HT BT KT => ?_)
              rw [nz_succ]
              exact rec3 (_, _) _ ⟨rfl, HT.1, by rw [nx2]; exact BT, KT⟩
            · rw [if_pos o2, fX12_areMoved_b191, ho_lte, nz_succ]
              rw [if_neg o2] at nx2
              exact rec3 (_, _) _ ⟨rfl, H1, by rw [nx2]; exact B1, K1⟩
          · rintro n3 ⟨v3, b⟩ t ⟨e1, H1, B1, K1⟩
            dsimp only at e1 B1; subst e1
            simp only [fX12_areMoved_l76]
            rw [fX12_areMoved_b76, if_neg n10, fX12_areMoved_b88, if_pos (by decide), ho_lte, nz_succ]
            exact rec'' (_, _) _ ⟨rfl, by omega, H1, by simp only [pfB]; rw [if_pos hwq, hB3]; exact B1, K1⟩
        · rintro n'' ⟨v3, b⟩ t ⟨e1, hwq, H1, B1, K1⟩
          dsimp only at e1 B1; subst e1
          simp only [fX12_areMoved_l53]
          rw [fX12_areMoved_b53, if_neg n10, fX12_areMoved_b70, H1.2.1.2.2, if_pos (show Int32.ofNat nw ≤ Int32.ofNat nw by rw [nz_le (by omega) (by omega)]; omega), fX12_areMoved_b203, ho_lte, nz_succ]
          exact rec' (_, _) _ ⟨rfl, H1, by rw [nx]; exact B1, K1⟩
      · rw [if_pos o, fX12_areMoved_b203, ho_lte, nz_succ]
        rw [if_neg o] at nx
        exact rec' (_, _) _ ⟨rfl, H1, by rw [nx]; exact B1, K1⟩
    · rintro n' ⟨v3, b⟩ t ⟨e1, H1, B1, K1⟩
      dsimp only at e1 B1; subst e1
      simp only [fX12_areMoved_l17, fX12_areMoved_b17, ho_lte, nz_succ]
      rw [if_pos (by decide)]
      exact rec (_, _) _ ⟨rfl, H1, B1, K1⟩
  · rintro n ⟨v3, b⟩ t ⟨e1, H1, B1, K1⟩
    dsimp only at e1 B1; subst e1
    simp only [fX12_areMoved_l5, fX12_areMoved_b5]
    have v01 : v3 = 0 ∨ v3 = 1 := by rcases B1 with ⟨_, h⟩ | ⟨_, _, _, h, _⟩ <;> simp [h]
    rw [H1.2.1.2.2, if_pos (show Int32.ofNat nw ≤ Int32.ofNat nw by rw [nz_le (by omega) (by omega)]; omega), gdD v01]
    exact ⟨H1, B1, K1⟩
end
