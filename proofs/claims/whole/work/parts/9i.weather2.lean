def wqV (C : Vw) (np nw mm : Nat) (d : Nat) : Bool := carV (upV (asT C) 1 2 (Int32.ofNat d)) np nw (Int32.ofNat mm)
theorem asT_up {C : Vw} : asT C = upV (asT C) 1 2 (asT C 1 2) := upV_self.symm
theorem damps_C {σ : Mem} {N h k np nw mm : Nat} {C : Vw} (hN : 10000 ≤ N) (W : WfV C np nw) (H : ChC σ k C np nw) (hd : k + 9 ≤ h + 1) (hm : mm < 64) : Ho (fX10_carryingDamps N h k (Int32.ofNat mm) σ) (fun v s => v = Int32.ofNat (mkB (wqV C np nw mm) 10) ∧ FrC (h + 1) (h + 14) σ s) := by
  unfold fX10_carryingDamps
  rw [ho_bd]
  refine ho_mono (enter_C hN W H hd) (fun _ s ⟨HA, _, _, F⟩ => ?_)
  simp only [ho_lt]
  refine ho_loop (F := fun m (b : Int32 × Int32) t => fX10_carryingDamps_l13 N h m (Int32.ofNat mm) b.1 b.2 t) (fun i b t => b.1 = Int32.ofNat (mkB (wqV C np nw mm) i) ∧ b.2 = Int32.ofNat i ∧ (∃ u, HaC t (h + 1) (upV (asT C) 1 2 u) np nw) ∧ FrC (h + 1) (h + 14) σ t) 10 ?_ ?_ 10 N 0 (0, 0) s (by omega) (by omega) ⟨rfl, rfl, ⟨_, asT_up ▸ HA⟩, F.wide (by omega) (by omega)⟩
  · rintro m i ⟨a, x⟩ t hi ⟨e1, e2, ⟨u, H1⟩, F⟩ rec
    dsimp only at e1 e2; subst e1 e2
    have H2' := H1.damp (v := Int32.ofNat i)
    rw [upV_up] at H2'
    have W2 : WfV (upV (asT C) 1 2 (Int32.ofNat i)) np nw := upV_wf (asT_wf W) (by omega)
    simp only [fX10_carryingDamps_l13, fX10_carryingDamps_b13, fX10_carryingDamps_b50, ho_lte, nz_succ]
    rw [if_neg (show ¬ (9 : Int32) < Int32.ofNat i by rw [z_lt (by omega) (by omega)]; omega), ho_bd]
    refine ho_mono (vote_C W2 H2' hN hm) (fun r t2 ⟨hr, V⟩ => ?_)
    have F2 : FrC (h + 1) (h + 14) σ t2 := (F.pI (by omega)).trans (V.1.toC.wide (by omega) (by omega))
    have lc := lead_car W2 (Int32.ofNat mm)
    rw [hr, shl10 i hi, or_n]
    by_cases c : carV (upV (asT C) 1 2 (Int32.ofNat i)) np nw (Int32.ofNat mm) = true
    · rw [if_neg (fun q => by rw [lc, c] at q; cases q)]
      exact rec (_, _) _ ⟨by simp only [mkB]; rw [if_pos (show wqV C np nw mm i = true from c)]; rfl, rfl, ⟨_, H2'.frv V.1⟩, F2⟩
    · rw [if_pos (lc.mpr (by simpa using c))]
      exact rec (_, _) _ ⟨by simp only [mkB]; rw [if_neg (show ¬ wqV C np nw mm i = true from c)]; rfl, rfl, ⟨_, H2'.frv V.1⟩, F2⟩
  · rintro m ⟨a, x⟩ t ⟨e1, e2, _, F⟩
    dsimp only at e1 e2; subst e1 e2
    simp only [fX10_carryingDamps_l13, fX10_carryingDamps_b13]
    rw [if_pos (by decide)]
    exact ⟨rfl, F⟩
theorem behind_C {σ σ0 : Mem} {N k np nw mm n p d0 : Nat} {C : Vw} (hN : 10000 ≤ N) (W : WfV C np nw) (H : ChC σ k C np nw) (hd : k + 9 ≤ 192) (hm : mm < 64) (hn : n ≤ 9) (hp : p ≤ 10) (hd0 : d0 ≤ 9) (e0 : C 1 2 = Int32.ofNat d0) (K : KC σ0 σ) : Ho (fX10_chancesBehind N (0 + 220) k (Int32.ofNat mm) (Int32.ofNat n) (Int32.ofNat p) σ) (fun v s => v = Int64.ofNat (wsN (wqV C np nw mm) (rowN p d0 n) 10) ∧ KC σ0 s) := by
  unfold fX10_chancesBehind fX10_chancesBehind_b42
  rw [ho_bd]
  refine ho_mono (damps_C hN W H (by omega) hm) (fun v s ⟨hv, F⟩ => ?_)
  subst hv
  simp only [ho_lt]
  have VRs : VR s := by
    have := K.2.2
    unfold VR at *
    rw [F.1 220 (by omega)]; exact this
  have key : ∃ x y, ((x = 234 ∧ y = 235) ∨ (x = 235 ∧ y = 234)) ∧ s.1 (0 + 220) 1 = Int32.ofNat x ∧ s.1 (0 + 220) 2 = Int32.ofNat y := by
    rcases VRs with q | q
    · exact ⟨234, 235, Or.inl ⟨rfl, rfl⟩, q.1, q.2⟩
    · exact ⟨235, 234, Or.inr ⟨rfl, rfl⟩, q.1, q.2⟩
  obtain ⟨x, y, xy, e1, e2⟩ := key
  have kx := kd53 (x := x) (by omega)
  have nx : (Int32.ofNat x).toNatClampNeg = x := nz_nat (by omega)
  rw [e1, nx, kx, decide_eq_true rfl, ho_gdt, ho_bd]
  refine ho_mono (fillL_C hN) (fun _ u ⟨f1, f2, f3⟩ => ?_)
  have dk : u.1 k 2 = Int32.ofNat d0 := by rw [f1, F.1 k (by omega), H.2.2.1, e0]
  rw [dk, if_neg (z_neg (by omega)), if_neg (show ¬ (9 : Int32) < Int32.ofNat d0 by rw [z_lt (by omega) (by omega)]; omega)]
  have k1 : kdC (u.1 (0 + 220) 1).toNatClampNeg = (53, 10) := by rw [f1, e1, nx, kx]
  rw [gdD k1, nz_inb (by omega), nz_nat (by omega), decide_eq_true (by omega), ho_gdt, f1, e1, nx]
  have fin : ∀ t, WeC (0 + 220) s t (rowN p d0 n) → KC σ0 t := by
    rintro t ⟨x, y, xy, e1, e2, e3, e4⟩
    refine ⟨fun j hj => ?_, ?_, ?_⟩
    · rw [← K.1 j hj, ← F.1 j (by omega)]; funext i; exact e4 j i (by omega)
    · rw [e4 _ _ (by omega), F.1 269 (by omega)]; exact K.2.1
    · rcases xy with ⟨rfl, rfl⟩ | ⟨rfl, rfl⟩
      · exact Or.inl ⟨e1, e2⟩
      · exact Or.inr ⟨e1, e2⟩
  refine ho_loop (F := fun m (b : Int32) t => fX10_chancesBehind_l45 N (0 + 220) m (Int32.ofNat n) (Int32.ofNat p) (Int32.ofNat (mkB (wqV C np nw mm) 10)) b t) (fun i b t => b = Int32.ofNat i ∧ WeC (0 + 220) s t (rowN p d0 i)) n ?_ ?_ n N 0 0 _ (by omega) (by omega) ⟨rfl, x, y, xy, by rw [pL_1, f1, e1], by rw [pL_1, f1, e2], fun d hd => ?_, fun k j _ => by rw [pL_1, f1]⟩
  · rintro m i b t hi ⟨e1, We⟩ rec
    subst e1
    simp only [fX10_chancesBehind_l45, fX10_chancesBehind_b45]
    rw [if_neg (show ¬ Int32.ofNat n ≤ Int32.ofNat i by rw [nz_le (by omega) (by omega)]; omega), ho_bd]
    refine ho_mono (passDay_C hN hp We) (fun _ t2 We2 => ?_)
    simp only [ho_lte, nz_succ]
    exact rec _ _ ⟨rfl, We2⟩
  · rintro m b t ⟨e1, We⟩
    subst e1
    simp only [fX10_chancesBehind_l45, fX10_chancesBehind_b45, ho_lte]
    rw [if_pos (show Int32.ofNat n ≤ Int32.ofNat n by rw [nz_le (by omega) (by omega)]; omega)]
    have kt := fin t We
    obtain ⟨x, y, xy, e1, e2, e3, e4⟩ := We
    have kx := kd53 (x := x) (by omega)
    have nx : (Int32.ofNat x).toNatClampNeg = x := nz_nat (by omega)
    have ml := mkB_lt (q := wqV C np nw mm) 10
    refine ho_loop (F := fun m (b : Int64 × Int32) t => fX10_chancesBehind_l69 N (0 + 220) m (Int32.ofNat (mkB (wqV C np nw mm) 10)) b.1 b.2 t) (fun i b t' => b.1 = Int64.ofNat (wsN (wqV C np nw mm) (rowN p d0 n) i) ∧ b.2 = Int32.ofNat i ∧ t' = t) 10 ?_ ?_ 10 N 0 (0, 0) t (by omega) (by omega) ⟨rfl, rfl, rfl⟩
    · rintro m i ⟨a, b⟩ t' hi ⟨g1, g2, g3⟩ rec
      dsimp only at g1 g2; subst g1 g2 g3
      simp only [fX10_chancesBehind_l69, fX10_chancesBehind_b69, fX10_chancesBehind_b98, ho_lte, nz_succ]
      rw [if_neg (show ¬ (9 : Int32) < Int32.ofNat i by rw [z_lt (by omega) (by omega)]; omega)]
      have k1 : kdC (t'.1 (0 + 220) 1).toNatClampNeg = (53, 10) := by rw [e1, nx, kx]
      rw [gdD k1, nz_inb (by omega), nz_nat (show i < 2147483648 by omega), decide_eq_true hi, ho_gdt, e1, nx, e3 i hi, l_add]
      have bt := bt10 _ (show mkB (wqV C np nw mm) 10 < 1024 from ml) i hi
      rw [mkB_bit, decide_eq_true hi, Bool.true_and] at bt
      by_cases c : wqV C np nw mm i = true
      · rw [if_neg (fun q => by rw [bt, c] at q; cases q)]
        exact rec (_, _) _ ⟨by simp only [wsN]; rw [if_pos c]; rfl, rfl, rfl⟩
      · rw [if_pos (bt.mpr (by simpa using c))]
        exact rec (_, _) _ ⟨by simp only [wsN]; rw [if_neg c]; rfl, rfl, rfl⟩
    · rintro m ⟨a, b⟩ t' ⟨g1, g2, g3⟩
      dsimp only at g1 g2; subst g1 g2 g3
      simp only [fX10_chancesBehind_l69, fX10_chancesBehind_b69]
      rw [if_pos (by decide)]
      exact ⟨rfl, kt⟩
  · rw [pL_at]
    simp only [rowN]
    by_cases c : d = d0
    · rw [if_pos ⟨trivial, c⟩, if_pos c]; rfl
    · rw [if_neg (fun q => c q.2), if_neg c, f2 d hd]; rfl
