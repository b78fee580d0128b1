theorem HaM.c12 {t : Mem} {c np nw k j : Nat} {C S : Vw} {v : Int32} (H : HaM t c C S np nw) (hk : 8 ≤ k) : HaM (pI t k j v) c C S np nw :=
  H.ag ⟨pI_ne (by omega), pI_ne (by omega), pI_ne (by omega), pI_ne (by omega), fun _ _ _ => pI_nq (by omega)⟩
theorem KM.c12 {s t : Mem} {k j : Nat} {v : Int32} (K : KM s t) (hk : 8 ≤ k) : KM s (pI t k j v) := ⟨by rw [pI_ne (by omega)]; exact K.1, by rw [pI_ne (by omega)]; exact K.2⟩
theorem walk_M {N c np nw a z : Nat} {C : Vw} {s : Mem} (hN : 10000 ≤ N) (W : WfV C np nw) (H : HaM s c C (asT C) np nw) (ha : a < 64) (hz : z < 64) : Ho (fX12_walk_l31 N N (Int32.ofNat a) (Int32.ofNat z) 0 s) (fun r t => IsL (fun m => carV (asT C) np nw (Int32.ofNat m)) a 64 z r ∧ KM s t) := by
  have W' := asT_wf W
  refine ho_loop (F := fun n (b : Int32) t => fX12_walk_l31 N n (Int32.ofNat a) (Int32.ofNat z) b t) (fun i b t => b = Int32.ofNat i ∧ HaM t c C (asT C) np nw ∧ KM s t ∧ ∀ x, x < i → t.1 12 x = -1) 64 ?_ ?_ 64 N 0 0 s (by omega) (by omega) ⟨rfl, H, KM.refl s, fun x hx => absurd hx (Nat.not_lt_zero x)⟩
  · rintro n i b t hi ⟨e1, e2, e3, e4⟩ rec
    subst e1
    simp only [fX12_walk_l31, fX12_walk_b31, ho_lte, nz_succ]
    rw [if_neg (show ¬ (64 : Int32) ≤ Int32.ofNat i by rw [z_le (by omega) (by omega)]; omega), nz_inb (by omega), nz_nat (by omega), decide_eq_true hi, ho_gdt]
    refine rec _ _ ⟨rfl, e2.c12 (by omega), e3.c12 (by omega), fun x hx => ?_⟩
    by_cases d : x = i
    · subst d; rw [pI_eq]
    · rw [pI_nq (by omega)]; exact e4 x (by omega)
  · rintro n b t ⟨e1, e2, e3, e4⟩
    subst e1
    simp only [fX12_walk_l31, fX12_walk_b31, fX12_walk_b67, ho_lte]
    rw [if_pos (by decide), ho_bd]
    refine ho_mono (answers_M hN W' e2) (fun r t2 ⟨hr, V⟩ => ?_)
    have HA := e2.ag V.1.ag
    have K2 := e3.trans V.1.toH.km
    have L2 : ∀ x, t2.1 12 x = t.1 12 x := fun x => V.1.1 12 x (by omega) (by omega)
    have go : ∀ u : Mem, HaM u c C (asT C) np nw → KM s u → (∀ x, x < 64 → IsL (fun m => carV (asT C) np nw (Int32.ofNat m)) a 0 x (u.1 12 x)) → Ho (fX12_walk_l70 N N (Int32.ofNat z) 0 u) (fun r t => IsL (fun m => carV (asT C) np nw (Int32.ofNat m)) a 64 z r ∧ KM s t) := by
      generalize hq : (fun m => carV (asT C) np nw (Int32.ofNat m)) = q
      have hq' : ∀ m, carV (asT C) np nw (Int32.ofNat m) = q m := fun m => by rw [← hq]
      intro u HA KU LU
      refine ho_loop (F := fun n (b : Int32) t => fX12_walk_l70 N n (Int32.ofNat z) b t) (fun k b t => b = Int32.ofNat k ∧ HaM t c C (asT C) np nw ∧ KM s t ∧ ∀ x, x < 64 → IsL q a k x (t.1 12 x)) 64 ?_ ?_ 64 N 0 0 u (by omega) (by omega) ⟨rfl, HA, KU, LU⟩
      · rintro n k b t hk ⟨e1, e2, e3, e4⟩ rec
        subst e1
        simp only [fX12_walk_l70, fX12_walk_b70, ho_lte]
        rw [if_neg (show ¬ (64 : Int32) ≤ Int32.ofNat k by rw [z_le (by omega) (by omega)]; omega)]
        refine ho_loop (F := fun n' (b : Int32) t => fX12_walk_l80 N (fX12_walk_l70 N n) n' (Int32.ofNat z) (Int32.ofNat k) b t) (fun i b t => b = Int32.ofNat i ∧ HaM t c C (asT C) np nw ∧ KM s t ∧ ∀ x, x < 64 → MdL q a k (tcP q a k i) x (t.1 12 x)) 64 ?_ ?_ 64 N 0 0 t (by omega) (by omega) ⟨rfl, e2, e3, fun x hx => Or.inr ⟨fun h => by obtain ⟨m, hm, _⟩ := h.2.2; exact absurd hm (Nat.not_lt_zero m), e4 x hx⟩⟩
        · rintro n' i b t hi ⟨e1, e2, e3, e4⟩ rec'
          subst e1
          simp only [fX12_walk_l80, fX12_walk_b80, fX12_walk_b158, ho_lte, nz_succ]
          rw [if_neg (show ¬ (64 : Int32) ≤ Int32.ofNat i by rw [z_le (by omega) (by omega)]; omega), nz_inb (by omega), nz_nat (by omega), decide_eq_true hi, ho_gdt]
          by_cases f : frP q a k i
          · rw [if_pos (((e4 i hi).fr hk).mpr f)]
            refine ho_loop (F := fun n'' (b : Int32) t => fX12_walk_l105 N (fX12_walk_l70 N n) (fX12_walk_l80 N (fX12_walk_l70 N n) n') n'' (Int32.ofNat z) (Int32.ofNat k) (Int32.ofNat i) b t) (fun d b t => b = Int32.ofNat d ∧ HaM t c C (asT C) np nw ∧ KM s t ∧ ∀ x, x < 64 → MdL q a k (fun x => tcP q a k i x ∨ ∃ d', d' < d ∧ x = i ^^^ 2 ^ d') x (t.1 12 x)) 6 ?_ ?_ 6 N 0 0 t (by omega) (by omega) ⟨rfl, e2, e3, fun x hx => (e4 x hx).sub ⟨Or.inl, fun h => h.elim id (fun ⟨d, hd, _⟩ => absurd hd (Nat.not_lt_zero d))⟩⟩
            · rintro n'' d b t hd ⟨e1, e2, e3, e4⟩ rec''
              subst e1
              have p6 : 2 ^ d < 64 := Nat.pow_lt_pow_right (n := 6) (by omega) hd
              have y6 := xor6 hi hd
              simp only [fX12_walk_l105, fX12_walk_b105, fX12_walk_b152, ho_lte, nz_succ]
              rw [if_neg (show ¬ (6 : Int32) ≤ Int32.ofNat d by rw [z_le (by omega) (by omega)]; omega), shl8 d (by omega), xor64 i hi _ p6]
              generalize hy : i ^^^ 2 ^ d = y at y6
              have iy : inb (Int32.ofNat y) 64 = true := by rw [nz_inb (by omega)]; exact decide_eq_true y6
              have ny : (Int32.ofNat y).toNatClampNeg = y := nz_nat (by omega)
              have ht : (fun x => tcP q a k i x ∨ ∃ d', d' < d + 1 ∧ x = i ^^^ 2 ^ d') y := Or.inr ⟨d, by omega, hy.symm⟩
              have hit := (e4 y y6).hit (fun x => tcP q a k i x ∨ ∃ d', d' < d + 1 ∧ x = i ^^^ 2 ^ d') hk ht
              have oth : ∀ x, x ≠ y → ((tcP q a k i x ∨ ∃ d', d' < d ∧ x = i ^^^ 2 ^ d') ↔ (tcP q a k i x ∨ ∃ d', d' < d + 1 ∧ x = i ^^^ 2 ^ d')) := by
                intro x hx
                constructor
                · rintro (h | ⟨d', h1, h2⟩)
                  · exact Or.inl h
                  · exact Or.inr ⟨d', by omega, h2⟩
                · rintro (h | ⟨d', h1, h2⟩)
                  · exact Or.inl h
                  · by_cases w : d' = d
                    · subst w; exact absurd (h2.trans hy) hx
                    · exact Or.inr ⟨d', by omega, h2⟩
              rw [gdT iy, ny]
              by_cases l : t.1 12 y = -1
              · rw [if_pos l, ho_bd]
                refine ho_mono (answers_M hN W' e2) (fun r t3 ⟨hr, V⟩ => ?_)
                have L3 : ∀ x, t3.1 12 x = t.1 12 x := fun x => V.1.1 12 x (by omega) (by omega)
                have K3 := e3.trans V.1.toH.km
                have H3 := e2.ag V.1.ag
                rw [hr, hq' y]
                simp only [ite10]
                by_cases qy : q y = true
                · rw [if_neg (show ¬ ¬ q y = true from fun h => h qy), gdT iy]
                  refine rec'' _ _ ⟨rfl, H3.c12 (by omega), K3.c12 (by omega), fun x hx => ?_⟩
                  by_cases xy : x = y
                  · subst xy; rw [pI_eq]; exact hit.1 l qy
                  · rw [pI_nq (by omega), L3]; exact (e4 x hx).sub (oth x xy)
                · rw [if_pos qy]
                  refine rec'' _ _ ⟨rfl, H3, K3, fun x hx => ?_⟩
                  rw [L3]
                  by_cases xy : x = y
                  · subst xy; exact hit.2.1 l qy
                  · exact (e4 x hx).sub (oth x xy)
              · rw [if_neg l]
                refine rec'' _ _ ⟨rfl, e2, e3, fun x hx => ?_⟩
                by_cases xy : x = y
                · subst xy; exact hit.2.2 l
                · exact (e4 x hx).sub (oth x xy)
            · rintro n'' b t ⟨e1, e2, e3, e4⟩
              subst e1
              simp only [fX12_walk_l105, fX12_walk_b105, fX12_walk_b158, ho_lte, nz_succ]
              rw [if_pos (by decide)]
              refine rec' _ _ ⟨rfl, e2, e3, fun x hx => (e4 x hx).sub ?_⟩
              constructor
              · rintro (⟨m, h1, h2⟩ | ⟨d, h1, h2⟩)
                · exact ⟨m, by omega, h2⟩
                · exact ⟨i, by omega, f, d, h1, h2⟩
              · rintro ⟨m, h1, h2, d, h3, h4⟩
                by_cases w : m = i
                · subst w; exact Or.inr ⟨d, h3, h4⟩
                · exact Or.inl ⟨m, by omega, h2, d, h3, h4⟩
          · rw [if_neg (fun h => f (((e4 i hi).fr hk).mp h))]
            refine rec' _ _ ⟨rfl, e2, e3, fun x hx => (e4 x hx).sub ?_⟩
            constructor
            · rintro ⟨m, h1, h2⟩
              exact ⟨m, by omega, h2⟩
            · rintro ⟨m, h1, h2, h3⟩
              by_cases w : m = i
              · subst w; exact absurd h2 f
              · exact ⟨m, by omega, h2, h3⟩
        · rintro n' b t ⟨e1, e2, e3, e4⟩
          subst e1
          simp only [fX12_walk_l80, fX12_walk_b80, ho_lte, nz_succ]
          rw [if_pos (by decide)]
          exact rec _ _ ⟨rfl, e2, e3, fun x hx => (e4 x hx).end_ hx⟩
      · rintro n b t ⟨e1, e2, e3, e4⟩
        subst e1
        simp only [fX12_walk_l70, fX12_walk_b70]
        rw [if_pos (by decide), nz_inb (by omega), nz_nat (by omega), decide_eq_true hz, ho_gdt]
        exact ⟨e4 z hz, e3⟩
    rw [hr]
    simp only [ite10]
    by_cases q : carV (asT C) np nw (Int32.ofNat a) = true
    · rw [if_neg (show ¬ ¬ carV (asT C) np nw (Int32.ofNat a) = true from fun h => h q), nz_inb (by omega), nz_nat (by omega), decide_eq_true ha, ho_gdt]
      refine go _ (HA.c12 (by omega)) (K2.c12 (by omega)) (fun x hx => ?_)
      by_cases xa : x = a
      · subst xa; rw [pI_eq]; exact Or.inr ⟨0, Nat.le_refl _, rfl, ⟨rfl, q⟩, fun i hi => absurd hi (Nat.not_lt_zero i)⟩
      · rw [pI_nq (by omega), L2, e4 x hx]; exact Or.inl ⟨fun h => xa h.1, rfl⟩
    · rw [if_pos q]
      refine go _ HA K2 (fun x hx => ?_)
      rw [L2, e4 x hx]
      refine Or.inl ⟨fun h => ?_, rfl⟩
      obtain ⟨h1, h2⟩ := h
      rw [h1] at h2; exact q h2
theorem t_walk {σ1 σ2 : Mem} {N : Nat} (hN : 10000 ≤ N) (R : RR σ1 σ2) (v1 v2 v3 : Int32) : H2 (fX11_walk N 0 v1 v2 v3 σ1) (fX12_walk N v1 v2 v3 σ2) (QU σ1 σ2) := by
  unfold fX11_walk fX12_walk
  refine q_as R v1 v2 (fun j C np nw s2 a hj ha em W HC HM K => ?_)
  subst em
  unfold fX11_isMotion
  rw [isMotion_M, ho_bds]
  simp only [ite10]
  by_cases c : inb v3 64 = true
  · obtain ⟨z, hz, e, _⟩ := inb_nat c
    subst e
    rw [if_neg (z_neg (by omega)), if_neg (show ¬ (64 : Int32) ≤ Int32.ofNat z by rw [z_le (by omega) (by omega)]; omega), ho_bds, if_neg (by decide), if_neg (show ¬ ¬ inb (Int32.ofNat z) 64 = true from fun h => h c)]
    apply h2_l
    refine ho_mono (carriedSet_C hN W HC (by omega)) (fun v t1 ⟨hv, F1⟩ => ?_)
    have E1 : KC σ1 t1 := R.kc.fr F1 (by omega)
    apply h2_l
    refine ho_mono (steps_C hN ha hz hv) (fun r t1' ⟨e, S⟩ => ?_)
    subst e
    apply h2_r
    refine ho_mono (asTold_M hN HM) (fun _ t2 ⟨HA, F2, _, _⟩ => ?_)
    simp only [ho_lte]
    apply h2_sl
    refine ho_mono (walk_M hN W.1 HA ha hz) (fun r' t3 ⟨L, K3⟩ => ?_)
    refine ⟨?_, E1, (K.trans F2.km).trans K3⟩
    rcases S with ⟨k, hk, s1, s2, s3⟩ | ⟨s1, s2⟩
    · rcases L with ⟨l1, l2⟩ | ⟨i, hi, l1, l2, l3⟩
      · exact absurd (reP_mono 64 (by omega) s2) l1
      · have : ¬ i < k := fun h => s3 i h l2
        have : ¬ k < i := fun h => l3 k h s2
        rw [s1, l1, show i = k by omega]
    · rcases L with ⟨l1, l2⟩ | ⟨i, hi, l1, l2, l3⟩
      · rw [s1, l2]
      · exfalso
        by_cases w : i = 64
        · subst w; exact s2 63 (by omega) (reP_63 hz l2)
        · exact s2 i (by omega) l2
  · rw [if_pos c]
    by_cases d : v3 < 0
    · rw [if_pos d, ho_bds, if_pos rfl]; exact ⟨rfl, R.kc, K⟩
    · rw [if_neg d, if_pos]
      · rw [ho_bds, if_pos rfl]; exact ⟨rfl, R.kc, K⟩
      · rw [inb_iff] at c
        rw [i32_lt] at d; rw [i32_le]
        have : (0 : Int32).toInt = 0 := rfl
        have : (64 : Int32).toInt = 64 := rfl
        omega
