section COPY
variable {σ : Mem} {N x y : Nat}
theorem cpCh (hd : y + 9 ≤ x ∨ x + 9 ≤ y) : Ho (fX0_copyFrom N x y σ) (fun _ s => ChCp s x σ y ∧ FrC x (x + 9) σ s) := by
  unfold fX0_copyFrom
  simp only [ho_lt, ho_some, show (8 : Int32).toNatClampNeg = 8 from rfl, show (6 : Int32).toNatClampNeg = 6 from rfl]
  refine ⟨⟨?_, fun p hp => ?_, fun w hw => ?_⟩, fun k hk => ?_, rfl⟩
  · simp (disch := omega) only [pI_nq, pI_eq, cpM_nq, cpM_eq]
    exact ⟨trivial, trivial, trivial⟩
  · simp (disch := omega) only [pI_nq, pI_eq, cpM_nq, cpM_eq]
    exact ⟨trivial, trivial, trivial, trivial, trivial, trivial⟩
  · simp (disch := omega) only [pI_nq, pI_eq, cpM_nq, cpM_eq]
    exact ⟨trivial, trivial⟩
  · funext j
    simp (disch := omega) only [pI_nq, pI_eq, cpM_nq, cpM_eq]
theorem cpSe (hd : y + 4 ≤ x ∨ x + 4 ≤ y) : Ho (fX8_copyFrom N x y σ) (fun _ s => SeCp s x σ y ∧ FrC x (x + 4) σ s) := by
  unfold fX8_copyFrom
  simp only [ho_lt, ho_some, show (40 : Int32).toNatClampNeg = 40 from rfl]
  refine ⟨⟨?_, fun p hp => ?_⟩, fun k hk => ?_, rfl⟩
  · simp (disch := omega) only [pI_nq, pI_eq, cpM_nq, cpM_eq]
  · simp (disch := omega) only [pI_nq, pI_eq, cpM_nq, cpM_eq]
    exact ⟨trivial, trivial, trivial⟩
  · funext j
    simp (disch := omega) only [pI_nq, pI_eq, cpM_nq, cpM_eq]
theorem cpLo (hd : y + 5 ≤ x ∨ x + 5 ≤ y) : Ho (fX4_copyFrom N x y σ) (fun _ s => LoCp s x σ y ∧ FrC x (x + 5) σ s) := by
  unfold fX4_copyFrom
  simp only [ho_lt, ho_some, show (8 : Int32).toNatClampNeg = 8 from rfl]
  refine ⟨⟨?_, fun p hp => ?_⟩, fun k hk => ?_, rfl⟩
  · simp (disch := omega) only [pI_nq, pI_eq, cpM_nq, cpM_eq]
  · simp (disch := omega) only [pI_nq, pI_eq, cpM_nq, cpM_eq]
    exact ⟨trivial, trivial, trivial, trivial⟩
  · funext j
    simp (disch := omega) only [pI_nq, pI_eq, cpM_nq, cpM_eq]
theorem cpTo {h v : Nat} (hN : 10000 ≤ N) (hb : byOk (σ.1 (v + 1)) 600 = true) (hd : v + 42 ≤ h ∨ h + 42 ≤ v) : Ho (fX9_copyFrom N h v σ) (fun _ s => TcR s h σ v ∧ (∀ j, 1 ≤ j → j ≤ 3 → s.1 h j = σ.1 v j) ∧ (∀ i, i < 600 → s.1 (h + 1) i = σ.1 (v + 1) i) ∧ FrC h (h + 42) σ s) := by
  unfold fX9_copyFrom
  simp only [show (600 : Int32).toNatClampNeg = 600 from rfl, show (3 : Int32).toNatClampNeg = 3 from rfl]
  rw [hb, ho_gdt]
  simp only [ho_lt]
  generalize hs : cpM (pI (pI (pI (cpM σ (v + 1) (h + 1) 600) h 1 ((cpM σ (v + 1) (h + 1) 600).1 v 1)) h 2 ((pI (cpM σ (v + 1) (h + 1) 600) h 1 ((cpM σ (v + 1) (h + 1) 600).1 v 1)).1 v 2)) h 3 ((pI (pI (cpM σ (v + 1) (h + 1) 600) h 1 ((cpM σ (v + 1) (h + 1) 600).1 v 1)) h 2 ((pI (cpM σ (v + 1) (h + 1) 600) h 1 ((cpM σ (v + 1) (h + 1) 600).1 v 1)).1 v 2)).1 v 3)) (v + 2) (h + 2) 3 = s0
  have F0 : FrC h (h + 3) σ s0 := by
    refine ⟨fun k hk => ?_, by rw [← hs]; rfl⟩
    funext j
    rw [← hs]
    simp (disch := omega) only [pI_nq, cpM_nq]
  have a1 : s0.1 h 1 = σ.1 v 1 ∧ s0.1 h 2 = σ.1 v 2 ∧ s0.1 h 3 = σ.1 v 3 := by
    rw [← hs]
    simp (disch := omega) only [pI_nq, pI_eq, cpM_nq]
    exact ⟨trivial, trivial, trivial⟩
  have a2 : ∀ i, i < 600 → s0.1 (h + 1) i = σ.1 (v + 1) i := by
    intro i hi
    rw [← hs]
    simp (disch := omega) only [pI_nq, cpM_nq, cpM_eq]
  have a3 : ∀ i, i < 3 → s0.1 (h + 2) i = σ.1 (v + 2) i := by
    intro i hi
    rw [← hs]
    simp (disch := omega) only [pI_nq, cpM_nq, cpM_eq]
  clear hs
  obtain ⟨M, hM⟩ : ∃ M, N = M + 3 := ⟨N - 3, by omega⟩
  have e0 : fX9_copyFrom_l56 N h N v 0 s0 = fX9_copyFrom_l56 N h (M + 1 + 1 + 1) v (Int32.ofNat 0) s0 := by rw [show M + 1 + 1 + 1 = N by omega]; rfl
  rw [e0]
  have step : ∀ (m i : Nat) (s : Mem) (Q : Unit → Mem → Prop), i < 2 → (∀ s', ChCp s' (h + 6 + 9 * i) s (v + 6 + 9 * i) → SeCp s' (h + 24 + 4 * i) s (v + 24 + 4 * i) → LoCp s' (h + 32 + 5 * i) s (v + 32 + 5 * i) → (∀ k, ¬ (h + 6 + 9 * i ≤ k ∧ k < h + 6 + 9 * i + 9) → ¬ (h + 24 + 4 * i ≤ k ∧ k < h + 24 + 4 * i + 4) → ¬ (h + 32 + 5 * i ≤ k ∧ k < h + 32 + 5 * i + 5) → s'.1 k = s.1 k) → s'.2 = s.2 → Ho (fX9_copyFrom_l56 N h m v (Int32.ofNat (i + 1)) s') Q) → Ho (fX9_copyFrom_l56 N h (m + 1) v (Int32.ofNat i) s) Q := by
    intro m i s Q hi go
    rw [fX9_copyFrom_l56]
    unfold fX9_copyFrom_b56
    rw [if_neg (show ¬ (2 : Int32) ≤ Int32.ofNat i by rw [z_le (by omega) (by omega)]; omega), nz_inb (by omega), decide_eq_true hi, nz_nat (by omega)]
    simp only [ho_gdt]
    have r0 : ∀ z, raE 60 (z + 3) i = z + 6 + 9 * i := fun z => by unfold raE; rw [if_pos rfl]
    have r1 : ∀ z, raE 61 (z + 4) i = z + 24 + 4 * i := fun z => by unfold raE; rw [if_neg (by omega), if_pos rfl]
    have r2 : ∀ z, raE 62 (z + 5) i = z + 32 + 5 * i := fun z => by unfold raE; rw [if_neg (by omega), if_neg (by omega), if_pos rfl]
    rw [r0, r0, r1, r1, r2, r2, ho_bd]
    refine ho_mono (cpCh (by omega)) (fun _ s1 ⟨c1, F1⟩ => ?_)
    rw [ho_bd]
    refine ho_mono (cpSe (by omega)) (fun _ s2 ⟨c2, F2⟩ => ?_)
    rw [ho_bd]
    refine ho_mono (cpLo (by omega)) (fun _ s3 ⟨c3, F3⟩ => ?_)
    simp only [ho_lte, nz_succ]
    refine go s3 (c1.ag (fun q h1 h2 => by rw [F3.1 q (by omega), F2.1 q (by omega)]) (fun _ _ _ => rfl)) (c2.ag (fun q h1 h2 => F3.1 q (by omega)) (fun q h1 h2 => F1.1 q (by omega))) (c3.ag (fun _ _ _ => rfl) (fun q h1 h2 => by rw [F2.1 q (by omega), F1.1 q (by omega)])) (fun k k1 k2 k3 => ?_) ?_
    · rw [F3.1 k (by omega), F2.1 k (by omega), F1.1 k (by omega)]
    · rw [F3.2, F2.2, F1.2]
  refine step _ 0 s0 _ (by omega) (fun s1 p1 p2 p3 G1 H1 => ?_)
  refine step _ 1 s1 _ (by omega) (fun s2 q1 q2 q3 G2 H2' => ?_)
  rw [fX9_copyFrom_l56]
  unfold fX9_copyFrom_b56
  rw [if_pos (by decide), ho_some]
  have src0 : ∀ q, v ≤ q → q < v + 42 → s0.1 q = σ.1 q := fun q h1 h2 => F0.1 q (by omega)
  have src1 : ∀ q, v ≤ q → q < v + 42 → s1.1 q = σ.1 q := fun q h1 h2 => by rw [G1 q (by omega) (by omega) (by omega)]; exact src0 q h1 h2
  refine ⟨⟨fun i hi => ?_, fun i hi => ?_, fun i hi => ?_, fun i hi => ?_⟩, fun j j1 j2 => ?_, fun i hi => ?_, fun k hk => ?_, ?_⟩
  · rw [G2 _ (by omega) (by omega) (by omega), G1 _ (by omega) (by omega) (by omega)]; exact a3 i hi
  · have cs : i = 0 ∨ i = 1 := by omega
    rcases cs with e | e <;> subst e
    · exact p1.ag (fun q h1 h2 => G2 q (by omega) (by omega) (by omega)) (fun q h1 h2 => src0 q (by omega) (by omega))
    · exact q1.ag (fun _ _ _ => rfl) (fun q h1 h2 => src1 q (by omega) (by omega))
  · have cs : i = 0 ∨ i = 1 := by omega
    rcases cs with e | e <;> subst e
    · exact p2.ag (fun q h1 h2 => G2 q (by omega) (by omega) (by omega)) (fun q h1 h2 => src0 q (by omega) (by omega))
    · exact q2.ag (fun _ _ _ => rfl) (fun q h1 h2 => src1 q (by omega) (by omega))
  · have cs : i = 0 ∨ i = 1 := by omega
    rcases cs with e | e <;> subst e
    · exact p3.ag (fun q h1 h2 => G2 q (by omega) (by omega) (by omega)) (fun q h1 h2 => src0 q (by omega) (by omega))
    · exact q3.ag (fun _ _ _ => rfl) (fun q h1 h2 => src1 q (by omega) (by omega))
  · rw [G2 _ (by omega) (by omega) (by omega), G1 _ (by omega) (by omega) (by omega)]
    have cs : j = 1 ∨ j = 2 ∨ j = 3 := by omega
    rcases cs with e | e | e <;> subst e
    · exact a1.1
    · exact a1.2.1
    · exact a1.2.2
  · rw [G2 _ (by omega) (by omega) (by omega), G1 _ (by omega) (by omega) (by omega)]; exact a2 i hi
  · rw [G2 _ (by omega) (by omega) (by omega), G1 _ (by omega) (by omega) (by omega)]; exact F0.1 k (by omega)
  · rw [H2', H1]; exact F0.2
end COPY
section IMG
variable {σ1 σ2 : Mem} {N : Nat}
theorem img_M (hN : 10000 ≤ N) {k : Nat} (hk : k < 3) (s0 : Mem) : Ho (fX12_image_l20 N N (Int32.ofNat k) 0 s0) (fun r s => r = 1 ∧ (∀ a b, a ≠ 1 → s.1 a b = s0.1 a b) ∧ (∀ b, ¬ (1044 * (k + 1) ≤ b ∧ b < 1044 * (k + 1) + 1044) → s.1 1 b = s0.1 1 b) ∧ ∀ b, b < 1044 → s.1 1 (1044 * (k + 1) + b) = s0.1 1 b) := by
  refine ho_loop (F := fun n (v : Int32) s => fX12_image_l20 N n (Int32.ofNat k) v s) (fun i v s => v = Int32.ofNat i ∧ (∀ a b, a ≠ 1 → s.1 a b = s0.1 a b) ∧ (∀ b, ¬ (1044 * (k + 1) ≤ b ∧ b < 1044 * (k + 1) + i) → s.1 1 b = s0.1 1 b) ∧ ∀ b, b < i → s.1 1 (1044 * (k + 1) + b) = s0.1 1 b) 1044 ?_ ?_ 1044 N 0 0 s0 (by omega) (by omega) ⟨rfl, fun _ _ _ => rfl, fun _ _ => rfl, fun b hb => absurd hb (Nat.not_lt_zero b)⟩
  · rintro n i v s hi ⟨e1, F1, F2, F3⟩ rec
    subst e1
    rw [fX12_image_l20]
    unfold fX12_image_b20
    have h1 : (1044 : Int32) * (Int32.ofNat k + 1) + Int32.ofNat i = Int32.ofNat (1044 * (k + 1) + i) := by
      rw [nz_succ, show (1044 : Int32) = Int32.ofNat 1044 from rfl, nz_mul, nz_add]
    rw [if_neg (show ¬ (1044 : Int32) ≤ Int32.ofNat i by rw [z_le (by omega) (by omega)]; omega), h1, nz_inb (by omega), nz_inb (by omega), decide_eq_true (show i < 4176 by omega), decide_eq_true (show 1044 * (k + 1) + i < 4176 by omega), ho_gdt, ho_gdt, nz_nat (by omega), nz_nat (by omega)]
    simp only [ho_lte, nz_succ]
    refine rec _ _ ⟨rfl, fun a b ha => ?_, fun b hb => ?_, fun b hb => ?_⟩
    · rw [pI_nq (by omega)]; exact F1 a b ha
    · rw [pI_nq (by omega)]; exact F2 b (by omega)
    · by_cases e : b = i
      · subst e; rw [pI_eq]; exact F2 b (by omega)
      · rw [pI_nq (by omega)]; exact F3 b (by omega)
  · rintro n v s ⟨e1, F1, F2, F3⟩
    subst e1
    rw [fX12_image_l20]
    unfold fX12_image_b20
    rw [if_pos (by decide), ho_some]
    exact ⟨rfl, F1, F2, F3⟩
theorem aga_M (hN : 10000 ≤ N) {k : Nat} (hk : k < 3) (s0 : Mem) : Ho (fX12_again_l22 N N (Int32.ofNat k) 0 s0) (fun r s => r = 1 ∧ (∀ a b, a ≠ 1 → s.1 a b = s0.1 a b) ∧ (∀ b, 1044 ≤ b → s.1 1 b = s0.1 1 b) ∧ ∀ b, b < 1044 → s.1 1 b = s0.1 1 (1044 * (k + 1) + b)) := by
  refine ho_loop (F := fun n (v : Int32) s => fX12_again_l22 N n (Int32.ofNat k) v s) (fun i v s => v = Int32.ofNat i ∧ (∀ a b, a ≠ 1 → s.1 a b = s0.1 a b) ∧ (∀ b, i ≤ b → s.1 1 b = s0.1 1 b) ∧ ∀ b, b < i → s.1 1 b = s0.1 1 (1044 * (k + 1) + b)) 1044 ?_ ?_ 1044 N 0 0 s0 (by omega) (by omega) ⟨rfl, fun _ _ _ => rfl, fun _ _ => rfl, fun b hb => absurd hb (Nat.not_lt_zero b)⟩
  · rintro n i v s hi ⟨e1, F1, F2, F3⟩ rec
    subst e1
    rw [fX12_again_l22]
    unfold fX12_again_b22
    have h1 : (1044 : Int32) * (Int32.ofNat k + 1) + Int32.ofNat i = Int32.ofNat (1044 * (k + 1) + i) := by
      rw [nz_succ, show (1044 : Int32) = Int32.ofNat 1044 from rfl, nz_mul, nz_add]
    rw [if_neg (show ¬ (1044 : Int32) ≤ Int32.ofNat i by rw [z_le (by omega) (by omega)]; omega), h1, nz_inb (by omega), nz_inb (by omega), decide_eq_true (show i < 4176 by omega), decide_eq_true (show 1044 * (k + 1) + i < 4176 by omega), ho_gdt, ho_gdt, nz_nat (by omega), nz_nat (by omega)]
    simp only [ho_lte, nz_succ]
    refine rec _ _ ⟨rfl, fun a b ha => ?_, fun b hb => ?_, fun b hb => ?_⟩
    · rw [pI_nq (by omega)]; exact F1 a b ha
    · rw [pI_nq (by omega)]; exact F2 b (by omega)
    · by_cases e : b = i
      · subst e; rw [pI_eq]; exact F2 _ (by omega)
      · rw [pI_nq (by omega)]; exact F3 b (by omega)
  · rintro n v s ⟨e1, F1, F2, F3⟩
    subst e1
    rw [fX12_again_l22]
    unfold fX12_again_b22
    rw [if_pos (by decide), ho_some]
    exact ⟨rfl, F1, F2, F3⟩
theorem ra63 (k : Nat) : raE 63 43 k = 44 + 42 * k := by unfold raE; rw [if_neg (by omega), if_neg (by omega), if_neg (by omega)]
set_option maxRecDepth 20000 in
theorem t_image (hN : 10000 ≤ N) (R : RR σ1 σ2) (v1 : Int32) : H2 (fX11_image N 0 v1 σ1) (fX12_image N v1 σ2) QR := by
  unfold fX11_image fX12_image
  rw [isIn_Z, ho_bds]
  simp only [ite10, Int32.reduceToInt, Nat.zero_add]
  have b1 : vp_nar .boolean 1 = 1 := rfl
  by_cases c0 : 0 ≤ v1.toInt ∧ v1.toInt ≤ 2
  · obtain ⟨k, _, hk, rfl⟩ := z_of (v := v1) (a := 0) (b := 2) c0
    rw [if_neg (z_neg (by omega)), if_pos (show Int32.ofNat k < 3 by rw [z_gt (by omega) (by omega)]; omega), if_neg (show ¬ ¬ (0 ≤ (Int32.ofNat k).toInt ∧ (Int32.ofNat k).toInt ≤ 2) from fun z => z c0), nz_inb (by omega), nz_nat (by omega), decide_eq_true (show k < 3 by omega), ho_gdt, ho_gdt, ra63, b1]
    simp only [ho_gdt, ho_lte]
    have hby : byOk (σ1.1 (1 + 1)) 600 = true := R.1.2.2.2.2.2
    have CP := cpTo (N := N) (σ := σ1) (h := 44 + 42 * k) (v := 1) hN hby (by omega)
    refine h2_l (ho_mono CP ?_)
    refine (fun _ t1 ⟨P1, P2, P3, F⟩ => ?_)
    show Ho (fX12_image_l20 N N (Int32.ofNat k) 0 (pI σ2 2 k 1)) (fun r2 s2 => QR (1 : Int32) (pI t1 170 k 1) r2 s2)
    refine ho_mono (img_M hN (show k < 3 by omega) _) (fun r t2 ⟨e1, G1, G2, G3⟩ => ?_)
    refine ⟨e1.symm, ?_, fun i hi => ?_, ?_, ?_⟩
    · refine R.1.mvw (TcR.of (fun q h1 h2 => by rw [pI_ne (by omega), F.1 q (by omega)])) (fun j _ _ => by rw [pI_nq (by omega), F.1 1 (by omega)]) (fun i _ => by rw [pI_nq (by omega), F.1 2 (by omega)]) (fun i hi => ?_)
      rw [G2 _ (by omega), pI_nq (by omega)]
    · have q := R.2.1 i hi
      rw [pI_ne (show 44 + 42 * i + 1 ≠ 170 by omega)]
      have g2 : ∀ b, t2.1 2 b = (pI σ2 2 k 1).1 2 b := fun b => G1 2 b (by omega)
      by_cases e : i = k
      · subst e
        refine ⟨?_, Or.inr ⟨pI_eq, by rw [g2, pI_eq], ?_⟩⟩
        · rw [byOk_iff]; intro b hb; rw [P3 b hb]; exact byOk_iff.mp R.1.2.2.2.2.2 b hb
        · refine R.1.mvw (x := 44 + 42 * i) ⟨fun a ha => by rw [pI_nq (by omega)]; exact P1.1 a ha, fun a ha => (P1.2.1 a ha).ag (fun q h1 h2 => pI_ne (by omega)) (fun _ _ _ => rfl), fun a ha => (P1.2.2.1 a ha).ag (fun q h1 h2 => pI_ne (by omega)) (fun _ _ _ => rfl), fun a ha => (P1.2.2.2 a ha).ag (fun q h1 h2 => pI_ne (by omega)) (fun _ _ _ => rfl)⟩ (fun j j1 j2 => by rw [pI_nq (by omega)]; exact P2 j j1 j2) (fun a ha => by rw [pI_nq (by omega)]; exact P3 a ha) (fun a ha => ?_)
          rw [G3 a ha, pI_nq (by omega), Nat.zero_add]
      · rw [F.1 _ (by omega)]
        refine ⟨q.1, ?_⟩
        rw [pI_nq (by omega), F.1 170 (by omega), g2, pI_nq (by omega)]
        rcases q.2 with q | ⟨q1, q2, q3⟩
        · exact Or.inl q
        · refine Or.inr ⟨q1, q2, q3.mvw (TcR.of (fun a h1 h2 => by rw [pI_ne (by omega), F.1 a (by omega)])) (fun j _ _ => by rw [pI_nq (by omega), F.1 _ (by omega)]) (fun b _ => by rw [pI_nq (by omega), F.1 _ (by omega)]) (fun b hb => ?_)⟩
          rw [G2 _ (by omega), pI_nq (by omega)]
    · rw [pI_nq (by omega), F.1 269 (by omega)]; exact R.2.2.1
    · unfold VR; rw [pI_ne (by omega), F.1 220 (by omega)]; exact R.2.2.2
  · rw [if_pos c0]
    by_cases c1 : v1 < 0
    · rw [if_pos c1]; exact ⟨rfl, R⟩
    · rw [if_neg c1, if_neg]
      · exact ⟨rfl, R⟩
      · rw [i32_lt] at c1 ⊢
        have : (0 : Int32).toInt = 0 := rfl
        have : (3 : Int32).toInt = 3 := rfl
        omega
set_option maxRecDepth 20000 in
theorem t_again (hN : 10000 ≤ N) (R : RR σ1 σ2) (v1 : Int32) : H2 (fX11_again N 0 v1 σ1) (fX12_again N v1 σ2) QR := by
  unfold fX11_again fX12_again
  rw [isIn_Z, ho_bds]
  simp only [ite10, Int32.reduceToInt, Nat.zero_add]
  by_cases c0 : 0 ≤ v1.toInt ∧ v1.toInt ≤ 2
  · obtain ⟨k, _, hk, rfl⟩ := z_of (v := v1) (a := 0) (b := 2) c0
    have q := R.2.1 k (by omega)
    rw [if_neg (z_neg (by omega)), if_neg (show ¬ (3 : Int32) ≤ Int32.ofNat k by rw [z_le (by omega) (by omega)]; omega), if_neg (show ¬ ¬ (0 ≤ (Int32.ofNat k).toInt ∧ (Int32.ofNat k).toInt ≤ 2) from fun z => z c0), nz_inb (by omega), nz_nat (by omega), decide_eq_true (show k < 3 by omega), ho_gdt, ho_gdt, ho_gdt, ra63]
    rcases q.2 with ⟨q1, q2⟩ | ⟨q1, q2, q3⟩
    · rw [if_pos q1, if_pos q2]; exact ⟨rfl, R⟩
    · rw [if_neg (by rw [q1]; decide), if_neg (by rw [q2]; decide)]
      simp only [ho_lte]
      have CP := cpTo (N := N) (σ := σ1) (h := 1) (v := 44 + 42 * k) hN q.1 (by omega)
      refine h2_l (ho_mono CP ?_)
      refine (fun _ t1 ⟨P1, P2, P3, F⟩ => ?_)
      show Ho (fX12_again_l22 N N (Int32.ofNat k) 0 σ2) (fun r2 s2 => QR (1 : Int32) t1 r2 s2)
      refine ho_mono (aga_M hN (show k < 3 by omega) _) (fun r t2 ⟨e1, G1, G2, G3⟩ => ?_)
      refine ⟨e1.symm, ?_, fun i hi => ?_, ?_, ?_⟩
      · refine q3.mvw P1 P2 P3 (fun i hi => ?_)
        rw [Nat.zero_add]; exact G3 i hi
      · have w := R.2.1 i hi
        rw [F.1 _ (by omega), F.1 170 (by omega)]
        refine ⟨w.1, ?_⟩
        rw [G1 2 i (by omega)]
        rcases w.2 with w | ⟨w1, w2, w3⟩
        · exact Or.inl w
        · exact Or.inr ⟨w1, w2, w3.mvw (TcR.of (fun a h1 h2 => F.1 a (by omega))) (fun j _ _ => by rw [F.1 _ (by omega)]) (fun b _ => by rw [F.1 _ (by omega)]) (fun b hb => G2 _ (by omega))⟩
      · rw [F.1 269 (by omega)]; exact R.2.2.1
      · unfold VR; rw [F.1 220 (by omega)]; exact R.2.2.2
  · rw [if_pos c0]
    by_cases c1 : v1 < 0
    · rw [if_pos c1]; exact ⟨rfl, R⟩
    · rw [if_neg c1, if_pos]
      · exact ⟨rfl, R⟩
      · rw [i32_lt] at c1; rw [i32_le]
        have : (0 : Int32).toInt = 0 := rfl
        have : (3 : Int32).toInt = 3 := rfl
        omega
end IMG
