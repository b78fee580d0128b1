def shI (j : Nat) : Int32 := if j = 0 then 24 else if j = 1 then 16 else if j = 2 then 8 else 0
def wsI (a b c d e : Int32) (q : Nat) : Int32 := if q = 0 then a else if q = 1 then b else if q = 2 then c else if q = 3 then d else e
def byI (w : Int32) (j : Nat) : Int32 := (w >>> (shI j &&& 31)).toInt8.toInt32
theorem by_R (x : Int32) : ByR x.toInt8.toInt32 (x &&& 255) := by
  refine ⟨x.toBitVec.toNat % 256, Nat.mod_lt _ (by omega), ?_, ?_⟩
  · apply Int32.toBitVec_inj.mp
    apply BitVec.eq_of_toNat_eq
    rw [Int32.toBitVec_and, BitVec.toNat_and]
    show x.toBitVec.toNat &&& (2 ^ 8 - 1) = (x.toBitVec.toNat % 256) % 2 ^ 32
    rw [Nat.and_two_pow_sub_one_eq_mod]
    omega
  · congr 1
    apply Int8.toBitVec_inj.mp
    rw [Int32.toBitVec_toInt8, Int32.toBitVec_toInt8, BitVec.signExtend_eq_setWidth_of_le _ (by decide), BitVec.signExtend_eq_setWidth_of_le _ (by decide)]
    apply BitVec.eq_of_toNat_eq
    rw [BitVec.toNat_setWidth, BitVec.toNat_setWidth]
    show x.toBitVec.toNat % 2 ^ 8 = (x.toBitVec.toNat % 256) % 2 ^ 32 % 2 ^ 8
    omega
theorem by_bd (x : Int32) : -128 ≤ x.toInt8.toInt32.toInt ∧ x.toInt8.toInt32.toInt ≤ 127 := by
  have h1 := Int8.le_toInt x.toInt8
  have h2 := Int8.toInt_lt x.toInt8
  rw [Int8.toInt_toInt32]
  omega
section FEED
variable {σ : Mem} {N k : Nat}
theorem app_s {s : Mem} {w v : Int32} {m n : Nat} (hv : ¬ v < 0) (hn : n < 600) (h1 : s.1 k 1 = Int32.ofNat n) : fX9_append_l3 N k (m + 1) w v s = fX9_append_l3 N k m w (v + (-8)) (pI (pI s (k + 1) n ((w >>> (v &&& 31)).toInt8.toInt32)) k 1 (Int32.ofNat (n + 1))) := by
  rw [fX9_append_l3]
  unfold fX9_append_b3 fX9_append_b49
  rw [if_neg hv, h1, if_neg (z_neg (by omega)), if_neg (show ¬ (600 : Int32) ≤ Int32.ofNat n by rw [z_le (by omega) (by omega)]; omega), nz_inb (by omega), decide_eq_true hn, ho_gdt, nz_nat (by omega), vp_nar_byte, Int8.toInt8_toInt32]
  simp only [ho_lte]
  rw [pI_nq (show ¬ (k = k + 1 ∧ 1 = n) by omega), h1, nz_succ]
theorem app_C (hN : 10000 ≤ N) {w : Int32} {n : Nat} (hn : n + 4 ≤ 600) (h1 : σ.1 k 1 = Int32.ofNat n) : Ho (fX9_append N k w σ) (fun _ s => s.1 k 1 = Int32.ofNat (n + 4) ∧ (∀ j, j < 4 → s.1 (k + 1) (n + j) = byI w j) ∧ (∀ a b, ¬ (a = k ∧ b = 1) → ¬ (a = k + 1 ∧ n ≤ b ∧ b < n + 4) → s.1 a b = σ.1 a b) ∧ s.2 = σ.2) := by
  unfold fX9_append
  simp only [ho_lte]
  obtain ⟨M, hM⟩ : ∃ M, N = M + 5 := ⟨N - 5, by omega⟩
  have e0 : fX9_append_l3 N k N w 24 σ = fX9_append_l3 N k (M + 1 + 1 + 1 + 1 + 1) w 24 σ := by rw [show M + 1 + 1 + 1 + 1 + 1 = N by omega]
  rw [e0, app_s (by decide) (show n < 600 by omega) h1, show (24 : Int32) + (-8) = 16 from rfl, app_s (by decide) (show n + 1 < 600 by omega) pI_eq, show (16 : Int32) + (-8) = 8 from rfl, app_s (by decide) (show n + 1 + 1 < 600 by omega) pI_eq, show (8 : Int32) + (-8) = 0 from rfl, app_s (by decide) (show n + 1 + 1 + 1 < 600 by omega) pI_eq, show (0 : Int32) + (-8) = -8 from rfl, fX9_append_l3]
  unfold fX9_append_b3
  rw [if_pos (by decide), ho_some]
  refine ⟨pI_eq, fun j hj => ?_, fun a b ha hb => ?_, rfl⟩
  · have cs : j = 0 ∨ j = 1 ∨ j = 2 ∨ j = 3 := by omega
    rcases cs with e | e | e | e <;> subst e
    · simp (disch := omega) only [pI_nq, Nat.add_zero, pI_eq]; rfl
    · simp (disch := omega) only [pI_nq, pI_eq]; rfl
    · rw [show n + 2 = n + 1 + 1 from rfl]; simp (disch := omega) only [pI_nq, pI_eq]; rfl
    · rw [show n + 3 = n + 1 + 1 + 1 from rfl]; simp (disch := omega) only [pI_nq, pI_eq]; rfl
  · simp (disch := omega) only [pI_nq]
theorem sh_k : ∀ i, i < 20 → (24 : Int32) - 8 * rmI (Int32.ofNat i) 4 = shI (i % 4) := by decide +kernel
theorem feed_s {a b c d e : Int32} {s : Mem} {m i n : Nat} (hi : i < 20) (hn : n + 10 < 1000) (h4 : s.1 1 4 = Int32.ofNat n) : fX12_feed_l20 N (m + 1) a b c d e (Int32.ofNat i) s = fX12_feed_l20 N m a b c d e (Int32.ofNat (i + 1)) (pI (pI s 1 (10 + n) ((wsI a b c d e (i / 4) >>> (shI (i % 4) &&& 31)) &&& 255)) 1 4 (Int32.ofNat (n + 1))) := by
  rw [fX12_feed_l20]
  unfold fX12_feed_b20
  have g4 : inb 4 4176 = true := by decide
  have t4 : (4 : Int32).toNatClampNeg = 4 := rfl
  have key : ∀ w : Int32, w = wsI a b c d e (i / 4) → fX12_feed_b73 N (fX12_feed_l20 N m) a b c d e (Int32.ofNat i) w s = fX12_feed_l20 N m a b c d e (Int32.ofNat (i + 1)) (pI (pI s 1 (10 + n) ((wsI a b c d e (i / 4) >>> (shI (i % 4) &&& 31)) &&& 255)) 1 4 (Int32.ofNat (n + 1))) := by
    intro w hw
    subst hw
    unfold fX12_feed_b73
    simp only [ho_lte]
    rw [g4, t4, h4, sh_k i hi, show (10 : Int32) + Int32.ofNat n = Int32.ofNat (10 + n) from nz_add, nz_inb (by omega), decide_eq_true (show 10 + n < 4176 by omega), nz_nat (by omega)]
    simp only [ho_gdt]
    rw [pI_nq (show ¬ (1 = 1 ∧ 4 = 10 + n) by omega), h4, nz_succ, nz_succ]
  rw [if_neg (show ¬ (20 : Int32) ≤ Int32.ofNat i by rw [z_le (by omega) (by omega)]; omega)]
  by_cases c1 : i < 4
  · rw [if_neg (show ¬ (4 : Int32) ≤ Int32.ofNat i by rw [z_le (by omega) (by omega)]; omega)]
    exact key a (by unfold wsI; rw [if_pos (by omega)])
  · rw [if_pos (show (4 : Int32) ≤ Int32.ofNat i by rw [z_le (by omega) (by omega)]; omega)]
    by_cases c2 : i < 8
    · rw [if_neg (show ¬ (8 : Int32) ≤ Int32.ofNat i by rw [z_le (by omega) (by omega)]; omega)]
      exact key b (by unfold wsI; rw [if_neg (by omega), if_pos (by omega)])
    · rw [if_pos (show (8 : Int32) ≤ Int32.ofNat i by rw [z_le (by omega) (by omega)]; omega)]
      by_cases c3 : i < 12
      · rw [if_neg (show ¬ (12 : Int32) ≤ Int32.ofNat i by rw [z_le (by omega) (by omega)]; omega)]
        exact key c (by unfold wsI; rw [if_neg (by omega), if_neg (by omega), if_pos (by omega)])
      · rw [if_pos (show (12 : Int32) ≤ Int32.ofNat i by rw [z_le (by omega) (by omega)]; omega)]
        by_cases c4 : i < 16
        · rw [if_neg (show ¬ (16 : Int32) ≤ Int32.ofNat i by rw [z_le (by omega) (by omega)]; omega)]
          exact key d (by unfold wsI; rw [if_neg (by omega), if_neg (by omega), if_neg (by omega), if_pos (by omega)])
        · rw [if_pos (show (16 : Int32) ≤ Int32.ofNat i by rw [z_le (by omega) (by omega)]; omega)]
          exact key e (by unfold wsI; rw [if_neg (by omega), if_neg (by omega), if_neg (by omega), if_neg (by omega)])
theorem feed_M (hN : 10000 ≤ N) {a b c d e : Int32} {n : Nat} (hn : n + 20 ≤ 600) (h4 : σ.1 1 4 = Int32.ofNat n) : Ho (fX12_feed_l20 N N a b c d e 0 σ) (fun r s => r = Int32.ofNat (n + 20) ∧ s.1 1 4 = Int32.ofNat (n + 20) ∧ (∀ t, t < 20 → s.1 1 (10 + n + t) = (wsI a b c d e (t / 4) >>> (shI (t % 4) &&& 31)) &&& 255) ∧ (∀ x y, ¬ (x = 1 ∧ y = 4) → ¬ (x = 1 ∧ 10 + n ≤ y ∧ y < 10 + n + 20) → s.1 x y = σ.1 x y)) := by
  refine ho_loop (F := fun m (v : Int32) s => fX12_feed_l20 N m a b c d e v s) (fun i v s => v = Int32.ofNat i ∧ s.1 1 4 = Int32.ofNat (n + i) ∧ (∀ t, t < i → s.1 1 (10 + n + t) = (wsI a b c d e (t / 4) >>> (shI (t % 4) &&& 31)) &&& 255) ∧ (∀ x y, ¬ (x = 1 ∧ y = 4) → ¬ (x = 1 ∧ 10 + n ≤ y ∧ y < 10 + n + i) → s.1 x y = σ.1 x y)) 20 ?_ ?_ 20 N 0 0 σ (by omega) (by omega) ⟨rfl, h4, fun t ht => absurd ht (Nat.not_lt_zero t), fun _ _ _ _ => rfl⟩
  · rintro m i v s hi ⟨e1, e2, e3, e4⟩ rec
    subst e1
    show Ho (fX12_feed_l20 N (m + 1) a b c d e (Int32.ofNat i) s) _
    rw [feed_s hi (by omega) e2]
    refine rec _ _ ⟨rfl, by rw [pI_eq, Nat.add_assoc], fun t ht => ?_, fun x y h1 h2 => ?_⟩
    · by_cases q : t = i
      · subst q; rw [pI_nq (by omega), show 10 + n + t = 10 + (n + t) by omega, pI_eq]
      · rw [pI_nq (by omega), pI_nq (by omega)]; exact e3 t (by omega)
    · rw [pI_nq (by omega), pI_nq (by omega)]; exact e4 x y h1 (by omega)
  · rintro m v s ⟨e1, e2, e3, e4⟩
    subst e1
    show Ho (fX12_feed_l20 N (m + 1) a b c d e (Int32.ofNat 20) s) _
    rw [fX12_feed_l20]
    unfold fX12_feed_b20
    rw [if_pos (by decide), show inb 4 4176 = true by decide, ho_gdt, ho_some]
    exact ⟨e2, e2, e3, e4⟩
end FEED
theorem t_feed {σ1 σ2 : Mem} {N : Nat} (hN : 10000 ≤ N) (R : RR σ1 σ2) (v1 v2 v3 v4 v5 : Int32) : H2 (fX11_feed N 0 v1 v2 v3 v4 v5 σ1) (fX12_feed N v1 v2 v3 v4 v5 σ2) QR := by
  unfold fX11_feed fX12_feed
  obtain ⟨n, n1, n2, n3, n4⟩ := R.1.1
  have e0 : (0 + 1 : Nat) = 1 := rfl
  have n3' : σ2.1 1 4 = Int32.ofNat n := by rw [Nat.zero_add] at n3; exact n3
  rw [e0, show inb 4 4176 = true by decide, ho_gdt, show (4 : Int32).toNatClampNeg = 4 from rfl, n2, n3', show Int32.ofNat n + 20 = Int32.ofNat (n + 20) from nz_add]
  by_cases c : n + 20 ≤ 600
  · rw [if_pos (show Int32.ofNat (n + 20) ≤ 600 by rw [z_ge (by omega) (by omega)]; exact c), if_pos (show Int32.ofNat (n + 20) ≤ 600 by rw [z_ge (by omega) (by omega)]; exact c)]
    refine h2_l (ho_mono (app_C hN (by omega) n2) ?_)
    intro _ s1 ⟨a1, a2, a3, a4⟩
    refine h2_l (ho_mono (app_C hN (by omega) a1) ?_)
    intro _ s2 ⟨b1, b2, b3, b4⟩
    refine h2_l (ho_mono (app_C hN (by omega) b1) ?_)
    intro _ s3 ⟨c1, c2, c3, c4⟩
    refine h2_l (ho_mono (app_C hN (by omega) c1) ?_)
    intro _ s4 ⟨d1, d2, d3, d4⟩
    refine h2_l (ho_mono (app_C hN (by omega) d1) ?_)
    intro _ s5 ⟨f1, f2, f3, f4⟩
    simp only [ho_lte]
    refine h2_sl (ho_mono (feed_M hN c n3') ?_)
    intro r t ⟨g1, g2, g3, g4⟩
    have by5 : ∀ u, u < 20 → s5.1 2 (n + u) = byI (wsI v1 v2 v3 v4 v5 (u / 4)) (u % 4) := by
      intro u hu
      by_cases u1 : u < 4
      · rw [f3 _ _ (by omega) (by omega), d3 _ _ (by omega) (by omega), c3 _ _ (by omega) (by omega), b3 _ _ (by omega) (by omega), a2 u u1, show u / 4 = 0 by omega, show u % 4 = u by omega]; rfl
      · by_cases u2 : u < 8
        · have := b2 (u - 4) (by omega)
          rw [f3 _ _ (by omega) (by omega), d3 _ _ (by omega) (by omega), c3 _ _ (by omega) (by omega), show n + u = n + 4 + (u - 4) by omega, this, show u / 4 = 1 by omega, show u % 4 = u - 4 by omega]; rfl
        · by_cases u3 : u < 12
          · have := c2 (u - 8) (by omega)
            rw [f3 _ _ (by omega) (by omega), d3 _ _ (by omega) (by omega), show n + u = n + 4 + 4 + (u - 8) by omega, this, show u / 4 = 2 by omega, show u % 4 = u - 8 by omega]; rfl
          · by_cases u4 : u < 16
            · have := d2 (u - 12) (by omega)
              rw [f3 _ _ (by omega) (by omega), show n + u = n + 4 + 4 + 4 + (u - 12) by omega, this, show u / 4 = 3 by omega, show u % 4 = u - 12 by omega]; rfl
            · have := f2 (u - 16) (by omega)
              rw [show n + u = n + 4 + 4 + 4 + 4 + (u - 16) by omega, this, show u / 4 = 4 by omega, show u % 4 = u - 16 by omega]; rfl
    have fr : ∀ a b, ¬ (a = 1 ∧ b = 1) → ¬ (a = 2 ∧ n ≤ b ∧ b < n + 20) → s5.1 a b = σ1.1 a b := by
      intro a b ha hb
      rw [f3 a b ha (by omega), d3 a b ha (by omega), c3 a b ha (by omega), b3 a b ha (by omega), a3 a b ha (by omega)]
    have frc : ∀ a, a ≠ 1 → a ≠ 2 → s5.1 a = σ1.1 a := fun a h1 h2 => by funext b; exact fr a b (by omega) (by omega)
    have e20 : n + 4 + 4 + 4 + 4 + 4 = n + 20 := by omega
    rw [f1, g1, e20]
    refine ⟨rfl, ?_, fun k hk => ?_, ?_, ?_⟩
    · refine R.1.mv (TcR.of (fun q h1 h2 => frc q (by omega) (by omega))) (fun i hi hr => ?_) ⟨n + 20, c, by rw [f1, e20], ?_, fun i hi => ?_⟩ ⟨?_, ?_⟩ ?_
      · rw [g4 _ _ (by omega) (by omega)]
      · rw [Nat.zero_add]; exact g2
      · by_cases q : i < n
        · rw [fr _ _ (by omega) (by omega), g4 _ _ (by omega) (by omega)]; exact n4 i q
        · have x := by5 (i - n) (by omega)
          have y := g3 (i - n) (by omega)
          rw [show n + (i - n) = i by omega] at x
          rw [show 10 + n + (i - n) = 0 + 10 + i by omega] at y
          rw [show (1 + 1 : Nat) = 2 from rfl, x, y]
          exact by_R _
      · rw [fr _ _ (by omega) (by omega), g4 _ _ (by omega) (by omega)]; exact R.1.2.1.1
      · rw [fr _ _ (by omega) (by omega), g4 _ _ (by omega) (by omega)]; exact R.1.2.1.2
      · rw [byOk_iff]
        intro i hi
        by_cases q : n ≤ i ∧ i < n + 20
        · have x := by5 (i - n) (by omega)
          rw [show n + (i - n) = i by omega] at x
          rw [show (1 + 1 : Nat) = 2 from rfl, x]
          exact by_bd _
        · rw [fr _ _ (by omega) (by omega)]
          exact byOk_iff.mp R.1.2.2.2.2.2 i hi
    · have q := R.2.1 k hk
      rw [frc _ (by omega) (by omega), frc 170 (by omega) (by omega), g4 2 k (by omega) (by omega)]
      refine ⟨q.1, ?_⟩
      rcases q.2 with q | ⟨q1, q2, q3⟩
      · exact Or.inl q
      · exact Or.inr ⟨q1, q2, q3.mvw (TcR.of (fun a h1 h2 => frc a (by omega) (by omega))) (fun j _ _ => by rw [frc _ (by omega) (by omega)]) (fun i _ => by rw [frc _ (by omega) (by omega)]) (fun i hi => g4 _ _ (by omega) (by omega))⟩
    · rw [frc 269 (by omega) (by omega)]; exact R.2.2.1
    · unfold VR; rw [frc 220 (by omega) (by omega)]; exact R.2.2.2
  · rw [if_neg (show ¬ Int32.ofNat (n + 20) ≤ 600 by rw [z_ge (by omega) (by omega)]; exact c), if_neg (show ¬ Int32.ofNat (n + 20) ≤ 600 by rw [z_ge (by omega) (by omega)]; exact c)]
    exact ⟨rfl, R⟩
