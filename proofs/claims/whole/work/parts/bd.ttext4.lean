section TTEXT4
variable {N : Nat} {σ1 σ2 : Mem}
/-- reading begins: the class -/
theorem begin_C {n : Nat} {v1 : Int32} {a1 : Mem} {β : Type} {K : Unit → Mem → Option (β × Mem)} (hn : n ≤ 600) : ∃ M, bd (fX6_read N 171 v1 2 (Int32.ofNat n) a1) K = bd (fX6_advance N 171 M) (fun _ s13 => bd (fX6_read_l58 N 171 N v1 0 s13) K) ∧ GC a1 M ∧ M.1 171 9 = Int32.ofNat 0 ∧ M.1 171 5 = 2 ∧ M.1 171 6 = Int32.ofNat n ∧ M.1 171 3 = 0 ∧ M.1 171 4 = -1 ∧ M.1 172 0 = 0 ∧ M.1 172 1 = 0 ∧ M.1 172 2 = 3 ∧ M.1 181 0 = 0 ∧ M.1 185 0 = 0 := by
  have mn : mnI (Int32.ofNat n) 600 = Int32.ofNat n := by
    rw [show (600 : Int32) = Int32.ofNat 600 from rfl, mn_nat (by omega) (by omega), if_neg (by omega)]
  unfold fX6_read fX0_empty fX8_empty fX4_empty
  simp only [ho_lte, ho_bds, bd_bd]
  refine ⟨_, rfl, fun k j h => ?_, ?_, ?_, ?_, ?_, ?_, ?_, ?_, ?_, ?_, ?_⟩
  · simp (disch := omega) only [pI_nq]
  · rw [pI_eq]; rfl
  · rw [pI_nq (by omega), pI_nq (by omega), pI_eq]; rfl
  · rw [pI_nq (by omega), pI_eq, mn]
  · simp (disch := omega) only [pI_nq, pI_eq]
  · simp (disch := omega) only [pI_nq, pI_eq]
  · simp (disch := omega) only [pI_nq, pI_eq]
  · simp (disch := omega) only [pI_nq, pI_eq]
  · simp (disch := omega) only [pI_nq, pI_eq]
  · simp (disch := omega) only [pI_nq, pI_eq]
  · simp (disch := omega) only [pI_nq, pI_eq]
/-- reading begins: the reference -/
theorem begin_M {v1 v2 : Int32} {a2 : Mem} (hN : 10000 ≤ N) : ∃ M, fX12_text_b71 N v1 v2 a2 = bd (fX12_advance N M) (fun _ s17 => fX12_text_l122 N N v1 v2 s17) ∧ GM a2 M ∧ M.1 0 3 = Int32.ofNat 0 ∧ M.1 0 8 = 0 ∧ M.1 0 9 = -1 ∧ M.1 0 2 = a2.1 0 2 ∧ (∀ j, M.1 1 j = a2.1 1 j) ∧ M.1 3 0 = 0 ∧ M.1 3 1 = 0 ∧ (v1 = 0 → M.1 3 2 = 3) := by
  unfold fX12_text_b71
  simp only [ho_lte]
  obtain ⟨s', h1, h2, h3⟩ := zero_M (N := N) (v1 := v1) (v2 := v2) 121 N 0 (pI (pI (pI a2 0 3 0) 0 8 0) 0 9 (-1)) (by omega) (by omega)
  have h1' : fX12_text_l88 N N v1 v2 0 (pI (pI (pI a2 0 3 0) 0 8 0) 0 9 (-1)) = _ := h1
  rw [h1']
  unfold fX12_text_b118
  by_cases c : v1 = 0
  · rw [if_pos c, gdT (show inb 2 121 = true by decide), ho_lte, show (2 : Int32).toNatClampNeg = 2 from rfl]
    refine ⟨_, rfl, ⟨fun j _ _ => ?_, fun j => ?_⟩, ?_, ?_, ?_, ?_, fun j => ?_, ?_, ?_, fun _ => ?_⟩
    · rw [pI_nq (by omega), h3 _ _ (by omega)]; simp (disch := omega) only [pI_nq]
    · rw [pI_nq (by omega), h3 _ _ (by omega)]; simp (disch := omega) only [pI_nq]
    · rw [pI_nq (by omega), h3 _ _ (by omega), pI_nq (by omega), pI_nq (by omega), pI_eq]; rfl
    · rw [pI_nq (by omega), h3 _ _ (by omega), pI_nq (by omega), pI_eq]
    · rw [pI_nq (by omega), h3 _ _ (by omega), pI_eq]
    · rw [pI_nq (by omega), h3 _ _ (by omega)]; simp (disch := omega) only [pI_nq]
    · rw [pI_nq (by omega), h3 _ _ (by omega)]; simp (disch := omega) only [pI_nq]
    · rw [pI_nq (by omega)]; exact h2 0 (by omega) (by omega)
    · rw [pI_nq (by omega)]; exact h2 1 (by omega) (by omega)
    · rw [pI_eq]
  · rw [if_neg c]
    refine ⟨_, rfl, ⟨fun j _ _ => ?_, fun j => ?_⟩, ?_, ?_, ?_, ?_, fun j => ?_, ?_, ?_, fun z => absurd z c⟩
    · rw [h3 _ _ (by omega)]; simp (disch := omega) only [pI_nq]
    · rw [h3 _ _ (by omega)]; simp (disch := omega) only [pI_nq]
    · rw [h3 _ _ (by omega), pI_nq (by omega), pI_nq (by omega), pI_eq]; rfl
    · rw [h3 _ _ (by omega), pI_nq (by omega), pI_eq]
    · rw [h3 _ _ (by omega), pI_eq]
    · rw [h3 _ _ (by omega)]; simp (disch := omega) only [pI_nq]
    · rw [h3 _ _ (by omega)]; simp (disch := omega) only [pI_nq]
    · exact h2 0 (by omega) (by omega)
    · exact h2 1 (by omega) (by omega)
/-- a text is read, as number k of sort t -/
theorem read_J {n t k c : Nat} {v2 : Int32} {a1 a2 : Mem} (hN : 10000 ≤ N) (R : RR σ1 σ2) (A : BaC σ1 a1) (A2 : BaM σ2 a2) (hn : n ≤ 600) (by1 : ∀ i, i < n → ByR (a1.1 2 i) (a2.1 1 (10 + i))) (z2 : a2.1 0 2 = Int32.ofNat n) (z5 : a2.1 1 5 = 0) (z6 : a2.1 1 6 = -1) (ht : t < 3) (hc : c ≤ 2) (ok : OkN v2 c k) (c1 : σ1.1 3 t = Int32.ofNat c) (c2 : σ2.1 1 t = Int32.ofNat c) : H2 (bd (fX6_read N 171 (Int32.ofNat t) 2 (Int32.ofNat n) a1) (KT N (Int32.ofNat t) (Int32.ofNat k))) (fX12_text_b71 N (Int32.ofNat t) v2 a2) QR := by
  obtain ⟨M1, m1, m2, m3, m4, m5, m6, m7, m8, m9, m10, m11, m12⟩ := begin_C (N := N) (v1 := Int32.ofNat t) (a1 := a1) (K := KT N (Int32.ofNat t) (Int32.ofNat k)) hn
  obtain ⟨M2, q1, q2, q3, q4, q5, q6, q7, q8, q9, q10⟩ := begin_M (N := N) (v1 := Int32.ofNat t) (v2 := v2) (a2 := a2) hN
  rw [m1, q1]
  have bs : ∀ i, i < n → (a2.1 1 (10 + i)).toNatClampNeg < 256 ∧ a1.1 2 i = byX (a2.1 1 (10 + i)).toNatClampNeg ∧ a2.1 1 (10 + i) = Int32.ofNat (a2.1 1 (10 + i)).toNatClampNeg := fun i hi => by
    obtain ⟨x, x1, x2, x3⟩ := by1 i hi
    have e : (a2.1 1 (10 + i)).toNatClampNeg = x := by rw [x2]; exact nz_nat (by omega)
    rw [e]
    exact ⟨x1, x3, x2⟩
  generalize hB : (fun i => (a2.1 1 (10 + i)).toNatClampNeg) = B
  have bB : ∀ i, B i = (a2.1 1 (10 + i)).toNatClampNeg := fun i => by rw [← hB]
  have TC : TpC B n M1 := ⟨hn, m4, m5, fun i hi => by rw [bB]; exact ⟨(bs i hi).1, by rw [m2 2 i (by omega)]; exact (bs i hi).2.1⟩⟩
  have TM : TpM B n M2 := ⟨hn, by rw [q6]; exact z2, fun i hi => by rw [bB]; exact ⟨(bs i hi).1, by rw [q7]; exact (bs i hi).2.2⟩⟩
  have ts := ts_bd (B := B) (n := n) (i := 0) (Nat.zero_le _)
  refine h2_lr (h2_mono (h2_both (adv_C hN TC (Nat.zero_le _) m3) (adv_M hN TM (Nat.zero_le _) q3)) ?_)
  rintro _ t1 _ t2 ⟨⟨F1, L1⟩, F2, L2⟩
  have P : PS B n (tsN B n 0) t1 t2 := ⟨TC.fr F1, TM.fr F2, ts.2, L1, L2⟩
  have Fj : FJ (tsN B n 0) t1 t2 := by
    refine ⟨?_, Or.inl ⟨?_, ?_, ?_, ?_⟩⟩
    · rw [F2 _ _ (by omega)]; exact q4
    · rw [F1 _ _ (by omega)]; exact m6
    · rw [F1 _ _ (by omega)]; exact m7
    · rw [F2 _ _ (by omega), q7]; exact z5
    · rw [F2 _ _ (by omega), q7]; exact z6
  have G1 : GC a1 t1 := m2.trans F1.toA.gc
  have G2 : GM a2 t2 := q2.trans F2.toB.gm
  have cs : t = 0 ∨ t = 1 ∨ t = 2 := by omega
  rcases cs with e | e | e
  · subst e
    refine loop_J (LM := fX12_chamberLine N) (D := DC0) hN hn (fun rc σ h8 h5 => ?_) (fun s σ1 σ2 P F d => cham_J hN (by omega) P F d) (fun s1 s2 g1 g2 F => fin_0 hN R A A2 hc ok c1 c2 g1 g2 F) G1 G2 P Fj ?_
    · unfold fX12_text_b122
      rw [if_pos h8, if_neg h5, if_pos (show Int32.ofNat 0 = 0 from rfl)]
    · refine ⟨0, 0, ⟨by omega, by omega⟩, ⟨?_, ?_, ?_, ?_⟩, fun _ => ⟨⟨3, by omega, ?_, ?_⟩, fun p hp => absurd hp (Nat.not_lt_zero p), fun w hw => absurd hw (Nat.not_lt_zero w), Or.inl ⟨?_, fun w hw => absurd hw (Nat.not_lt_zero w)⟩⟩⟩
      · rw [F1 _ _ (by omega)]; exact m8
      · rw [F1 _ _ (by omega)]; exact m9
      · rw [F2 _ _ (by omega)]; exact q8
      · rw [F2 _ _ (by omega)]; exact q9
      · rw [F1 _ _ (by omega)]; exact m10
      · rw [F2 _ _ (by omega)]; exact q10 rfl
      · rw [F2 _ _ (by omega)]; exact q5
  · subst e
    refine loop_J (LM := fX12_sessionLine N) (D := DS0) hN hn (fun rc σ h8 h5 => ?_) (fun s σ1 σ2 P F d => sess_J hN (by omega) P F d) (fun s1 s2 g1 g2 F => fin_1 hN R A A2 hc ok c1 c2 g1 g2 F) G1 G2 P Fj ?_
    · unfold fX12_text_b122
      rw [if_pos h8, if_neg h5, if_neg (show ¬ Int32.ofNat 1 = 0 by decide), if_pos (show Int32.ofNat 1 = 1 from rfl)]
    · refine ⟨0, by omega, ⟨?_, ?_⟩, fun _ d hd => absurd hd (Nat.not_lt_zero d)⟩
      · rw [F1 _ _ (by omega)]; exact m11
      · rw [F2 _ _ (by omega)]; exact q8
  · subst e
    refine loop_J (LM := fX12_logLine N) (D := DL0) hN hn (fun rc σ h8 h5 => ?_) (fun s σ1 σ2 P F d => logl_J ⟨by decide, by decide⟩ hN (by omega) P F d) (fun s1 s2 g1 g2 F => fin_2 hN R A A2 hc ok c1 c2 g1 g2 F) G1 G2 P Fj ?_
    · unfold fX12_text_b122
      rw [if_pos h8, if_neg h5, if_neg (show ¬ Int32.ofNat 2 = 0 by decide), if_neg (show ¬ Int32.ofNat 2 = 1 by decide)]
    · refine ⟨0, by omega, ⟨?_, ?_⟩, fun _ d hd => absurd hd (Nat.not_lt_zero d)⟩
      · rw [F1 _ _ (by omega)]; exact m12
      · rw [F2 _ _ (by omega)]; exact q8
theorem t_text (hN : 10000 ≤ N) (R : RR σ1 σ2) (v1 v2 : Int32) : H2 (fX11_text N 0 v1 v2 σ1) (fX12_text N v1 v2 σ2) QR := by
  obtain ⟨n, n1, n2, n3, n4⟩ := R.1.1
  have n3' : σ2.1 1 4 = Int32.ofNat n := by rw [Nat.zero_add] at n3; exact n3
  have E1 : fX11_text N 0 v1 v2 σ1 = bd (fX9_numberFor N 1 v1 v2 (pI (pI (pI σ1 1 1 0) 1 2 0) 1 3 (-1))) (fun r5 s6 => if r5 = (-1) then some ((-2), s6) else bd (fX6_read N 171 v1 2 (σ1.1 1 1) s6) (KT N v1 r5)) := rfl
  have E2 : fX12_text N v1 v2 σ2 = bd (fX12_isIn N v1 0 2 (pI (pI (pI (pI σ2 0 2 (σ2.1 1 4)) 1 4 0) 1 5 0) 1 6 (-1))) (fun r5 s6 => if r5 = 0 then some ((-2), s6) else if v2 = (-1) then gd (inb v1 4176) (if (s6.1 1 v1.toNatClampNeg) < 2 then fX12_text_b71 N v1 v2 s6 else some ((-2), s6)) else bd (fX12_isOf N v1 v2 s6) (fun r7 s8 => if r7 = 0 then some ((-2), s8) else fX12_text_b71 N v1 v2 s8)) := rfl
  rw [E1, E2, n2, n3']
  have A1 : BaC σ1 (pI (pI (pI σ1 1 1 0) 1 2 0) 1 3 (-1)) := ⟨fun q j h1 h2 => by rw [pI_nq (by omega), pI_nq (by omega), pI_nq (by omega)], by rw [pI_nq (by omega), pI_nq (by omega), pI_eq]⟩
  have A2 : BaM σ2 (pI (pI (pI (pI σ2 0 2 (Int32.ofNat n)) 1 4 0) 1 5 0) 1 6 (-1)) := ⟨fun j h => by rw [pI_nq (by omega), pI_nq (by omega), pI_nq (by omega), pI_nq (by omega)], fun j => by rw [pI_nq (by omega), pI_nq (by omega), pI_nq (by omega), pI_nq (by omega)], by rw [pI_nq (by omega), pI_nq (by omega), pI_eq]⟩
  have y2 : (pI (pI (pI σ1 1 1 0) 1 2 0) 1 3 (-1)).1 1 2 = 0 := by rw [pI_nq (by omega), pI_eq]
  have y3 : (pI (pI (pI σ1 1 1 0) 1 2 0) 1 3 (-1)).1 1 3 = -1 := pI_eq
  have z2 : (pI (pI (pI (pI σ2 0 2 (Int32.ofNat n)) 1 4 0) 1 5 0) 1 6 (-1)).1 0 2 = Int32.ofNat n := by rw [pI_nq (by omega), pI_nq (by omega), pI_nq (by omega), pI_eq]
  have z5 : (pI (pI (pI (pI σ2 0 2 (Int32.ofNat n)) 1 4 0) 1 5 0) 1 6 (-1)).1 1 5 = 0 := by rw [pI_nq (by omega), pI_eq]
  have z6 : (pI (pI (pI (pI σ2 0 2 (Int32.ofNat n)) 1 4 0) 1 5 0) 1 6 (-1)).1 1 6 = -1 := pI_eq
  generalize pI (pI (pI σ1 1 1 0) 1 2 0) 1 3 (-1) = a1 at A1 y2 y3
  generalize pI (pI (pI (pI σ2 0 2 (Int32.ofNat n)) 1 4 0) 1 5 0) 1 6 (-1) = a2 at A2 z2 z5 z6
  have no : RR a1 a2 := R.flt A1.1 A2.1 A2.2.1 ⟨A1.2, A2.2.2, by rw [y2, z5], by rw [y3, z6]⟩
  rw [isIn_Z, ho_bds]
  by_cases hv : inb v1 3 = true
  · obtain ⟨t, t1, t2, t3⟩ := inb_nat hv
    subst t2
    rw [if_pos (show (0 : Int32).toInt ≤ (Int32.ofNat t).toInt ∧ (Int32.ofNat t).toInt ≤ (2 : Int32).toInt by rw [nz_toInt (by omega), show (0 : Int32).toInt = 0 from rfl, show (2 : Int32).toInt = 2 from rfl]; omega), if_neg (show ¬ (1 : Int32) = 0 by decide)]
    have cnt : ∃ c, c ≤ 2 ∧ σ1.1 3 t = Int32.ofNat c ∧ σ2.1 1 t = Int32.ofNat c := by
      obtain ⟨_, _, ⟨m, v1, v2, v3, _⟩, ⟨m', w1, w2, w3, _⟩, ⟨m'', x1, x2, x3, _⟩, _⟩ := R.1
      have cs : t = 0 ∨ t = 1 ∨ t = 2 := by omega
      rcases cs with e | e | e <;> subst e
      · exact ⟨m, v1, v2, v3⟩
      · exact ⟨m', w1, w2, w3⟩
      · exact ⟨m'', x1, x2, x3⟩
    obtain ⟨c, hc, c1, c2⟩ := cnt
    have d1 : a1.1 3 t = Int32.ofNat c := by rw [A1.1 _ _ (by omega) (by omega)]; exact c1
    have d2 : a2.1 1 t = Int32.ofNat c := by rw [A2.1 _ (by omega)]; exact c2
    have am := askd_M (N := N) (v2 := v2) (dd := fun s => some ((-2 : Int32), s)) (κ := fun s => fX12_text_b71 N (Int32.ofNat t) v2 s) t1 hc d2
    rcases numF_C (N := N) (v2 := v2) t1 hc d1 with ⟨k, ok, e⟩ | ⟨nok, e⟩
    · have k2 : k < 2 := by rcases ok with ⟨_, h1, h2⟩ | ⟨_, h1⟩ <;> omega
      rw [e, ho_bds, if_neg (z_m1 (by omega))]
      have := am.1 ⟨k, ok⟩
      rw [this]
      refine read_J hN R A1 A2 n1 (fun i hi => ?_) z2 z5 z6 t1 hc ok c1 c2
      have := n4 i hi
      rw [A1.1 _ _ (by omega) (by omega), A2.1 _ (by omega)]
      rw [show 0 + 10 + i = 10 + i by omega] at this
      exact this
    · rw [e, ho_bds, if_pos rfl]
      have := am.2 nok
      rw [this]
      exact ⟨rfl, no⟩
  · have q := mt inb_iff.mpr hv
    rw [numF_n hv, ho_bds, if_pos rfl, if_neg (show ¬ ((0 : Int32).toInt ≤ v1.toInt ∧ v1.toInt ≤ (2 : Int32).toInt) by rw [show (0 : Int32).toInt = 0 from rfl, show (2 : Int32).toInt = 2 from rfl]; omega), if_pos rfl]
    exact ⟨rfl, no⟩
end TTEXT4
