section TTEXT3
variable {N : Nat} {B : Nat → Nat} {n : Nat} {σ σ1 σ2 a1 a2 s1 s2 u1 u2 : Mem}
theorem newCh {np nw k : Nat} {v : Mem} (hn : np ≤ 8 ∧ nw ≤ 6) (c : s1.1 172 0 = Int32.ofNat np ∧ s1.1 172 1 = Int32.ofNat nw ∧ s2.1 3 0 = Int32.ofNat np ∧ s2.1 3 1 = Int32.ofNat nw) (d : DD np nw s1 s2) (seat : ∀ w, w < nw → s1.1 180 w = 8 ∨ ∃ p, p < np ∧ s1.1 180 w = Int32.ofNat p) (hv : ∀ q j, ¬ (q = 1 ∧ (j = 2 ∨ j = 3)) → v.1 q j = s1.1 q j) (P : ChCp u1 (7 + 9 * k) v 172) (M : ∀ i, i < 63 → u2.1 1 (610 + 63 * k + i) = s2.1 3 i) : ∃ C np nw, ChW C np nw ∧ ChC u1 (7 + 9 * k) C np nw ∧ ChM u2 (610 + 63 * k) C np nw := by
  obtain ⟨⟨dm, dm1, dm2, dm3⟩, d2, d3, _⟩ := d
  refine ⟨fun i j => s1.1 (171 + i) j, np, nw, ⟨⟨hn.1, hn.2, c.1, c.2.1, fun p hp => ?_, fun p hp => ?_, fun p hp => ?_, fun w hw => ?_⟩, ⟨dm, dm1, dm2⟩, fun p hp => ?_, fun w hw => ?_⟩, ?_, ?_⟩
  · obtain ⟨a, b, c, d, e, f, h1, h2, h3⟩ := d2 p hp
    show s1.1 173 p = 0 ∨ s1.1 173 p = 1 ∨ s1.1 173 p = 2 ∨ s1.1 173 p = 3
    rw [h2.1]
    have cs : a = 0 ∨ a = 1 ∨ a = 2 ∨ a = 3 := by omega
    rcases cs with e | e | e | e <;> subst e
    · exact Or.inl rfl
    · exact Or.inr (Or.inl rfl)
    · exact Or.inr (Or.inr (Or.inl rfl))
    · exact Or.inr (Or.inr (Or.inr rfl))
  · obtain ⟨a, b, c, d, e, f, h1, h2, h3⟩ := d2 p hp
    exact ⟨e, by omega, h2.2.2.2.2.1⟩
  · obtain ⟨a, b, c, d, e, f, h1, h2, h3⟩ := d2 p hp
    show 1 ≤ s1.1 178 p ∧ s1.1 178 p ≤ 9
    rw [h2.2.2.2.2.2, z_le (by omega) (by omega), z_ge (by omega) (by omega)]
    omega
  · exact seat w hw
  · obtain ⟨a, b, c, d, e, f, h1, h2, h3⟩ := d2 p hp
    exact ⟨⟨b, by omega, h2.2.1⟩, ⟨c, by omega, h2.2.2.1⟩, ⟨d, by omega, by omega, h2.2.2.2.1⟩⟩
  · obtain ⟨g, x, h1, h2, h3⟩ := d3 w hw
    exact ⟨g, by omega, h2.1⟩
  · refine ChC.mv (σ := v) (y := 172) ⟨?_, ?_, ?_, fun p hp => ⟨?_, ?_, ?_, ?_, ?_, ?_⟩, fun w hw => ⟨?_, ?_⟩⟩ P hn.1 hn.2
    all_goals exact hv _ _ (by omega)
  · refine ⟨?_, ?_, ?_, fun p hp j hj => ?_, fun w hw j hj => ?_⟩
    · have := M 0 (by omega)
      rw [Nat.add_zero] at this
      rw [this, c.2.2.1]; exact c.1.symm
    · rw [M 1 (by omega), c.2.2.2]; exact c.2.1.symm
    · rw [M 2 (by omega), dm3]; exact dm2.symm
    · obtain ⟨a, b, c, d, e, f, h1, h2, h3⟩ := d2 p hp
      rw [show 610 + 63 * k + 3 + 6 * p + j = 610 + 63 * k + (3 + 6 * p + j) by omega, M _ (by omega)]
      have cs : j = 0 ∨ j = 1 ∨ j = 2 ∨ j = 3 ∨ j = 4 ∨ j = 5 := by omega
      rcases cs with q | q | q | q | q | q <;> subst q
      · rw [Nat.add_zero, h3.1]; exact h2.1.symm
      · rw [h3.2.1]; exact h2.2.1.symm
      · rw [h3.2.2.1]; exact h2.2.2.1.symm
      · rw [h3.2.2.2.1]; exact h2.2.2.2.1.symm
      · rw [h3.2.2.2.2.1]; exact h2.2.2.2.2.1.symm
      · rw [h3.2.2.2.2.2]; exact h2.2.2.2.2.2.symm
    · obtain ⟨g, x, h1, h2, h3⟩ := d3 w hw
      rw [show 610 + 63 * k + 51 + 2 * w + j = 610 + 63 * k + (51 + 2 * w + j) by omega, M _ (by omega)]
      have cs : j = 0 ∨ j = 1 := by omega
      rcases cs with q | q <;> subst q
      · rw [Nat.add_zero, h3.1]; exact h2.1.symm
      · rw [h3.2]; exact h2.2.symm
theorem newSe {c k : Nat} {v : Mem} (S : SN c s1 s2) (cl : s1.1 171 3 = 0) (hv : ∀ q j, ¬ (q = 1 ∧ (j = 2 ∨ j = 3)) → v.1 q j = s1.1 q j) (P : SeCp u1 (25 + 4 * k) v 181) (M : ∀ i, i < 121 → u2.1 1 (736 + 121 * k + i) = s2.1 3 i) : SeR u1 (25 + 4 * k) u2 (736 + 121 * k) := by
  obtain ⟨c1, ⟨c2, c3⟩, c4⟩ := S
  refine ⟨c, c1, ?_, ?_, fun d hd => ?_⟩
  · rw [P.1, hv _ _ (by omega)]; exact c2
  · have := M 0 (by omega)
    rw [Nat.add_zero] at this
    rw [this]; exact c3
  · obtain ⟨t, a, b, h1, h2, h3, h4, h5, h6, h7, h8⟩ := c4 cl d hd
    obtain ⟨p1, p2, p3⟩ := P.2 d (by omega)
    refine ⟨t, a, b, ?_, ?_, ?_, ?_, ?_, ?_, h7, h8⟩
    · rw [p1, hv _ _ (by omega)]; exact h1
    · rw [p2, hv _ _ (by omega)]; exact h2
    · rw [p3, hv _ _ (by omega)]; exact h3
    · rw [show 736 + 121 * k + 1 + 3 * d = 736 + 121 * k + (1 + 3 * d) by omega, M _ (by omega)]; exact h4
    · rw [show 736 + 121 * k + 1 + 3 * d + 1 = 736 + 121 * k + (1 + 3 * d + 1) by omega, M _ (by omega)]; exact h5
    · rw [show 736 + 121 * k + 1 + 3 * d + 2 = 736 + 121 * k + (1 + 3 * d + 2) by omega, M _ (by omega)]; exact h6
theorem newLo {c k : Nat} {v : Mem} (S : LN c s1 s2) (cl : s1.1 171 3 = 0) (hv : ∀ q j, ¬ (q = 1 ∧ (j = 2 ∨ j = 3)) → v.1 q j = s1.1 q j) (P : LoCp u1 (33 + 5 * k) v 185) (M : ∀ i, i < 33 → u2.1 1 (978 + 33 * k + i) = s2.1 3 i) : LoR u1 (33 + 5 * k) u2 (978 + 33 * k) := by
  obtain ⟨c1, ⟨c2, c3⟩, c4⟩ := S
  refine ⟨c, c1, ?_, ?_, fun d hd => ?_⟩
  · rw [P.1, hv _ _ (by omega)]; exact c2
  · have := M 0 (by omega)
    rw [Nat.add_zero] at this
    rw [this]; exact c3
  · obtain ⟨t, a, b, m, h1, h2, h3, h4, h5, h6, h7, h8, h9, h10, h11, h12⟩ := c4 cl d hd
    obtain ⟨p1, p2, p3, p4⟩ := P.2 d (by omega)
    refine ⟨t, a, b, m, h1, h2, h3, h4, ?_, ?_, ?_, ?_, ?_, ?_, ?_, ?_⟩
    · rw [p1, hv _ _ (by omega)]; exact h5
    · rw [p2, hv _ _ (by omega)]; exact h6
    · rw [p3, hv _ _ (by omega)]; exact h7
    · rw [p4, hv _ _ (by omega)]; exact h8
    · rw [show 978 + 33 * k + 1 + 4 * d = 978 + 33 * k + (1 + 4 * d) by omega, M _ (by omega)]; exact h9
    · rw [show 978 + 33 * k + 1 + 4 * d + 1 = 978 + 33 * k + (1 + 4 * d + 1) by omega, M _ (by omega)]; exact h10
    · rw [show 978 + 33 * k + 1 + 4 * d + 2 = 978 + 33 * k + (1 + 4 * d + 2) by omega, M _ (by omega)]; exact h11
    · rw [show 978 + 33 * k + 1 + 4 * d + 3 = 978 + 33 * k + (1 + 4 * d + 3) by omega, M _ (by omega)]; exact h12
theorem zero_M {v1 v2 : Int32} : ∀ (d m i : Nat) (s : Mem), i + d = 121 → d < m → ∃ s', fX12_text_l88 N m v1 v2 (Int32.ofNat i) s = (if v1 = 0 then gd (inb 2 121) (lt_ (pI s' 3 (2 : Int32).toNatClampNeg 3) (fun s13 => fX12_text_b118 N v1 v2 s13)) else fX12_text_b118 N v1 v2 s') ∧ (∀ j, i ≤ j → j < 121 → s'.1 3 j = 0) ∧ (∀ a b, ¬ (a = 3 ∧ i ≤ b ∧ b < 121) → s'.1 a b = s.1 a b)
  | 0, m + 1, i, s, h, _ => by
    have e : i = 121 := by omega
    subst e
    refine ⟨s, ?_, fun j h1 h2 => by omega, fun _ _ _ => rfl⟩
    simp only [fX12_text_l88]
    unfold fX12_text_b88
    rw [if_pos (by decide)]
  | d + 1, m + 1, i, s, h, hm => by
    obtain ⟨s', h1, h2, h3⟩ := zero_M (v1 := v1) (v2 := v2) d m (i + 1) (pI s 3 i 0) (by omega) (by omega)
    refine ⟨s', ?_, fun j h4 h5 => ?_, fun a b h4 => ?_⟩
    · rw [← h1]
      simp only [fX12_text_l88]
      unfold fX12_text_b88
      rw [if_neg (show ¬ (121 : Int32) ≤ Int32.ofNat i by rw [z_le (by omega) (by omega)]; omega), gdT (inb_k (show i < 121 by omega) (by omega)), nz_nat (by omega), ho_lte, ho_lte, nz_succ]
    · by_cases q : j = i
      · subst q; rw [h3 3 j (by omega), pI_eq]
      · exact h2 j (by omega) h5
    · rw [h3 a b (by omega), pI_nq (by omega)]
theorem b92_n {v1 : Int32} (h : ¬ s1.1 171 3 = 0 ∨ ¬ v1 = 0) : fX6_read_b92 N 171 v1 s1 = some ((), s1) := by
  unfold fX6_read_b92
  by_cases c : v1 = 0
  · rw [if_pos c, if_neg (h.elim id (fun z => absurd c z))]
  · rw [if_neg c]
theorem b185_n {v1 v2 : Int32} (h : ¬ s2.1 1 5 = 0 ∨ ¬ v1 = 0) : fX12_text_b185 N v1 v2 s2 = fX12_text_b220 N v1 v2 s2 := by
  unfold fX12_text_b185
  rw [gdT (show inb 5 4176 = true by decide), show (5 : Int32).toNatClampNeg = 5 from rfl]
  by_cases c : s2.1 1 5 = 0
  · rw [if_pos c, if_neg (h.elim (fun z => absurd c z) id)]
  · rw [if_neg c]
/-- with a fault, whatever the sort -/
theorem fin_f {v1 v2 k : Int32} {D : Mem → Mem → Prop} (R : RR σ1 σ2) (A : BaC σ1 a1) (A2 : BaM σ2 a2) (G1 : GC a1 s1) (G2 : GM a2 s2) (F : FinR B n D s1 s2) (h : ¬ s1.1 171 3 = 0) : H2 (bd (fX6_read_b92 N 171 v1 s1) (KT N v1 k)) (fX12_text_b185 N v1 v2 s2) QR := by
  have e : s2.1 1 5 = s1.1 171 3 ∧ s2.1 1 6 = s1.1 171 4 := by
    rcases F with ⟨p, w⟩ | ⟨_, Fj, _⟩
    · exact ⟨by rw [w.1, w.2.2.2.1], by rw [w.2.1, w.2.2.2.2]⟩
    · rcases Fj.2 with ⟨z, _⟩ | ⟨f, p, _, _, _, h1, h2, h3, h4⟩
      · exact absurd z h
      · exact ⟨by rw [h1, h3], by rw [h2, h4]⟩
  rw [b92_n (Or.inl h), ho_bds, b185_n (Or.inl (by rw [e.1]; exact h))]
  exact fin_bad R A A2 G1 G2 h rfl rfl e.1 e.2
theorem fin_cl {D : Mem → Mem → Prop} (F : FinR B n D s1 s2) (h : s1.1 171 3 = 0) : PS B n n s1 s2 ∧ FJ n s1 s2 ∧ D s1 s2 ∧ s1.1 171 4 = -1 ∧ s2.1 1 5 = 0 ∧ s2.1 1 6 = -1 := by
  rcases F with ⟨p, w⟩ | ⟨P, Fj, d⟩
  · rw [w.1] at h; exact absurd h (by decide)
  · rcases Fj.2 with ⟨_, z2, z3, z4⟩ | ⟨f, p, hf, _, _, h1, _⟩
    · exact ⟨P, Fj, d, z2, z3, z4⟩
    · rw [h1, z_eq (by omega) (by omega)] at h
      omega
theorem fin_0 {k c : Nat} {v2 : Int32} (hN : 10000 ≤ N) (R : RR σ1 σ2) (A : BaC σ1 a1) (A2 : BaM σ2 a2) (hc : c ≤ 2) (ok : OkN v2 c k) (c1 : σ1.1 3 0 = Int32.ofNat c) (c2 : σ2.1 1 0 = Int32.ofNat c) (G1 : GC a1 s1) (G2 : GM a2 s2) (F : FinR B n DC0 s1 s2) : H2 (bd (fX6_read_b92 N 171 (Int32.ofNat 0) s1) (KT N (Int32.ofNat 0) (Int32.ofNat k))) (fX12_text_b185 N (Int32.ofNat 0) v2 s2) QR := by
  by_cases h : s1.1 171 3 = 0
  · obtain ⟨P, Fj, ⟨np, nw, Dn⟩, h4, h5, h6⟩ := fin_cl F h
    obtain ⟨hn, cc, dd⟩ := Dn
    have d := dd h
    unfold fX6_read_b92 fX12_text_b185
    rw [if_pos (show Int32.ofNat 0 = 0 from rfl), if_pos h, gdT (show inb 5 4176 = true by decide), show (5 : Int32).toNatClampNeg = 5 from rfl, if_pos h5, if_pos (show Int32.ofNat 0 = 0 from rfl), gdT (show inb 0 121 = true by decide), show (0 : Int32).toNatClampNeg = 0 from rfl, cc.2.2.1, bd_bd]
    apply h2_l
    refine ho_mono (lost_C hN hn cc.1 cc.2.1 (fun w hw => by
      obtain ⟨g, x, h1, h2, _⟩ := d.2.2.1 w hw
      exact ⟨x, h1.2.2, h2.2⟩)) (fun r t ⟨et, Y⟩ => ?_)
    subst et
    have fm := far_M hn.1 d
    rcases Y with ⟨y1, y2⟩ | ⟨y1, y2⟩
    · rw [if_neg (show ¬ r = 0 by rw [y1]; decide), if_neg (fm.1 y2), P.1.2.2.1, P.2.2.2.2.1]
      have nt : fX6_note N 171 4 (Int32.ofNat n) t = some ((), pI (pI t 171 3 4) 171 4 (Int32.ofNat n)) := by
        unfold fX6_note
        rw [if_pos h]
        rfl
      have al : fX12_also N 4 (Int32.ofNat n) s2 = some ((), pI (pI s2 1 5 4) 1 6 (Int32.ofNat n)) := by
        unfold fX12_also fX12_also_b49
        rw [if_pos Fj.1, gdT (show inb 5 4176 = true by decide), show (5 : Int32).toNatClampNeg = 5 from rfl, if_pos h5, gdT (show inb 5 4176 = true by decide), ho_lte, gdT (show inb 6 4176 = true by decide)]
        rfl
      rw [nt, al, ho_bds, ho_bds, ho_bds]
      refine fin_bad (f := 4) (p := Int32.ofNat n) R A A2 (G1.trans (fun q j hq => by rw [pI_nq (by omega), pI_nq (by omega)])) (G2.trans ⟨fun j h1 h2 => by rw [pI_nq (by omega), pI_nq (by omega)], fun j => by rw [pI_nq (by omega), pI_nq (by omega)]⟩) (by decide) ?_ ?_ ?_ ?_
      · rw [pI_nq (by omega), pI_eq]
      · rw [pI_eq]
      · rw [pI_nq (by omega), pI_eq]
      · rw [pI_eq]
    · rw [if_pos y1, if_pos (fm.2 y2), ho_bds]
      refine fin_good (t := 0) hN R A A2 G1 G2 (by omega) hc ok c1 c2 h h4 h5 h6 ?_
      intro u1 u2 n' E n2 ni e1 e2 M fm2 ⟨v, hv, Z⟩
      rcases Z with ⟨_, cp, f1⟩ | ⟨z, _⟩ | ⟨z, _⟩
      · have T := R.1
        have pl : plN 0 k = 610 + 63 * k := rfl
        have sz : szN 0 = 63 := rfl
        rw [pl, sz] at M fm2
        have k2 : k < 2 := by rcases ok with ⟨_, h1, h2⟩ | ⟨_, h1⟩ <;> omega
        refine ⟨E.tape, ⟨E.2.2.1, E.2.2.2⟩, ⟨n', n2, e1, e2, fun i hi => ?_⟩, grpS T (fun q j _ _ => f1 q j (by omega) (by omega) (by omega) (by omega)) (f1 _ _ (by omega) (by omega) (by omega) (by omega)) (fun j _ _ => fm2 j (by omega) (by omega) (by omega)) (fm2 _ (by omega) (by omega) (by omega)), grpL T (fun q j _ _ => f1 q j (by omega) (by omega) (by omega) (by omega)) (f1 _ _ (by omega) (by omega) (by omega) (by omega)) (fun j _ _ => fm2 j (by omega) (by omega) (by omega)) (fm2 _ (by omega) (by omega) (by omega)), ?_⟩
        · by_cases q : i = k
          · subst q
            have := newCh (k := i) hn cc d y2 hv cp M
            rw [show 1 + 6 + 9 * i = 7 + 9 * i by omega, show 0 + 610 + 63 * i = 610 + 63 * i by omega]
            exact this
          · obtain ⟨_, _, ⟨m, v1, v2', v3, v4⟩, _⟩ := T
            have mc : m = c := by
              have : Int32.ofNat m = Int32.ofNat c := by rw [← v2']; exact c1
              rw [nz_inj (by omega) (by omega)] at this
              exact this
            subst mc
            obtain ⟨C, a, b, w1, w2, w3⟩ := v4 i (ni i hi q)
            exact ⟨C, a, b, w1, w2.ag (fun q' g1 g2 => by funext j; exact f1 q' j (by omega) (by omega) (by omega) (by omega)), w3.mv (fun e he => fm2 _ (by omega) (by omega) (by omega)) w1.1.1 w1.1.2.1⟩
        · have e : u1.1 (1 + 1) = σ1.1 (1 + 1) := by funext j; exact f1 _ j (by omega) (by omega) (by omega) (by omega)
          rw [e]; exact T.2.2.2.2.2
      · omega
      · omega
  · exact fin_f R A A2 G1 G2 F h
theorem fin_1 {k c : Nat} {v2 : Int32} (hN : 10000 ≤ N) (R : RR σ1 σ2) (A : BaC σ1 a1) (A2 : BaM σ2 a2) (hc : c ≤ 2) (ok : OkN v2 c k) (c1 : σ1.1 3 1 = Int32.ofNat c) (c2 : σ2.1 1 1 = Int32.ofNat c) (G1 : GC a1 s1) (G2 : GM a2 s2) (F : FinR B n DS0 s1 s2) : H2 (bd (fX6_read_b92 N 171 (Int32.ofNat 1) s1) (KT N (Int32.ofNat 1) (Int32.ofNat k))) (fX12_text_b185 N (Int32.ofNat 1) v2 s2) QR := by
  by_cases h : s1.1 171 3 = 0
  · obtain ⟨P, Fj, ⟨cd, S⟩, h4, h5, h6⟩ := fin_cl F h
    rw [b92_n (Or.inr (by decide)), ho_bds, b185_n (Or.inr (by decide))]
    refine fin_good (t := 1) hN R A A2 G1 G2 (by omega) hc ok c1 c2 h h4 h5 h6 ?_
    intro u1 u2 n' E n2 ni e1 e2 M fm2 ⟨v, hv, Z⟩
    rcases Z with ⟨z, _⟩ | ⟨_, cp, f1⟩ | ⟨z, _⟩
    · omega
    · have T := R.1
      have pl : plN 1 k = 736 + 121 * k := rfl
      have sz : szN 1 = 121 := rfl
      rw [pl, sz] at M fm2
      have k2 : k < 2 := by rcases ok with ⟨_, h1, h2⟩ | ⟨_, h1⟩ <;> omega
      refine ⟨E.tape, ⟨E.2.2.1, E.2.2.2⟩, grpC T (fun q j _ _ => f1 q j (by omega) (by omega) (by omega) (by omega)) (f1 _ _ (by omega) (by omega) (by omega) (by omega)) (fun j _ _ => fm2 j (by omega) (by omega) (by omega)) (fm2 _ (by omega) (by omega) (by omega)), ⟨n', n2, e1, e2, fun i hi => ?_⟩, grpL T (fun q j _ _ => f1 q j (by omega) (by omega) (by omega) (by omega)) (f1 _ _ (by omega) (by omega) (by omega) (by omega)) (fun j _ _ => fm2 j (by omega) (by omega) (by omega)) (fm2 _ (by omega) (by omega) (by omega)), ?_⟩
      · by_cases q : i = k
        · subst q
          have := newSe (k := i) S h hv cp M
          rw [show 1 + 24 + 4 * i = 25 + 4 * i by omega, show 0 + 736 + 121 * i = 736 + 121 * i by omega]
          exact this
        · obtain ⟨_, _, _, ⟨m, v1, v2', v3, v4⟩, _⟩ := T
          have mc : m = c := by
            have : Int32.ofNat m = Int32.ofNat c := by rw [← v2']; exact c1
            rw [nz_inj (by omega) (by omega)] at this
            exact this
          subst mc
          exact (v4 i (ni i hi q)).mv ((SeCp.rfl' u1 _).ag (fun _ _ _ => rfl) (fun q' g1 g2 => by funext j; exact f1 q' j (by omega) (by omega) (by omega) (by omega))) (fun e he => fm2 _ (by omega) (by omega) (by omega))
      · have e : u1.1 (1 + 1) = σ1.1 (1 + 1) := by funext j; exact f1 _ j (by omega) (by omega) (by omega) (by omega)
        rw [e]; exact T.2.2.2.2.2
    · omega
  · exact fin_f R A A2 G1 G2 F h
theorem fin_2 {k c : Nat} {v2 : Int32} (hN : 10000 ≤ N) (R : RR σ1 σ2) (A : BaC σ1 a1) (A2 : BaM σ2 a2) (hc : c ≤ 2) (ok : OkN v2 c k) (c1 : σ1.1 3 2 = Int32.ofNat c) (c2 : σ2.1 1 2 = Int32.ofNat c) (G1 : GC a1 s1) (G2 : GM a2 s2) (F : FinR B n DL0 s1 s2) : H2 (bd (fX6_read_b92 N 171 (Int32.ofNat 2) s1) (KT N (Int32.ofNat 2) (Int32.ofNat k))) (fX12_text_b185 N (Int32.ofNat 2) v2 s2) QR := by
  by_cases h : s1.1 171 3 = 0
  · obtain ⟨P, Fj, ⟨cd, S⟩, h4, h5, h6⟩ := fin_cl F h
    rw [b92_n (Or.inr (by decide)), ho_bds, b185_n (Or.inr (by decide))]
    refine fin_good (t := 2) hN R A A2 G1 G2 (by omega) hc ok c1 c2 h h4 h5 h6 ?_
    intro u1 u2 n' E n2 ni e1 e2 M fm2 ⟨v, hv, Z⟩
    rcases Z with ⟨z, _⟩ | ⟨z, _⟩ | ⟨_, cp, f1⟩
    · omega
    · omega
    · have T := R.1
      have pl : plN 2 k = 978 + 33 * k := rfl
      have sz : szN 2 = 33 := rfl
      rw [pl, sz] at M fm2
      have k2 : k < 2 := by rcases ok with ⟨_, h1, h2⟩ | ⟨_, h1⟩ <;> omega
      refine ⟨E.tape, ⟨E.2.2.1, E.2.2.2⟩, grpC T (fun q j _ _ => f1 q j (by omega) (by omega) (by omega) (by omega)) (f1 _ _ (by omega) (by omega) (by omega) (by omega)) (fun j _ _ => fm2 j (by omega) (by omega) (by omega)) (fm2 _ (by omega) (by omega) (by omega)), grpS T (fun q j _ _ => f1 q j (by omega) (by omega) (by omega) (by omega)) (f1 _ _ (by omega) (by omega) (by omega) (by omega)) (fun j _ _ => fm2 j (by omega) (by omega) (by omega)) (fm2 _ (by omega) (by omega) (by omega)), ⟨n', n2, e1, e2, fun i hi => ?_⟩, ?_⟩
      · by_cases q : i = k
        · subst q
          have := newLo (k := i) S h hv cp M
          rw [show 1 + 32 + 5 * i = 33 + 5 * i by omega, show 0 + 978 + 33 * i = 978 + 33 * i by omega]
          exact this
        · obtain ⟨_, _, _, _, ⟨m, v1, v2', v3, v4⟩, _⟩ := T
          have mc : m = c := by
            have : Int32.ofNat m = Int32.ofNat c := by rw [← v2']; exact c1
            rw [nz_inj (by omega) (by omega)] at this
            exact this
          subst mc
          exact (v4 i (ni i hi q)).mv ((LoCp.rfl' u1 _).ag (fun _ _ _ => rfl) (fun q' g1 g2 => by funext j; exact f1 q' j (by omega) (by omega) (by omega) (by omega))) (fun e he => fm2 _ (by omega) (by omega) (by omega))
      · have e : u1.1 (1 + 1) = σ1.1 (1 + 1) := by funext j; exact f1 _ j (by omega) (by omega) (by omega) (by omega)
        rw [e]; exact T.2.2.2.2.2
  · exact fin_f R A A2 G1 G2 F h
end TTEXT3
