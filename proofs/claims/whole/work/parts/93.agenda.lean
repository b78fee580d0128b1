def pkN (d : Nat) (a b c : Int32) : Int32 := if d = 0 then a else if d = 1 then b else c
theorem pk_mot {d : Nat} {a b c : Int32} (ha : ∃ m, m < 64 ∧ a = Int32.ofNat m) (hb : ∃ m, m < 64 ∧ b = Int32.ofNat m) (hc : ∃ m, m < 64 ∧ c = Int32.ofNat m) : ∃ m, m < 64 ∧ pkN d a b c = Int32.ofNat m := by
  unfold pkN
  by_cases h : d = 0
  · rw [if_pos h]; exact ha
  · rw [if_neg h]
    by_cases h1 : d = 1
    · rw [if_pos h1]; exact hb
    · rw [if_neg h1]; exact hc
theorem pick_C {N d : Nat} {a b c u : Int32} {σ : Mem} (hd : d < 3) (hu : u = Int32.ofNat d) : fX11_pick N u a b c σ = some (pkN d a b c, σ) := by
  subst hu
  unfold fX11_pick pkN
  have cs : d = 0 ∨ d = 1 ∨ d = 2 := by omega
  rcases cs with e | e | e <;> subst e
  · rw [if_pos (show Int32.ofNat 0 = 0 from rfl), if_pos rfl]
  · rw [if_neg (show ¬ Int32.ofNat 1 = 0 by decide), if_pos (show Int32.ofNat 1 = 1 from rfl), if_neg (show ¬ (1 : Nat) = 0 by omega), if_pos rfl]
  · rw [if_neg (show ¬ Int32.ofNat 2 = 0 by decide), if_neg (show ¬ Int32.ofNat 2 = 1 by decide), if_neg (show ¬ (2 : Nat) = 0 by omega), if_neg (show ¬ (2 : Nat) = 1 by omega)]
theorem pick_M {N d : Nat} {a b c u : Int32} {σ : Mem} (hd : d < 3) (hu : u = Int32.ofNat d) : fX12_pick N a b c u σ = some (pkN d a b c, σ) := by
  have h := pick_C (N := N) (a := a) (b := b) (c := c) (σ := σ) hd hu
  exact h
section AGENDA
variable {N h c k np nw : Nat} {C S : Vw} {a1 a2 : Mem}
theorem three_2 (hN : 10000 ≤ N) (W : ChW C np nw) (HC : ChC a1 k C np nw) (hd : k + 9 ≤ h) (HM : HcM a2 c C np nw) {x y z : Int32} (hx : ∃ m, m < 64 ∧ x = Int32.ofNat m) (hy : ∃ m, m < 64 ∧ y = Int32.ofNat m) (hz : ∃ m, m < 64 ∧ z = Int32.ofNat m) :
    H2 (fX1_putThree N h k x y z a1) (fX12_agendaOf N x y z a2) (fun r1 s1 r2 s2 => r1 = r2 ∧ 0 ≤ r1.toInt ∧ FrC h (h + 15) a1 s1 ∧ HcM s2 c C np nw ∧ KM a2 s2) := by
  obtain ⟨m1, p1, rfl⟩ := hx
  obtain ⟨m2, p2, rfl⟩ := hy
  obtain ⟨m3, p3, rfl⟩ := hz
  unfold fX1_putThree fX12_agendaOf
  apply h2_lr
  refine h2_mono (begin_2 hN W HC hd HM) (fun _ t1 _ t2 ⟨P, B, ⟨_, z2, _⟩, _, _⟩ => ?_)
  apply h2_lr
  refine h2_mono (put_2 hN P p1) (fun _ u1 _ u2 ⟨S1, b1, P1, Q1⟩ => ?_)
  apply h2_lr
  refine h2_mono (put_2 hN P1 p2) (fun _ w1 _ w2 ⟨S2, b2, P2, Q2⟩ => ?_)
  apply h2_lr
  refine h2_mono (put_2 hN P2 p3) (fun _ x1 _ x2 ⟨S3, b3, P3, Q3⟩ => ?_)
  refine ⟨P3.2.2.2.2.2.1.2.1, ?_, P3.2.2.2.2.2.2.1, P3.2.2.2.2.1.1, P3.2.2.2.2.2.2.2⟩
  rw [Q3.2.2.1, Q2.2.2.1, Q1.2.2.1, z2]
  cases b1 <;> cases b2 <;> cases b3 <;> decide
end AGENDA
section AGR
variable {N n : Nat} {a b c v5 v6 v7 : Int32} {s : Mem} {rc : Int32 → Int32 → Int32 → Int32 → Int32 → Int32 → Int32 → Mem → Option (Int32 × Mem)}
theorem ag_ne {i j : Nat} (hi : i < 3) (hj : j < 3) (hij : i ≠ j) : fX12_agenda_l50 N rc (n + 1) a b c v5 v6 v7 (Int32.ofNat i) (Int32.ofNat j) s = bd (fX12_agendaOf N (pkN i a b c) (pkN j a b c) (pkN (3 - i - j) a b c) s) (fun r s' => if v6 < r then fX12_agenda_l50 N rc n a b c v5 r (Int32.ofNat (100 * i + 10 * j + (3 - i - j))) (Int32.ofNat i) (Int32.ofNat (j + 1)) s' else fX12_agenda_l50 N rc n a b c v5 v6 v7 (Int32.ofNat i) (Int32.ofNat (j + 1)) s') := by
  rw [fX12_agenda_l50]
  unfold fX12_agenda_b50 fX12_agenda_b138
  have e : (3 : Int32) - Int32.ofNat i - Int32.ofNat j = Int32.ofNat (3 - i - j) := by
    have k1 : ∀ i, i < 3 → ∀ j, j < 3 → i ≠ j → (3 : Int32) - Int32.ofNat i - Int32.ofNat j = Int32.ofNat (3 - i - j) := by decide
    exact k1 i hi j hj hij
  rw [if_neg (show ¬ (3 : Int32) ≤ Int32.ofNat j by rw [z_le (by omega) (by omega)]; omega), if_neg (show ¬ Int32.ofNat i = Int32.ofNat j by rw [nz_inj (by omega) (by omega)]; exact hij)]
  simp only [ho_lte, e]
  rw [pick_M hi rfl, ho_bds, pick_M hj rfl, ho_bds, pick_M (show 3 - i - j < 3 by omega) rfl, ho_bds, show (100 : Int32) * Int32.ofNat i = Int32.ofNat (100 * i) from nz_mul, show (10 : Int32) * Int32.ofNat j = Int32.ofNat (10 * j) from nz_mul, nz_add, nz_add, nz_succ]
theorem ag_eq {i : Nat} (hi : i < 3) : fX12_agenda_l50 N rc (n + 1) a b c v5 v6 v7 (Int32.ofNat i) (Int32.ofNat i) s = fX12_agenda_l50 N rc n a b c v5 v6 v7 (Int32.ofNat i) (Int32.ofNat (i + 1)) s := by
  rw [fX12_agenda_l50]
  unfold fX12_agenda_b50 fX12_agenda_b138
  rw [if_neg (show ¬ (3 : Int32) ≤ Int32.ofNat i by rw [z_le (by omega) (by omega)]; omega), if_pos rfl]
  simp only [ho_lte, nz_succ]
theorem ag_en {i : Nat} : fX12_agenda_l50 N rc (n + 1) a b c v5 v6 v7 (Int32.ofNat i) (Int32.ofNat 3) s = rc a b c v5 v6 v7 (Int32.ofNat (i + 1)) s := by
  rw [fX12_agenda_l50]
  unfold fX12_agenda_b50
  rw [if_pos (by decide)]
  simp only [ho_lte, nz_succ]
theorem ag_o {i : Nat} (hi : i < 3) : fX12_agenda_l41 N (n + 1) a b c v5 v6 v7 (Int32.ofNat i) s = fX12_agenda_l50 N (fX12_agenda_l41 N n) N a b c v5 v6 v7 (Int32.ofNat i) (Int32.ofNat 0) s := by
  rw [fX12_agenda_l41]
  unfold fX12_agenda_b41
  rw [if_neg (show ¬ (3 : Int32) ≤ Int32.ofNat i by rw [z_le (by omega) (by omega)]; omega)]
  rfl
theorem ag_oe : fX12_agenda_l41 N (n + 1) a b c v5 v6 v7 (Int32.ofNat 3) s = some (if v5 = 0 then v6 else v7, s) := by
  rw [fX12_agenda_l41]
  unfold fX12_agenda_b41
  rw [if_pos (by decide)]
  split <;> rfl
end AGR
/-- the orders, by numbers -/
theorem ord_k : ∀ i, i < 6 → ∃ x y z, x < 3 ∧ y < 3 ∧ z < 3 ∧ x ≠ y ∧ z = 3 - x - y ∧ ordT.getD i 0 / 100 = Int32.ofNat x ∧ rmI (ordT.getD i 0 / 10) 10 = Int32.ofNat y ∧ rmI (ordT.getD i 0) 10 = Int32.ofNat z ∧ ordT.getD i 0 = Int32.ofNat (100 * x + 10 * y + z) ∧ (x, y) = ([(0, 1), (0, 2), (1, 0), (1, 2), (2, 0), (2, 1)] : List (Nat × Nat)).getD i (0, 0) := by
  intro i hi
  have cs : i = 0 ∨ i = 1 ∨ i = 2 ∨ i = 3 ∨ i = 4 ∨ i = 5 := by omega
  rcases cs with e | e | e | e | e | e <;> subst e
  · exact ⟨0, 1, 2, by decide, by decide, by decide, by decide, rfl, by decide, by decide, by decide, by decide, rfl⟩
  · exact ⟨0, 2, 1, by decide, by decide, by decide, by decide, rfl, by decide, by decide, by decide, by decide, rfl⟩
  · exact ⟨1, 0, 2, by decide, by decide, by decide, by decide, rfl, by decide, by decide, by decide, by decide, rfl⟩
  · exact ⟨1, 2, 0, by decide, by decide, by decide, by decide, rfl, by decide, by decide, by decide, by decide, rfl⟩
  · exact ⟨2, 0, 1, by decide, by decide, by decide, by decide, rfl, by decide, by decide, by decide, by decide, rfl⟩
  · exact ⟨2, 1, 0, by decide, by decide, by decide, by decide, rfl, by decide, by decide, by decide, by decide, rfl⟩
section AGS
variable {N k c np nw : Nat} {C : Vw} {a1 a2 : Mem} {va vb vc v5 : Int32}
def AgI (i k c : Nat) (C : Vw) (np nw : Nat) (a1 a2 : Mem) (most best code : Int32) (s1 s2 : Mem) : Prop := (i = 0 → most = -1) ∧ (0 < i → best = code) ∧ FrC 205 220 a1 s1 ∧ HcM s2 c C np nw ∧ KM a2 s2
theorem ag_step (hN : 10000 ≤ N) (W : ChW C np nw) (HC : ChC a1 k C np nw) (hd : k + 9 ≤ 205) (ha : ∃ m, m < 64 ∧ va = Int32.ofNat m) (hb : ∃ m, m < 64 ∧ vb = Int32.ofNat m) (hc : ∃ m, m < 64 ∧ vc = Int32.ofNat m) {i x y n1 : Nat} {most best code : Int32} {s1 s2 : Mem} {G : Int32 → Int32 → Mem → Option (Int32 × Mem)} {Q : Int32 → Mem → Int32 → Mem → Prop} (hi : i < 6) (hxy : (x, y) = ([(0, 1), (0, 2), (1, 0), (1, 2), (2, 0), (2, 1)] : List (Nat × Nat)).getD i (0, 0)) (A : AgI i k c C np nw a1 a2 most best code s1 s2)
    (go : ∀ most' best' code' t1 t2, AgI (i + 1) k c C np nw a1 a2 most' best' code' t1 t2 → H2 (fX11_agenda_l48 N 0 n1 va vb vc v5 k most' best' (Int32.ofNat (i + 1)) t1) (G most' code' t2) Q) :
    H2 (fX11_agenda_l48 N 0 (n1 + 1) va vb vc v5 k most best (Int32.ofNat i) s1) (bd (fX12_agendaOf N (pkN x va vb vc) (pkN y va vb vc) (pkN (3 - x - y) va vb vc) s2) (fun r s' => if most < r then G r (Int32.ofNat (100 * x + 10 * y + (3 - x - y))) s' else G most code s')) Q := by
  obtain ⟨i1, i2, F1, HM, K⟩ := A
  obtain ⟨x', y', z', o1, o2, o3, o4, o5, o6, o7, o8, o9, o10⟩ := ord_k i hi
  rw [← o10] at hxy
  cases hxy
  rw [fX11_agenda_l48]
  unfold fX11_agenda_b48 fX11_agenda_b150
  rw [if_neg (show ¬ (6 : Int32) ≤ Int32.ofNat i by rw [z_le (by omega) (by omega)]; omega)]
  simp only [nz_inb (show i < 2147483648 by omega), hi, decide_true, ho_gdt, nz_nat (show i < 2147483648 by omega), ho_lte, nz_succ]
  rw [pick_C o1 o6, ho_bds, pick_C o2 o7, ho_bds, pick_C o3 o8, ho_bds, o9, ← o5]
  have HC' : ChC s1 k C np nw := HC.fr F1 (by omega)
  apply h2_lr
  refine h2_mono (three_2 (h := 205) hN W HC' hd HM (pk_mot ha hb hc) (pk_mot ha hb hc) (pk_mot ha hb hc)) (fun r1 t1 r2 t2 ⟨e1, e2, e3, e4, e5⟩ => ?_)
  subst e1
  have nx : ∀ m' b' c', (0 < i + 1 → b' = c') → AgI (i + 1) k c C np nw a1 a2 m' b' c' t1 t2 := fun m' b' c' h => ⟨fun z => by omega, h, F1.trans e3, e4, K.trans e5⟩
  by_cases q : most < r1
  · rw [if_neg (show ¬ r1 ≤ most by rw [Int32.not_le]; exact q), if_pos q]
    exact go _ _ _ _ _ (nx _ _ _ (fun _ => rfl))
  · rw [if_pos (show r1 ≤ most by rw [← Int32.not_lt]; exact q), if_neg q]
    refine go _ _ _ _ _ (nx _ _ _ (fun _ => ?_))
    by_cases z : i = 0
    · exfalso; apply q
      rw [i1 z, i32_lt, show (-1 : Int32).toInt = -1 from rfl]; omega
    · exact i2 (by omega)
end AGS
theorem t_agenda {σ1 σ2 : Mem} {N : Nat} (hN : 10000 ≤ N) (R : RR σ1 σ2) (v1 v2 v3 v4 v5 : Int32) : H2 (fX11_agenda N 0 v1 v2 v3 v4 v5 σ1) (fX12_agenda N v1 v2 v3 v4 v5 σ2) (QU σ1 σ2) := by
  unfold fX11_agenda fX12_agenda
  refine q_ch R v1 (fun j C np nw s2 hj W HC HM K => ?_)
  rw [isMotion_C, isMotion_M, ho_bds, ho_bds]
  by_cases q2 : inb v2 64 = true
  · rw [if_pos q2, if_neg (by decide), if_neg (by decide), isMotion_C, isMotion_M, ho_bds, ho_bds]
    by_cases q3 : inb v3 64 = true
    · rw [if_pos q3, if_neg (by decide), if_neg (by decide), isMotion_C, isMotion_M, ho_bds, ho_bds]
      by_cases q4 : inb v4 64 = true
      · rw [if_pos q4, if_neg (by decide), if_neg (by decide)]
        have ha : ∃ m, m < 64 ∧ v2 = Int32.ofNat m := by obtain ⟨m, x, y, _⟩ := inb_nat q2; exact ⟨m, x, y⟩
        have hb : ∃ m, m < 64 ∧ v3 = Int32.ofNat m := by obtain ⟨m, x, y, _⟩ := inb_nat q3; exact ⟨m, x, y⟩
        have hc : ∃ m, m < 64 ∧ v4 = Int32.ofNat m := by obtain ⟨m, x, y, _⟩ := inb_nat q4; exact ⟨m, x, y⟩
        simp only [ho_lte]
        obtain ⟨M, hM⟩ : ∃ M, N = M + 20 := ⟨N - 20, by omega⟩
        have step := fun {i x y n1 : Nat} {most best code : Int32} {t1 t2 : Mem} {G : Int32 → Int32 → Mem → Option (Int32 × Mem)} => ag_step (N := N) (k := 7 + 9 * j) (c := 610 + 63 * j) (a1 := σ1) (a2 := s2) (v5 := v5) (i := i) (x := x) (y := y) (n1 := n1) (most := most) (best := best) (code := code) (s1 := t1) (s2 := t2) (G := G) (Q := QU σ1 σ2) hN W HC (by omega) ha hb hc
        rw [show fX11_agenda_l48 N 0 N v2 v3 v4 v5 (7 + 9 * j) (-1) (-1) 0 σ1 = fX11_agenda_l48 N 0 (M + 14 + 1 + 1 + 1 + 1 + 1 + 1) v2 v3 v4 v5 (7 + 9 * j) (-1) (-1) (Int32.ofNat 0) σ1 by rw [show M + 14 + 1 + 1 + 1 + 1 + 1 + 1 = N by omega]; rfl]
        rw [show fX12_agenda_l41 N N v2 v3 v4 v5 (-1) 0 0 s2 = fX12_agenda_l41 N (M + 16 + 1 + 1 + 1 + 1) v2 v3 v4 v5 (-1) 0 (Int32.ofNat 0) s2 by rw [show M + 16 + 1 + 1 + 1 + 1 = N by omega]; rfl]
        have L : ∀ rc v6 v7 i s, fX12_agenda_l50 N rc N v2 v3 v4 v5 v6 v7 i (Int32.ofNat 0) s = fX12_agenda_l50 N rc (M + 16 + 1 + 1 + 1 + 1) v2 v3 v4 v5 v6 v7 i (Int32.ofNat 0) s := fun rc v6 v7 i s => by rw [show M + 16 + 1 + 1 + 1 + 1 = N by omega]
        rw [ag_o (by omega), L, ag_eq (by omega), ag_ne (i := 0) (j := 0 + 1) (by omega) (by omega) (by omega)]
        refine step (i := 0) (x := 0) (y := 1) (G := fun a b s => fX12_agenda_l50 N (fX12_agenda_l41 N (M + 16 + 1 + 1 + 1)) (M + 16 + 1 + 1) v2 v3 v4 v5 a b (Int32.ofNat 0) (Int32.ofNat (0 + 1 + 1)) s) (by omega) rfl ⟨fun _ => rfl, fun z => absurd z (Nat.lt_irrefl 0), FrC.refl _ _ _, HM, KM.refl _⟩ (fun m1 b1 c1 t1 t2 A1 => ?_)
        rw [ag_ne (i := 0) (j := 0 + 1 + 1) (by omega) (by omega) (by omega)]
        refine step (i := 1) (x := 0) (y := 2) (G := fun a b s => fX12_agenda_l50 N (fX12_agenda_l41 N (M + 16 + 1 + 1 + 1)) (M + 16 + 1) v2 v3 v4 v5 a b (Int32.ofNat 0) (Int32.ofNat (0 + 1 + 1 + 1)) s) (by omega) rfl A1 (fun m2 b2 c2 t3 t4 A2 => ?_)
        show H2 _ (fX12_agenda_l50 N (fX12_agenda_l41 N (M + 16 + 1 + 1 + 1)) (M + 16 + 1) v2 v3 v4 v5 m2 c2 (Int32.ofNat 0) (Int32.ofNat 3) t4) _
        rw [ag_en, ag_o (by omega), L, ag_ne (i := 0 + 1) (j := 0) (by omega) (by omega) (by omega)]
        refine step (i := 2) (x := 1) (y := 0) (G := fun a b s => fX12_agenda_l50 N (fX12_agenda_l41 N (M + 16 + 1 + 1)) (M + 16 + 1 + 1 + 1) v2 v3 v4 v5 a b (Int32.ofNat (0 + 1)) (Int32.ofNat (0 + 1)) s) (by omega) rfl A2 (fun m3 b3 c3 t5 t6 A3 => ?_)
        rw [ag_eq (by omega), ag_ne (i := 0 + 1) (j := 0 + 1 + 1) (by omega) (by omega) (by omega)]
        refine step (i := 3) (x := 1) (y := 2) (G := fun a b s => fX12_agenda_l50 N (fX12_agenda_l41 N (M + 16 + 1 + 1)) (M + 16 + 1) v2 v3 v4 v5 a b (Int32.ofNat (0 + 1)) (Int32.ofNat (0 + 1 + 1 + 1)) s) (by omega) rfl A3 (fun m4 b4 c4 t7 t8 A4 => ?_)
        show H2 _ (fX12_agenda_l50 N (fX12_agenda_l41 N (M + 16 + 1 + 1)) (M + 16 + 1) v2 v3 v4 v5 m4 c4 (Int32.ofNat (0 + 1)) (Int32.ofNat 3) t8) _
        rw [ag_en, ag_o (by omega), L, ag_ne (i := 0 + 1 + 1) (j := 0) (by omega) (by omega) (by omega)]
        refine step (i := 4) (x := 2) (y := 0) (G := fun a b s => fX12_agenda_l50 N (fX12_agenda_l41 N (M + 16 + 1)) (M + 16 + 1 + 1 + 1) v2 v3 v4 v5 a b (Int32.ofNat (0 + 1 + 1)) (Int32.ofNat (0 + 1)) s) (by omega) rfl A4 (fun m5 b5 c5 t9 t10 A5 => ?_)
        rw [ag_ne (i := 0 + 1 + 1) (j := 0 + 1) (by omega) (by omega) (by omega)]
        refine step (i := 5) (x := 2) (y := 1) (G := fun a b s => fX12_agenda_l50 N (fX12_agenda_l41 N (M + 16 + 1)) (M + 16 + 1 + 1) v2 v3 v4 v5 a b (Int32.ofNat (0 + 1 + 1)) (Int32.ofNat (0 + 1 + 1)) s) (by omega) rfl A5 (fun m6 b6 c6 t11 t12 A6 => ?_)
        rw [ag_eq (by omega)]
        show H2 _ (fX12_agenda_l50 N (fX12_agenda_l41 N (M + 16 + 1)) (M + 16 + 1) v2 v3 v4 v5 m6 c6 (Int32.ofNat (0 + 1 + 1)) (Int32.ofNat 3) t12) _
        rw [ag_en]
        show H2 _ (fX12_agenda_l41 N (M + 16 + 1) v2 v3 v4 v5 m6 c6 (Int32.ofNat 3) t12) _
        rw [ag_oe]
        obtain ⟨_, e1, F1, _, K'⟩ := A6
        rw [show M + 14 = M + 13 + 1 from rfl, fX11_agenda_l48]
        unfold fX11_agenda_b48
        rw [if_pos (by decide), e1 (by omega)]
        have Z : KC σ1 t11 := R.kc.fr F1 (by omega)
        by_cases z : v5 = 0
        · rw [if_pos z, if_pos z]; exact ⟨rfl, Z, K.trans K'⟩
        · rw [if_neg z, if_neg z]; exact ⟨rfl, Z, K.trans K'⟩
      · rw [if_neg q4, if_pos rfl, if_pos rfl]; exact ⟨rfl, R.kc, K⟩
    · rw [if_neg q3, if_pos rfl, if_pos rfl]; exact ⟨rfl, R.kc, K⟩
  · rw [if_neg q2, if_pos rfl, if_pos rfl]; exact ⟨rfl, R.kc, K⟩
