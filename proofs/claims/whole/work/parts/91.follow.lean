theorem kd25 : ∀ j, j < 2 → decide (kdC (25 + 4 * j) = (8, 0)) = true := by decide
/-- a session is asked for -/
theorem se2 {σ1 σ2 : Mem} {N : Nat} (R : RR σ1 σ2) (v : Int32) : (fX9_sessionAt N 1 v σ1 = some (none, σ1) ∧ fX12_isSession N v σ2 = some (0, σ2)) ∨
    ∃ j, j < 2 ∧ fX9_sessionAt N 1 v σ1 = some (some (25 + 4 * j), σ1) ∧ fX12_isSession N v σ2 = some (1, pI σ2 0 23 (Int32.ofNat (736 + 121 * j))) ∧ SeR σ1 (25 + 4 * j) σ2 (736 + 121 * j) := by
  obtain ⟨n, v1, v2, v3, v4⟩ := R.1.2.2.2.1
  unfold fX9_sessionAt fX12_isSession
  rw [isThere_C v2 (by omega) v1 (show (1 : Int32) = Int32.ofNat 1 from rfl), isOf_M v3 (by omega) v1 (show (1 : Int32) = Int32.ofNat (0 + 1) from rfl), ho_bds, ho_bds]
  by_cases q : inb v n = true
  · right
    obtain ⟨j, j1, j2, j3⟩ := inb_nat q
    have s := v4 j j1
    rw [if_pos q, if_neg (by decide), if_neg (by decide)]
    have b2 : inb v 2 = true := by rw [j2, nz_inb (by omega)]; exact decide_eq_true (by omega)
    have e2 : fX12_placeOf N 1 v σ2 = some (Int32.ofNat (736 + 121 * j), σ2) := by
      unfold fX12_placeOf
      rw [if_neg (by decide), if_pos rfl, j2, show (121 : Int32) = Int32.ofNat 121 from rfl, show (736 : Int32) = Int32.ofNat 736 from rfl, nz_mul, nz_add]
    rw [b2, ho_gdt, e2, ho_bds, j3]
    simp only [ho_lte]
    have e3 : raE 61 (1 + 4) j = 25 + 4 * j := by unfold raE; rw [if_neg (by omega), if_pos rfl]
    have e4 : 1 + 24 + 4 * j = 25 + 4 * j := by omega
    have e5 : 0 + 736 + 121 * j = 736 + 121 * j := by omega
    rw [e4, e5] at s
    exact ⟨j, by omega, by rw [e3], rfl, s⟩
  · left
    rw [if_neg q, if_pos rfl, if_pos rfl]
    exact ⟨rfl, rfl⟩
theorem SeR.ag {σ1 σ2 s1 s2 : Mem} {k q : Nat} (S : SeR σ1 k σ2 q) (h : ∀ a, k ≤ a → a < k + 4 → s1.1 a = σ1.1 a) (h2 : s2.1 1 = σ2.1 1) : SeR s1 k s2 q := by
  unfold SeR at *
  rw [h2, h k (by omega) (by omega), h (k + 1) (by omega) (by omega), h (k + 2) (by omega) (by omega), h (k + 3) (by omega) (by omega)]
  exact S
/-- a chamber and a session are asked for -/
theorem q_se {σ1 σ2 : Mem} {N : Nat} (R : RR σ1 σ2) (v u : Int32) {dd : Int32} {g1 : Nat → Nat → Mem → Option (Int32 × Mem)} {g2 : Mem → Option (Int32 × Mem)}
    (go : ∀ j i C np nw s2, j < 2 → i < 2 → ChW C np nw → ChC σ1 (7 + 9 * j) C np nw → HcM s2 (610 + 63 * j) C np nw → KM σ2 s2 → SeR σ1 (25 + 4 * i) s2 (736 + 121 * i) → s2.1 0 23 = Int32.ofNat (736 + 121 * i) → H2 (g1 (7 + 9 * j) (25 + 4 * i) σ1) (g2 s2) (QU σ1 σ2)) :
    H2 (bd (fX9_chamberAt N 1 v σ1) (fun o s => mqK (0, 0) o (bd (fX9_sessionAt N 1 u s) (fun o' s' => mqK (8, 0) o' (some (dd, s')) (fun _ => some (dd, s')))) (fun r => bd (fX9_sessionAt N 1 u s) (fun o' s' => mqK (8, 0) o' (some (dd, s')) (fun r' => g1 r r' s'))))) (bd (fX12_isChamber N v σ2) (fun r s => if r = 0 then some (dd, s) else bd (fX12_isSession N u s) (fun r' s' => if r' = 0 then some (dd, s') else g2 s'))) (QU σ1 σ2) := by
  rcases ch2 (N := N) R v with ⟨e1, e2⟩ | ⟨j, C, np, nw, s2, hj, e1, e2, h1, h2, h3, h4⟩
  · rw [e1, e2, ho_bds, ho_bds, if_pos rfl]
    simp only [mqK]
    rcases se2 (N := N) R u with ⟨d1, d2⟩ | ⟨i, hi, d1, d2, d3⟩
    · rw [d1, ho_bds]; exact ⟨rfl, R.kc, KM.refl _⟩
    · rw [d1, ho_bds]; simp only [kd25 i hi, ho_gdt]; exact ⟨rfl, R.kc, KM.refl _⟩
  · rw [e1, e2, ho_bds, ho_bds, if_neg (by decide)]
    simp only [mqK, kd7 j hj, ho_gdt]
    have R' := R.keep R.kc h4
    rcases se2 (N := N) R' u with ⟨d1, d2⟩ | ⟨i, hi, d1, d2, d3⟩
    · rw [d1, d2, ho_bds, ho_bds, if_pos rfl]; exact ⟨rfl, R.kc, h4⟩
    · rw [d1, d2, ho_bds, ho_bds, if_neg (by decide)]
      simp only [kd25 i hi, ho_gdt]
      refine go j i C np nw _ hj hi h1 h2 (h3.ag (pI_ne (by omega)) (fun j _ _ => pI_nq (by omega))) (h4.trans ⟨pI_ne (by omega), pI_ne (by omega)⟩) (d3.ag (fun _ _ _ => rfl) (pI_ne (by omega))) pI_eq
section FOLLOW
variable {N h c k d q np nw : Nat} {C S : Vw} {a1 a2 σ1 σ2 : Mem}
theorem CJ.p5 (P : CJ h c C np nw a1 a2 S σ1 σ2) {j : Nat} {v : Int32} (hj : 3 ≤ j) : CJ h c C np nw a1 a2 S (pI σ1 h j v) σ2 := by
  obtain ⟨W, X, hO, H1, H3, ⟨p1, p2, p3, p4⟩, F1, K2⟩ := P
  refine ⟨W, X, hO, H1.fr (a := h) (b := h + 1) ((FrC.refl _ _ _).pI (by omega)) (by omega), H3, ⟨?_, ?_, ?_, ?_⟩, F1.pI (by omega), K2⟩
  · rw [pI_nq (by omega)]; exact p1
  · rw [pI_nq (by omega)]; exact p2
  · rw [pI_nq (by omega)]; exact p3
  · rw [pI_nq (by omega)]; exact p4
theorem CJ.m26 (P : CJ h c C np nw a1 a2 S σ1 σ2) {i j : Nat} {v : Int32} (hj : (i = 0 ∧ 26 ≤ j) ∨ 8 ≤ i) : CJ h c C np nw a1 a2 S σ1 (pI σ2 i j v) := by
  obtain ⟨W, X, hO, H1, H3, ⟨p1, p2, p3, p4⟩, F1, K2⟩ := P
  refine ⟨W, X, hO, H1, H3.ag ⟨pI_ne (by omega), pI_ne (by omega), pI_ne (by omega), pI_ne (by omega), fun j _ _ => pI_nq (by omega)⟩, ⟨?_, ?_, ?_, ?_⟩, F1, K2.trans ⟨pI_ne (by omega), pI_ne (by omega)⟩⟩
  · rw [pI_nq (by omega)]; exact p1
  · rw [pI_nq (by omega)]; exact p2
  · rw [pI_nq (by omega)]; exact p3
  · rw [pI_nq (by omega)]; exact p4
theorem DoP.fr {t : Nat} {s1 s2 : Mem} {r : Int32} (D : DoP h np t σ1 σ2 s1 s2 r) : FrS σ2 s2 := by
  rcases D with ⟨_, x⟩ | ⟨_, _, b, x⟩
  · exact x.2.2
  · exact x.2.1
theorem DoP.h56 {t : Nat} {s1 s2 : Mem} {r : Int32} (D : DoP h np t σ1 σ2 s1 s2 r) : s1.1 h 5 = σ1.1 h 5 ∧ s1.1 h 6 = σ1.1 h 6 := by
  rcases D with ⟨_, x⟩ | ⟨_, _, b, x⟩
  · rw [x.1]; exact ⟨rfl, rfl⟩
  · exact x.1
theorem CJ.sess (P : CJ h c C np nw a1 a2 S σ1 σ2) (E : SeR a1 d a2 q) (hd : d + 4 ≤ h) : SeR σ1 d σ2 q := E.ag (fun a x y => P.2.2.2.2.2.2.1.1 a (by omega)) P.2.2.2.2.2.2.2.1
/-- as many deeds as may be -/
theorem follow_2 (hN : 10000 ≤ N) (W : ChW C np nw) (HC : ChC a1 k C np nw) (hd : k + 9 ≤ h) (HM : HcM a2 c C np nw) (E : SeR a1 d a2 q) (hd2 : d + 4 ≤ h) (hq : q ≤ 3000) (h23 : a2.1 0 23 = Int32.ofNat q) (v3 v1 : Int32) (n e : Nat) (hn : a1.1 d 0 = Int32.ofNat n) (hn40 : n ≤ 40) (he : e ≤ n) (c3 : ∀ i, i < e → ¬ v3 ≤ Int32.ofNat i) (c1 : ∀ i, i < e → ¬ v1 ≤ Int32.ofNat i) (z3 : v3 ≤ Int32.ofNat e ∨ e = n) (z1 : v1 ≤ Int32.ofNat e ∨ e = n) (zm : mnI v3 (Int32.ofNat n) = Int32.ofNat e) :
    H2 (fX1_follow N h k d v3 a1) (fX12_runs N v1 a2) (fun r1 s1 _ s2 => ∃ i S', i ≤ e ∧ r1 = Int32.ofNat i ∧ s2.1 0 26 = Int32.ofNat i ∧ CJ h c C np nw a1 a2 S' s1 s2) := by
  unfold fX1_follow fX12_runs
  apply h2_lr
  refine h2_mono (begin_2 hN W HC hd HM) (fun _ t1 _ t2 ⟨P, B, _, z26, _⟩ => ?_)
  simp only [ho_lte]
  have b23 : t2.1 0 23 = Int32.ofNat q := by rw [B.1 0 23 (by omega) (by omega)]; exact h23
  have sz : ∀ {S s1 s2}, CJ h c C np nw a1 a2 S s1 s2 → s1.1 d 0 = Int32.ofNat n ∧ s2.1 1 q = Int32.ofNat n := by
    intro S s1 s2 P
    have x : s1.1 d 0 = Int32.ofNat n := by rw [P.2.2.2.2.2.2.1.1 d (by omega)]; exact hn
    obtain ⟨m, m1, m2, m3, _⟩ := P.sess E hd2
    refine ⟨x, ?_⟩
    rw [m3, ← m2, x]
  refine h2_loop (F1 := fun m (v : Int32) s => fX1_follow_l8 N h m d v3 v s) (F2 := fun m (_ : Unit) s => fX12_runs_l4 N m v1 s) (fun i v s1 _ s2 => v = Int32.ofNat i ∧ s2.1 0 26 = Int32.ofNat i ∧ s2.1 0 23 = Int32.ofNat q ∧ ∃ S', CJ h c C np nw a1 a2 S' s1 s2) e ?_ ?_ e N N 0 0 t1 () t2 (by omega) (by omega) (by omega) ⟨rfl, z26, b23, _, P⟩
  · rintro n1 n2 i v s1 _ s2 hi ⟨e1, e2, e3, S', P⟩ rec
    subst e1
    have sz' := sz P
    obtain ⟨m, m1, m2, m3, m4⟩ := P.sess E hd2
    have hmn : m = n := by rw [sz'.1, nz_inj (by omega) (by omega)] at m2; exact m2.symm
    subst hmn
    obtain ⟨t, x, y, t1, t2, t3, t4, t5, t6, t7, t8⟩ := m4 i (by omega)
    simp only [fX1_follow_l8, fX12_runs_l4, fX1_follow_b8, fX12_runs_b4, fX1_follow_b80, e2, e3]
    rw [show (3 : Int32) * Int32.ofNat i = Int32.ofNat (3 * i) from nz_mul, show Int32.ofNat q + 1 = Int32.ofNat (q + 1) from nz_succ, show Int32.ofNat q + 2 = Int32.ofNat (q + 2) from nz_add, show Int32.ofNat q + 3 = Int32.ofNat (q + 3) from nz_add]
    simp only [nz_add, nz_inb (show i < 2147483648 by omega), show i < 40 by omega, nz_inb (show q < 2147483648 by omega), nz_inb (show q + 1 + 3 * i < 2147483648 by omega), nz_inb (show q + 2 + 3 * i < 2147483648 by omega), nz_inb (show q + 3 + 3 * i < 2147483648 by omega), show q < 4176 by omega, show q + 1 + 3 * i < 4176 by omega, show q + 2 + 3 * i < 4176 by omega, show q + 3 + 3 * i < 4176 by omega, decide_true, ho_gdt, nz_nat (show i < 2147483648 by omega), nz_nat (show q < 2147483648 by omega), nz_nat (show q + 1 + 3 * i < 2147483648 by omega), nz_nat (show q + 2 + 3 * i < 2147483648 by omega), nz_nat (show q + 3 + 3 * i < 2147483648 by omega), ho_lte, nz_succ, sz'.1, sz'.2]
    rw [show q + 2 + 3 * i = q + 1 + 3 * i + 1 by omega, show q + 3 + 3 * i = q + 1 + 3 * i + 2 by omega, t1, t2, t3, t4, t5, t6]
    rw [if_neg (c3 i hi), if_neg (c1 i hi), if_neg (show ¬ Int32.ofNat m ≤ Int32.ofNat i by rw [nz_le (by omega) (by omega)]; omega), if_neg (show ¬ Int32.ofNat m ≤ Int32.ofNat i by rw [nz_le (by omega) (by omega)]; omega)]
    apply h2_lr
    refine h2_mono (does_2 hN P rfl t7 t8) (fun r1 u1 r2 u2 ⟨x1, x2, ⟨S'', P'⟩, D⟩ => ?_)
    have F := D.fr
    subst x1
    have u26 : u2.1 0 26 = Int32.ofNat i := by rw [F.1 0 26 (by omega) (by omega)]; exact e2
    have u23 : u2.1 0 23 = Int32.ofNat q := by rw [F.1 0 23 (by omega) (by omega)]; exact e3
    by_cases z : r1 = 0
    · rw [if_pos z, if_pos z]
      exact ⟨i, S'', by omega, rfl, u26, P'⟩
    · rw [if_neg z, if_neg z, u26, nz_succ]
      have nx : ∀ w1, CJ h c C np nw a1 a2 S'' w1 u2 → H2 (fX1_follow_l8 N h n1 d v3 (Int32.ofNat (i + 1)) w1) (fX12_runs_l4 N n2 v1 (pI u2 0 26 (Int32.ofNat (i + 1)))) (fun r1 s1 _ s2 => ∃ i S', i ≤ e ∧ r1 = Int32.ofNat i ∧ s2.1 0 26 = Int32.ofNat i ∧ CJ h c C np nw a1 a2 S' s1 s2) := by
        intro w1 Pw
        exact rec _ _ () _ ⟨rfl, pI_eq, by rw [pI_nq (by omega)]; exact u23, S'', Pw.m26 (by omega)⟩
      (repeat' split)
      · exact nx _ P'
      · exact nx _ (P'.p5 (by omega))
      · exact nx _ P'
  · rintro n1 n2 v s1 _ s2 ⟨e1, e2, e3, S', P⟩
    subst e1
    have sz' := sz P
    simp only [fX1_follow_l8, fX12_runs_l4, fX1_follow_b8, fX12_runs_b4, fX1_follow_b86, e2, e3, nz_inb (show q < 2147483648 by omega), show q < 4176 by omega, decide_true, ho_gdt, nz_nat (show q < 2147483648 by omega), sz'.1, sz'.2, zm]
    have L : H2 (some (Int32.ofNat e, s1)) (some ((), s2)) (fun r1 s1 _ s2 => ∃ i S', i ≤ e ∧ r1 = Int32.ofNat i ∧ s2.1 0 26 = Int32.ofNat i ∧ CJ h c C np nw a1 a2 S' s1 s2) := ⟨e, S', Nat.le_refl e, rfl, e2, P⟩
    have le : e = n → Int32.ofNat n ≤ Int32.ofNat e := fun x => by rw [x]; exact Int32.le_refl _
    by_cases w3 : v3 ≤ Int32.ofNat e
    · rw [if_pos w3]
      by_cases w1 : v1 ≤ Int32.ofNat e
      · rw [if_pos w1]; exact L
      · rw [if_neg w1, if_pos (le (z1.resolve_left w1))]; exact L
    · rw [if_neg w3, if_pos (le (z3.resolve_left w3))]
      by_cases w1 : v1 ≤ Int32.ofNat e
      · rw [if_pos w1]; exact L
      · rw [if_neg w1, if_pos (le (z1.resolve_left w1))]; exact L
theorem div10 : ∀ q, q < 100 → Int32.ofNat q / 10 = Int32.ofNat (q / 10) := by decide +kernel
/-- what is told of a state -/
theorem tell_2 (hN : 10000 ≤ N) (P : CJ h c C np nw a1 a2 S σ1 σ2) (v : Int32) (hv : 0 ≤ v) : H2 (fX1_tell N h v σ1) (fX12_nowOf N v σ2) (fun r1 t1 r2 t2 => r1 = r2 ∧ t1 = σ1 ∧ t2 = σ2) := by
  obtain ⟨W, X, hO, H1, H3, ⟨p1, p2, p3, p4⟩, F1, K2⟩ := P
  have P : CJ h c C np nw a1 a2 S σ1 σ2 := ⟨W, X, hO, H1, H3, ⟨p1, p2, p3, p4⟩, F1, K2⟩
  have hn := W.1
  have hw6 := W.2.1
  have E : ∀ x : Int32, H2 (some (x, σ1)) (some (x, σ2)) (fun r1 t1 r2 t2 => r1 = r2 ∧ t1 = σ1 ∧ t2 = σ2) := fun x => ⟨rfl, rfl, rfl⟩
  unfold fX1_tell fX12_nowOf fX1_tellOne
  simp only [ho_lte, isIn_Z, ho_bds, Int32.reduceToInt, isPiece_M (np := np) _ P.c0.2.2.1 hn, isPerson_M (nw := nw) _ P.c0.2.2.2 (show nw ≤ 8 by omega), has_eq (np := np) _ P.c0.1 hn, hasw_eq (np := nw) _ P.c0.2.1 (show nw ≤ 8 by omega), ite10, bd_ret]
  have hv0 : 0 ≤ v.toInt := i32_le.mp hv
  by_cases big : v.toInt < 50
  · obtain ⟨x, x1, x2, rfl⟩ := z_of (v := v) (a := 0) (b := 49) (by omega)
    rw [rm10 x (by omega), div10 x (by omega)]
    simp only [nz_inb (show x % 10 < 2147483648 by omega), nz_nat (show x % 10 < 2147483648 by omega), decide_eq_true_eq]
    by_cases s0 : x = 0
    · subst s0; rw [if_pos (show Int32.ofNat 0 = 0 from rfl), if_pos (show Int32.ofNat 0 = 0 from rfl), p1]; exact E _
    · rw [if_neg (show ¬ Int32.ofNat x = 0 by rw [z_eq (by omega) (by omega)]; exact s0), if_neg (show ¬ Int32.ofNat x = 0 by rw [z_eq (by omega) (by omega)]; exact s0)]
      by_cases s1 : x = 1
      · subst s1; rw [if_pos (show Int32.ofNat 1 = 1 from rfl), if_pos (show Int32.ofNat 1 = 1 from rfl), p2]; exact E _
      · rw [if_neg (show ¬ Int32.ofNat x = 1 by rw [z_eq (by omega) (by omega)]; exact s1), if_neg (show ¬ Int32.ofNat x = 1 by rw [z_eq (by omega) (by omega)]; exact s1)]
        by_cases s2 : x = 2
        · subst s2; rw [if_pos (show Int32.ofNat 2 = 2 from rfl), if_pos (show Int32.ofNat 2 = 2 from rfl), H1.2.2.2.1, H3.2.1.1]; exact E _
        · rw [if_neg (show ¬ Int32.ofNat x = 2 by rw [z_eq (by omega) (by omega)]; exact s2), if_neg (show ¬ Int32.ofNat x = 2 by rw [z_eq (by omega) (by omega)]; exact s2)]
          by_cases s3 : x = 3
          · subst s3; rw [if_pos (show Int32.ofNat 3 = 3 from rfl), if_pos (show Int32.ofNat 3 = 3 from rfl), H1.1, H3.2.1.2]; exact E _
          · rw [if_neg (show ¬ Int32.ofNat x = 3 by rw [z_eq (by omega) (by omega)]; exact s3), if_neg (show ¬ Int32.ofNat x = 3 by rw [z_eq (by omega) (by omega)]; exact s3)]
            by_cases s4 : x = 4
            · subst s4; rw [if_pos (show Int32.ofNat 4 = 4 from rfl), if_pos (show Int32.ofNat 4 = 4 from rfl), p3]; exact E _
            · rw [if_neg (show ¬ Int32.ofNat x = 4 by rw [z_eq (by omega) (by omega)]; exact s4), if_neg (show ¬ Int32.ofNat x = 4 by rw [z_eq (by omega) (by omega)]; exact s4)]
              by_cases s5 : x = 5
              · subst s5; rw [if_pos (show Int32.ofNat 5 = 5 from rfl), if_pos (show Int32.ofNat 5 = 5 from rfl), p4]; exact E _
              · rw [if_neg (show ¬ Int32.ofNat x = 5 by rw [z_eq (by omega) (by omega)]; exact s5), if_neg (show ¬ Int32.ofNat x = 5 by rw [z_eq (by omega) (by omega)]; exact s5)]
                simp (disch := omega) only [i32_lt, i32_le, nz_toInt, Int32.reduceToInt]
                have q1 : (Int32.ofNat (x / 10) = 1) ↔ x / 10 = 1 := z_eq (by omega) (by omega)
                have q2 : (Int32.ofNat (x / 10) = 2) ↔ x / 10 = 2 := z_eq (by omega) (by omega)
                have q4 : (Int32.ofNat (x / 10) = 4) ↔ x / 10 = 4 := z_eq (by omega) (by omega)
                simp only [q1, q2, q4]
                by_cases f : x % 10 < np
                · have g := H1.2.2.2.2.1 _ f
                  have g' := H3.2.2.1 _ f
                  have f8 : x % 10 < 8 := by omega
                  simp only [load_M hN H3, f8, decide_true, ho_gdt, g.2.2.1, g.2.2.2.2.2.2.1, g.2.2.2.2.2.2.2, g'.1, g'.2.1]
                  by_cases w : x % 10 < nw
                  · have w' : x % 10 < 6 := by omega
                    simp only [w', decide_true, ho_gdt, (H1.2.2.2.2.2 _ w).2, (H3.2.2.2 _ w).1]
                    (repeat' split) <;> first | exact E _ | omega
                  · (repeat' split) <;> first | exact E _ | omega
                · by_cases w : x % 10 < nw
                  · have w' : x % 10 < 6 := by omega
                    simp only [w', decide_true, ho_gdt, (H1.2.2.2.2.2 _ w).2, (H3.2.2.2 _ w).1]
                    (repeat' split) <;> first | exact E _ | omega
                  · (repeat' split) <;> first | exact E _ | omega
  · have t5 : ∀ m : Nat, m < 10 → ¬ v = Int32.ofNat m := fun m hm e => by
      have := congrArg Int32.toInt e
      rw [nz_toInt (by omega)] at this; omega
    rw [if_neg (show ¬ v = 0 from t5 0 (by omega)), if_neg (show ¬ v = 1 from t5 1 (by omega)), if_neg (show ¬ v = 2 from t5 2 (by omega)), if_neg (show ¬ v = 3 from t5 3 (by omega)), if_neg (show ¬ v = 4 from t5 4 (by omega)), if_neg (show ¬ v = 5 from t5 5 (by omega)), if_neg (show ¬ v < 10 by rw [i32_lt]; show ¬ v.toInt < 10; omega), if_pos (show (50 : Int32) ≤ v by rw [i32_le]; show 50 ≤ v.toInt; omega), if_neg (show ¬ v = 0 from t5 0 (by omega)), if_neg (show ¬ v = 1 from t5 1 (by omega)), if_neg (show ¬ v = 2 from t5 2 (by omega)), if_neg (show ¬ v = 3 from t5 3 (by omega)), if_neg (show ¬ v = 4 from t5 4 (by omega)), if_neg (show ¬ v = 5 from t5 5 (by omega)), if_pos (show ¬ (40 ≤ v.toInt ∧ v.toInt ≤ 49) by omega), if_pos (show ¬ (10 ≤ v.toInt ∧ v.toInt ≤ 39) by omega)]
    exact E _
end FOLLOW
