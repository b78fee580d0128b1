/-! The reference's table of codes. -/
theorem nz_div {a b : Nat} (ha : a < 2147483648) (hb : b < 2147483648) : Int32.ofNat a / Int32.ofNat b = Int32.ofNat (a / b) := by
  have hq : a / b ≤ a := Nat.div_le_self a b
  rw [i32_eq, nz_toInt (by omega), Int32.toInt_div, nz_toInt ha, nz_toInt hb, ← Int.ofNat_tdiv]
  generalize a / b = q at hq
  apply Int.bmod_eq_of_le <;> omega
theorem wxV_comm {S : Vw} {a b : Nat} : wxV (wxV S a) b = wxV (wxV S b) a := by
  by_cases c : a = b
  · subst c; rfl
  · have c' : ¬ b = a := fun h => c h.symm
    funext i j
    simp only [wxV, upV]
    by_cases h1 : i = 10
    · by_cases h2 : j = a
      · have h3 : ¬ j = b := fun h => c (h2.symm.trans h)
        simp [h1, h2, c, c']
      · by_cases h3 : j = b
        · simp [h1, h3, c, c']
        · simp [h1, h2, h3]
    · simp [h1]
def dgV (np : Nat) (S : Vw) (d : Nat) : Vw := if d < np then wxV S d else S
def hgV (np : Nat) (S : Vw) : Nat → Nat → Vw
  | 0, _ => S
  | i + 1, x => dgV np (hgV np S i (x / 9)) (x % 9)
theorem dg_comm {np : Nat} {S : Vw} {a b : Nat} : dgV np (dgV np S a) b = dgV np (dgV np S b) a := by
  unfold dgV
  by_cases h1 : a < np
  · by_cases h2 : b < np
    · rw [if_pos h1, if_pos h2, if_pos h2, if_pos h1]; exact wxV_comm
    · rw [if_pos h1, if_neg h2, if_neg h2, if_pos h1]
  · by_cases h2 : b < np
    · rw [if_neg h1, if_pos h2, if_neg h1]
    · rw [if_neg h1, if_neg h2, if_neg h1]
theorem hg_dg {np : Nat} : ∀ (i x : Nat) (S : Vw) (d : Nat), hgV np (dgV np S d) i x = dgV np (hgV np S i x) d
  | 0, _, _, _ => rfl
  | i + 1, x, S, d => by
    simp only [hgV]
    rw [hg_dg i, dg_comm]
theorem dg_wf {np nw : Nat} {S : Vw} {d : Nat} (W : WfV S np nw) : WfV (dgV np S d) np nw := by
  unfold dgV
  by_cases h : d < np
  · rw [if_pos h]; exact upV_wf W (by omega)
  · rw [if_neg h]; exact W
theorem won_M {N c np nw mm x l : Nat} {C : Vw} {σ : Mem} (hN : 10000 ≤ N) (W : WfV C np nw) (H : HcM σ c C np nw) (hx : x < 6561) (hl : l ≤ 4) : Ho (fX12_isWon N (Int32.ofNat mm) (Int32.ofNat x) (Int32.ofNat l) σ) (fun v t => HcM t c C np nw ∧ KM σ t ∧ t.1 11 = σ.1 11 ∧ v = biI (carV (hgV np (asT C) l x) np nw (Int32.ofNat mm))) := by
  have W' := asT_wf W
  have hn := W.1
  unfold fX12_isWon
  rw [ho_bd]
  refine ho_mono (asTold_M hN H) (fun _ s ⟨HA, F, _, _⟩ => ?_)
  simp only [ho_lt]
  refine ho_loop (F := fun n (b : Int32 × Int32) t => fX12_isWon_l10 N n (Int32.ofNat mm) (Int32.ofNat l) b.1 b.2 t) (fun i b t => b.2 = Int32.ofNat i ∧ KM σ t ∧ t.1 11 = σ.1 11 ∧ ∃ y S, y < 6561 ∧ b.1 = Int32.ofNat y ∧ HaM t c C S np nw ∧ WfV S np nw ∧ hgV np S (l - i) y = hgV np (asT C) l x) l ?_ ?_ l N 0 (_, _) s (by omega) (by omega) ⟨rfl, F.km, F.cell (by omega), x, asT C, hx, rfl, HA, W', rfl⟩
  · rintro n i ⟨v4, v5⟩ t hi ⟨e1, K1, T1, y, S, hy, e2, H1, WS, G⟩ rec
    dsimp only at e1 e2
    subst e1 e2
    obtain ⟨k, hk⟩ : ∃ k, l - i = k + 1 := ⟨l - i - 1, by omega⟩
    have hk' : l - (i + 1) = k := by omega
    have y9 : y % 9 < 9 := Nat.mod_lt _ (by omega)
    have yd : y / 9 < 6561 := Nat.lt_of_le_of_lt (Nat.div_le_self _ _) hy
    have G2 : hgV np (dgV np S (y % 9)) (l - (i + 1)) (y / 9) = hgV np (asT C) l x := by
      rw [hk', hg_dg, ← G, hk]; rfl
    simp only [fX12_isWon_l10, fX12_isWon_b10, ho_lte, fX12_isWon_b50, nz_succ]
    rw [if_neg (show ¬ Int32.ofNat l ≤ Int32.ofNat i by rw [nz_le (by omega) (by omega)]; omega), show (9 : Int32) = Int32.ofNat 9 from rfl, nz_rem (by omega) (by omega), nz_div (by omega) (by omega), isPiece_M (np := np) _ H1.1.2.1.2.1 hn, ho_bds, nz_inb (by omega)]
    by_cases d : y % 9 < np
    · have i8 : inb (Int32.ofNat (y % 9)) 8 = true := by rw [nz_inb (by omega)]; exact decide_eq_true (by omega)
      rw [decide_eq_true d, if_pos rfl, if_neg (by decide), gdT i8, gdT i8, nz_nat (show y % 9 < 2147483648 by omega), (H1.2.2.1 _ d).2.1]
      refine rec (_, _) _ ⟨rfl, ⟨by rw [pI_ne (by omega)]; exact K1.1, by rw [pI_ne (by omega)]; exact K1.2⟩, by rw [pI_ne (by omega)]; exact T1, y / 9, dgV np S (y % 9), yd, rfl, ?_, dg_wf WS, G2⟩
      unfold dgV
      rw [if_pos d]
      exact H1.wax
    · rw [decide_eq_false d, if_neg (show ¬ (false = true) by decide), if_pos rfl]
      refine rec (_, _) _ ⟨rfl, K1, T1, y / 9, dgV np S (y % 9), yd, rfl, ?_, dg_wf WS, G2⟩
      unfold dgV
      rw [if_neg d]
      exact H1
  · rintro n ⟨v4, v5⟩ t ⟨e1, K1, T1, y, S, hy, e2, H1, WS, G⟩
    dsimp only at e1 e2
    subst e1 e2
    rw [Nat.sub_self] at G
    simp only [fX12_isWon_l10, fX12_isWon_b10]
    rw [if_pos (show Int32.ofNat l ≤ Int32.ofNat l from Int32.le_refl _), ho_bd]
    refine ho_mono (answers_M hN WS H1) (fun r t2 ⟨hr, V⟩ => ?_)
    have er : r = biI (carV (hgV np (asT C) l x) np nw (Int32.ofNat mm)) := by rw [hr, ← G]; rfl
    rw [gdD (by rw [er]; exact bi01 _)]
    exact ⟨(H1.ag V.1.ag).1, K1.trans V.1.toH.km, by rw [V.1.toH.cell (by omega)]; exact T1, er⟩
theorem got_b34 {N : Nat} {rc : Int32 → Int32 → Int32 → Int32 → Int32 → Mem → Option (Int32 × Mem)} {v1 v2 v3 v4 v5 w : Int32} {σ : Mem} (hi : inb (9 * v1 + v5) 6561 = true) (hw : σ.1 11 (9 * v1 + v5).toNatClampNeg = w) (h3 : v3 = 0 ∨ v3 = 1) (h4 : v4 = 0 ∨ v4 = 1) (h5 : w = 0 ∨ w = 1) : fX12_isGot_b34 N rc v1 v2 v3 v4 v5 σ = fX12_isGot_b86 N rc v1 v2 (if v3 = 1 ∨ w = 1 then 1 else 0) (if v4 = 1 ∧ w = 1 then 1 else 0) v5 σ := by
  have n10 : ¬ (1 : Int32) = 0 := by decide
  have n01 : ¬ (0 : Int32) = 1 := by decide
  simp only [fX12_isGot_b34, fX12_isGot_b53, fX12_isGot_b58, fX12_isGot_b83, fX12_isGot_b84, ho_lte, hi, ho_gdt, hw]
  rcases h3 with rfl | rfl <;> rcases h4 with rfl | rfl <;> rcases h5 with rfl | rfl <;> simp only [n10, n01, if_true, if_false, or_false, or_true, false_or, true_or, or_self, and_false, and_true, false_and, true_and, and_self]
theorem ite01 (P : Prop) [Decidable P] : (if P then (1 : Int32) else 0) = 0 ∨ (if P then (1 : Int32) else 0) = 1 := by
  by_cases h : P
  · rw [if_pos h]; exact Or.inr rfl
  · rw [if_neg h]; exact Or.inl rfl
theorem ite1_iff (P : Prop) [Decidable P] : (if P then (1 : Int32) else 0) = 1 ↔ P := by
  by_cases h : P
  · rw [if_pos h]; exact ⟨fun _ => h, fun _ => rfl⟩
  · rw [if_neg h]; exact ⟨fun q => absurd q (by decide), fun q => absurd q h⟩
def okD (np d : Nat) : Prop := d < np ∨ d = 8
theorem got_M {N c np nw x : Nat} {v2 : Int32} {C : Vw} {σ : Mem} {G : Nat → Prop} (hN : 10000 ≤ N) (H : HcM σ c C np nw) (hx : 9 * x + 8 < 6561) (hG : ∀ d, d < 9 → (σ.1 11 (9 * x + d) = 1 ∧ G d) ∨ (σ.1 11 (9 * x + d) = 0 ∧ ¬ G d)) : Ho (fX12_isGot N (Int32.ofNat x) v2 σ) (fun v t => t = σ ∧ (v = 0 ∨ v = 1) ∧ (v2 = 0 → (v = 1 ↔ ∀ d, d < 9 → okD np d → G d)) ∧ (¬ v2 = 0 → (v = 1 ↔ ∃ d, d < 9 ∧ okD np d ∧ G d))) := by
  have hn := H.1.2.1
  have n01 : ¬ (0 : Int32) = 1 := by decide
  unfold fX12_isGot
  simp only [ho_lt]
  refine ho_loop (F := fun n (b : Int32 × Int32 × Int32) t => fX12_isGot_l8 N n (Int32.ofNat x) v2 b.1 b.2.1 b.2.2 t) (fun i b t => b.2.2 = Int32.ofNat i ∧ t = σ ∧ (b.1 = 0 ∨ b.1 = 1) ∧ (b.2.1 = 0 ∨ b.2.1 = 1) ∧ (b.1 = 1 ↔ ∃ d, d < i ∧ okD np d ∧ G d) ∧ (b.2.1 = 1 ↔ ∀ d, d < i → okD np d → G d)) 9 ?_ ?_ 9 N 0 (_, _, _) σ (by omega) (by omega) ⟨rfl, rfl, Or.inl rfl, Or.inr rfl, ⟨fun h => absurd h (by decide), fun ⟨d, h, _⟩ => absurd h (Nat.not_lt_zero d)⟩, ⟨fun _ d h => absurd h (Nat.not_lt_zero d), fun _ => rfl⟩⟩
  · rintro n i ⟨v3, v4, v5⟩ t hi ⟨e1, e2, z3, z4, a3, a4⟩ rec
    dsimp only at e1 e2 z3 z4 a3 a4
    subst e1 e2
    have pl : (9 : Int32) * Int32.ofNat x + Int32.ofNat i = Int32.ofNat (9 * x + i) := by rw [show (9 : Int32) = Int32.ofNat 9 from rfl, nz_mul, nz_add]
    simp only [fX12_isGot_l8]
    unfold fX12_isGot_b8
    rw [if_neg (show ¬ (9 : Int32) ≤ Int32.ofNat i by rw [z_le (by omega) (by omega)]; omega), isPiece_M (np := np) _ H.2.1.2.1 hn, ho_bds, nz_inb (by omega)]
    have ins : okD np i → Ho (fX12_isGot_b34 N (fX12_isGot_l8 N n) (Int32.ofNat x) v2 v3 v4 (Int32.ofNat i) t) (fun v t' => t' = t ∧ (v = 0 ∨ v = 1) ∧ (v2 = 0 → (v = 1 ↔ ∀ d, d < 9 → okD np d → G d)) ∧ (¬ v2 = 0 → (v = 1 ↔ ∃ d, d < 9 ∧ okD np d ∧ G d))) := by
      intro ok
      have iw : inb (9 * Int32.ofNat x + Int32.ofNat i) 6561 = true := by rw [pl, nz_inb (by omega)]; exact decide_eq_true (by omega)
      have nw' : (9 * Int32.ofNat x + Int32.ofNat i).toNatClampNeg = 9 * x + i := by rw [pl]; exact nz_nat (by omega)
      have fin : ∀ w : Int32, t.1 11 (9 * x + i) = w → (w = 0 ∨ w = 1) → (w = 1 ↔ G i) → Ho (fX12_isGot_b34 N (fX12_isGot_l8 N n) (Int32.ofNat x) v2 v3 v4 (Int32.ofNat i) t) (fun v t' => t' = t ∧ (v = 0 ∨ v = 1) ∧ (v2 = 0 → (v = 1 ↔ ∀ d, d < 9 → okD np d → G d)) ∧ (¬ v2 = 0 → (v = 1 ↔ ∃ d, d < 9 ∧ okD np d ∧ G d))) := by
        intro w w1 w2 w3
        rw [got_b34 iw (by rw [nw']; exact w1) z3 z4 w2]
        unfold fX12_isGot_b86
        rw [ho_lte, nz_succ]
        refine rec (_, _, _) t ⟨rfl, rfl, ?_, ?_, ?_, ?_⟩
        · exact ite01 _
        · exact ite01 _
        · refine (ite1_iff _).trans ⟨fun q => ?_, ?_⟩
          · rcases q with q | q
            · obtain ⟨d, d1, d2⟩ := a3.mp q
              exact ⟨d, by omega, d2⟩
            · exact ⟨i, by omega, ok, w3.mp q⟩
          · rintro ⟨d, d1, d2, d3⟩
            by_cases q : d = i
            · subst q; exact Or.inr (w3.mpr d3)
            · exact Or.inl (a3.mpr ⟨d, by omega, d2, d3⟩)
        · refine (ite1_iff _).trans ⟨fun q d d1 d2 => ?_, fun h => ?_⟩
          · by_cases c : d = i
            · subst c; exact w3.mp q.2
            · exact a4.mp q.1 d (by omega) d2
          · exact ⟨a4.mpr (fun d d1 d2 => h d (by omega) d2), w3.mpr (h i (by omega) ok)⟩
      rcases hG i hi with ⟨g1, g2⟩ | ⟨g1, g2⟩
      · exact fin 1 g1 (Or.inr rfl) ⟨fun _ => g2, fun _ => rfl⟩
      · exact fin 0 g1 (Or.inl rfl) ⟨fun h => absurd h n01, fun h => absurd h g2⟩
    by_cases d : i < np
    · rw [decide_eq_true d, if_pos rfl, if_neg (by decide)]
      exact ins (Or.inl d)
    · rw [decide_eq_false d, if_neg (show ¬ (false = true) by decide), if_pos rfl]
      by_cases e8 : i = 8
      · rw [if_pos (show Int32.ofNat i = 8 by rw [e8]; rfl)]
        exact ins (Or.inr e8)
      · rw [if_neg (show ¬ Int32.ofNat i = 8 by rw [z_eq (by omega) (by omega)]; exact e8)]
        have no : ¬ okD np i := by rintro (h | h); exact d h; exact e8 h
        unfold fX12_isGot_b86
        rw [ho_lte, nz_succ]
        refine rec (_, _, _) t ⟨rfl, rfl, z3, z4, ?_, ?_⟩
        · dsimp only
          rw [a3]
          constructor
          · rintro ⟨d, d1, d2⟩; exact ⟨d, by omega, d2⟩
          · rintro ⟨d, d1, d2, d3⟩
            have : d ≠ i := fun h => no (h ▸ d2)
            exact ⟨d, by omega, d2, d3⟩
        · dsimp only
          rw [a4]
          constructor
          · intro h d d1 d2
            have : d ≠ i := fun h => no (h ▸ d2)
            exact h d (by omega) d2
          · intro h d d1 d2
            exact h d (by omega) d2
  · rintro n ⟨v3, v4, v5⟩ t ⟨e1, e2, z3, z4, a3, a4⟩
    dsimp only at e1 e2 z3 z4 a3 a4
    subst e1 e2
    simp only [fX12_isGot_l8]
    unfold fX12_isGot_b8
    rw [if_pos (by decide)]
    by_cases q : v2 = 0
    · rw [if_pos q, gdD z4]
      exact ⟨rfl, z4, fun _ => a4, fun h => absurd q h⟩
    · rw [if_neg q, gdD z3]
      exact ⟨rfl, z3, fun h => absurd h q, fun _ => a3⟩
