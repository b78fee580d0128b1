/-! Waxing further: the least row. -/
def wxV (S : Vw) (p : Nat) : Vw := upV S 10 p (S 10 p + 1)
def srN (f : Nat → Option Nat) (b : Nat) : Nat → Nat → Option Nat
  | 0, _ => none
  | n + 1, p => match f p with
    | some c => some (p * b + c)
    | none => srN f b n (p + 1)
def wfN (np nw : Nat) (m wd : Int32) : Nat → Vw → Nat → Option Nat
  | 0, S, _ => if (if carV S np nw m = true then (1 : Int32) else 0) = wd then some 0 else none
  | r + 1, S, lo => srN (fun p => wfN np nw m wd r (wxV S p) p) (8 ^ r) (np - lo) lo
theorem srN_lt {f : Nat → Option Nat} {b np : Nat} (hf : ∀ p c, f p = some c → c < b) (hb : np ≤ 8) : ∀ n p c, n + p ≤ np → srN f b n p = some c → c < 8 * b
  | 0, _, _, _, h => by cases h
  | n + 1, p, c, hn, h => by
    simp only [srN] at h
    cases e : f p with
    | some c' =>
      rw [e] at h
      have := hf p c' e
      cases h
      have : (p + 1) * b ≤ 8 * b := Nat.mul_le_mul_right b (by omega)
      rw [Nat.add_mul] at this; omega
    | none => rw [e] at h; exact srN_lt hf hb n (p + 1) c (by omega) h
theorem srN_gt {f : Nat → Option Nat} {b : Nat} : ∀ n p c, srN f b n p = some c → n ≠ 0
  | 0, _, _, h => by cases h
  | n + 1, _, _, _ => by omega
theorem wfN_lt {np nw : Nat} {m wd : Int32} (hn : np ≤ 8) : ∀ r S lo c, wfN np nw m wd r S lo = some c → c < 8 ^ r
  | 0, S, lo, c, h => by
    simp only [wfN] at h
    by_cases q : (if carV S np nw m = true then (1 : Int32) else 0) = wd
    · rw [if_pos q] at h; cases h; decide
    · rw [if_neg q] at h; cases h
  | r + 1, S, lo, c, h => by
    simp only [wfN] at h
    rw [Nat.pow_succ, Nat.mul_comm]
    by_cases l : lo ≤ np
    · exact srN_lt (fun p c' e => wfN_lt hn r _ _ c' e) hn _ _ _ (by omega) h
    · exact absurd (show np - lo = 0 by omega) (srN_gt _ _ _ h)
theorem wxV_back {S : Vw} {p : Nat} : upV (wxV S p) 10 p (wxV S p 10 p - 1) = S := by
  unfold wxV
  rw [upV_eq, upV_up, Int32.add_sub_cancel, upV_self]
theorem waxF_C {N h np nw mm k : Nat} {wd : Int32} (hN : 10000 ≤ N) (hm : mm < 64) (hk : k ≤ 3) : ∀ (r d v4 lo : Nat) (S : Vw) (t : Mem), v4 + r = k → r + 1 ≤ d → lo ≤ 8 → WfV S np nw → HaC t (h + 2) S np nw → (∀ p, p < np → ∃ x, x ≤ v4 ∧ S 10 p = Int32.ofNat x) → Ho (gX3_waxFurther N d h (Int32.ofNat mm) wd (Int32.ofNat lo) (Int32.ofNat v4) (Int32.ofNat k) t) (fun v t' => HaC t' (h + 2) S np nw ∧ FrC (h + 1) (h + 15) t t' ∧ (∀ j, j < v4 → t'.1 (h + 1) j = t.1 (h + 1) j) ∧ ((∃ c, wfN np nw (Int32.ofNat mm) wd r S lo = some c ∧ v = 1 ∧ ∀ j, j < r → t'.1 (h + 1) (v4 + j) = Int32.ofNat (c / 8 ^ (r - 1 - j) % 8)) ∨ (wfN np nw (Int32.ofNat mm) wd r S lo = none ∧ v = 0)))
  | 0, d, v4, lo, S, t, e, hd, hlo, W, H, X => by
    obtain ⟨d', rfl⟩ : ∃ d', d = d' + 1 := ⟨d - 1, by omega⟩
    simp only [gX3_waxFurther, fX3_waxFurther, fX3_waxFurther_b22, fX3_waxFurther_b38]
    rw [if_pos (show Int32.ofNat k ≤ Int32.ofNat v4 by rw [nz_le (by omega) (by omega)]; omega), ho_bd]
    refine ho_mono (vote_C W H hN hm) (fun x u ⟨hx, V⟩ => ?_)
    have HU := H.frv V.1
    have FU : FrC (h + 1) (h + 15) t u := V.1.toC.wide (by omega) (by omega)
    have RU : ∀ j, j < v4 → u.1 (h + 1) j = t.1 (h + 1) j := fun j _ => V.1.1 (h + 1) j (by omega) (by omega)
    have lc := lead_car W (Int32.ofNat mm)
    rw [hx]
    simp only [wfN]
    by_cases q : carV S np nw (Int32.ofNat mm) = true
    · rw [if_neg (fun z => by rw [lc, q] at z; cases z), if_pos q]
      by_cases z : (1 : Int32) = wd
      · rw [if_pos z, if_pos z]; exact ⟨HU, FU, RU, Or.inl ⟨0, rfl, rfl, fun j hj => absurd hj (Nat.not_lt_zero j)⟩⟩
      · rw [if_neg z, if_neg z]; exact ⟨HU, FU, RU, Or.inr ⟨rfl, rfl⟩⟩
    · rw [if_pos (lc.mpr (by simpa using q)), if_neg q]
      by_cases z : (0 : Int32) = wd
      · rw [if_pos z, if_pos z]; exact ⟨HU, FU, RU, Or.inl ⟨0, rfl, rfl, fun j hj => absurd hj (Nat.not_lt_zero j)⟩⟩
      · rw [if_neg z, if_neg z]; exact ⟨HU, FU, RU, Or.inr ⟨rfl, rfl⟩⟩
  | r + 1, d, v4, lo, S, t, e, hd, hlo, W, H, X => by
    have hn := W.1
    have ihr := waxF_C (N := N) (h := h) (np := np) (nw := nw) (mm := mm) (k := k) (wd := wd) hN hm hk r
    obtain ⟨d', rfl⟩ : ∃ d', d = d' + 1 := ⟨d - 1, by omega⟩
    simp only [gX3_waxFurther, fX3_waxFurther]
    rw [if_neg (show ¬ Int32.ofNat k ≤ Int32.ofNat v4 by rw [nz_le (by omega) (by omega)]; omega), if_neg (z_neg (by omega)), if_pos (show Int32.ofNat v4 < 3 by rw [z_gt (by omega) (by omega)]; omega), show mxI 0 (Int32.ofNat lo) = Int32.ofNat lo by
      rw [show (0 : Int32) = Int32.ofNat 0 from rfl, mx_nat (by omega) (by omega)]
      congr 1; split <;> omega]
    simp only [ho_lt]
    generalize hf : (fun p => wfN np nw (Int32.ofNat mm) wd r (wxV S p) p) = f
    have hw0 : wfN np nw (Int32.ofNat mm) wd (r + 1) S lo = srN f (8 ^ r) (np - lo) lo := by rw [← hf]; rfl
    rw [hw0]
    generalize hg : srN f (8 ^ r) (np - lo) lo = g
    refine ho_loop (F := fun n (b : Int32) u => fX3_waxFurther_l55 N h (gX3_waxFurther N d') n (Int32.ofNat mm) wd (Int32.ofNat v4) (Int32.ofNat k) b u) (fun p b u => b = Int32.ofNat p ∧ (p ≤ 8 ∧ lo ≤ p) ∧ HaC u (h + 2) S np nw ∧ FrC (h + 1) (h + 15) t u ∧ (∀ j, j < v4 → u.1 (h + 1) j = t.1 (h + 1) j) ∧ srN f (8 ^ r) (np - p) p = g) (if lo ≤ np then np else lo) ?_ ?_ (np - lo) N lo _ t (by split <;> omega) (by omega) ⟨rfl, ⟨hlo, Nat.le_refl _⟩, H, FrC.refl _ _ _, fun _ _ => rfl, hg⟩
    · rintro n p b u hp ⟨e1, ⟨hp8, hlp⟩, HU, FU, RU, G⟩ rec
      subst e1
      by_cases pn : p < np
      · obtain ⟨x, hx, ex⟩ := X p pn
        have wx : u.1 (h + 2 + 10) p = Int32.ofNat x := by rw [(HU.2.2.2.2.1 p pn).2.2.2.2.2.2.1, ex]
        have i8 : inb (Int32.ofNat p) 8 = true := by rw [nz_inb (by omega)]; exact decide_eq_true (by omega)
        have i3 : inb (Int32.ofNat v4) 3 = true := by rw [nz_inb (by omega)]; exact decide_eq_true (by omega)
        have np' : (Int32.ofNat p).toNatClampNeg = p := nz_nat (by omega)
        have nv' : (Int32.ofNat v4).toNatClampNeg = v4 := nz_nat (by omega)
        simp only [fX3_waxFurther_l55, fX3_waxFurther_b55, fX3_waxFurther_b145, ho_lte, nz_succ, np', nv']
        rw [show u.1 (h + 2 + 1) 0 = Int32.ofNat np by rw [HU.2.1, W.2.2.1], if_neg (show ¬ Int32.ofNat np ≤ Int32.ofNat p by rw [nz_le (by omega) (by omega)]; omega), gdT i8, wx, if_neg (show ¬ (9 : Int32) ≤ Int32.ofNat x by rw [z_le (by omega) (by omega)]; omega), gdT i3, gdT i8, gdT i8, ho_bd]
        have F1 : FrC (h + 1) (h + 2) u (pI u (h + 1) v4 (Int32.ofNat p)) := (FrC.refl _ _ _).pI (by omega)
        have HU1 := HU.fr F1 (by omega)
        have e10 : (pI u (h + 1) v4 (Int32.ofNat p)).1 (h + 2 + 10) p = S 10 p := by rw [pI_nq (by omega), wx, ex]
        rw [e10]
        have HU2 : HaC (pI (pI u (h + 1) v4 (Int32.ofNat p)) (h + 2 + 10) p (S 10 p + 1)) (h + 2) (wxV S p) np nw := HU1.wax
        have W2 : WfV (wxV S p) np nw := upV_wf W (by omega)
        have X2 : ∀ p', p' < np → ∃ x, x ≤ v4 + 1 ∧ wxV S p 10 p' = Int32.ofNat x := by
          intro p' hp'
          unfold wxV
          by_cases c : p' = p
          · subst c; rw [upV_eq, ex, nz_succ]; exact ⟨x + 1, by omega, rfl⟩
          · rw [upV_ne _ _ (by omega)]
            obtain ⟨y, hy, ey⟩ := X p' hp'
            exact ⟨y, by omega, ey⟩
        refine ho_mono (ihr d' (v4 + 1) p (wxV S p) _ (by omega) (by omega) hp8 W2 HU2 X2) (fun v u4 ⟨H4, F4, R4, Y⟩ => ?_)
        rw [gdT i8, gdT i8, show u4.1 (h + 2 + 10) p = wxV S p 10 p from (H4.2.2.2.2.1 p pn).2.2.2.2.2.2.1]
        have H5 : HaC (pI u4 (h + 2 + 10) p (wxV S p 10 p - 1)) (h + 2) S np nw := by
          have := H4.wax (j := p) (v := wxV S p 10 p - 1)
          rw [wxV_back] at this; exact this
        have F5 : FrC (h + 1) (h + 15) t (pI u4 (h + 2 + 10) p (wxV S p 10 p - 1)) := (((((FU.pI (by omega)).pI (by omega))).trans F4)).pI (by omega)
        have rw5 : ∀ j, (pI u4 (h + 2 + 10) p (wxV S p 10 p - 1)).1 (h + 1) j = u4.1 (h + 1) j := fun j => pI_nq (by omega)
        have R5 : ∀ j, j < v4 → (pI u4 (h + 2 + 10) p (wxV S p 10 p - 1)).1 (h + 1) j = t.1 (h + 1) j := fun j hj => by rw [rw5, R4 j (by omega), pI_nq (by omega), pI_nq (by omega), RU j hj]
        have f0 : f p = wfN np nw (Int32.ofNat mm) wd r (wxV S p) p := by rw [← hf]
        obtain ⟨n', hn'⟩ : ∃ n', np - p = n' + 1 := ⟨np - p - 1, by omega⟩
        rw [hn'] at G
        simp only [srN] at G
        rcases Y with ⟨c, y1, y2, y3⟩ | ⟨y1, y2⟩
        · rw [f0, y1] at G
          rw [if_neg (show ¬ v = 0 by rw [y2]; decide), ← G]
          refine ⟨H5, F5, R5, Or.inl ⟨_, rfl, rfl, fun j hj => ?_⟩⟩
          rw [rw5]
          have cl := wfN_lt hn r _ _ c y1
          have pp : 0 < 8 ^ r := Nat.pow_pos (by omega)
          by_cases j0 : j = 0
          · subst j0
            show u4.1 (h + 1) v4 = _
            rw [R4 v4 (by omega), pI_nq (by omega), pI_eq]
            congr 1
            rw [show r + 1 - 1 - 0 = r by omega, Nat.mul_comm, Nat.mul_add_div pp, Nat.div_eq_of_lt cl, Nat.add_zero, Nat.mod_eq_of_lt (by omega)]
          · obtain ⟨i, rfl⟩ : ∃ i, j = i + 1 := ⟨j - 1, by omega⟩
            rw [show v4 + (i + 1) = v4 + 1 + i by omega, y3 i (by omega)]
            congr 1
            rw [show r + 1 - 1 - (i + 1) = r - 1 - i by omega]
            obtain ⟨q, hq⟩ : ∃ q, r = (r - 1 - i) + 1 + q := ⟨i, by omega⟩
            have e8 : 8 ^ r = 8 ^ (r - 1 - i) * (8 * 8 ^ q) := by
              rw [← Nat.mul_assoc, ← Nat.pow_succ, ← Nat.pow_add]; congr 1
            rw [e8, ← Nat.mul_assoc, Nat.mul_comm p, Nat.mul_assoc, Nat.mul_add_div (Nat.pow_pos (by omega)), ← Nat.mul_assoc, Nat.mul_comm p 8, Nat.mul_assoc, Nat.mul_add_mod]
        · rw [f0, y1] at G
          rw [if_pos y2]
          exact rec _ _ ⟨rfl, ⟨by omega, by omega⟩, H5, F5, R5, by rw [show np - (p + 1) = n' by omega]; exact G⟩
      · exfalso
        split at hp <;> omega
    · rintro n b u ⟨e1, hp8, HU, FU, RU, G⟩
      subst e1
      simp only [fX3_waxFurther_l55, fX3_waxFurther_b55]
      have le : np ≤ (if lo ≤ np then np else lo) := by split <;> omega
      have lt : (if lo ≤ np then np else lo) < 100 := by split <;> omega
      rw [show u.1 (h + 2 + 1) 0 = Int32.ofNat np by rw [HU.2.1, W.2.2.1], if_pos (show Int32.ofNat np ≤ Int32.ofNat (if lo ≤ np then np else lo) by rw [nz_le (by omega) (by omega)]; exact le)]
      rw [show np - (if lo ≤ np then np else lo) = 0 by omega] at G
      exact ⟨HU, FU, RU, Or.inr ⟨G.symm, rfl⟩⟩
