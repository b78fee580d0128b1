def BsM (t : Mem) (n : Nat) (v : Int32) (B : Option (Nat → Int32)) : Prop := (B = none ∧ v = 0) ∨ ∃ r, B = some r ∧ RwV r n ∧ v = 1 ∧ ∀ w, w < n → t.1 9 w = r w
theorem BsM.ag {t t' : Mem} {n : Nat} {v : Int32} {B : Option (Nat → Int32)} (h : BsM t n v B) (e : t'.1 9 = t.1 9) : BsM t' n v B := by
  unfold BsM at *; rw [e]; exact h
theorem upV_comm {S : Vw} {a b : Nat} {x y : Int32} (h : a ≠ b) : upV (upV S 9 a x) 9 b y = upV (upV S 9 b y) 9 a x := by
  funext i j
  unfold upV
  by_cases c : i = 9 ∧ j = b
  · rw [if_pos c, if_neg (by omega), if_pos c]
  · rw [if_neg c, if_neg c]
section
variable {N c np nw mm : Nat} {C : Vw} {s : Mem}
theorem isSeat_M {t w q : Nat} (W : WfV C np nw) (H : HcM s c C np nw) (hw : w < nw) (ht : q ≤ 8) : fX12_isSeat N (Int32.ofNat w) (Int32.ofNat q) s = some (if okT (asT C) np w q = true then 1 else 0, s) := by
  have hn := W.1
  unfold fX12_isSeat fX12_isSeat_b24 okT
  rw [ofP_M1 H hw, ho_bds, isPiece_M _ H.2.1.2.1 hn, ho_bds, asT_at (by omega)]
  simp only [ite10, nz_inb (show q < 2147483648 by omega), z_eq (show 8 < 2147483648 by omega) (show q < 2147483648 by omega)]
  by_cases d : C 9 w = Int32.ofNat q
  · rw [if_pos d.symm]; simp [d]
  · rw [if_neg (fun h => d h.symm)]
    by_cases e : q = 8
    · subst e
      rw [if_pos rfl]
      have : ((decide (8 < np) || decide (8 = 8)) && !decide (C 9 w = Int32.ofNat 8)) = true := by rw [decide_eq_false d]; simp
      rw [if_pos this]
    · rw [if_neg e]
      by_cases f : q < np
      · rw [if_neg (by simp [f])]
        have : ((decide (q < np) || decide (q = 8)) && !decide (C 9 w = Int32.ofNat q)) = true := by rw [decide_eq_false d]; simp [f]
        rw [if_pos this]
      · rw [if_pos (by simp [f])]
        have : ¬ ((decide (q < np) || decide (q = 8)) && !decide (C 9 w = Int32.ofNat q)) = true := by simp [f, e]
        rw [if_neg this]
theorem isAhead_M {S : Vw} {r : Nat → Int32} (hN : 10000 ≤ N) (W : WfV S np nw) (H : HaM s c C S np nw) (R : RwV r nw) (h9 : ∀ w, w < nw → s.1 9 w = r w) : fX12_isAhead N s = some (if nmR (S 9) nw < nmR r nw then 1 else 0, s) := by
  have h6 := W.2.1
  have RS := W.rw
  unfold fX12_isAhead
  simp only [ho_lte]
  refine ho_eq ?_
  refine ho_loop (F := fun n (b : Int32) t => fX12_isAhead_l2 N n b t) (fun i b t => b = Int32.ofNat i ∧ t = s ∧ nmR (S 9) i = nmR r i) nw ?_ ?_ nw N 0 0 s (by omega) (by omega) ⟨rfl, rfl, rfl⟩
  · rintro n i b t hi ⟨e1, e2, e3⟩ rec
    subst e1 e2
    have a1 := RS i hi
    have a2 := R i hi
    simp only [fX12_isAhead_l2, fX12_isAhead_b2, ho_lte, nz_succ]
    rw [H.1.2.1.2.2, if_neg (show ¬ Int32.ofNat nw ≤ Int32.ofNat i by rw [nz_le (by omega) (by omega)]; omega), nz_inb (by omega), nz_nat (by omega), decide_eq_true (show i < 6 by omega), ho_gdt, ho_gdt, ho_gdt, ho_gdt, (H.2.2.2 i hi).1, h9 i hi, a1.1, a2.1]
    by_cases d : nvI (S 9 i) = nvI (r i)
    · rw [if_pos (by rw [d])]
      exact rec _ _ ⟨rfl, rfl, by simp only [nmR]; rw [e3, d]⟩
    · rw [if_neg (show ¬ Int32.ofNat (nvI (S 9 i)) = Int32.ofNat (nvI (r i)) by rw [nz_inj (by omega) (by omega)]; exact d)]
      by_cases l : nvI (r i) ≤ nvI (S 9 i)
      · rw [if_pos (show Int32.ofNat (nvI (r i)) ≤ Int32.ofNat (nvI (S 9 i)) by rw [nz_le (by omega) (by omega)]; exact l)]
        have := nmR_lex R e3.symm (show nvI (r i) < nvI (S 9 i) by omega) nw hi (Nat.le_refl _)
        rw [if_neg (by omega)]; exact ⟨rfl, rfl⟩
      · rw [if_neg (show ¬ Int32.ofNat (nvI (r i)) ≤ Int32.ofNat (nvI (S 9 i)) by rw [nz_le (by omega) (by omega)]; exact l)]
        have := nmR_lex RS e3 (show nvI (S 9 i) < nvI (r i) by omega) nw hi (Nat.le_refl _)
        rw [if_pos this]; exact ⟨rfl, rfl⟩
  · rintro n b t ⟨e1, e2, e3⟩
    subst e1 e2
    simp only [fX12_isAhead_l2, fX12_isAhead_b2]
    rw [H.1.2.1.2.2, if_pos (show Int32.ofNat nw ≤ Int32.ofNat nw by rw [nz_le (by omega) (by omega)]; omega), if_neg (by omega)]
    exact ⟨rfl, rfl⟩
/-- a row of the reference is tried -/
theorem b126_M {σ : Mem} {S : Vw} {w q : Nat} {v2 v3 v6 v7 : Int32} {B : Option (Nat → Int32)} {Q : Int32 → Mem → Prop} {rc5 : Int32 → Int32 → Int32 → Int32 → Mem → Option (Int32 × Mem)} {rc17 : Int32 → Int32 → Int32 → Int32 → Int32 → Mem → Option (Int32 × Mem)} {rc53 : Int32 → Int32 → Int32 → Int32 → Int32 → Int32 → Mem → Option (Int32 × Mem)} {rc76 : Int32 → Int32 → Int32 → Int32 → Int32 → Int32 → Int32 → Mem → Option (Int32 × Mem)} (hN : 10000 ≤ N) (W : WfV (upV S 9 w (Int32.ofNat q)) np nw) (H : HaM s c C S np nw) (hB : BsM s nw v3 B) (K : KM σ s) (hw : w < nw)
    (go : ∀ t v, HaM t c C (upV S 9 w (Int32.ofNat q)) np nw → BsM t nw v (upB (upV S 9 w (Int32.ofNat q)) np nw (Int32.ofNat mm) B) → KM σ t → Ho (rc76 (Int32.ofNat mm) v2 v (Int32.ofNat w) (Int32.ofNat q) v6 (v7 + 1) t) Q) :
    Ho (fX12_areMoved_b126 N rc5 rc17 rc53 rc76 (Int32.ofNat mm) v2 v3 (Int32.ofNat w) (Int32.ofNat q) v6 v7 s) Q := by
  have h6 := W.2.1
  have RS := W.rw
  unfold fX12_areMoved_b126 fX12_areMoved_b157 fX12_areMoved_b191
  rw [nz_inb (by omega), nz_nat (by omega), decide_eq_true (show w < 6 by omega), ho_gdt]
  simp only [ho_lte]
  rw [ho_bd]
  refine ho_mono (answers_M hN W H.seat) (fun r t ⟨hr, V⟩ => ?_)
  have HT := (H.seat (w := w) (v := Int32.ofNat q)).ag V.1.ag
  have KT : KM σ t := K.trans ⟨by rw [V.1.toH.km.1, pI_ne (by omega)], by rw [V.1.toH.km.2, pI_ne (by omega)]⟩
  have e9 : t.1 9 = s.1 9 := by funext j; rw [V.1.1 9 j (by omega) (by omega), pI_nq (by omega)]
  have BT := hB.ag e9
  have put : ∀ u, HaM u c C (upV S 9 w (Int32.ofNat q)) np nw → KM σ u → upB (upV S 9 w (Int32.ofNat q)) np nw (Int32.ofNat mm) B = some (upV S 9 w (Int32.ofNat q) 9) → Ho (fX12_areMoved_l162 N rc5 rc17 rc53 rc76 N (Int32.ofNat mm) v2 1 (Int32.ofNat w) (Int32.ofNat q) v6 v7 0 u) Q := by
    intro u HU KU eB
    refine ho_loop (F := fun n (b : Int32) t => fX12_areMoved_l162 N rc5 rc17 rc53 rc76 n (Int32.ofNat mm) v2 1 (Int32.ofNat w) (Int32.ofNat q) v6 v7 b t) (fun i b t => b = Int32.ofNat i ∧ HaM t c C (upV S 9 w (Int32.ofNat q)) np nw ∧ KM σ t ∧ ∀ x, x < i → t.1 9 x = upV S 9 w (Int32.ofNat q) 9 x) nw ?_ ?_ nw N 0 0 u (by omega) (by omega) ⟨rfl, HU, KU, fun x hx => absurd hx (Nat.not_lt_zero x)⟩
    · rintro n i b t hi ⟨e1, e2, e3, e4⟩ rec
      subst e1
      simp only [fX12_areMoved_l162, fX12_areMoved_b162, ho_lte, nz_succ]
      rw [e2.1.2.1.2.2, if_neg (show ¬ Int32.ofNat nw ≤ Int32.ofNat i by rw [nz_le (by omega) (by omega)]; omega), nz_inb (by omega), nz_nat (by omega), decide_eq_true (show i < 6 by omega), ho_gdt, ho_gdt, (e2.2.2.2 i hi).1]
      refine rec _ _ ⟨rfl, e2.c12 (by omega), e3.c12 (by omega), fun x hx => ?_⟩
      by_cases d : x = i
      · subst d; rw [pI_eq]
      · rw [pI_nq (by omega)]; exact e4 x (by omega)
    · rintro n b t ⟨e1, e2, e3, e4⟩
      subst e1
      simp only [fX12_areMoved_l162, fX12_areMoved_b162, fX12_areMoved_b191, ho_lte]
      rw [e2.1.2.1.2.2, if_pos (show Int32.ofNat nw ≤ Int32.ofNat nw by rw [nz_le (by omega) (by omega)]; omega)]
      exact go t 1 e2 (Or.inr ⟨_, eB, RS, rfl, e4⟩) e3
  rw [hr]
  simp only [ite10]
  by_cases d : carV (upV S 9 w (Int32.ofNat q)) np nw (Int32.ofNat mm) = true
  · rw [if_neg (show ¬ ¬ carV (upV S 9 w (Int32.ofNat q)) np nw (Int32.ofNat mm) = true from fun h => h d)]
    have eu : upB (upV S 9 w (Int32.ofNat q)) np nw (Int32.ofNat mm) B = kpB (upV S 9 w (Int32.ofNat q) 9) nw B := by unfold upB; rw [if_pos d]
    rcases BT with ⟨b1, b2⟩ | ⟨r', b1, b2, b3, b4⟩
    · rw [if_pos b2]
      exact put t HT KT (by rw [eu, b1]; rfl)
    · rw [if_neg (show ¬ v3 = 0 by rw [b3]; decide), isAhead_M hN W HT b2 b4, ho_bds]
      simp only [ite10]
      by_cases l : nmR (upV S 9 w (Int32.ofNat q) 9) nw < nmR r' nw
      · rw [if_neg (show ¬ ¬ nmR (upV S 9 w (Int32.ofNat q) 9) nw < nmR r' nw from fun h => h l)]
        exact put t HT KT (by rw [eu, b1]; simp only [kpB]; rw [if_pos l])
      · rw [if_pos l]
        exact go t v3 HT (by rw [eu, b1]; simp only [kpB]; rw [if_neg l]; exact Or.inr ⟨r', rfl, b2, b3, b4⟩) KT
  · rw [if_pos d]
    have eu : upB (upV S 9 w (Int32.ofNat q)) np nw (Int32.ofNat mm) B = B := by unfold upB; rw [if_neg d]
    exact go t v3 HT (by rw [eu]; exact BT) KT
end
