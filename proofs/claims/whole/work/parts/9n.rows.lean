/-! Rows of seats, and the least of them. -/
def nvI (v : Int32) : Nat := v.toInt.toNat
theorem nvI_n {n : Nat} (h : n < 1000) : nvI (Int32.ofNat n) = n := by unfold nvI; rw [nz_toInt (by omega)]; omega
def RwV (r : Nat → Int32) (n : Nat) : Prop := ∀ w, w < n → r w = Int32.ofNat (nvI (r w)) ∧ nvI (r w) ≤ 8
def nmR (r : Nat → Int32) : Nat → Nat
  | 0 => 0
  | i + 1 => 9 * nmR r i + nvI (r i)
theorem nmR_lt {r : Nat → Int32} {n : Nat} (H : RwV r n) : ∀ i, i ≤ n → nmR r i < 9 ^ i
  | 0, _ => by simp [nmR]
  | i + 1, h => by
    have ih := nmR_lt H i (by omega)
    have := (H i (by omega)).2
    simp only [nmR]
    rw [Nat.pow_succ]; omega
theorem nmR_6 {r : Nat → Int32} {n : Nat} (H : RwV r n) (hn : n ≤ 6) : nmR r n < 531441 := by
  have h1 := nmR_lt H n (Nat.le_refl _)
  have h2 : 9 ^ n ≤ 9 ^ 6 := Nat.pow_le_pow_right (by omega) hn
  have h3 : (9 : Nat) ^ 6 = 531441 := by decide
  omega
theorem nmR_lex {r r' : Nat → Int32} {i : Nat} {n : Nat} (H : RwV r n) (e : nmR r i = nmR r' i) (l : nvI (r i) < nvI (r' i)) : ∀ j, i < j → j ≤ n → nmR r j < nmR r' j
  | 0, h, _ => absurd h (Nat.not_lt_zero i)
  | j + 1, h, hn => by
    simp only [nmR]
    by_cases c : i = j
    · subst c; omega
    · have ih := nmR_lex H e l j (by omega) (by omega)
      have := (H j (by omega)).2
      omega
theorem WfV.rw {S : Vw} {np nw : Nat} (W : WfV S np nw) : RwV (S 9) nw := fun w hw => by
  have hn := W.1
  rcases W.2.2.2.2.2.2.2 w hw with h | ⟨p, hp, h⟩
  · rw [h]; exact ⟨by decide, by decide⟩
  · rw [h, nvI_n (by omega)]; exact ⟨rfl, by omega⟩
def kpB (r : Nat → Int32) (n : Nat) : Option (Nat → Int32) → Option (Nat → Int32)
  | none => some r
  | some r' => if nmR r n < nmR r' n then some r else some r'
def BsC (t : Mem) (g n : Nat) (B : Option (Nat → Int32)) : Prop := (B = none ∧ t.1 g 2 = -1) ∨ ∃ r, B = some r ∧ RwV r n ∧ t.1 g 2 = Int32.ofNat (nmR r n) ∧ ∀ w, w < n → t.1 (g + 1) w = r w
theorem BsC.fr {t t' : Mem} {g n a b : Nat} {B : Option (Nat → Int32)} (h : BsC t g n B) (F : FrC a b t t') (ha : g + 2 ≤ a) : BsC t' g n B := by
  unfold BsC at *
  rw [F.1 g (by omega), F.1 (g + 1) (by omega)]; exact h
theorem keep_C {N g np nw : Nat} {S : Vw} {t : Mem} {B : Option (Nat → Int32)} (hN : 10000 ≤ N) (W : WfV S np nw) (H : HaC t (g + 2) S np nw) (hB : BsC t g nw B) : Ho (fX7_keepLeastRow N g t) (fun _ t' => BsC t' g nw (kpB (S 9) nw B) ∧ FrC g (g + 2) t t') := by
  have hn := W.2.1
  have R := W.rw
  have p1 : t.1 (g + 2 + 1) 1 = Int32.ofNat nw := by rw [H.2.2.1, W.2.2.2.1]
  have p2 : ∀ w, w < nw → t.1 (g + 2 + 1 + 8) w = S 9 w := fun w hw => (H.2.2.2.2.2 w hw).2
  unfold fX7_keepLeastRow
  simp only [ho_lt]
  refine ho_loop (F := fun n (b : Int32 × Int32) u => fX7_keepLeastRow_l4 N g n b.1 b.2 u) (fun i b u => b.1 = Int32.ofNat (nmR (S 9) i) ∧ b.2 = Int32.ofNat i ∧ u = t) nw ?_ ?_ nw N 0 (0, 0) t (by omega) (by omega) ⟨rfl, rfl, rfl⟩
  · rintro n i ⟨a, b⟩ u hi ⟨e1, e2, e3⟩ rec
    dsimp only at e1 e2; subst e1 e2 e3
    simp only [fX7_keepLeastRow_l4, fX7_keepLeastRow_b4, ho_lte, nz_succ]
    rw [p1, if_neg (show ¬ Int32.ofNat nw ≤ Int32.ofNat i by rw [nz_le (by omega) (by omega)]; omega), nz_inb (by omega), nz_nat (by omega), decide_eq_true (show i < 6 by omega), ho_gdt, p2 i hi, show (9 : Int32) = Int32.ofNat 9 from rfl, nz_mul, (R i hi).1, nz_add]
    exact rec (_, _) _ ⟨by simp only [nmR]; rfl, rfl, rfl⟩
  · rintro n ⟨a, b⟩ u ⟨e1, e2, e3⟩
    dsimp only at e1 e2; subst e1 e2 e3
    simp only [fX7_keepLeastRow_l4, fX7_keepLeastRow_b4, fX7_keepLeastRow_b58, ho_lte]
    rw [p1, if_pos (show Int32.ofNat nw ≤ Int32.ofNat nw by rw [nz_le (by omega) (by omega)]; omega), show (6 : Int32).toNatClampNeg = 6 from rfl]
    have n6 := nmR_6 R hn
    have put : BsC (cpM (pI u g 2 (Int32.ofNat (nmR (S 9) nw))) (g + 2 + 1 + 8) (g + 1) 6) g nw (some (S 9)) ∧ FrC g (g + 2) u (cpM (pI u g 2 (Int32.ofNat (nmR (S 9) nw))) (g + 2 + 1 + 8) (g + 1) 6) := by
      refine ⟨Or.inr ⟨_, rfl, R, ?_, fun w hw => ?_⟩, fun k hk => ?_, rfl⟩
      · rw [cpM_nq (by omega), pI_eq]
      · rw [cpM_eq (by omega), pI_nq (by omega), p2 w hw]
      · funext j; rw [cpM_nq (by omega), pI_nq (by omega)]
    rcases hB with ⟨hb, h2⟩ | ⟨r, hb, Rr, h2, h3⟩
    · rw [h2, if_pos rfl, hb]; exact put
    · have r6 := nmR_6 Rr hn
      rw [h2, if_neg (z_m1 (by omega)), hb]
      by_cases c : nmR (S 9) nw < nmR r nw
      · rw [if_neg (show ¬ Int32.ofNat (nmR r nw) ≤ Int32.ofNat (nmR (S 9) nw) by rw [nz_le (by omega) (by omega)]; omega)]
        have e : kpB (S 9) nw (some r) = some (S 9) := by simp only [kpB]; rw [if_pos c]
        rw [e]; exact put
      · rw [if_pos (show Int32.ofNat (nmR r nw) ≤ Int32.ofNat (nmR (S 9) nw) by rw [nz_le (by omega) (by omega)]; omega)]
        have e : kpB (S 9) nw (some r) = some r := by simp only [kpB]; rw [if_neg c]
        rw [e]; exact ⟨Or.inr ⟨r, rfl, Rr, h2, h3⟩, FrC.refl _ _ _⟩
/-- what a vote does to the best row -/
def upB (S : Vw) (np nw : Nat) (m : Int32) (B : Option (Nat → Int32)) : Option (Nat → Int32) := if carV S np nw m = true then kpB (S 9) nw B else B
def okT (S : Vw) (np w t : Nat) : Bool := (decide (t < np) || decide (t = 8)) && !decide (S 9 w = Int32.ofNat t)
/-- one person moved: seats below i tried -/
def onB (S : Vw) (np nw : Nat) (m : Int32) (w : Nat) (B : Option (Nat → Int32)) : Nat → Option (Nat → Int32)
  | 0 => B
  | t + 1 => if okT S np w t = true then upB (upV S 9 w (Int32.ofNat t)) np nw m (onB S np nw m w B t) else onB S np nw m w B t
theorem onB_gap {S : Vw} {np nw w : Nat} {m : Int32} {B : Option (Nat → Int32)} : ∀ t, np ≤ t → t ≤ 8 → onB S np nw m w B t = onB S np nw m w B np
  | 0, h, _ => by rw [show np = 0 by omega]
  | t + 1, h, h8 => by
    by_cases c : np = t + 1
    · rw [c]
    · have ih := onB_gap (S := S) (np := np) (nw := nw) (w := w) (m := m) (B := B) t (by omega) (by omega)
      simp only [onB]
      rw [if_neg (by unfold okT; simp; omega), ih]
theorem move_C {N g np nw w mm : Nat} {S : Vw} {t : Mem} {B : Option (Nat → Int32)} (hN : 10000 ≤ N) (W : WfV S np nw) (H : HaC t (g + 2) S np nw) (hB : BsC t g nw B) (hw : w < nw) (hm : mm < 64) : Ho (fX7_tryMoving N g (Int32.ofNat w) (Int32.ofNat mm) t) (fun _ t' => HaC t' (g + 2) S np nw ∧ BsC t' g nw (onB S np nw (Int32.ofNat mm) w B 9) ∧ FrC g (g + 15) t t') := by
  have hn := W.1
  have h6 := W.2.1
  have own := W.2.2.2.2.2.2.2 w hw
  unfold fX7_tryMoving
  rw [nz_inb (by omega), nz_nat (by omega), decide_eq_true (show w < 6 by omega), ho_gdt, show t.1 (g + 2 + 1 + 8) w = S 9 w from (H.2.2.2.2.2 w hw).2]
  simp only [ho_lt]
  refine ho_loop (F := fun n (b : Int32) u => fX7_tryMoving_l16 N g n (Int32.ofNat w) (Int32.ofNat mm) (S 9 w) b u) (fun i b u => b = Int32.ofNat i ∧ (∃ x, Seat np x ∧ HaC u (g + 2) (upV S 9 w x) np nw) ∧ BsC u g nw (onB S np nw (Int32.ofNat mm) w B (if i ≤ np then i else 9)) ∧ FrC g (g + 15) t u) (np + 1) ?_ ?_ (np + 1) N 0 0 t (by omega) (by omega) ⟨rfl, ⟨S 9 w, own, by rw [upV_self]; exact H⟩, by rw [if_pos (by omega)]; exact hB, FrC.refl _ _ _⟩
  · rintro n i b u hi ⟨e1, ⟨x, hx, H1⟩, Bu, F⟩ rec
    subst e1
    have W1 := upV_wf9 (w := w) W hx
    have np0 : u.1 (g + 2 + 1) 0 = Int32.ofNat np := by rw [H1.2.1, W1.2.2.1]
    rw [if_pos (show i ≤ np by omega)] at Bu
    obtain ⟨s, hs, e5, e6⟩ : ∃ s, s ≤ 8 ∧ seN np i = Int32.ofNat s ∧ onB S np nw (Int32.ofNat mm) w B (if i + 1 ≤ np then i + 1 else 9) = if S 9 w = Int32.ofNat s then onB S np nw (Int32.ofNat mm) w B i else upB (upV S 9 w (Int32.ofNat s)) np nw (Int32.ofNat mm) (onB S np nw (Int32.ofNat mm) w B i) := by
      by_cases c : i < np
      · refine ⟨i, by omega, by unfold seN; rw [if_pos c], ?_⟩
        rw [if_pos (show i + 1 ≤ np by omega)]
        simp only [onB]
        by_cases d : S 9 w = Int32.ofNat i
        · rw [if_pos d, if_neg (by unfold okT; simp [d])]
        · rw [if_neg d, if_pos (by unfold okT; simp [d, c])]
      · have ei : i = np := by omega
        subst ei
        refine ⟨8, by omega, by unfold seN; rw [if_neg c]; rfl, ?_⟩
        rw [if_neg (show ¬ i + 1 ≤ i by omega)]
        have e8 : onB S i nw (Int32.ofNat mm) w B 9 = if okT S i w 8 = true then upB (upV S 9 w (Int32.ofNat 8)) i nw (Int32.ofNat mm) (onB S i nw (Int32.ofNat mm) w B 8) else onB S i nw (Int32.ofNat mm) w B 8 := rfl
        rw [e8, onB_gap 8 (by omega) (by omega)]
        by_cases d : S 9 w = Int32.ofNat 8
        · rw [if_pos d, if_neg (by unfold okT; simp [d])]
        · rw [if_neg d, if_pos (by unfold okT; simp; exact d)]
    have sS : Seat np (Int32.ofNat s) := by
      rw [← e5]; unfold seN
      by_cases c : i < np
      · rw [if_pos c]; exact Or.inr ⟨i, c, rfl⟩
      · rw [if_neg c]; exact Or.inl rfl
    simp only [fX7_tryMoving_l16, fX7_tryMoving_b16, fX7_tryMoving_b73, ho_lte, nz_succ]
    rw [np0, if_neg (show ¬ Int32.ofNat np < Int32.ofNat i by rw [nz_lt (by omega) (by omega)]; omega), tried_C W1 H1 (by omega), ho_bds, e5]
    by_cases d : S 9 w = Int32.ofNat s
    · rw [if_pos d.symm]
      rw [if_pos d] at e6
      exact rec _ _ ⟨rfl, ⟨x, hx, H1⟩, by rw [e6]; exact Bu, F⟩
    · rw [if_neg (fun h => d h.symm), ho_bd]
      rw [if_neg d] at e6
      refine ho_mono (seat_C W1 H1 hw sS) (fun _ u2 ⟨H2', F2⟩ => ?_)
      rw [upV_up] at H2'
      have W2 := upV_wf9 (w := w) W sS
      rw [ho_bd]
      refine ho_mono (vote_C W2 H2' hN hm) (fun r u3 ⟨hr, V⟩ => ?_)
      have H3 := H2'.frv V.1
      have F3 : FrC (g + 2) (g + 15) u u3 := (F2.wide (by omega) (by omega)).trans (V.1.toC.wide (by omega) (by omega))
      have B3 := Bu.fr F3 (by omega)
      have lc := lead_car W2 (Int32.ofNat mm)
      have F4 : FrC g (g + 15) t u3 := F.trans (F3.wide (by omega) (by omega))
      rw [hr]
      by_cases c : carV (upV S 9 w (Int32.ofNat s)) np nw (Int32.ofNat mm) = true
      · rw [if_neg (fun q => by rw [lc, c] at q; cases q), ho_bd]
        refine ho_mono (keep_C hN W2 H3 B3) (fun _ u4 ⟨B4, F5⟩ => ?_)
        refine rec _ _ ⟨rfl, ⟨_, sS, H3.fr F5 (by omega)⟩, ?_, F4.trans (F5.wide (by omega) (by omega))⟩
        rw [e6]; unfold upB; rw [if_pos c]; exact B4
      · rw [if_pos (lc.mpr (by simpa using c))]
        refine rec _ _ ⟨rfl, ⟨_, sS, H3⟩, ?_, F4⟩
        rw [e6]; unfold upB; rw [if_neg c]; exact B3
  · rintro n b u ⟨e1, ⟨x, hx, H1⟩, Bu, F⟩
    subst e1
    have W1 := upV_wf9 (w := w) W hx
    have np0 : u.1 (g + 2 + 1) 0 = Int32.ofNat np := by rw [H1.2.1, W1.2.2.1]
    simp only [fX7_tryMoving_l16, fX7_tryMoving_b16]
    rw [np0, if_pos (show Int32.ofNat np < Int32.ofNat (np + 1) by rw [nz_lt (by omega) (by omega)]; omega), ho_bd]
    refine ho_mono (seat_C W1 H1 hw own) (fun _ u2 ⟨H2', F2⟩ => ?_)
    rw [upV_up, upV_self] at H2'
    rw [if_neg (show ¬ np + 1 ≤ np by omega)] at Bu
    exact ⟨H2', Bu.fr F2 (by omega), F.trans (F2.wide (by omega) (by omega))⟩
