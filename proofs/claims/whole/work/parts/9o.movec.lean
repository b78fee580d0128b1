def pfB (S : Vw) (np nw : Nat) (m : Int32) (B : Option (Nat → Int32)) (lo : Nat) : Nat → Option (Nat → Int32)
  | 0 => B
  | q + 1 => if lo ≤ q then onB S np nw m q (pfB S np nw m B lo q) 9 else pfB S np nw m B lo q
theorem pfB_low {S : Vw} {np nw lo : Nat} {m : Int32} {B : Option (Nat → Int32)} : ∀ q, q ≤ lo → pfB S np nw m B lo q = B
  | 0, _ => rfl
  | q + 1, h => by simp only [pfB]; rw [if_neg (by omega)]; exact pfB_low q (by omega)
def twB (S : Vw) (np nw : Nat) (m : Int32) (w : Nat) (B : Option (Nat → Int32)) : Nat → Option (Nat → Int32)
  | 0 => B
  | t + 1 => if okT S np w t = true then pfB (upV S 9 w (Int32.ofNat t)) np nw m (twB S np nw m w B t) (w + 1) nw else twB S np nw m w B t
theorem twB_gap {S : Vw} {np nw w : Nat} {m : Int32} {B : Option (Nat → Int32)} : ∀ t, np ≤ t → t ≤ 8 → twB S np nw m w B t = twB S np nw m w B np
  | 0, h, _ => by rw [show np = 0 by omega]
  | t + 1, h, h8 => by
    by_cases c : np = t + 1
    · rw [c]
    · have ih := twB_gap (S := S) (np := np) (nw := nw) (w := w) (m := m) (B := B) t (by omega) (by omega)
      simp only [twB]
      rw [if_neg (by unfold okT; simp; omega), ih]
def alB (S : Vw) (np nw : Nat) (m : Int32) (B : Option (Nat → Int32)) : Nat → Option (Nat → Int32)
  | 0 => B
  | w + 1 => twB S np nw m w (alB S np nw m B w) 9
def fwV (S : Vw) (np nw : Nat) (m : Int32) : Int32 × Option (Nat → Int32) :=
  if carV S np nw m = true then (0, some (S 9)) else
  match pfB S np nw m none 0 nw with
  | some r => (1, some r)
  | none => match alB S np nw m none nw with
    | some r => (2, some r)
    | none => (-1, none)
theorem BsC.m1 {t : Mem} {g n : Nat} {B : Option (Nat → Int32)} (h : BsC t g n B) (hn : n ≤ 6) : t.1 g 2 = -1 ↔ B = none := by
  rcases h with ⟨h1, h2⟩ | ⟨r, h1, R, h2, h3⟩
  · exact ⟨fun _ => h1, fun _ => h2⟩
  · have := nmR_6 R hn
    constructor
    · intro h; rw [h2] at h; exact absurd h (z_m1 (by omega))
    · intro h; rw [h1] at h; cases h
theorem move2_C {N g np nw w mm : Nat} {S : Vw} {t : Mem} {B : Option (Nat → Int32)} (hN : 10000 ≤ N) (W : WfV S np nw) (H : HaC t (g + 2) S np nw) (hB : BsC t g nw B) (hw : w < nw) (hm : mm < 64) : Ho (fX7_tryMovingTwo N g (Int32.ofNat w) (Int32.ofNat mm) t) (fun _ t' => HaC t' (g + 2) S np nw ∧ BsC t' g nw (twB S np nw (Int32.ofNat mm) w B 9) ∧ FrC g (g + 15) t t') := by
  have hn := W.1
  have h6 := W.2.1
  have own := W.2.2.2.2.2.2.2 w hw
  unfold fX7_tryMovingTwo
  rw [nz_inb (by omega), nz_nat (by omega), decide_eq_true (show w < 6 by omega), ho_gdt, show t.1 (g + 2 + 1 + 8) w = S 9 w from (H.2.2.2.2.2 w hw).2]
  simp only [ho_lt]
  refine ho_loop (F := fun n (b : Int32) u => fX7_tryMovingTwo_l16 N g n (Int32.ofNat w) (Int32.ofNat mm) (S 9 w) b u) (fun i b u => b = Int32.ofNat i ∧ (∃ x, Seat np x ∧ HaC u (g + 2) (upV S 9 w x) np nw) ∧ BsC u g nw (twB S np nw (Int32.ofNat mm) w B (if i ≤ np then i else 9)) ∧ FrC g (g + 15) t u) (np + 1) ?_ ?_ (np + 1) N 0 0 t (by omega) (by omega) ⟨rfl, ⟨S 9 w, own, by rw [upV_self]; exact H⟩, by rw [if_pos (by omega)]; exact hB, FrC.refl _ _ _⟩
  · rintro n i b u hi ⟨e1, ⟨x, hx, H1⟩, Bu, F⟩ rec
    subst e1
    have W1 := upV_wf9 (w := w) W hx
    have np0 : u.1 (g + 2 + 1) 0 = Int32.ofNat np := by rw [H1.2.1, W1.2.2.1]
    rw [if_pos (show i ≤ np by omega)] at Bu
    obtain ⟨s, hs, e5, e6⟩ : ∃ s, s ≤ 8 ∧ seN np i = Int32.ofNat s ∧ twB S np nw (Int32.ofNat mm) w B (if i + 1 ≤ np then i + 1 else 9) = if S 9 w = Int32.ofNat s then twB S np nw (Int32.ofNat mm) w B i else pfB (upV S 9 w (Int32.ofNat s)) np nw (Int32.ofNat mm) (twB S np nw (Int32.ofNat mm) w B i) (w + 1) nw := by
      by_cases c : i < np
      · refine ⟨i, by omega, by unfold seN; rw [if_pos c], ?_⟩
        rw [if_pos (show i + 1 ≤ np by omega)]
        simp only [twB]
        by_cases d : S 9 w = Int32.ofNat i
        · rw [if_pos d, if_neg (by unfold okT; simp [d])]
        · rw [if_neg d, if_pos (by unfold okT; simp [d, c])]
      · have ei : i = np := by omega
        subst ei
        refine ⟨8, by omega, by unfold seN; rw [if_neg c]; rfl, ?_⟩
        rw [if_neg (show ¬ i + 1 ≤ i by omega)]
        have e8 : twB S i nw (Int32.ofNat mm) w B 9 = if okT S i w 8 = true then pfB (upV S 9 w (Int32.ofNat 8)) i nw (Int32.ofNat mm) (twB S i nw (Int32.ofNat mm) w B 8) (w + 1) nw else twB S i nw (Int32.ofNat mm) w B 8 := rfl
        rw [e8, twB_gap 8 (by omega) (by omega)]
        by_cases d : S 9 w = Int32.ofNat 8
        · rw [if_pos d, if_neg (by unfold okT; simp [d])]
        · rw [if_neg d, if_pos (by unfold okT; simp; exact d)]
    have sS : Seat np (Int32.ofNat s) := by
      rw [← e5]; unfold seN
      by_cases c : i < np
      · rw [if_pos c]; exact Or.inr ⟨i, c, rfl⟩
      · rw [if_neg c]; exact Or.inl rfl
    simp only [fX7_tryMovingTwo_l16, fX7_tryMovingTwo_b16, fX7_tryMovingTwo_b91, ho_lte, nz_succ]
    rw [np0, if_neg (show ¬ Int32.ofNat np < Int32.ofNat i by rw [nz_lt (by omega) (by omega)]; omega), tried_C W1 H1 (by omega), ho_bds, e5]
    by_cases d : S 9 w = Int32.ofNat s
    · rw [if_pos d.symm]
      rw [if_pos d] at e6
      exact rec _ _ ⟨rfl, ⟨x, hx, H1⟩, by rw [e6]; exact Bu, F⟩
    · rw [if_neg (fun h => d h.symm), ho_bd]
      rw [if_neg d] at e6
      refine ho_mono (seat_C W1 H1 hw sS) (fun _ u2 ⟨H2', F2⟩ => ?_)
      rw [upV_up] at H2'
      have W2 := upV_wf9 (w := w) W sS
      have B2 := Bu.fr F2 (by omega)
      refine ho_loop (F := fun n' (b : Int32) u => fX7_tryMovingTwo_l63 N g (fX7_tryMovingTwo_l16 N g n) n' (Int32.ofNat w) (Int32.ofNat mm) (S 9 w) (Int32.ofNat i) b u) (fun q b v => b = Int32.ofNat q ∧ w + 1 ≤ q ∧ HaC v (g + 2) (upV S 9 w (Int32.ofNat s)) np nw ∧ BsC v g nw (pfB (upV S 9 w (Int32.ofNat s)) np nw (Int32.ofNat mm) (twB S np nw (Int32.ofNat mm) w B i) (w + 1) q) ∧ FrC g (g + 15) t v) nw ?_ ?_ (nw - (w + 1)) N (w + 1) _ u2 (by omega) (by omega) ⟨rfl, Nat.le_refl _, H2', by rw [pfB_low _ (Nat.le_refl _)]; exact B2, F.trans (F2.wide (by omega) (by omega))⟩
      · rintro n' q b v hq ⟨e1, hwq, H3, B3, F3⟩ rec'
        subst e1
        simp only [fX7_tryMovingTwo_l63, fX7_tryMovingTwo_b63]
        rw [show v.1 (g + 2 + 1) 1 = Int32.ofNat nw by rw [H3.2.2.1, W2.2.2.2.1], if_neg (show ¬ Int32.ofNat nw ≤ Int32.ofNat q by rw [nz_le (by omega) (by omega)]; omega), ho_bd]
        refine ho_mono (move_C hN W2 H3 B3 hq hm) (fun _ v2 ⟨H4, B4, F4⟩ => ?_)
        simp only [ho_lte, nz_succ]
        exact rec' _ _ ⟨rfl, by omega, H4, by simp only [pfB]; rw [if_pos hwq]; exact B4, F3.trans F4⟩
      · rintro n' b v ⟨e1, hwq, H3, B3, F3⟩
        subst e1
        simp only [fX7_tryMovingTwo_l63, fX7_tryMovingTwo_b63, fX7_tryMovingTwo_b91, ho_lte, nz_succ]
        rw [show v.1 (g + 2 + 1) 1 = Int32.ofNat nw by rw [H3.2.2.1, W2.2.2.2.1], if_pos (show Int32.ofNat nw ≤ Int32.ofNat nw by rw [nz_le (by omega) (by omega)]; omega)]
        exact rec _ _ ⟨rfl, ⟨_, sS, H3⟩, by rw [e6]; exact B3, F3⟩
  · rintro n b u ⟨e1, ⟨x, hx, H1⟩, Bu, F⟩
    subst e1
    have W1 := upV_wf9 (w := w) W hx
    have np0 : u.1 (g + 2 + 1) 0 = Int32.ofNat np := by rw [H1.2.1, W1.2.2.1]
    simp only [fX7_tryMovingTwo_l16, fX7_tryMovingTwo_b16]
    rw [np0, if_pos (show Int32.ofNat np < Int32.ofNat (np + 1) by rw [nz_lt (by omega) (by omega)]; omega), ho_bd]
    refine ho_mono (seat_C W1 H1 hw own) (fun _ u2 ⟨H2', F2⟩ => ?_)
    rw [upV_up, upV_self] at H2'
    rw [if_neg (show ¬ np + 1 ≤ np by omega)] at Bu
    exact ⟨H2', Bu.fr F2 (by omega), F.trans (F2.wide (by omega) (by omega))⟩
theorem fewest_C {N g k np nw mm : Nat} {C : Vw} {σ : Mem} (hN : 10000 ≤ N) (W : WfV C np nw) (H : ChC σ k C np nw) (hd : k + 9 ≤ g) (hm : mm < 64) : Ho (fX7_fewestMoves N g k (Int32.ofNat mm) σ) (fun r t => r = (fwV (asT C) np nw (Int32.ofNat mm)).1 ∧ BsC t g nw (fwV (asT C) np nw (Int32.ofNat mm)).2 ∧ FrC g (g + 15) σ t) := by
  have hn := W.1
  have h6 := W.2.1
  have W' := asT_wf W
  unfold fX7_fewestMoves
  rw [ho_bd]
  refine ho_mono (enter_C hN W H (by omega)) (fun _ s ⟨HA, _, _, F⟩ => ?_)
  simp only [ho_lt]
  have Fp : FrC g (g + 2) s (pI s g 2 (-1)) := (FrC.refl _ _ _).pI (by omega)
  have HA1 := HA.fr Fp (by omega)
  have B0 : BsC (pI s g 2 (-1)) g nw none := Or.inl ⟨rfl, by rw [pI_eq]⟩
  have F1 : FrC g (g + 15) σ (pI s g 2 (-1)) := (F.wide (by omega) (by omega)).trans (Fp.wide (by omega) (by omega))
  rw [ho_bd]
  refine ho_mono (vote_C W' HA1 hN hm) (fun r u ⟨hr, V⟩ => ?_)
  have HA2 := HA1.frv V.1
  have B1 := B0.fr V.1.toC (by omega)
  have F2 : FrC g (g + 15) σ u := F1.trans (V.1.toC.wide (by omega) (by omega))
  have lc := lead_car W' (Int32.ofNat mm)
  rw [hr]
  by_cases c : carV (asT C) np nw (Int32.ofNat mm) = true
  · rw [if_neg (fun q => by rw [lc, c] at q; cases q), ho_bd]
    refine ho_mono (keep_C hN W' HA2 B1) (fun _ u4 ⟨B4, F5⟩ => ?_)
    have e : fwV (asT C) np nw (Int32.ofNat mm) = (0, some (asT C 9)) := by unfold fwV; rw [if_pos c]
    rw [e]
    exact ⟨rfl, B4, F2.trans (F5.wide (by omega) (by omega))⟩
  · rw [if_pos (lc.mpr (by simpa using c))]
    have ppl : ∀ v, FrC g (g + 15) σ v → v.1 k 1 = Int32.ofNat nw := fun v Fv => by rw [Fv.1 k (by omega), H.2.1, W.2.2.2.1]
    have ef : fwV (asT C) np nw (Int32.ofNat mm) = (match pfB (asT C) np nw (Int32.ofNat mm) none 0 nw with
      | some r => (1, some r)
      | none => match alB (asT C) np nw (Int32.ofNat mm) none nw with
        | some r => (2, some r)
        | none => (-1, none)) := by unfold fwV; rw [if_neg c]
    refine ho_loop (F := fun n (b : Int32) v => fX7_fewestMoves_l32 N g n k (Int32.ofNat mm) b v) (fun q b v => b = Int32.ofNat q ∧ HaC v (g + 2) (asT C) np nw ∧ BsC v g nw (pfB (asT C) np nw (Int32.ofNat mm) none 0 q) ∧ FrC g (g + 15) σ v) nw ?_ ?_ nw N 0 _ u (by omega) (by omega) ⟨rfl, HA2, B1, F2⟩
    · rintro n q b v hq ⟨e1, H3, B3, F3⟩ rec
      subst e1
      simp only [fX7_fewestMoves_l32, fX7_fewestMoves_b32]
      rw [ppl v F3, if_neg (show ¬ Int32.ofNat nw ≤ Int32.ofNat q by rw [nz_le (by omega) (by omega)]; omega), ho_bd]
      refine ho_mono (move_C hN W' H3 B3 hq hm) (fun _ v2 ⟨H4, B4, F4⟩ => ?_)
      simp only [ho_lte, nz_succ]
      exact rec _ _ ⟨rfl, H4, by simp only [pfB]; rw [if_pos (Nat.zero_le _)]; exact B4, F3.trans F4⟩
    · rintro n b v ⟨e1, H3, B3, F3⟩
      subst e1
      simp only [fX7_fewestMoves_l32, fX7_fewestMoves_b32, ho_lte]
      rw [ppl v F3, if_pos (show Int32.ofNat nw ≤ Int32.ofNat nw by rw [nz_le (by omega) (by omega)]; omega)]
      cases hb : pfB (asT C) np nw (Int32.ofNat mm) none 0 nw with
      | some r =>
        rw [hb] at B3 ef
        rw [if_neg (fun h => by have := (B3.m1 h6).mp h; cases this), ef]
        exact ⟨rfl, B3, F3⟩
      | none =>
        rw [hb] at B3 ef
        rw [if_pos ((B3.m1 h6).mpr rfl)]
        refine ho_loop (F := fun n (b : Int32) v => fX7_fewestMoves_l64 N g n k (Int32.ofNat mm) b v) (fun q b v => b = Int32.ofNat q ∧ HaC v (g + 2) (asT C) np nw ∧ BsC v g nw (alB (asT C) np nw (Int32.ofNat mm) none q) ∧ FrC g (g + 15) σ v) nw ?_ ?_ nw N 0 _ v (by omega) (by omega) ⟨rfl, H3, B3, F3⟩
        · rintro n q b v hq ⟨e1, H3, B3, F3⟩ rec
          subst e1
          simp only [fX7_fewestMoves_l64, fX7_fewestMoves_b64]
          rw [ppl v F3, if_neg (show ¬ Int32.ofNat nw ≤ Int32.ofNat q by rw [nz_le (by omega) (by omega)]; omega), ho_bd]
          refine ho_mono (move2_C hN W' H3 B3 hq hm) (fun _ v2 ⟨H4, B4, F4⟩ => ?_)
          simp only [ho_lte, nz_succ]
          exact rec _ _ ⟨rfl, H4, B4, F3.trans F4⟩
        · rintro n b v ⟨e1, H3, B3, F3⟩
          subst e1
          simp only [fX7_fewestMoves_l64, fX7_fewestMoves_b64]
          rw [ppl v F3, if_pos (show Int32.ofNat nw ≤ Int32.ofNat nw by rw [nz_le (by omega) (by omega)]; omega)]
          cases hb2 : alB (asT C) np nw (Int32.ofNat mm) none nw with
          | some r =>
            rw [hb2] at B3 ef
            rw [if_neg (fun h => by have := (B3.m1 h6).mp h; cases this), ef]
            exact ⟨rfl, B3, F3⟩
          | none =>
            rw [hb2] at B3 ef
            rw [if_pos ((B3.m1 h6).mpr rfl), ef]
            exact ⟨rfl, B3, F3⟩
