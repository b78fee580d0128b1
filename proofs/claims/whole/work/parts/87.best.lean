/-! The best seat of one. -/
theorem upV_up {S : Vw} {i j : Nat} {a b : Int32} : upV (upV S i j a) i j b = upV S i j b := by
  funext x y; unfold upV; split <;> rfl
theorem upV_self {S : Vw} {i j : Nat} : upV S i j (S i j) = S := by
  funext x y; unfold upV
  split
  · next h => rw [h.1, h.2]
  · rfl
def seN (np i : Nat) : Int32 := if i < np then Int32.ofNat i else 8
def ldS (S : Vw) (np nw : Nat) (m : Int32) : Int32 := ayV S np nw m - noV S np nw m
/-- the best of the first i seats tried, and its lead -/
def bsV (S : Vw) (np nw w : Nat) (m : Int32) : Nat → Int32 × Int32
  | 0 => (8, -1000)
  | i + 1 => if ldS (upV S 9 w (seN np i)) np nw m ≤ (bsV S np nw w m i).2 then bsV S np nw w m i else (seN np i, ldS (upV S 9 w (seN np i)) np nw m)
theorem seN_seat {np i : Nat} (h : np ≤ 8) : Seat np (seN np i) := by
  unfold seN Seat
  by_cases q : i < np
  · rw [if_pos q]; exact Or.inr ⟨i, q, rfl⟩
  · rw [if_neg q]; exact Or.inl rfl
theorem bs_seat {S : Vw} {np nw w : Nat} {m : Int32} (h : np ≤ 8) : ∀ i, Seat np (bsV S np nw w m i).1
  | 0 => Or.inl rfl
  | i + 1 => by
    unfold bsV
    split
    · exact bs_seat h i
    · exact seN_seat h
theorem ldS_bd {S : Vw} {np nw : Nat} (W : WfV S np nw) (m : Int32) : -72 ≤ (ldS S np nw m).toInt ∧ (ldS S np nw m).toInt ≤ 72 := by
  have h := ay_bd W m
  unfold ldS; rw [lead_toInt W m]; omega
theorem bs_1 {S : Vw} {np nw w : Nat} {m : Int32} (W : WfV S np nw) : bsV S np nw w m 1 = (seN np 0, ldS (upV S 9 w (seN np 0)) np nw m) := by
  unfold bsV
  have h := ldS_bd (upV_wf9 (w := w) W (seN_seat (i := 0) W.1)) m
  rw [if_neg]
  intro hc
  have hd : (ldS (upV S 9 w (seN np 0)) np nw m).toInt ≤ -1000 := i32_le.mp hc
  omega
theorem seat_m1 {np : Nat} {v : Int32} (hn : np ≤ 8) (h : Seat np v) : ¬ v = -1 := by
  rcases h with h | ⟨p, h1, h2⟩
  · rw [h]; decide
  · rw [h2]; exact z_m1 (by omega)
section BEST
variable {N g c np nw w mm : Nat} {C S : Vw} {σ : Mem}
theorem tried_C (W : WfV S np nw) {h i : Nat} (H : HaC σ h S np nw) (hi : i ≤ np) : fX2_seatTried N h (Int32.ofNat i) σ = some (seN np i, σ) := by
  have := W.1
  unfold fX2_seatTried seN
  rw [H.2.1, W.2.2.1]
  by_cases q : i < np
  · rw [if_neg (by rw [nz_le (by omega) (by omega)]; omega), if_pos q]
  · rw [if_pos (by rw [nz_le (by omega) (by omega)]; omega), if_neg q]
theorem best_C (hN : 10000 ≤ N) (W : WfV S np nw) (H : HaC σ (g + 2) S np nw) (hw : w < nw) (hm : mm < 64) : Ho (fX7_seatBest N g (Int32.ofNat w) (Int32.ofNat mm) σ) (fun r s => r = (bsV S np nw w (Int32.ofNat mm) (np + 1)).2 ∧ HaC s (g + 2) (upV S 9 w (bsV S np nw w (Int32.ofNat mm) (np + 1)).1) np nw ∧ FrC (g + 2) (g + 2 + 13) σ s) := by
  have hn := W.1
  unfold fX7_seatBest
  simp only [ho_lte]
  refine ho_loop (F := fun n (b : Int32 × Int32 × Int32) s => fX7_seatBest_l11 N g n (Int32.ofNat w) (Int32.ofNat mm) b.1 b.2.1 b.2.2 s) (fun i b s => b.2.2 = Int32.ofNat i ∧ b.1 = (bsV S np nw w (Int32.ofNat mm) i).2 ∧ b.2.1 = (bsV S np nw w (Int32.ofNat mm) i).1 ∧ (∃ x, Seat np x ∧ HaC s (g + 2) (upV S 9 w x) np nw) ∧ FrC (g + 2) (g + 2 + 13) σ s) (np + 1) ?_ ?_ (np + 1) N 0 (-1000, 8, 0) σ (by omega) (by omega) ⟨rfl, rfl, rfl, ⟨S 9 w, W.2.2.2.2.2.2.2 w hw, by rw [upV_self]; exact H⟩, FrC.refl _ _ _⟩
  · rintro n i ⟨x1, x2, x3⟩ s hi ⟨e1, e2, e3, ⟨x, hx, Hs⟩, F⟩ rec
    dsimp only at e1 e2 e3; subst e1 e2 e3
    have Wx := upV_wf9 (w := w) W hx
    simp only [fX7_seatBest_l11, fX7_seatBest_b11, fX7_seatBest_b73, ho_lte, nz_succ]
    rw [if_neg (show ¬ s.1 (g + 2 + 1) 0 < Int32.ofNat i by rw [Hs.2.1, Wx.2.2.1, nz_lt (by omega) (by omega)]; omega), tried_C Wx Hs (by omega), ho_bds, ho_bd]
    refine ho_mono (seat_C Wx Hs hw (seN_seat hn)) (fun _ s1 ⟨b1, b2⟩ => ?_)
    rw [upV_up] at b1
    have W1 := upV_wf9 (w := w) W (seN_seat (i := i) hn)
    rw [ho_bd]
    refine ho_mono (vote_C W1 b1 hN hm) (fun y s2 ⟨y1, V⟩ => ?_)
    have b3 := b1.frv V.1
    have F' := (F.trans (b2.wide (by omega) (by omega))).trans V.1.toC
    rw [tried_C W1 b3 (by omega), ho_bds, y1]
    have el : ayV (upV S 9 w (seN np i)) np nw (Int32.ofNat mm) - noV (upV S 9 w (seN np i)) np nw (Int32.ofNat mm) = ldS (upV S 9 w (seN np i)) np nw (Int32.ofNat mm) := rfl
    rw [el]
    by_cases q : ldS (upV S 9 w (seN np i)) np nw (Int32.ofNat mm) ≤ (bsV S np nw w (Int32.ofNat mm) i).2
    · rw [if_pos q]
      exact rec (_, _, _) _ ⟨rfl, by simp only [bsV]; rw [if_pos q], by simp only [bsV]; rw [if_pos q], ⟨_, seN_seat hn, b3⟩, F'⟩
    · rw [if_neg q]
      exact rec (_, _, _) _ ⟨rfl, by simp only [bsV]; rw [if_neg q]; rfl, by simp only [bsV]; rw [if_neg q]; rfl, ⟨_, seN_seat hn, b3⟩, F'⟩
  · rintro n ⟨x1, x2, x3⟩ s ⟨e1, e2, e3, ⟨x, hx, Hs⟩, F⟩
    dsimp only at e1 e2 e3; subst e1 e2 e3
    have Wx := upV_wf9 (w := w) W hx
    simp only [fX7_seatBest_l11, fX7_seatBest_b11]
    rw [if_pos (show s.1 (g + 2 + 1) 0 < Int32.ofNat (np + 1) by rw [Hs.2.1, Wx.2.2.1, nz_lt (by omega) (by omega)]; omega), ho_bd]
    refine ho_mono (seat_C Wx Hs hw (bs_seat hn (np + 1))) (fun _ s1 ⟨b1, b2⟩ => ?_)
    rw [upV_up] at b1
    exact ⟨rfl, b1, F.trans (b2.wide (by omega) (by omega))⟩
/-- the reference's best so far -/
def RbM (S : Vw) (np nw w : Nat) (m : Int32) (i : Nat) (a b : Int32) : Prop := (i = 0 ∧ a = -1) ∨ (0 < i ∧ a = (bsV S np nw w m i).1 ∧ b = (bsV S np nw w m i).2)
theorem rb_step (W : WfV S np nw) {i : Nat} {a b m : Int32} (h : RbM S np nw w m i a b) : (a = -1 → RbM S np nw w m (i + 1) (seN np i) (ldS (upV S 9 w (seN np i)) np nw m)) ∧ (¬ a = -1 → b < ldS (upV S 9 w (seN np i)) np nw m → RbM S np nw w m (i + 1) (seN np i) (ldS (upV S 9 w (seN np i)) np nw m)) ∧ (¬ a = -1 → ¬ b < ldS (upV S 9 w (seN np i)) np nw m → RbM S np nw w m (i + 1) a b) := by
  rcases h with ⟨h1, h2⟩ | ⟨h1, h2, h3⟩
  · subst h1
    refine ⟨fun _ => Or.inr ⟨by omega, ?_, ?_⟩, fun q => absurd h2 q, fun q => absurd h2 q⟩
    · rw [bs_1 W]
    · rw [bs_1 W]
  · refine ⟨fun q => absurd q (by rw [h2]; exact seat_m1 W.1 (bs_seat W.1 i)), fun _ q => Or.inr ⟨by omega, ?_, ?_⟩, fun _ q => Or.inr ⟨by omega, ?_, ?_⟩⟩
    · simp only [bsV]; rw [if_neg (by rw [← h3, Int32.not_le]; exact q)]
    · simp only [bsV]; rw [if_neg (by rw [← h3, Int32.not_le]; exact q)]
    · simp only [bsV]; rw [if_pos (by rw [← h3, ← Int32.not_lt]; exact q)]; exact h2
    · simp only [bsV]; rw [if_pos (by rw [← h3, ← Int32.not_lt]; exact q)]; exact h3
theorem place_b (hN : 10000 ≤ N) (W : WfV S np nw) (hw : w < nw) {rc : Int32 → Int32 → Int32 → Int32 → Int32 → Int32 → Mem → Option (Int32 × Mem)} {Q : Int32 → Mem → Prop} {v4 a b v7 : Int32} {i : Nat} {s : Mem} (h7 : v7 = seN np i) (Hs : ∃ x, Seat np x ∧ HaM s c C (upV S 9 w x) np nw) (K : KM σ s) (hb : RbM S np nw w (Int32.ofNat mm) i a b)
    (rec : ∀ a' b' s', RbM S np nw w (Int32.ofNat mm) (i + 1) a' b' → (∃ x, Seat np x ∧ HaM s' c C (upV S 9 w x) np nw) → KM σ s' → Ho (rc (Int32.ofNat mm) (Int32.ofNat w) v4 a' b' (v7 + 1) s') Q) : Ho (fX12_place_b66 N rc (Int32.ofNat mm) (Int32.ofNat w) v4 a b v7 s) Q := by
  obtain ⟨x, hx, Hs⟩ := Hs
  have hw6 := W.2.1
  subst h7
  have st := rb_step W hb
  unfold fX12_place_b66 fX12_place_b103 fX12_place_b118
  simp only [nz_inb (show w < 2147483648 by omega), show w < 6 by omega, decide_true, ho_gdt, nz_nat (show w < 2147483648 by omega), ho_lte]
  rw [ho_bd]
  have H1 := Hs.seat (w := w) (v := seN np i)
  rw [upV_up] at H1
  refine ho_mono (answers_M hN (upV_wf9 W (seN_seat W.1)) H1) (fun r s2 ⟨_, V⟩ => ?_)
  have H2' := H1.ag V.1.ag
  have K2 : KM σ s2 := (K.trans ((FrH.refl s).pI (k := 6) (j := w) (v := seN np i) (by omega)).km).trans V.1.toH.km
  rw [V.2.1, V.2.2.1]
  have el : ayV (upV S 9 w (seN np i)) np nw (Int32.ofNat mm) - noV (upV S 9 w (seN np i)) np nw (Int32.ofNat mm) = ldS (upV S 9 w (seN np i)) np nw (Int32.ofNat mm) := rfl
  rw [el]
  by_cases q : a = -1
  · rw [if_pos q]; exact rec _ _ _ (st.1 q) ⟨_, seN_seat W.1, H2'⟩ K2
  · rw [if_neg q]
    by_cases u : b < ldS (upV S 9 w (seN np i)) np nw (Int32.ofNat mm)
    · rw [if_pos u]; exact rec _ _ _ (st.2.1 q u) ⟨_, seN_seat W.1, H2'⟩ K2
    · rw [if_neg u]; exact rec _ _ _ (st.2.2 q u) ⟨_, seN_seat W.1, H2'⟩ K2
theorem rb_cast {i i' : Nat} {a b m : Int32} (h : RbM S np nw w m i a b) (e : i = i') : RbM S np nw w m i' a b := e ▸ h
theorem place_M (hN : 10000 ≤ N) (W : WfV S np nw) (hw : w < nw) (H : HaM σ c C S np nw) (v4 : Int32) : Ho (fX12_place_l40 N N (Int32.ofNat mm) (Int32.ofNat w) v4 (-1) 0 0 σ) (fun r s => r = (if v4 = 0 then (bsV S np nw w (Int32.ofNat mm) (np + 1)).1 else (bsV S np nw w (Int32.ofNat mm) (np + 1)).2) ∧ KM σ s) := by
  have hn := W.1
  refine ho_loop (F := fun n (b : Int32 × Int32 × Int32) s => fX12_place_l40 N n (Int32.ofNat mm) (Int32.ofNat w) v4 b.1 b.2.1 b.2.2 s) (fun i b s => b.2.2 = Int32.ofNat i ∧ RbM S np nw w (Int32.ofNat mm) (if i ≤ np then i else if i ≤ 8 then np else np + 1) b.1 b.2.1 ∧ (∃ x, Seat np x ∧ HaM s c C (upV S 9 w x) np nw) ∧ KM σ s) 9 ?_ ?_ 9 N 0 (-1, 0, 0) σ (by omega) (by omega) ⟨rfl, Or.inl ⟨by rw [if_pos (by omega)], rfl⟩, ⟨S 9 w, W.2.2.2.2.2.2.2 w hw, by rw [upV_self]; exact H⟩, KM.refl _⟩
  · rintro n i ⟨x1, x2, x3⟩ s hi ⟨e1, e2, Hs, K⟩ rec
    dsimp only at e1 e2; subst e1
    simp only [fX12_place_l40, fX12_place_b40]
    rw [if_neg (show ¬ (8 : Int32) < Int32.ofNat i by rw [z_lt (by omega) (by omega)]; omega)]
    by_cases i8 : i = 8
    · subst i8
      rw [if_pos (show Int32.ofNat 8 = 8 from rfl)]
      refine place_b hN W hw (i := np) (by unfold seN; rw [if_neg (by omega)]; rfl) Hs K (rb_cast e2 (by (repeat' split) <;> omega)) (fun a' b' s' h1 h2 h3 => ?_)
      exact rec (_, _, _) _ ⟨nz_succ, rb_cast h1 (by rw [if_neg (by omega), if_neg (by omega)]), h2, h3⟩
    · rw [if_neg (show ¬ Int32.ofNat i = 8 by rw [z_eq (by omega) (by omega)]; exact i8)]
      have h12 : s.1 0 12 = Int32.ofNat np := by obtain ⟨x, _, Hs⟩ := Hs; exact Hs.1.2.1.2.1
      rw [isPiece_M (np := np) _ h12 hn, ho_bds, nz_inb (by omega)]
      by_cases q : i < np
      · rw [if_pos (decide_eq_true q), if_neg (by decide)]
        refine place_b hN W hw (i := i) (by unfold seN; rw [if_pos q]) Hs K (rb_cast e2 (by rw [if_pos (by omega)])) (fun a' b' s' h1 h2 h3 => ?_)
        exact rec (_, _, _) _ ⟨nz_succ, rb_cast h1 (by rw [if_pos (by omega)]), h2, h3⟩
      · rw [decide_eq_false q, if_neg (show ¬ (false = true) by decide), if_pos rfl]
        unfold fX12_place_b118
        simp only [ho_lte]
        exact rec (_, _, _) _ ⟨nz_succ, rb_cast e2 (by (repeat' split) <;> omega), Hs, K⟩
  · rintro n ⟨x1, x2, x3⟩ s ⟨e1, e2, Hs, K⟩
    dsimp only at e1 e2; subst e1
    simp only [fX12_place_l40, fX12_place_b40]
    rw [if_pos (by decide)]
    rw [if_neg (show ¬ 9 ≤ np by omega), if_neg (show ¬ 9 ≤ 8 by omega)] at e2
    rcases e2 with ⟨z, _⟩ | ⟨_, z1, z2⟩
    · omega
    · rw [z1, z2]
      by_cases q : v4 = 0
      · rw [if_pos q, if_pos q]; exact ⟨rfl, K⟩
      · rw [if_neg q, if_neg q]; exact ⟨rfl, K⟩
end BEST
theorem t_place {σ1 σ2 : Mem} {N : Nat} (hN : 10000 ≤ N) (R : RR σ1 σ2) (v1 v2 v3 v4 : Int32) : H2 (fX11_place N 0 v1 v2 v3 v4 σ1) (fX12_place N v1 v2 v3 v4 σ2) (QU σ1 σ2) := by
  unfold fX11_place fX12_place
  refine q_as R v1 v2 (fun j C np nw s2 mm hj hm em W HC HM K => ?_)
  subst em
  have hw6 := W.1.2.1
  rw [hasw_eq (np := nw) v3 (HC.nn W).2 (by omega), ho_bds, isPerson_M (nw := nw) v3 HM.2.1.2.2 (by omega), ho_bds]
  by_cases q : inb v3 nw = true
  · rw [if_pos q, if_neg (by decide), if_neg (by decide)]
    obtain ⟨w, w1, w2, w3⟩ := inb_nat q
    subst w2
    unfold fX7_seatOneBest
    apply h2_r
    refine ho_mono (asTold_M hN HM) (fun _ t2 ⟨HA, F2, _, _⟩ => ?_)
    simp only [ho_lte]
    apply h2_l
    rw [ho_bd]
    refine ho_mono (enter_C hN W.1 HC (by omega)) (fun _ t1 ⟨b1, b2, b3, b4⟩ => ?_)
    rw [bd_ret]
    refine ho_mono (best_C hN (asT_wf W.1) b1 w1 hm) (fun r u1 ⟨r1, H1, F1⟩ => ?_)
    have E1 : KC σ1 u1 := (R.kc.fr b4 (by omega)).fr F1 (by omega)
    have hs : fX7_seatOf N (0 + 236) (Int32.ofNat w) u1 = some ((bsV (asT C) np nw w (Int32.ofNat mm) (np + 1)).1, u1) := by
      unfold fX7_seatOf
      rw [hasw_eq (np := nw) _ (by rw [H1.2.2.1, upV_ne _ _ (by omega)]; exact (asT_wf W.1).2.2.2.1) (by omega), ho_bds, if_pos q, if_neg (by decide)]
      simp only [nz_inb (show w < 2147483648 by omega), show w < 6 by omega, decide_true, ho_gdt, nz_nat (show w < 2147483648 by omega)]
      rw [(H1.2.2.2.2.2 w w1).2, upV_eq]
    rw [hs, ho_bds, r1]
    have M := place_M (mm := mm) hN (asT_wf W.1) w1 HA v4
    by_cases z : v4 = 0
    · rw [if_pos z]; apply h2_sl
      refine ho_mono M (fun r s ⟨a, b⟩ => ?_)
      rw [if_pos z] at a
      exact ⟨a.symm, E1, (K.trans F2.km).trans b⟩
    · rw [if_neg z]; apply h2_sl
      refine ho_mono M (fun r s ⟨a, b⟩ => ?_)
      rw [if_neg z] at a
      exact ⟨a.symm, E1, (K.trans F2.km).trans b⟩
  · rw [if_neg q, if_pos rfl, if_pos rfl]; exact ⟨rfl, R.kc, K⟩
