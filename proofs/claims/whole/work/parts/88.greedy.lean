section SITS
variable {N c np nw w mm : Nat} {C S : Vw} {σ : Mem}
theorem sits_b (hN : 10000 ≤ N) (W : WfV S np nw) (hw : w < nw) {rc30 : Int32 → Int32 → Mem → Option (Int32 × Mem)} {rc : Int32 → Int32 → Int32 → Int32 → Int32 → Mem → Option (Int32 × Mem)} {Q : Int32 → Mem → Prop} {a b v7 : Int32} {i : Nat} {s : Mem} (h7 : v7 = seN np i) (Hs : ∃ x, Seat np x ∧ HaM s c C (upV S 9 w x) np nw) (K : FrH σ s) (hb : RbM S np nw w (Int32.ofNat mm) i a b)
    (rec : ∀ a' b' s', RbM S np nw w (Int32.ofNat mm) (i + 1) a' b' → (∃ x, Seat np x ∧ HaM s' c C (upV S 9 w x) np nw) → FrH σ s' → Ho (rc (Int32.ofNat mm) (Int32.ofNat w) a' b' (v7 + 1) s') Q) : Ho (fX12_sitsDown_b72 N rc30 rc (Int32.ofNat mm) (Int32.ofNat w) a b v7 s) Q := by
  obtain ⟨x, hx, Hs⟩ := Hs
  have hw6 := W.2.1
  subst h7
  have st := rb_step W hb
  unfold fX12_sitsDown_b72 fX12_sitsDown_b108 fX12_sitsDown_b122
  simp only [nz_inb (show w < 2147483648 by omega), show w < 6 by omega, decide_true, ho_gdt, nz_nat (show w < 2147483648 by omega), ho_lte]
  rw [ho_bd]
  have H1 := Hs.seat (w := w) (v := seN np i)
  rw [upV_up] at H1
  refine ho_mono (answers_M hN (upV_wf9 W (seN_seat W.1)) H1) (fun r s2 ⟨_, V⟩ => ?_)
  have H2' := H1.ag V.1.ag
  have K2 : FrH σ s2 := (K.pI (k := 6) (j := w) (v := seN np i) (by omega)).trans V.1.toH
  rw [V.2.1, V.2.2.1]
  have el : ayV (upV S 9 w (seN np i)) np nw (Int32.ofNat mm) - noV (upV S 9 w (seN np i)) np nw (Int32.ofNat mm) = ldS (upV S 9 w (seN np i)) np nw (Int32.ofNat mm) := rfl
  rw [el]
  by_cases q : a = -1
  · rw [if_pos q]; exact rec _ _ _ (st.1 q) ⟨_, seN_seat W.1, H2'⟩ K2
  · rw [if_neg q]
    by_cases u : b < ldS (upV S 9 w (seN np i)) np nw (Int32.ofNat mm)
    · rw [if_pos u]; exact rec _ _ _ (st.2.1 q u) ⟨_, seN_seat W.1, H2'⟩ K2
    · rw [if_neg u]; exact rec _ _ _ (st.2.2 q u) ⟨_, seN_seat W.1, H2'⟩ K2
theorem sits_M (hN : 10000 ≤ N) (W : WfV S np nw) (hw : w < nw) {rc30 : Int32 → Int32 → Mem → Option (Int32 × Mem)} {Q : Int32 → Mem → Prop} {s0 : Mem} (H : HaM s0 c C S np nw) (K0 : FrH σ s0)
    (go : ∀ s', HaM s' c C (upV S 9 w (bsV S np nw w (Int32.ofNat mm) (np + 1)).1) np nw → FrH σ s' → Ho (rc30 (Int32.ofNat mm) (Int32.ofNat (w + 1)) s') Q) : Ho (fX12_sitsDown_l46 N rc30 N (Int32.ofNat mm) (Int32.ofNat w) (-1) 0 0 s0) Q := by
  have hn := W.1
  have hw6 := W.2.1
  refine ho_loop (F := fun n (b : Int32 × Int32 × Int32) s => fX12_sitsDown_l46 N rc30 n (Int32.ofNat mm) (Int32.ofNat w) b.1 b.2.1 b.2.2 s) (fun i b s => b.2.2 = Int32.ofNat i ∧ RbM S np nw w (Int32.ofNat mm) (if i ≤ np then i else if i ≤ 8 then np else np + 1) b.1 b.2.1 ∧ (∃ x, Seat np x ∧ HaM s c C (upV S 9 w x) np nw) ∧ FrH σ s) 9 ?_ ?_ 9 N 0 (-1, 0, 0) s0 (by omega) (by omega) ⟨rfl, Or.inl ⟨by rw [if_pos (by omega)], rfl⟩, ⟨S 9 w, W.2.2.2.2.2.2.2 w hw, by rw [upV_self]; exact H⟩, K0⟩
  · rintro n i ⟨x1, x2, x3⟩ s hi ⟨e1, e2, Hs, K⟩ rec
    dsimp only at e1 e2; subst e1
    simp only [fX12_sitsDown_l46, fX12_sitsDown_b46]
    rw [if_neg (show ¬ (8 : Int32) < Int32.ofNat i by rw [z_lt (by omega) (by omega)]; omega)]
    by_cases i8 : i = 8
    · subst i8
      rw [if_pos (show Int32.ofNat 8 = 8 from rfl)]
      refine sits_b hN W hw (i := np) (by unfold seN; rw [if_neg (by omega)]; rfl) Hs K (rb_cast e2 (by (repeat' split) <;> omega)) (fun a' b' s' h1 h2 h3 => ?_)
      exact rec (_, _, _) _ ⟨nz_succ, rb_cast h1 (by rw [if_neg (by omega), if_neg (by omega)]), h2, h3⟩
    · rw [if_neg (show ¬ Int32.ofNat i = 8 by rw [z_eq (by omega) (by omega)]; exact i8)]
      have h12 : s.1 0 12 = Int32.ofNat np := by obtain ⟨x, _, Hs⟩ := Hs; exact Hs.1.2.1.2.1
      rw [isPiece_M (np := np) _ h12 hn, ho_bds, nz_inb (by omega)]
      by_cases q : i < np
      · rw [if_pos (decide_eq_true q), if_neg (by decide)]
        refine sits_b hN W hw (i := i) (by unfold seN; rw [if_pos q]) Hs K (rb_cast e2 (by rw [if_pos (by omega)])) (fun a' b' s' h1 h2 h3 => ?_)
        exact rec (_, _, _) _ ⟨nz_succ, rb_cast h1 (by rw [if_pos (by omega)]), h2, h3⟩
      · rw [decide_eq_false q, if_neg (show ¬ (false = true) by decide), if_pos rfl]
        unfold fX12_sitsDown_b122
        simp only [ho_lte]
        exact rec (_, _, _) _ ⟨nz_succ, rb_cast e2 (by (repeat' split) <;> omega), Hs, K⟩
  · rintro n ⟨x1, x2, x3⟩ s ⟨e1, e2, Hs, K⟩
    dsimp only at e1 e2; subst e1
    simp only [fX12_sitsDown_l46, fX12_sitsDown_b46, nz_inb (show w < 2147483648 by omega), show w < 6 by omega, decide_true, ho_gdt, nz_nat (show w < 2147483648 by omega), ho_lte, nz_succ]
    rw [if_pos (by decide)]
    rw [if_neg (show ¬ 9 ≤ np by omega), if_neg (show ¬ 9 ≤ 8 by omega)] at e2
    rcases e2 with ⟨z, _⟩ | ⟨_, z1, z2⟩
    · omega
    · rw [z1]
      obtain ⟨x, hx, Hs⟩ := Hs
      have H1 := Hs.seat (w := w) (v := (bsV S np nw w (Int32.ofNat mm) (np + 1)).1)
      rw [upV_up] at H1
      exact go _ H1 (K.pI (by omega))
end SITS
theorem h2_rr {α β : Type} {κ1 : Option (α × Mem)} {κ2 : Option (β × Mem)} {Q : α → Mem → β → Mem → Prop} (h : Ho κ2 (fun r2 s2 => Ho κ1 (fun r1 s1 => Q r1 s1 r2 s2))) : H2 κ1 κ2 Q := h2_swap.mpr h
theorem greedy_2 {σ1 s2 : Mem} {N g k c np nw mm : Nat} {C : Vw} (hN : 10000 ≤ N) (hm : mm < 64) (W : ChW C np nw) (HC : ChC σ1 k C np nw) (hd : k + 9 ≤ g + 2) (HM : HcM s2 c C np nw) : H2 (fX7_seatGreedily N g k (Int32.ofNat mm) σ1) (fX12_sitsDown N (Int32.ofNat mm) s2) (fun r1 t1 r2 t2 => r1 = r2 ∧ ∃ S, PJ (g + 2) c C np nw σ1 s2 S t1 t2) := by
  have hn := W.1.1
  have hw6 := W.1.2.1
  unfold fX7_seatGreedily fX12_sitsDown
  refine pj_enter hN W HC hd HM (fun r1 r2 t1 t2 P _ _ _ _ => ?_)
  simp only [ho_lte]
  refine h2_loop (F1 := fun n (v : Int32) s => fX7_seatGreedily_l10 N g n k (Int32.ofNat mm) v s) (F2 := fun n (v : Int32) s => fX12_sitsDown_l6 N n (Int32.ofNat mm) v s) (fun i v s v' s' => v = Int32.ofNat i ∧ v' = Int32.ofNat i ∧ ∃ S, PJ (g + 2) c C np nw σ1 s2 S s s') nw ?_ ?_ nw N N 0 0 t1 0 t2 (by omega) (by omega) (by omega) ⟨rfl, rfl, asT C, P⟩
  · rintro n1 n2 i v s v' s' hi ⟨e1, e2, S, P⟩ rec
    subst e1 e2
    simp only [fX7_seatGreedily_l10, fX12_sitsDown_l6, fX7_seatGreedily_b10, fX12_sitsDown_b6, ho_lte, nz_succ, nz_inb (show i < 2147483648 by omega), show i < 6 by omega, decide_true, ho_gdt, nz_nat (show i < 2147483648 by omega)]
    rw [((P.told HC hd).nn W).2, P.m12.2, if_neg (show ¬ Int32.ofNat nw ≤ Int32.ofNat i by rw [nz_le (by omega) (by omega)]; omega), if_neg (show ¬ Int32.ofNat nw ≤ Int32.ofNat i by rw [nz_le (by omega) (by omega)]; omega)]
    refine pj_seat P hi (Or.inl rfl) (fun _ u1 P => ?_)
    exact rec _ _ _ _ ⟨rfl, rfl, _, P⟩
  · rintro n1 n2 v s v' s' ⟨e1, e2, S, P⟩
    subst e1 e2
    simp only [fX7_seatGreedily_l10, fX12_sitsDown_l6, fX7_seatGreedily_b10, fX12_sitsDown_b6, ho_lte]
    rw [((P.told HC hd).nn W).2, P.m12.2, if_pos (Int32.le_refl _), if_pos (Int32.le_refl _)]
    refine h2_loop (F1 := fun n (v : Int32) s => fX7_seatGreedily_l36 N g n k (Int32.ofNat mm) v s) (F2 := fun n (v : Int32) s => fX12_sitsDown_l30 N n (Int32.ofNat mm) v s) (fun i v s v' s' => v = Int32.ofNat i ∧ v' = Int32.ofNat i ∧ ∃ S, PJ (g + 2) c C np nw σ1 s2 S s s') nw ?_ ?_ nw N N 0 0 s 0 s' (by omega) (by omega) (by omega) ⟨rfl, rfl, S, P⟩
    · rintro m1 m2 i v s v' s' hi ⟨e1, e2, S, P⟩ rec
      subst e1 e2
      simp only [fX7_seatGreedily_l36, fX12_sitsDown_l30, fX7_seatGreedily_b36, fX12_sitsDown_b30, ho_lte, nz_succ]
      rw [((P.told HC hd).nn W).2, P.m12.2, if_neg (show ¬ Int32.ofNat nw ≤ Int32.ofNat i by rw [nz_le (by omega) (by omega)]; omega), if_neg (show ¬ Int32.ofNat nw ≤ Int32.ofNat i by rw [nz_le (by omega) (by omega)]; omega)]
      apply h2_l
      refine ho_mono (best_C hN P.1 P.2.1 hi hm) (fun r u1 ⟨_, H1, F1⟩ => ?_)
      apply h2_rr
      refine sits_M hN P.1 hi P.2.2.1 P.2.2.2.2 (fun u2 H2' F2 => ?_)
      exact h2_swap.mp (rec _ _ _ _ ⟨rfl, rfl, _, upV_wf9 P.1 (bs_seat hn _), H1, H2', P.2.2.2.1.trans F1, F2⟩)
    · rintro m1 m2 v s v' s' ⟨e1, e2, S, P⟩
      subst e1 e2
      simp only [fX7_seatGreedily_l36, fX12_sitsDown_l30, fX7_seatGreedily_b36, fX12_sitsDown_b30]
      rw [((P.told HC hd).nn W).2, P.m12.2, if_pos (Int32.le_refl _), if_pos (Int32.le_refl _)]
      refine pj_vote hN P hm (fun x b u1 u2 hb hx ex P V1 V2 => ?_)
      rw [V2.2.1, V2.2.2.1]
      exact ⟨ex, S, P⟩
theorem t_greedy {σ1 σ2 : Mem} {N : Nat} (hN : 10000 ≤ N) (R : RR σ1 σ2) (v1 v2 v3 : Int32) : H2 (fX11_greedy N 0 v1 v2 v3 σ1) (fX12_greedy N v1 v2 v3 σ2) (QU σ1 σ2) := by
  unfold fX11_greedy fX12_greedy
  refine q_as R v1 v2 (fun j C np nw s2 mm hj hm em W HC HM K => ?_)
  subst em
  have hw6 := W.1.2.1
  have G := greedy_2 (g := 0 + 236) hN hm W HC (by omega) HM
  unfold fX12_greedy_b32
  rw [(HC.nn W).2]
  by_cases q : v3 = -1
  · subst q
    rw [if_neg (by decide), if_pos (show (-1 : Int32) < Int32.ofNat nw by rw [i32_lt, nz_toInt (by omega), show (-1 : Int32).toInt = -1 from rfl]; omega), if_pos rfl]
    apply h2_lr
    refine h2_mono G (fun r1 t1 r2 t2 ⟨e, S, P⟩ => ?_)
    simp only [ho_lte, if_true]
    exact ⟨e, P.end_ R.kc K (by omega)⟩
  · rw [if_neg q, isPerson_M (nw := nw) v3 HM.2.1.2.2 (by omega), ho_bds]
    have t : v3.toInt ≠ -1 := fun e => q (by rw [i32_eq]; exact e)
    by_cases u : inb v3 nw = true
    · obtain ⟨w, w1, w2, w3⟩ := inb_nat u
      have ub := inb_iff.mp u
      rw [if_neg (show ¬ v3 < -1 by rw [i32_lt, show (-1 : Int32).toInt = -1 from rfl]; omega), if_pos (show v3 < Int32.ofNat nw by rw [i32_lt, nz_toInt (by omega)]; omega), if_pos u, if_neg (by decide)]
      subst w2
      apply h2_lr
      refine h2_mono G (fun r1 t1 r2 t2 ⟨e, S, P⟩ => ?_)
      simp only [ho_lte]
      rw [if_neg q, if_neg q]
      have hs : fX7_seatOf N (0 + 236) (Int32.ofNat w) t1 = some (S 9 w, t1) := by
        unfold fX7_seatOf
        rw [hasw_eq (np := nw) _ P.room.2 (by omega), ho_bds, if_pos u, if_neg (by decide)]
        simp only [nz_inb (show w < 2147483648 by omega), show w < 6 by omega, decide_true, ho_gdt, nz_nat (show w < 2147483648 by omega)]
        rw [(P.2.1.2.2.2.2.2 w w1).2]
      rw [hs, ho_bds]
      simp only [nz_inb (show w < 2147483648 by omega), show w < 6 by omega, decide_true, ho_gdt, nz_nat (show w < 2147483648 by omega)]
      rw [(P.2.2.1.2.2.2 w w1).1]
      exact ⟨rfl, P.end_ R.kc K (by omega)⟩
    · have ub := mt inb_iff.mpr u
      rw [if_neg u, if_pos rfl]
      by_cases z : v3 < -1
      · rw [if_pos z]; exact ⟨rfl, R.kc, K⟩
      · rw [if_neg z, if_neg (show ¬ v3 < Int32.ofNat nw by
          rw [i32_lt, show (-1 : Int32).toInt = -1 from rfl] at z
          rw [i32_lt, nz_toInt (by omega)]; omega)]
        exact ⟨rfl, R.kc, K⟩
/-! pieces of oak instead -/
def okV (C : Vw) (x : Int32) : Vw := fun i j => if i = 3 then (if bitM x j = true then 0 else C 3 j) else asT C i j
theorem okV_ne {C : Vw} {x : Int32} {i j : Nat} (h : i ≠ 3) : okV C x i j = asT C i j := if_neg h
theorem okV_0 {C : Vw} : okV C 0 = asT C := by
  funext i j
  unfold okV
  by_cases h : i = 3
  · subst h
    have : bitM 0 j = false := by unfold bitM; simp
    rw [if_pos rfl, this, asT_at (by omega)]; rfl
  · rw [if_neg h]
theorem okV_wf {C : Vw} {np nw : Nat} {x : Int32} (W : WfV C np nw) : WfV (okV C x) np nw := by
  obtain ⟨h1, h2, h3, h4, h5, h6, h7, h8⟩ := asT_wf W
  refine ⟨h1, h2, ?_, ?_, ?_, ?_, ?_, ?_⟩
  · rw [okV_ne (by omega)]; exact h3
  · rw [okV_ne (by omega)]; exact h4
  · intro p hp; rw [okV_ne (by omega)]; exact h5 p hp
  · intro p hp; rw [okV_ne (by omega)]; exact h6 p hp
  · intro p hp; rw [okV_ne (by omega)]; exact h7 p hp
  · intro p hp; rw [okV_ne (by omega)]; exact h8 p hp
theorem ld_ok {C : Vw} {x : Int32} {p : Nat} (n : Nat) : ldV (okV C x) p n = ldV (asT C) p n := ldV_congr n (fun w _ => ⟨okV_ne (by omega), okV_ne (by omega)⟩)
theorem oak_C {σ : Mem} {N g k np nw : Nat} {C : Vw} {x v : Int32} (hN : 10000 ≤ N) (W : ChW C np nw) (HC : ChC σ k C np nw) (hd : k + 9 ≤ g + 2) (H : HaC σ (g + 2) (okV C x) np nw) : Ho (fX3_makeOaken N g k v σ) (fun _ s => HaC s (g + 2) (okV C v) np nw ∧ FrC (g + 2) (g + 2 + 13) σ s) := by
  have hn := W.1.1
  unfold fX3_makeOaken
  simp only [ho_lte]
  refine ho_loop (F := fun n (u : Int32) s => fX3_makeOaken_l2 N g n k v u s) (fun i u s => u = Int32.ofNat i ∧ (∀ a b, ¬ (a = g + 2 + 1 + 2 ∧ b < i) → s.1 a b = σ.1 a b) ∧ (∀ p, p < i → s.1 (g + 2 + 1 + 2) p = okV C v 3 p) ∧ s.2 = σ.2) np ?_ ?_ np N 0 _ _ (by omega) (by omega) ⟨rfl, fun _ _ _ => rfl, fun p hp => absurd hp (Nat.not_lt_zero p), rfl⟩
  · rintro n i u s hi ⟨e1, F, h1, F2⟩ rec
    subst e1
    simp only [fX3_makeOaken_l2, fX3_makeOaken_b2, fX3_makeOaken_b39, nz_inb (show i < 2147483648 by omega), show i < 8 by omega, decide_true, ho_gdt, nz_nat (show i < 2147483648 by omega), ho_lte, nz_succ]
    rw [F _ _ (by omega), F _ _ (by omega), (HC.nn W).1, if_neg (show ¬ Int32.ofNat np ≤ Int32.ofNat i by rw [nz_le (by omega) (by omega)]; omega), (HC.2.2.2.1 i hi).2.1]
    have fin : ∀ y : Int32, y = okV C v 3 i → Ho (fX3_makeOaken_l2 N g n k v (Int32.ofNat (i + 1)) (pI s (g + 2 + 1 + 2) i y)) (fun _ s => HaC s (g + 2) (okV C v) np nw ∧ FrC (g + 2) (g + 2 + 13) σ s) := by
      intro y hy
      refine rec _ _ ⟨rfl, fun a b h => ?_, fun p hp => ?_, F2⟩
      · rw [pI_nq (by omega)]; exact F a b (by omega)
      · by_cases e : p = i
        · subst e; rw [pI_eq]; exact hy
        · rw [pI_nq (by omega)]; exact h1 p (by omega)
    have ek : okV C v 3 i = (if bitM v i = true then 0 else C 3 i) := by unfold okV; rw [if_pos rfl]
    rcases nz_and1 (v >>> (Int32.ofNat i &&& 31)) with q | q
    · rw [if_pos q]; apply fin
      rw [ek, if_neg]; unfold bitM; rw [q]; decide
    · rw [if_neg (by rw [q]; decide)]; apply fin
      rw [ek, if_pos]; unfold bitM; rw [q]; decide
  · rintro n u s ⟨e1, F, h1, F2⟩
    subst e1
    simp only [fX3_makeOaken_l2, fX3_makeOaken_b2]
    rw [F _ _ (by omega), (HC.nn W).1, if_pos (Int32.le_refl _), ho_some]
    obtain ⟨a1, a2, a3, a4, a5, a6⟩ := H
    refine ⟨⟨?_, ?_, ?_, ?_, fun p hp => ?_, fun w hw => ?_⟩, fun a ha => by funext b; exact F a b (by omega), F2⟩
    · rw [F _ _ (by omega), a1, okV_ne (by omega), okV_ne (by omega)]
    · rw [F _ _ (by omega), a2, okV_ne (by omega), okV_ne (by omega)]
    · rw [F _ _ (by omega), a3, okV_ne (by omega), okV_ne (by omega)]
    · rw [F _ _ (by omega), a4, okV_ne (by omega), okV_ne (by omega)]
    · have q := a5 p hp
      unfold loadV at *
      rw [ld_ok] at q ⊢
      refine ⟨?_, h1 p hp, ?_, ?_, ?_, ?_, ?_, ?_⟩
      · rw [F _ _ (by omega), q.1, okV_ne (by omega), okV_ne (by omega)]
      · rw [F _ _ (by omega), q.2.2.1, okV_ne (by omega), okV_ne (by omega)]
      · rw [F _ _ (by omega), q.2.2.2.1, okV_ne (by omega), okV_ne (by omega)]
      · rw [F _ _ (by omega), q.2.2.2.2.1, okV_ne (by omega), okV_ne (by omega)]
      · rw [F _ _ (by omega), q.2.2.2.2.2.1, okV_ne (by omega), okV_ne (by omega)]
      · rw [F _ _ (by omega), q.2.2.2.2.2.2.1, okV_ne (by omega), okV_ne (by omega)]
      · rw [F _ _ (by omega), q.2.2.2.2.2.2.2]
    · have q := a6 w hw
      rw [F _ _ (by omega), F _ _ (by omega), q.1, q.2, okV_ne (by omega), okV_ne (by omega), okV_ne (by omega), okV_ne (by omega)]
      exact ⟨rfl, rfl⟩
theorem oak_M {σ : Mem} {c np nw : Nat} {C : Vw} {x v : Int32} (H : HaM σ c C (okV C x) np nw) : HaM (pI σ 0 16 v) c C (okV C v) np nw := by
  refine ⟨H.1.ag (pI_ne (by omega)) (fun j _ _ => pI_nq (by omega)), ⟨?_, ?_⟩, fun p hp => ?_, fun u hu => ?_⟩
  · rw [pI_nq (by omega), H.2.1.1, okV_ne (by omega), okV_ne (by omega)]
  · rw [pI_nq (by omega), H.2.1.2, okV_ne (by omega), okV_ne (by omega)]
  · have q := H.2.2.1 p hp
    simp (disch := omega) only [okV_ne] at q ⊢
    rw [pI_nq (by omega), pI_nq (by omega), pI_eq]
    refine ⟨q.1, q.2.1, q.2.2.1, ?_, q.2.2.2.2⟩
    unfold okV; rw [if_pos rfl]
  · have q := H.2.2.2 u hu
    rw [okV_ne (by omega), okV_ne (by omega)] at q ⊢
    rw [pI_nq (by omega)]; exact q
theorem shl8 : ∀ n, n < 9 → (1 : Int32) <<< (Int32.ofNat n &&& 31) = Int32.ofNat (2 ^ n) := by decide +kernel
theorem bits9 : ∀ a, a < 256 → ¬ (9 : Int32) ≤ bitsV (Int32.ofNat a) := by decide +kernel
theorem pow8 : ∀ n, n < 9 → 1 ≤ 2 ^ n ∧ 2 ^ n ≤ 256 := by decide
theorem t_oaken {σ1 σ2 : Mem} {N : Nat} (hN : 10000 ≤ N) (R : RR σ1 σ2) (v1 v2 : Int32) : H2 (fX11_oaken N 0 v1 v2 σ1) (fX12_oaken N v1 v2 σ2) (QU σ1 σ2) := by
  unfold fX11_oaken fX12_oaken
  refine q_as R v1 v2 (fun j C np nw s2 mm hj hm em W HC HM K => ?_)
  subst em
  have hn := W.1.1
  have hp2 := pow8 np (by omega)
  unfold fX3_fewestOaken
  rw [bd_ret]
  refine pj_enter hN W HC (by omega) HM (fun r1 r2 t1 t2 P _ _ _ _ => ?_)
  refine pj_vote hN P hm (fun x b t1 t2 hb hx _ P V1 V2 => ?_)
  have key : ∀ t : Int32, t = (if b = true then 1 else 0) → H2 (fX3_fewestOaken_b24 N (0 + 251) (7 + 9 * j) (Int32.ofNat mm) t t1) (lt_ (if b = true then (1 : Int32) else 0) (fun v3_9 => lt_ (-1) (fun v4_10 => lt_ 1 (fun v5_11 => fX12_oaken_l33 N N (Int32.ofNat mm) v3_9 v4_10 v5_11 t2)))) (QU σ1 σ2) := by
    intro t ht
    unfold fX3_fewestOaken_b24
    simp only [ho_lte, ← ht]
    refine h2_loop (F1 := fun n (b : Int32 × Int32 × Int32) s => fX3_fewestOaken_l35 N (0 + 251) n (7 + 9 * j) (Int32.ofNat mm) t b.1 b.2.1 b.2.2 s) (F2 := fun n (b : Int32 × Int32) s => fX12_oaken_l33 N n (Int32.ofNat mm) t b.1 b.2 s) (fun i b s b' s' => b.2.2 = Int32.ofNat i ∧ b'.2 = Int32.ofNat i ∧ b.1 = b'.1 ∧ ((b.1 = -1 ∧ b.2.1 = 9) ∨ ∃ l, l < 256 ∧ b.1 = Int32.ofNat l ∧ b.2.1 = bitsV (Int32.ofNat l)) ∧ (∃ y, HaC s (0 + 251 + 2) (okV C y) np nw) ∧ FrC (0 + 251 + 2) (0 + 251 + 2 + 13) σ1 s ∧ (∃ y, HaM s' (610 + 63 * j) C (okV C y) np nw) ∧ KM σ2 s') (2 ^ np) ?_ ?_ (2 ^ np - 1) N N 1 (-1, 9, 1) t1 (-1, 1) t2 (by omega) (by omega) (by omega) ⟨rfl, rfl, rfl, Or.inl ⟨rfl, rfl⟩, ⟨0, by rw [okV_0]; exact P.2.1⟩, P.2.2.2.1, ⟨0, by rw [okV_0]; exact P.2.2.1⟩, K.trans P.2.2.2.2.km⟩
    · rintro n1 n2 i ⟨x1, x2, x3⟩ s ⟨y1, y2⟩ s' hi ⟨e1, e2, e3, e4, ⟨y, Hs⟩, F1, ⟨y', Hs'⟩, K'⟩ rec
      dsimp only at e1 e2 e3 e4; subst e1 e2 e3
      have HC' : ChC s (7 + 9 * j) C np nw := HC.fr F1 (by omega)
      simp only [fX3_fewestOaken_l35, fX12_oaken_l33, fX3_fewestOaken_b35, fX12_oaken_b33, fX3_fewestOaken_b95, fX12_oaken_b82, fX12_oaken_b69, ho_lte, nz_succ, bc_J6, ho_bds, bc_bits i (show i < 256 by omega), bits_M hN]
      rw [(HC'.nn W).1, Hs'.1.2.1.2.1, shl8 np (by omega), if_neg (show ¬ Int32.ofNat (2 ^ np) ≤ Int32.ofNat i by rw [nz_le (by omega) (by omega)]; omega), if_neg (show ¬ Int32.ofNat (2 ^ np) ≤ Int32.ofNat i by rw [nz_le (by omega) (by omega)]; omega)]
      have H1 := oak_M (v := Int32.ofNat i) Hs'
      have K1 : KM σ2 (pI s' 0 16 (Int32.ofNat i)) := K'.trans ((FrH.refl s').pI (by omega)).km
      have skip : H2 (fX3_fewestOaken_l35 N (0 + 251) n1 (7 + 9 * j) (Int32.ofNat mm) t x1 x2 (Int32.ofNat (i + 1)) s) (fX12_oaken_l33 N n2 (Int32.ofNat mm) t x1 (Int32.ofNat (i + 1)) (pI s' 0 16 (Int32.ofNat i))) (QU σ1 σ2) := rec (_, _, _) _ (_, _) _ ⟨rfl, rfl, rfl, e4, ⟨y, Hs⟩, F1, ⟨_, H1⟩, K1⟩
      have ask : H2 (bd (fX3_makeOaken N (0 + 251) (7 + 9 * j) (Int32.ofNat i) s) (fun r12 s13 => bd (fX2_vote N (0 + 251 + 2) (Int32.ofNat mm) s13) (fun r14 s15 => if r14 ≤ 0 then fX3_fewestOaken_b83 N (0 + 251) (fX3_fewestOaken_l35 N (0 + 251) n1) (7 + 9 * j) (Int32.ofNat mm) t x1 x2 (Int32.ofNat i) (bitsV (Int32.ofNat i)) 0 s15 else fX3_fewestOaken_b83 N (0 + 251) (fX3_fewestOaken_l35 N (0 + 251) n1) (7 + 9 * j) (Int32.ofNat mm) t x1 x2 (Int32.ofNat i) (bitsV (Int32.ofNat i)) 1 s15))) (bd (fX12_answers N (Int32.ofNat mm) (pI s' 0 16 (Int32.ofNat i))) (fun r17 s18 => if r17 = t then fX12_oaken_l33 N n2 (Int32.ofNat mm) t x1 (Int32.ofNat (i + 1)) s18 else fX12_oaken_l33 N n2 (Int32.ofNat mm) t (Int32.ofNat i) (Int32.ofNat (i + 1)) s18)) (QU σ1 σ2) := by
        apply h2_l
        refine ho_mono (oak_C hN W HC' (by omega) Hs) (fun _ u1 ⟨G1, G2⟩ => ?_)
        apply h2_l
        refine ho_mono (vote_C (okV_wf W.1) G1 hN hm) (fun z u2 ⟨z1, V1⟩ => ?_)
        apply h2_r
        refine ho_mono (answers_M hN (okV_wf W.1) H1) (fun r u3 ⟨z2, V2⟩ => ?_)
        have hl := lead_car (okV_wf (x := Int32.ofNat i) W.1) (Int32.ofNat mm)
        rw [← z1] at hl
        have F2 := (F1.trans G2).trans V1.1.toC
        have tl : ∀ q : Int32, q = r → H2 (fX3_fewestOaken_b83 N (0 + 251) (fX3_fewestOaken_l35 N (0 + 251) n1) (7 + 9 * j) (Int32.ofNat mm) t x1 x2 (Int32.ofNat i) (bitsV (Int32.ofNat i)) q u2) (if r = t then fX12_oaken_l33 N n2 (Int32.ofNat mm) t x1 (Int32.ofNat (i + 1)) u3 else fX12_oaken_l33 N n2 (Int32.ofNat mm) t (Int32.ofNat i) (Int32.ofNat (i + 1)) u3) (QU σ1 σ2) := by
          intro q hq
          subst hq
          unfold fX3_fewestOaken_b83 fX3_fewestOaken_b95
          simp only [ho_lte, nz_succ]
          by_cases w : q = t
          · rw [if_pos w, if_pos w]
            exact rec (_, _, _) _ (_, _) _ ⟨rfl, rfl, rfl, e4, ⟨_, G1.frv V1.1⟩, F2, ⟨_, H1.ag V2.1.ag⟩, K1.trans V2.1.toH.km⟩
          · rw [if_neg w, if_neg w]
            exact rec (_, _, _) _ (_, _) _ ⟨rfl, rfl, rfl, Or.inr ⟨i, by omega, rfl, rfl⟩, ⟨_, G1.frv V1.1⟩, F2, ⟨_, H1.ag V2.1.ag⟩, K1.trans V2.1.toH.km⟩
        cases hc : carV (okV C (Int32.ofNat i)) np nw (Int32.ofNat mm) with
        | false => rw [if_pos (hl.mpr hc)]; exact tl _ (by rw [z2, hc]; rfl)
        | true => rw [if_neg (by rw [hl, hc]; decide)]; exact tl _ (by rw [z2, hc]; rfl)
      rcases e4 with ⟨z1, z2⟩ | ⟨l, hl, z1, z2⟩
      · rw [if_neg (show ¬ x2 ≤ bitsV (Int32.ofNat i) by rw [z2]; exact bits9 i (by omega)), if_pos z1]; exact ask
      · rw [if_neg (show ¬ x1 = -1 by rw [z1]; exact z_m1 (by omega))]
        by_cases q : x2 ≤ bitsV (Int32.ofNat i)
        · rw [if_pos q, if_pos (show bitsV x1 ≤ bitsV (Int32.ofNat i) by rw [z1, ← z2]; exact q)]; exact skip
        · rw [if_neg q, if_neg (show ¬ bitsV x1 ≤ bitsV (Int32.ofNat i) by rw [z1, ← z2]; exact q)]; exact ask
    · rintro n1 n2 ⟨x1, x2, x3⟩ s ⟨y1, y2⟩ s' ⟨e1, e2, e3, e4, ⟨y, Hs⟩, F1, ⟨y', Hs'⟩, K'⟩
      dsimp only at e1 e2 e3 e4; subst e1 e2 e3
      have HC' : ChC s (7 + 9 * j) C np nw := HC.fr F1 (by omega)
      simp only [fX3_fewestOaken_l35, fX12_oaken_l33, fX3_fewestOaken_b35, fX12_oaken_b33]
      rw [(HC'.nn W).1, Hs'.1.2.1.2.1, shl8 np (by omega), if_pos (Int32.le_refl _), if_pos (Int32.le_refl _)]
      exact ⟨rfl, R.kc.fr F1 (by omega), K'⟩
  cases b with
  | false => rw [if_pos (hx.mpr rfl)]; exact key _ rfl
  | true => rw [if_neg (by rw [hx]; decide)]; exact key _ rfl
