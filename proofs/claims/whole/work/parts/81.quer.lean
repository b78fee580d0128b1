/-- a stretch of two loops; K is what is left of their fuel behind it -/
theorem h2_phase {α1 α2 β1 β2 : Type} {F1 : Nat → β1 → Mem → Option (α1 × Mem)} {F2 : Nat → β2 → Mem → Option (α2 × Mem)} {Q : α1 → Mem → α2 → Mem → Prop} (I : Nat → β1 → Mem → β2 → Mem → Prop) (top K : Nat)
    (hstep : ∀ n1 n2 i b1 s1 b2 s2, i < top → I i b1 s1 b2 s2 → (∀ b1' s1' b2' s2', I (i + 1) b1' s1' b2' s2' → H2 (F1 n1 b1' s1') (F2 n2 b2' s2') Q) → H2 (F1 (n1 + 1) b1 s1) (F2 (n2 + 1) b2 s2) Q)
    (hend : ∀ n1 n2 b1 s1 b2 s2, K ≤ n1 → K ≤ n2 → I top b1 s1 b2 s2 → H2 (F1 n1 b1 s1) (F2 n2 b2 s2) Q) :
    ∀ (d n1 n2 i : Nat) (b1 : β1) (s1 : Mem) (b2 : β2) (s2 : Mem), i + d = top → d + K ≤ n1 → d + K ≤ n2 → I i b1 s1 b2 s2 → H2 (F1 n1 b1 s1) (F2 n2 b2 s2) Q := by
  intro d
  induction d with
  | zero =>
    intro n1 n2 i b1 s1 b2 s2 hi hn1 hn2 h
    exact hend n1 n2 b1 s1 b2 s2 (by omega) (by omega) (by have : i = top := hi; rw [← this]; exact h)
  | succ d ih =>
    intro n1 n2 i b1 s1 b2 s2 hi hn1 hn2 h
    cases n1 with
    | zero => exact absurd hn1 (by omega)
    | succ n1 =>
      cases n2 with
      | zero => exact absurd hn2 (by omega)
      | succ n2 => exact hstep n1 n2 i b1 s1 b2 s2 (by omega) h (fun b1' s1' b2' s2' h' => ih n1 n2 (i + 1) b1' s1' b2' s2' (by omega) (by omega) (by omega) h')
/-- a stretch of the right loop alone -/
theorem h2_phaseR {α1 α2 β2 : Type} {κ1 : Option (α1 × Mem)} {F2 : Nat → β2 → Mem → Option (α2 × Mem)} {Q : α1 → Mem → α2 → Mem → Prop} (I : Nat → β2 → Mem → Prop) (top K : Nat)
    (hstep : ∀ n i b s, i < top → I i b s → (∀ b' s', I (i + 1) b' s' → H2 κ1 (F2 n b' s') Q) → H2 κ1 (F2 (n + 1) b s) Q)
    (hend : ∀ n b s, K ≤ n → I top b s → H2 κ1 (F2 n b s) Q) :
    ∀ (d n i : Nat) (b : β2) (s : Mem), i + d = top → d + K ≤ n → I i b s → H2 κ1 (F2 n b s) Q := by
  intro d
  induction d with
  | zero =>
    intro n i b s hi hn h
    exact hend n b s (by omega) (by have : i = top := hi; rw [← this]; exact h)
  | succ d ih =>
    intro n i b s hi hn h
    cases n with
    | zero => exact absurd hn (by omega)
    | succ n => exact hstep n i b s (by omega) h (fun b' s' h' => ih n (i + 1) b' s' (by omega) (by omega) h')
theorem pj_enterC {α β : Type} {N h c k np nw : Nat} {C : Vw} {a1 a2 : Mem} {Q : α → Mem → β → Mem → Prop} (hN : 10000 ≤ N) (W : ChW C np nw) (H1 : ChC a1 k C np nw) (hd : k + 9 ≤ h) (H3 : HaM a2 c C (asT C) np nw) {f1 : Unit → Mem → Option (α × Mem)} {κ : Option (β × Mem)}
    (go : ∀ r1 s1, PJ h c C np nw a1 a2 (asT C) s1 a2 → H2 (f1 r1 s1) κ Q) : H2 (bd (fX2_enter N h k a1) f1) κ Q := by
  apply h2_l
  refine ho_mono (enter_C hN W.1 H1 hd) (fun r1 s1 ⟨b1, b2, b3, b4⟩ => ?_)
  exact go r1 s1 ⟨asT_wf W.1, b1, H3, b4.wide (by omega) (by omega), FrH.refl _⟩
section QS
variable {σ1 σ2 : Mem} {N : Nat}
theorem t_damps (hN : 10000 ≤ N) (R : RR σ1 σ2) (v1 v2 : Int32) : H2 (fX11_damps N 0 v1 v2 σ1) (fX12_damps N v1 v2 σ2) (QU σ1 σ2) := by
  unfold fX11_damps fX12_damps
  refine q_as R v1 v2 (fun j C np nw s2 mm hj hm em W HC HM K => ?_)
  subst em
  unfold fX10_carryingDamps
  rw [bd_ret]
  refine pj_enter hN W HC (by omega) HM (fun r1 r2 t1 t2 P _ _ _ _ => ?_)
  simp only [ho_lte]
  refine h2_loop (F1 := fun n (b : Int32 × Int32) s => fX10_carryingDamps_l13 N (0 + 220) n (Int32.ofNat mm) b.1 b.2 s) (F2 := fun n (b : Int32 × Int32) s => fX12_damps_l26 N n (Int32.ofNat mm) b.1 b.2 s) (fun i b s b' s' => b = b' ∧ b.2 = Int32.ofNat i ∧ ∃ S, PJ (0 + 220 + 1) (610 + 63 * j) C np nw σ1 s2 S s s') 10 ?_ ?_ 10 N N 0 (0, 0) t1 (0, 0) t2 (by omega) (by omega) (by omega) ⟨rfl, rfl, asT C, P⟩
  · rintro n1 n2 i ⟨a, v⟩ s ⟨a', v'⟩ s' hi ⟨e1, e2, S, P⟩ rec
    cases e1; dsimp only at e2; subst e2
    simp only [fX10_carryingDamps_l13, fX12_damps_l26, fX10_carryingDamps_b13, fX12_damps_b26, fX10_carryingDamps_b50, fX12_damps_b56, ho_lte, nz_succ]
    rw [if_neg (by rw [z_lt (by omega) (by omega)]; omega), if_neg (by rw [z_le (by omega) (by omega)]; omega)]
    refine pj_vote hN P.damp hm (fun x b u1 u2 hb hx _ P V1 V2 => ?_)
    cases b with
    | false => rw [if_pos (hx.mpr rfl), if_pos (by decide)]; exact rec (_, _) _ (_, _) _ ⟨by rw [Int32.or_zero], rfl, _, P⟩
    | true => rw [if_neg (by rw [hx]; decide), if_neg (by decide)]; exact rec (_, _) _ (_, _) _ ⟨rfl, rfl, _, P⟩
  · rintro n1 n2 ⟨a, v⟩ s ⟨a', v'⟩ s' ⟨e1, e2, S, P⟩
    cases e1; dsimp only at e2; subst e2
    simp only [fX10_carryingDamps_l13, fX12_damps_l26, fX10_carryingDamps_b13, fX12_damps_b26]
    rw [if_pos (by decide), if_pos (by decide)]
    exact ⟨rfl, P.end_ R.kc K (by omega)⟩
theorem t_hush (hN : 10000 ≤ N) (R : RR σ1 σ2) (v1 v2 v3 : Int32) : H2 (fX11_hush N 0 v1 v2 v3 σ1) (fX12_hush N v1 v2 v3 σ2) (QU σ1 σ2) := by
  unfold fX11_hush fX12_hush
  refine q_of hN R v1 v2 v3 (fun j C np nw s2 mm pp hj hm em hp ep W HC HM K => ?_)
  subst em ep
  have hn := W.1.1
  unfold fX3_waxesToHush
  rw [bd_ret, has_in (HC.nn W).1 W.1.1 hp, ho_bds, if_neg (by decide)]
  refine pj_enterC hN W HC (by omega) HM (fun r1 t1 P => ?_)
  simp only [ho_lte]
  refine h2_loop (F1 := fun n (v : Int32) s => fX3_waxesToHush_l21 N (0 + 251) n (Int32.ofNat mm) (Int32.ofNat pp) v s) (F2 := fun n (v : Int32) s => fX12_hush_l15 N n (Int32.ofNat mm) (Int32.ofNat pp) v s) (fun i v s v' s' => v = Int32.ofNat i ∧ v' = Int32.ofNat i ∧ ∃ S, PJ (0 + 251 + 2) (610 + 63 * j) C np nw σ1 s2 S s s') 10 ?_ ?_ 10 N N 0 0 t1 0 s2 (by omega) (by omega) (by omega) ⟨rfl, rfl, asT C, P⟩
  · rintro n1 n2 i v s v' s' hi ⟨e1, e2, S, P⟩ rec
    subst e1 e2
    have P' := P.wax (p := pp) (v := Int32.ofNat i)
    simp only [fX3_waxesToHush_l21, fX12_hush_l15, fX3_waxesToHush_b21, fX12_hush_b15, ho_lte, nz_succ, nz_inb (show pp < 2147483648 by omega), show pp < 8 by omega, decide_true, ho_gdt, nz_nat (show pp < 2147483648 by omega)]
    rw [if_neg (by rw [z_lt (by omega) (by omega)]; omega), if_neg (by rw [z_le (by omega) (by omega)]; omega), sounds_C P'.1 P'.2.1 hp hm, ho_bds, loud_M hN P'.2.2.1 hp, ho_bds, of_M3 P'.2.2.1.1 hp, ho_bds, ← (P'.2.2.1.2.2.1 pp hp).2.2.2.2.1]
    by_cases q : loudV (upV S 10 pp (Int32.ofNat i)) nw (Int32.ofNat mm) pp < upV S 10 pp (Int32.ofNat i) 5 pp
    · rw [if_pos q, if_pos rfl, if_neg (by rw [Int32.not_le]; exact q)]
      exact ⟨rfl, P'.end_ R.kc K (by omega)⟩
    · rw [if_neg q, if_neg (by decide), if_pos (by rw [← Int32.not_lt]; exact q)]
      exact rec _ _ _ _ ⟨rfl, rfl, _, P'⟩
  · rintro n1 n2 v s v' s' ⟨e1, e2, S, P⟩
    subst e1 e2
    simp only [fX3_waxesToHush_l21, fX12_hush_l15, fX3_waxesToHush_b21, fX12_hush_b15]
    rw [if_pos (by decide), if_pos (by decide)]
    exact ⟨rfl, P.end_ R.kc K (by omega)⟩
theorem t_wake (hN : 10000 ≤ N) (R : RR σ1 σ2) (v1 v2 v3 : Int32) : H2 (fX11_wake N 0 v1 v2 v3 σ1) (fX12_wake N v1 v2 v3 σ2) (QU σ1 σ2) := by
  unfold fX11_wake fX12_wake
  refine q_of hN R v1 v2 v3 (fun j C np nw s2 mm pp hj hm em hp ep W HC HM K => ?_)
  subst em ep
  unfold fX3_nightsToWake
  rw [bd_ret]
  refine pj_enterC hN W HC (by omega) HM (fun r1 t1 P => ?_)
  simp only [ho_lte]
  refine h2_loop (F1 := fun n (v : Int32) s => fX3_nightsToWake_l11 N (0 + 251) n (Int32.ofNat mm) (Int32.ofNat pp) v s) (F2 := fun n (v : Int32) s => fX12_wake_l15 N n (Int32.ofNat mm) (Int32.ofNat pp) v s) (fun i v s v' s' => v = Int32.ofNat i ∧ v' = Int32.ofNat i ∧ ∃ S, WxV S np ∧ (∀ p, p < np → S 3 p = C 3 p) ∧ PJ (0 + 251 + 2) (610 + 63 * j) C np nw σ1 s2 S s s') 61 ?_ ?_ 61 N N 0 0 t1 0 s2 (by omega) (by omega) (by omega) ⟨rfl, rfl, asT C, wx_asT, fun p _ => asT_at (by omega), P⟩
  · rintro n1 n2 i v s v' s' hi ⟨e1, e2, S, X, hO, P⟩ rec
    subst e1 e2
    simp only [fX3_nightsToWake_l11, fX12_wake_l15, fX3_nightsToWake_b11, fX12_wake_b15, ho_lte, nz_succ]
    rw [if_neg (by rw [z_lt (by omega) (by omega)]; omega), if_neg (by rw [z_lt (by omega) (by omega)]; omega), sounds_C P.1 P.2.1 hp hm, ho_bds, loud_M hN P.2.2.1 hp, ho_bds, of_M3 P.2.2.1.1 hp, ho_bds, ← (P.2.2.1.2.2.1 pp hp).2.2.2.2.1]
    by_cases q : loudV S nw (Int32.ofNat mm) pp < S 5 pp
    · rw [if_pos q, if_pos rfl, if_pos q]
      refine pj_night hN X hO P (fun _ _ t1 t2 P => ?_)
      exact rec _ _ _ _ ⟨rfl, rfl, _, wx_night X, fun p hp => by rw [nightV_ne (by omega)]; exact hO p hp, P⟩
    · rw [if_neg q, if_neg (by decide), if_neg q]
      exact ⟨rfl, P.end_ R.kc K (by omega)⟩
  · rintro n1 n2 v s v' s' ⟨e1, e2, S, X, hO, P⟩
    subst e1 e2
    simp only [fX3_nightsToWake_l11, fX12_wake_l15, fX3_nightsToWake_b11, fX12_wake_b15]
    rw [if_pos (by decide), if_pos (by decide)]
    exact ⟨rfl, P.end_ R.kc K (by omega)⟩
theorem t_tips (hN : 10000 ≤ N) (R : RR σ1 σ2) (v1 v2 v3 : Int32) : H2 (fX11_tips N 0 v1 v2 v3 σ1) (fX12_tips N v1 v2 v3 σ2) (QU σ1 σ2) := by
  unfold fX11_tips fX12_tips
  refine q_of hN R v1 v2 v3 (fun j C np nw s2 mm pp hj hm em hp ep W HC HM K => ?_)
  subst em ep
  have hn := W.1.1
  unfold fX3_dampToTip
  rw [bd_ret, has_in (HC.nn W).1 W.1.1 hp, ho_bds, if_neg (by decide), of_M0 HM.1 hp, ho_bds]
  simp only [nz_inb (show pp < 2147483648 by omega), show pp < 8 by omega, decide_true, ho_gdt, nz_nat (show pp < 2147483648 by omega), (HC.2.2.2.1 pp hp).1]
  by_cases k1 : C 2 pp = 1
  · rw [if_pos k1, if_pos k1]
    refine pj_enterC hN W HC (by omega) HM (fun r1 t1 P => ?_)
    simp only [ho_lte]
    refine h2_loop (F1 := fun n (v : Int32) s => fX3_dampToTip_l31 N (0 + 251) n (Int32.ofNat mm) (Int32.ofNat pp) v s) (F2 := fun n (v : Int32) s => fX12_tips_l25 N n (Int32.ofNat mm) (Int32.ofNat pp) v s) (fun i v s v' s' => v = Int32.ofNat i ∧ v' = Int32.ofNat i ∧ ∃ S, PJ (0 + 251 + 2) (610 + 63 * j) C np nw σ1 s2 S s s') 10 ?_ ?_ 10 N N 0 0 t1 0 s2 (by omega) (by omega) (by omega) ⟨rfl, rfl, asT C, P⟩
    · rintro n1 n2 i v s v' s' hi ⟨e1, e2, S, P⟩ rec
      subst e1 e2
      have P' := P.damp (v := Int32.ofNat i)
      simp only [fX3_dampToTip_l31, fX12_tips_l25, fX3_dampToTip_b31, fX12_tips_b25, ho_lte, nz_succ]
      rw [if_neg (by rw [z_lt (by omega) (by omega)]; omega), if_neg (by rw [z_le (by omega) (by omega)]; omega), sounds_C P'.1 P'.2.1 hp hm, ho_bds, loud_M hN P'.2.2.1 hp, ho_bds, of_M3 P'.2.2.1.1 hp, ho_bds, ← (P'.2.2.1.2.2.1 pp hp).2.2.2.2.1]
      by_cases q : loudV (upV S 1 2 (Int32.ofNat i)) nw (Int32.ofNat mm) pp < upV S 1 2 (Int32.ofNat i) 5 pp
      · rw [if_pos q, if_pos rfl, if_pos q]
        exact rec _ _ _ _ ⟨rfl, rfl, _, P'⟩
      · rw [if_neg q, if_neg (by decide), if_neg q]
        exact ⟨rfl, P'.end_ R.kc K (by omega)⟩
    · rintro n1 n2 v s v' s' ⟨e1, e2, S, P⟩
      subst e1 e2
      simp only [fX3_dampToTip_l31, fX12_tips_l25, fX3_dampToTip_b31, fX12_tips_b25]
      rw [if_pos (by decide), if_pos (by decide)]
      exact ⟨rfl, P.end_ R.kc K (by omega)⟩
  · rw [if_neg k1, if_neg k1]
    exact ⟨rfl, R.kc, K⟩
theorem seatW {C : Vw} {np nw w : Nat} (W : ChW C np nw) (hw : w < nw) : Seat np (C 9 w) := W.1.2.2.2.2.2.2.2 w hw
theorem t_weighty (hN : 10000 ≤ N) (R : RR σ1 σ2) (v1 v2 : Int32) : H2 (fX11_weighty N 0 v1 v2 σ1) (fX12_weighty N v1 v2 σ2) (QU σ1 σ2) := by
  unfold fX11_weighty fX12_weighty
  refine q_as R v1 v2 (fun j C np nw s2 mm hj hm em W HC HM K => ?_)
  subst em
  have hn := W.1.1
  have hw6 := W.1.2.1
  unfold fX7_whoTurnsByStanding
  rw [bd_ret]
  refine pj_enter hN W HC (by omega) HM (fun r1 r2 t1 t2 P _ _ _ _ => ?_)
  refine pj_vote hN P hm (fun x b t1 t2 hb hx _ P V1 V2 => ?_)
  have key : ∀ t : Int32, t = (if b = true then 1 else 0) → H2 (fX7_whoTurnsByStanding_b24 N (0 + 236) (7 + 9 * j) (Int32.ofNat mm) t t1) (lt_ (if b = true then (1 : Int32) else 0) (fun v3_9 => lt_ 0 (fun v4_10 => lt_ 0 (fun v5_11 => fX12_weighty_l33 N N (Int32.ofNat mm) v3_9 v4_10 v5_11 t2)))) (QU σ1 σ2) := by
    intro t ht
    unfold fX7_whoTurnsByStanding_b24
    simp only [ho_lte, ← ht]
    refine h2_loop (F1 := fun n (b : Int32 × Int32) s => fX7_whoTurnsByStanding_l31 N (0 + 236) n (7 + 9 * j) (Int32.ofNat mm) t b.1 b.2 s) (F2 := fun n (b : Int32 × Int32) s => fX12_weighty_l33 N n (Int32.ofNat mm) t b.1 b.2 s) (fun i b s b' s' => b = b' ∧ b.2 = Int32.ofNat i ∧ ∃ S, PJ (0 + 236 + 2) (610 + 63 * j) C np nw σ1 s2 S s s') nw ?_ ?_ nw N N 0 (0, 0) t1 (0, 0) t2 (by omega) (by omega) (by omega) ⟨rfl, rfl, asT C, P⟩
    · rintro n1 n2 i ⟨a, v⟩ s ⟨a', v'⟩ s' hi ⟨e1, e2, S, P⟩ rec
      cases e1; dsimp only at e2; subst e2
      simp only [fX7_whoTurnsByStanding_l31, fX12_weighty_l33, fX7_whoTurnsByStanding_b31, fX12_weighty_b33, ho_lte, nz_inb (show i < 2147483648 by omega), show i < 6 by omega, decide_true, ho_gdt, nz_nat (show i < 2147483648 by omega)]
      rw [((P.told HC (by omega)).nn W).2, P.m12.2, if_neg (by rw [nz_le (by omega) (by omega)]; omega), if_neg (by rw [nz_le (by omega) (by omega)]; omega)]
      refine pj_seat P hi (Or.inl rfl) (fun _ u1 P => ?_)
      refine pj_vote hN P hm (fun x b u1 u2 hb hx _ P V1 V2 => ?_)
      have tail : ∀ (y y' : Int32), y = y' → H2 (fX7_whoTurnsByStanding_b80 N (0 + 236) (fX7_whoTurnsByStanding_l31 N (0 + 236) n1) (7 + 9 * j) (Int32.ofNat mm) t y (Int32.ofNat i) u1) (bd (fX12_ofPerson N (Int32.ofNat i) 1 u2) (fun r16 s17 => lt_ (pI s17 6 i r16) (fun s18 => lt_ (Int32.ofNat i + 1) (fun v5_19 => fX12_weighty_l33 N n2 (Int32.ofNat mm) t y' v5_19 s18)))) (QU σ1 σ2) := by
        intro y y' hy
        subst hy
        unfold fX7_whoTurnsByStanding_b80
        simp only [nz_inb (show i < 2147483648 by omega), show i < 6 by omega, decide_true, ho_gdt, nz_nat (show i < 2147483648 by omega), ((P.told HC (by omega)).2.2.2.2 i hi).2, ofP_M1 P.2.2.1.1 hi, ho_bds, ho_lte, nz_succ]
        refine pj_seat P hi (seatW W hi) (fun _ u3 P => ?_)
        exact rec (_, _) _ (_, _) _ ⟨rfl, rfl, _, P⟩
      have tl2 : ∀ y : Int32, y = (if b = true then 1 else 0) → H2 (fX7_whoTurnsByStanding_b67 N (0 + 236) (fX7_whoTurnsByStanding_l31 N (0 + 236) n1) (7 + 9 * j) (Int32.ofNat mm) t a (Int32.ofNat i) y u1) (if (if b = true then (1 : Int32) else 0) = t then fX12_weighty_b70 N (fX12_weighty_l33 N n2) (Int32.ofNat mm) t (Int32.ofNat i) 0 a u2 else fX12_weighty_b70 N (fX12_weighty_l33 N n2) (Int32.ofNat mm) t (Int32.ofNat i) (1 <<< (Int32.ofNat i &&& 31)) a u2) (QU σ1 σ2) := by
        intro y hy
        unfold fX7_whoTurnsByStanding_b67 fX12_weighty_b70
        simp only [← hy, ho_lte, nz_inb (show i < 2147483648 by omega), show i < 6 by omega, decide_true, ho_gdt, nz_nat (show i < 2147483648 by omega)]
        by_cases c1 : y = t
        · rw [if_pos c1, if_pos c1]; exact tail _ _ (by rw [Int32.or_zero])
        · rw [if_neg c1, if_neg c1]; exact tail _ _ rfl
      cases b with
      | false => rw [if_pos (hx.mpr rfl)]; exact tl2 _ rfl
      | true => rw [if_neg (by rw [hx]; decide)]; exact tl2 _ rfl
    · rintro n1 n2 ⟨a, v⟩ s ⟨a', v'⟩ s' ⟨e1, e2, S, P⟩
      cases e1; dsimp only at e2; subst e2
      simp only [fX7_whoTurnsByStanding_l31, fX12_weighty_l33, fX7_whoTurnsByStanding_b31, fX12_weighty_b33]
      rw [((P.told HC (by omega)).nn W).2, P.m12.2, if_pos (Int32.le_refl _), if_pos (Int32.le_refl _)]
      exact ⟨rfl, P.end_ R.kc K (by omega)⟩
  cases b with
  | false => rw [if_pos (hx.mpr rfl)]; exact key _ rfl
  | true => rw [if_neg (by rw [hx]; decide)]; exact key _ rfl
end QS
