theorem bd_ret {α : Type} {κ : Option (α × Mem)} : bd κ (fun r s => some (r, s)) = κ := by
  cases κ with
  | none => rfl
  | some a => rfl
/-- both halls hold one view; nothing else of what stood at a1, a2 has changed -/
def PJ (h c : Nat) (C : Vw) (np nw : Nat) (a1 a2 : Mem) (S : Vw) (σ1 σ2 : Mem) : Prop :=
  WfV S np nw ∧ HaC σ1 h S np nw ∧ HaM σ2 c C S np nw ∧ FrC h (h + 13) a1 σ1 ∧ FrH a2 σ2
section PJS
variable {α β : Type} {N h c k np nw : Nat} {C S : Vw} {a1 a2 σ1 σ2 : Mem} {Q : α → Mem → β → Mem → Prop}
theorem pj_enter (hN : 10000 ≤ N) (W : ChW C np nw) (H1 : ChC a1 k C np nw) (hd : k + 9 ≤ h) (H3 : HcM a2 c C np nw) {f1 : Unit → Mem → Option (α × Mem)} {f2 : Unit → Mem → Option (β × Mem)}
    (go : ∀ r1 r2 s1 s2, PJ h c C np nw a1 a2 (asT C) s1 s2 → s1.1 h 5 = 0 → s1.1 h 6 = 0 → s2.1 0 21 = a2.1 0 21 → s2.1 0 22 = a2.1 0 22 → H2 (f1 r1 s1) (f2 r2 s2) Q) : H2 (bd (fX2_enter N h k a1) f1) (bd (fX12_asTold N a2) f2) Q := by
  apply h2_l
  refine ho_mono (enter_C hN W.1 H1 hd) (fun r1 s1 ⟨b1, b2, b3, b4⟩ => ?_)
  apply h2_r
  refine ho_mono (asTold_M hN H3) (fun r2 s2 ⟨d1, d2, d3, d4⟩ => ?_)
  exact go r1 r2 s1 s2 ⟨asT_wf W.1, b1, d1, b4.wide (by omega) (by omega), d2⟩ b2 b3 d3 d4
theorem pj_vote (hN : 10000 ≤ N) (P : PJ h c C np nw a1 a2 S σ1 σ2) {mm : Nat} (hm : mm < 64) {f1 : Int32 → Mem → Option (α × Mem)} {f2 : Int32 → Mem → Option (β × Mem)}
    (go : ∀ x b s1 s2, carV S np nw (Int32.ofNat mm) = b → (x ≤ 0 ↔ b = false) → x = ayV S np nw (Int32.ofNat mm) - noV S np nw (Int32.ofNat mm) → PJ h c C np nw a1 a2 S s1 s2 → VoP h S np nw (Int32.ofNat mm) σ1 s1 → VoM S np nw (Int32.ofNat mm) σ2 s2 → H2 (f1 x s1) (f2 (if b = true then 1 else 0) s2) Q) :
    H2 (bd (fX2_vote N h (Int32.ofNat mm) σ1) f1) (bd (fX12_answers N (Int32.ofNat mm) σ2) f2) Q := by
  obtain ⟨W, H1, H3, F1, F2⟩ := P
  apply h2_l
  refine ho_mono (vote_C W H1 hN hm) (fun x s1 ⟨e1, V1⟩ => ?_)
  apply h2_r
  refine ho_mono (answers_M hN W H3) (fun y s2 ⟨e2, V2⟩ => ?_)
  rw [e2]
  refine go x _ s1 s2 rfl ?_ e1 ⟨W, H1.frv V1.1, H3.ag V2.1.ag, F1.trans V1.1.toC, F2.trans V2.1.toH⟩ V1 V2
  rw [e1]; exact lead_car W _
theorem pj_night (hN : 10000 ≤ N) (X : WxV S np) (hO : ∀ p, p < np → S 3 p = C 3 p) (P : PJ h c C np nw a1 a2 S σ1 σ2) {f1 : Unit → Mem → Option (α × Mem)} {f2 : Unit → Mem → Option (β × Mem)}
    (go : ∀ r1 r2 s1 s2, PJ h c C np nw a1 a2 (nightV S np) s1 s2 → H2 (f1 r1 s1) (f2 r2 s2) Q) : H2 (bd (fX2_passNight N h σ1) f1) (bd (fX12_sleeps N σ2) f2) Q := by
  obtain ⟨W, H1, H3, F1, F2⟩ := P
  apply h2_l
  refine ho_mono (night_C hN W H1) (fun r1 s1 ⟨b1, b2⟩ => ?_)
  apply h2_r
  refine ho_mono (sleeps_M hN X hO H3) (fun r2 s2 ⟨d1, d2, _⟩ => ?_)
  exact go r1 r2 s1 s2 ⟨nightV_wf W, b1, d1, F1.trans (b2.wide (by omega) (by omega)), F2.trans d2⟩
/-- one sits elsewhere: in the class by a call, in the reference by an entry -/
theorem pj_seat (P : PJ h c C np nw a1 a2 S σ1 σ2) {w : Nat} {v : Int32} (hw : w < nw) (hs : Seat np v) {f1 : Unit → Mem → Option (α × Mem)} {κ : Option (β × Mem)}
    (go : ∀ r1 s1, PJ h c C np nw a1 a2 (upV S 9 w v) s1 (pI σ2 6 w v) → H2 (f1 r1 s1) κ Q) : H2 (bd (fX2_seatPerson N h (Int32.ofNat w) v σ1) f1) κ Q := by
  obtain ⟨W, H1, H3, F1, F2⟩ := P
  apply h2_l
  refine ho_mono (seat_C W H1 hw hs) (fun r1 s1 ⟨b1, b2⟩ => ?_)
  exact go r1 s1 ⟨upV_wf9 W hs, b1, H3.seat, F1.trans (b2.wide (by omega) (by omega)), F2.pI (by omega)⟩
theorem PJ.damp (P : PJ h c C np nw a1 a2 S σ1 σ2) {v : Int32} : PJ h c C np nw a1 a2 (upV S 1 2 v) (pI σ1 (h + 1) 2 v) (pI σ2 0 14 v) := by
  obtain ⟨W, H1, H3, F1, F2⟩ := P
  exact ⟨upV_wf W (by omega), H1.damp, H3.damp, F1.pI (by omega), F2.pI (by omega)⟩
theorem PJ.wax (P : PJ h c C np nw a1 a2 S σ1 σ2) {p : Nat} {v : Int32} : PJ h c C np nw a1 a2 (upV S 10 p v) (pI σ1 (h + 10) p v) (pI σ2 5 p v) := by
  obtain ⟨W, H1, H3, F1, F2⟩ := P
  exact ⟨upV_wf W (by omega), H1.wax, H3.wax, F1.pI (by omega), F2.pI (by omega)⟩
theorem PJ.over (P : PJ h c C np nw a1 a2 S σ1 σ2) {v : Int32} : PJ h c C np nw a1 a2 (upV S 0 4 v) (pI σ1 h 4 v) (pI σ2 0 15 v) := by
  obtain ⟨W, H1, H3, F1, F2⟩ := P
  exact ⟨upV_wf W (by omega), H1.over, H3.over, F1.pI (by omega), F2.pI (by omega)⟩
theorem PJ.np8 (P : PJ h c C np nw a1 a2 S σ1 σ2) : np ≤ 8 ∧ nw ≤ 6 := ⟨P.1.1, P.1.2.1⟩
theorem PJ.m12 (P : PJ h c C np nw a1 a2 S σ1 σ2) : σ2.1 0 12 = Int32.ofNat np ∧ σ2.1 0 13 = Int32.ofNat nw := ⟨P.2.2.1.1.2.1.2.1, P.2.2.1.1.2.1.2.2⟩
theorem PJ.room (P : PJ h c C np nw a1 a2 S σ1 σ2) : σ1.1 (h + 1) 0 = Int32.ofNat np ∧ σ1.1 (h + 1) 1 = Int32.ofNat nw := ⟨by rw [P.2.1.2.1]; exact P.1.2.2.1, by rw [P.2.1.2.2.1]; exact P.1.2.2.2.1⟩
theorem PJ.told (P : PJ h c C np nw a1 a2 S σ1 σ2) (H1 : ChC a1 k C np nw) (hd : k + 9 ≤ h) : ChC σ1 k C np nw := H1.fr P.2.2.2.1 (by omega)
theorem PJ.end_ {x1 x2 : Mem} (P : PJ h c C np nw a1 a2 S σ1 σ2) (K1 : KC x1 a1) (K2 : KM x2 a2) (hh : 192 ≤ h ∧ h + 13 ≤ 269 ∧ (h + 13 ≤ 220 ∨ 221 ≤ h)) : KC x1 σ1 ∧ KM x2 σ2 := ⟨K1.fr P.2.2.2.1 hh, K2.trans P.2.2.2.2.km⟩
theorem ChC.nn {σ : Mem} (H : ChC σ k C np nw) (W : ChW C np nw) : σ.1 k 0 = Int32.ofNat np ∧ σ.1 k 1 = Int32.ofNat nw := ⟨by rw [H.1]; exact W.1.2.2.1, by rw [H.2.1]; exact W.1.2.2.2.1⟩
/-- a piece sounds -/
theorem sounds_C {σ : Mem} (W : WfV S np nw) (H : HaC σ h S np nw) {p mm : Nat} (hp : p < np) (hm : mm < 64) : fX2_sounds N h (Int32.ofNat p) (Int32.ofNat mm) σ = some (if loudV S nw (Int32.ofNat mm) p < S 5 p then 0 else 1, σ) := by
  have hb : p < 8 := by have := W.1; omega
  unfold fX2_sounds
  rw [has_in (by rw [H.2.1, W.2.2.1]) W.1 hp, ho_bds, if_neg (by decide), loud_C W H hp hm, ho_bds]
  simp only [nz_inb (show p < 2147483648 by omega), hb, decide_true, ho_gdt, nz_nat (show p < 2147483648 by omega), (H.2.2.2.2.1 p hp).2.2.2.1]
  split <;> rfl
end PJS
theorem t_turn {σ1 σ2 : Mem} {N : Nat} (hN : 10000 ≤ N) (R : RR σ1 σ2) (v1 v2 : Int32) : H2 (fX11_turn N 0 v1 v2 σ1) (fX12_turn N v1 v2 σ2) (QU σ1 σ2) := by
  unfold fX11_turn fX12_turn
  refine q_as R v1 v2 (fun j C np nw s2 mm hj hm em W HC HM K => ?_)
  subst em
  unfold fX10_nightsToTurn
  rw [bd_ret]
  refine pj_enter hN W HC (by omega) HM (fun r1 r2 t1 t2 P _ _ _ _ => ?_)
  refine pj_vote hN P hm (fun x b t1 t2 hb hx _ P V1 V2 => ?_)
  have key : ∀ t : Int32, t = (if b = true then 1 else 0) → H2 (fX10_nightsToTurn_b24 N (0 + 220) (Int32.ofNat mm) t t1) (lt_ (if b = true then (1 : Int32) else 0) (fun v3_9 => lt_ 1 (fun v4_10 => fX12_turn_l30 N N (Int32.ofNat mm) v3_9 v4_10 t2))) (QU σ1 σ2) := by
    intro t ht
    unfold fX10_nightsToTurn_b24
    simp only [ho_lte, ← ht]
    refine h2_loop (F1 := fun n (v : Int32) s => fX10_nightsToTurn_l28 N (0 + 220) n (Int32.ofNat mm) t v s) (F2 := fun n (v : Int32) s => fX12_turn_l30 N n (Int32.ofNat mm) t v s) (fun i v s v' s' => v = Int32.ofNat i ∧ v' = Int32.ofNat i ∧ ∃ S, WxV S np ∧ (∀ p, p < np → S 3 p = C 3 p) ∧ PJ (0 + 220 + 1) (610 + 63 * j) C np nw σ1 s2 S s s') 41 ?_ ?_ 40 N N 1 1 t1 1 t2 (by omega) (by omega) (by omega) ⟨rfl, rfl, asT C, wx_asT, fun p _ => asT_at (by omega), P⟩
    · intro n1 n2 i v s v' s' hi ⟨e1, e2, S, X, hO, P⟩ rec
      subst e1 e2
      show H2 (fX10_nightsToTurn_b28 N (0 + 220) (fX10_nightsToTurn_l28 N (0 + 220) n1) (Int32.ofNat mm) t (Int32.ofNat i) s) (fX12_turn_b30 N (fX12_turn_l30 N n2) (Int32.ofNat mm) t (Int32.ofNat i) s') _
      unfold fX10_nightsToTurn_b28 fX12_turn_b30
      rw [if_neg (by rw [z_lt (by omega) (by omega)]; omega), if_neg (by rw [z_lt (by omega) (by omega)]; omega)]
      refine pj_night hN X hO P (fun _ _ t1 t2 P => ?_)
      refine pj_vote hN P hm (fun x b t1 t2 hb hx _ P V1 V2 => ?_)
      have key2 : ∀ y : Int32, y = (if b = true then 1 else 0) → H2 (fX10_nightsToTurn_b58 N (0 + 220) (fX10_nightsToTurn_l28 N (0 + 220) n1) (Int32.ofNat mm) t (Int32.ofNat i) y t1) (if (if b = true then (1 : Int32) else 0) = t then lt_ (Int32.ofNat i + 1) (fun v4_15 => fX12_turn_l30 N n2 (Int32.ofNat mm) t v4_15 t2) else some (Int32.ofNat i, t2)) (QU σ1 σ2) := by
        intro y hy
        unfold fX10_nightsToTurn_b58
        rw [← hy]
        by_cases c1 : y = t
        · rw [if_pos c1, if_pos c1]
          simp only [ho_lte, nz_succ]
          exact rec _ _ _ _ ⟨rfl, rfl, nightV S np, wx_night X, fun p hp => by rw [nightV_ne (by omega)]; exact hO p hp, P⟩
        · rw [if_neg c1, if_neg c1]
          exact ⟨rfl, P.end_ R.kc K (by omega)⟩
      cases b with
      | false => rw [if_pos (hx.mpr rfl)]; exact key2 _ rfl
      | true => rw [if_neg (by rw [hx]; decide)]; exact key2 _ rfl
    · intro n1 n2 v s v' s' ⟨e1, e2, S, X, hO, P⟩
      subst e1 e2
      show H2 (fX10_nightsToTurn_b28 N (0 + 220) (fX10_nightsToTurn_l28 N (0 + 220) n1) (Int32.ofNat mm) t (Int32.ofNat 41) s) (fX12_turn_b30 N (fX12_turn_l30 N n2) (Int32.ofNat mm) t (Int32.ofNat 41) s') _
      unfold fX10_nightsToTurn_b28 fX12_turn_b30
      rw [if_pos (by decide), if_pos (by decide)]
      exact ⟨rfl, P.end_ R.kc K (by omega)⟩
  cases b with
  | false => rw [if_pos (hx.mpr rfl)]; exact key _ rfl
  | true => rw [if_neg (by rw [hx]; decide)]; exact key _ rfl
