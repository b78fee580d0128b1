/-- where the most are, of several the least -/
def bmN (ny : Nat → Nat) : Nat → Nat
  | 0 => 0
  | i + 1 => if ny (bmN ny i) < ny i then i else bmN ny i
theorem bm_lt (ny : Nat → Nat) : ∀ i, 0 < i → bmN ny i < i
  | 0, h => absurd h (Nat.lt_irrefl 0)
  | 1, _ => by
    unfold bmN; unfold bmN
    split <;> omega
  | i + 2, _ => by
    have ih := bm_lt ny (i + 1) (by omega)
    unfold bmN
    split <;> omega
section AFT
variable {N h c np nw : Nat} {C S : Vw} {a1 a2 σ1 σ2 : Mem}
theorem nays_C (hN : 10000 ≤ N) (P : CJ h c C np nw a1 a2 S σ1 σ2) {ny : Nat → Nat} (hny : ∀ p, p < np → σ1.1 (h + 14) p = Int32.ofNat (ny p)) (hb : ∀ p, ny p < 1000) : fX1_mostNays N h σ1 = some (if np = 0 ∨ ny (bmN ny np) = 0 then -1 else Int32.ofNat (bmN ny np), σ1) := by
  have hn := P.1.1
  apply ho_eq
  unfold fX1_mostNays
  simp only [ho_lte]
  refine ho_loop (F := fun n (b : Int32 × Int32) s => fX1_mostNays_l4 N h n b.1 b.2 s) (fun i b s => b.2 = Int32.ofNat i ∧ b.1 = (if i = 0 ∨ ny (bmN ny i) = 0 then -1 else Int32.ofNat (bmN ny i)) ∧ s = σ1) np ?_ ?_ np N 0 (-1, 0) σ1 (by omega) (by omega) ⟨rfl, rfl, rfl⟩
  · rintro n i ⟨a, v⟩ s hi ⟨e1, e2, e3⟩ rec
    dsimp only at e1 e2; subst e1 e2 e3
    simp only [fX1_mostNays_l4, fX1_mostNays_b4, fX1_mostNays_b39, fX1_mostNays_b44, nz_inb (show i < 2147483648 by omega), show i < 8 by omega, decide_true, ho_gdt, nz_nat (show i < 2147483648 by omega), ho_lte, nz_succ]
    rw [P.c0.1, if_neg (show ¬ Int32.ofNat np ≤ Int32.ofNat i by rw [nz_le (by omega) (by omega)]; omega), hny i hi]
    have hi' := hb i
    by_cases q : i = 0 ∨ ny (bmN ny i) = 0
    · rw [if_pos q, if_pos rfl]
      by_cases z : ny i = 0
      · rw [if_pos (show Int32.ofNat (ny i) ≤ 0 by rw [z]; decide)]
        refine rec (_, _) _ ⟨rfl, ?_, rfl⟩
        rw [if_pos]
        right
        simp only [bmN]
        by_cases w : ny (bmN ny i) < ny i
        · omega
        · rw [if_neg w]
          rcases q with q | q
          · subst q; exact z
          · exact q
      · rw [if_neg (show ¬ Int32.ofNat (ny i) ≤ 0 by rw [z_ge (by omega) (by omega)]; omega)]
        have eb : bmN ny (i + 1) = i := by
          simp only [bmN]
          rcases q with q | q
          · subst q; rw [if_neg (by simp only [bmN]; omega)]; rfl
          · rw [if_pos (by omega)]
        refine rec (_, _) _ ⟨rfl, ?_, rfl⟩
        rw [eb, if_neg (by omega)]; rfl
    · rw [if_neg q, if_neg (z_m1 (by have := bm_lt ny i (by omega); omega))]
      have hbm := bm_lt ny i (by omega)
      have hbb := hb (bmN ny i)
      simp only [nz_inb (show bmN ny i < 2147483648 by omega), show bmN ny i < 8 by omega, decide_true, ho_gdt, nz_nat (show bmN ny i < 2147483648 by omega)]
      rw [hny _ (by omega)]
      by_cases w : ny (bmN ny i) < ny i
      · rw [if_neg (show ¬ Int32.ofNat (ny i) ≤ Int32.ofNat (ny (bmN ny i)) by rw [nz_le (by omega) (by omega)]; omega)]
        refine rec (_, _) _ ⟨rfl, ?_, rfl⟩
        have eb : bmN ny (i + 1) = i := by simp only [bmN]; rw [if_pos w]
        rw [eb, if_neg (by omega)]; rfl
      · rw [if_pos (show Int32.ofNat (ny i) ≤ Int32.ofNat (ny (bmN ny i)) by rw [nz_le (by omega) (by omega)]; omega)]
        refine rec (_, _) _ ⟨rfl, ?_, rfl⟩
        have eb : bmN ny (i + 1) = bmN ny i := by simp only [bmN]; rw [if_neg w]
        rw [eb, if_neg (by omega)]; rfl
  · rintro n ⟨a, v⟩ s ⟨e1, e2, e3⟩
    dsimp only at e1 e2; subst e1 e2 e3
    simp only [fX1_mostNays_l4, fX1_mostNays_b4]
    rw [P.c0.1, if_pos (Int32.le_refl _), ho_some]
    exact ⟨rfl, rfl⟩
theorem nays_M (hN : 10000 ≤ N) (hn : np ≤ 8) (h12 : σ2.1 0 12 = Int32.ofNat np) {ny : Nat → Nat} (hny : ∀ p, p < 8 → σ2.1 8 p = Int32.ofNat (ny p)) (hz : ∀ p, np ≤ p → ny p = 0) (hb : ∀ p, ny p < 1000) (v3 v4 v5 : Int32) : fX12_after_b253 N v3 v4 v5 σ2 = some (if v3 = 0 then v4 else if v3 = 2 then v5 else if np = 0 ∨ ny (bmN ny np) = 0 then -1 else Int32.ofNat (bmN ny np), σ2) := by
  apply ho_eq
  unfold fX12_after_b253
  simp only [ho_lte]
  obtain ⟨top, htop⟩ : ∃ top, (np = 0 ∧ top = 1) ∨ (0 < np ∧ top = np) := by
    by_cases z : np = 0
    · exact ⟨1, Or.inl ⟨z, rfl⟩⟩
    · exact ⟨np, Or.inr ⟨by omega, rfl⟩⟩
  refine ho_loop (F := fun n (b : Int32 × Int32) s => fX12_after_l259 N n v3 v4 v5 b.1 b.2 s) (fun i b s => 1 ≤ i ∧ b.2 = Int32.ofNat i ∧ b.1 = Int32.ofNat (bmN ny i) ∧ s = σ2) top ?_ ?_ (top - 1) N 1 (0, 1) σ2 (by omega) (by omega) ⟨by omega, rfl, ?_, rfl⟩
  · rintro n i ⟨a, v⟩ s hi ⟨i1, e1, e2, e3⟩ rec
    dsimp only at e1 e2; subst e1 e2 e3
    have hbm := bm_lt ny i (by omega)
    have h1 := hb i
    have h2 := hb (bmN ny i)
    simp only [fX12_after_l259, fX12_after_b259, fX12_after_b292, nz_inb (show i < 2147483648 by omega), show i < 8 by omega, nz_inb (show bmN ny i < 2147483648 by omega), show bmN ny i < 8 by omega, decide_true, ho_gdt, nz_nat (show i < 2147483648 by omega), nz_nat (show bmN ny i < 2147483648 by omega), ho_lte, nz_succ]
    rw [h12, if_neg (show ¬ Int32.ofNat np ≤ Int32.ofNat i by rw [nz_le (by omega) (by omega)]; omega), hny i (by omega), hny _ (by omega)]
    by_cases w : ny (bmN ny i) < ny i
    · rw [if_neg (show ¬ Int32.ofNat (ny i) ≤ Int32.ofNat (ny (bmN ny i)) by rw [nz_le (by omega) (by omega)]; omega)]
      exact rec (_, _) _ ⟨by omega, rfl, by simp only [bmN]; rw [if_pos w]; rfl, rfl⟩
    · rw [if_pos (show Int32.ofNat (ny i) ≤ Int32.ofNat (ny (bmN ny i)) by rw [nz_le (by omega) (by omega)]; omega)]
      exact rec (_, _) _ ⟨by omega, rfl, by simp only [bmN]; rw [if_neg w]; rfl, rfl⟩
  · rintro n ⟨a, v⟩ s ⟨i1, e1, e2, e3⟩
    dsimp only at e1 e2; subst e1 e2 e3
    have hbm := bm_lt ny top (by omega)
    have h2 := hb (bmN ny top)
    simp only [fX12_after_l259, fX12_after_b259, nz_inb (show bmN ny top < 2147483648 by omega), show bmN ny top < 8 by omega, decide_true, ho_gdt, nz_nat (show bmN ny top < 2147483648 by omega)]
    rw [h12, if_pos (show Int32.ofNat np ≤ Int32.ofNat top by rw [nz_le (by omega) (by omega)]; omega), hny _ (by omega)]
    by_cases q0 : v3 = 0
    · rw [if_pos q0, if_pos q0]; exact ⟨rfl, rfl⟩
    · rw [if_neg q0, if_neg q0]
      by_cases q2 : v3 = 2
      · rw [if_pos q2, if_pos q2]; exact ⟨rfl, rfl⟩
      · rw [if_neg q2, if_neg q2]
        rcases htop with ⟨t1, t2⟩ | ⟨t1, t2⟩
        · subst t2
          have e0 : bmN ny 1 = 0 := by omega
          rw [e0, if_pos (show Int32.ofNat (ny 0) = 0 by rw [hz 0 (by omega)]; rfl), if_pos (Or.inl t1)]
          exact ⟨rfl, rfl⟩
        · subst t2
          by_cases w : ny (bmN ny top) = 0
          · rw [if_pos (show Int32.ofNat (ny (bmN ny top)) = 0 by rw [w]; rfl), if_pos (Or.inr w)]; exact ⟨rfl, rfl⟩
          · rw [if_neg (show ¬ Int32.ofNat (ny (bmN ny top)) = 0 by rw [z_eq (by omega) (by omega)]; exact w), if_neg (by omega)]; exact ⟨rfl, rfl⟩
  · have e0 := bm_lt ny 1 (by omega)
    rw [show bmN ny 1 = 0 by omega]; rfl
/-- nays of a motion are added -/
theorem addn_M (hN : 10000 ≤ N) (hn : np ≤ 8) (h12 : σ2.1 0 12 = Int32.ofNat np) {rc68 : Int32 → Int32 → Int32 → Int32 → Int32 → Mem → Option (Int32 × Mem)} {Q : Int32 → Mem → Prop} {v3 v4 v5 v6 : Int32} {i : Nat}
    (go : ∀ s', (∀ a b, ¬ (a = 8 ∧ b < np) → s'.1 a b = σ2.1 a b) → s'.2 = σ2.2 → (∀ p, p < np → s'.1 8 p = σ2.1 8 p + (if σ2.1 7 p = 2 then 1 else 0)) → Ho (rc68 v3 v4 v5 v6 (Int32.ofNat (i + 1)) s') Q) : Ho (fX12_after_l206 N rc68 N v3 v4 v5 v6 (Int32.ofNat i) 0 σ2) Q := by
  refine ho_loop (F := fun n (v : Int32) s => fX12_after_l206 N rc68 n v3 v4 v5 v6 (Int32.ofNat i) v s) (fun j v s => v = Int32.ofNat j ∧ (∀ a b, ¬ (a = 8 ∧ b < j) → s.1 a b = σ2.1 a b) ∧ s.2 = σ2.2 ∧ (∀ p, p < j → s.1 8 p = σ2.1 8 p + (if σ2.1 7 p = 2 then 1 else 0))) np ?_ ?_ np N 0 0 σ2 (by omega) (by omega) ⟨rfl, fun _ _ _ => rfl, rfl, fun p hp => absurd hp (Nat.not_lt_zero p)⟩
  · rintro n j v s hj ⟨e1, F, F2, h1⟩ rec
    subst e1
    simp only [fX12_after_l206, fX12_after_b206, fX12_after_b239, nz_inb (show j < 2147483648 by omega), show j < 8 by omega, decide_true, ho_gdt, nz_nat (show j < 2147483648 by omega), ho_lte, nz_succ]
    rw [F 0 12 (by omega), h12, if_neg (show ¬ Int32.ofNat np ≤ Int32.ofNat j by rw [nz_le (by omega) (by omega)]; omega), F 7 j (by omega), F 8 j (by omega)]
    have fin : ∀ x : Int32, x = (if σ2.1 7 j = 2 then 1 else 0) → Ho (fX12_after_l206 N rc68 n v3 v4 v5 v6 (Int32.ofNat i) (Int32.ofNat (j + 1)) (pI s 8 j (σ2.1 8 j + x))) Q := by
      intro x hx
      refine rec _ _ ⟨rfl, fun a b hab => ?_, F2, fun p hp => ?_⟩
      · rw [pI_nq (by omega)]; exact F a b (by omega)
      · by_cases e : p = j
        · subst e; rw [pI_eq, hx]
        · rw [pI_nq (by omega)]; exact h1 p (by omega)
    by_cases q : σ2.1 7 j = 2
    · rw [if_pos q]; exact fin 1 (by rw [if_pos q])
    · rw [if_neg q]; exact fin 0 (by rw [if_neg q])
  · rintro n v s ⟨e1, F, F2, h1⟩
    subst e1
    simp only [fX12_after_l206, fX12_after_b206, fX12_after_b247, ho_lte, nz_succ]
    rw [F 0 12 (by omega), h12, if_pos (Int32.le_refl _)]
    exact go s F F2 h1
end AFT
theorem mx_nat {a b : Nat} (ha : a < 2147483648) (hb : b < 2147483648) : mxI (Int32.ofNat a) (Int32.ofNat b) = Int32.ofNat (if a < b then b else a) := by
  unfold mxI
  by_cases q : a < b
  · rw [if_pos (by rw [nz_lt ha hb]; exact q), if_pos q]
  · rw [if_neg (by rw [nz_lt ha hb]; exact q), if_neg q]
abbrev AfQ (h : Nat) (a1 a2 : Mem) : Int32 → Mem → Int32 → Mem → Prop := fun r1 s1 r2 s2 => r1 = r2 ∧ FrC h (h + 15) a1 s1 ∧ KM a2 s2
theorem after_2 {σ1 s2 : Mem} {N h c k dd qp np nw n : Nat} {C : Vw} (hN : 10000 ≤ N) (W : ChW C np nw) (HC : ChC σ1 k C np nw) (hd : k + 9 ≤ h) (HM : HcM s2 c C np nw) (E0 : SeR σ1 dd s2 qp) (hd2 : dd + 4 ≤ h) (hqp : qp ≤ 3000) (h23 : s2.1 0 23 = Int32.ofNat qp) (n1 : n ≤ 40) (n2 : σ1.1 dd 0 = Int32.ofNat n) (v3 : Int32) (c0 : 0 ≤ v3.toInt ∧ v3.toInt ≤ 2) :
    H2 (bd (fX1_follow N h k dd (Int32.ofNat n) σ1) (fun r10 s11 => if v3 = 0 then some (s11.1 h 5, s11) else if v3 = 1 then bd (fX1_mostNays N h s11) (fun r12 s13 => some (r12, s13)) else if v3 = 2 then some (s11.1 h 4, s11) else some (-2, s11))) (fX12_after_l31 N N v3 0 s2) (AfQ h σ1 s2) := by
  have hn := W.1.1
  -- nays of the reference are none first
  apply h2_rr
  refine ho_loop (F := fun m (v : Int32) s => fX12_after_l31 N m v3 v s) (fun i v s => v = Int32.ofNat i ∧ (∀ a b, a ≠ 8 → s.1 a b = s2.1 a b) ∧ (∀ p, p < i → s.1 8 p = 0)) 8 ?_ ?_ 8 N 0 0 s2 (by omega) (by omega) ⟨rfl, fun _ _ _ => rfl, fun p hp => absurd hp (Nat.not_lt_zero p)⟩
  · rintro m i v s hi ⟨e1, F, h1⟩ rec
    subst e1
    simp only [fX12_after_l31, fX12_after_b31, nz_inb (show i < 2147483648 by omega), hi, decide_true, ho_gdt, nz_nat (show i < 2147483648 by omega), ho_lte, nz_succ]
    rw [if_neg (show ¬ (8 : Int32) ≤ Int32.ofNat i by rw [z_le (by omega) (by omega)]; omega)]
    refine rec _ _ ⟨rfl, fun a b ha => ?_, fun p hp => ?_⟩
    · rw [pI_nq (by omega)]; exact F a b ha
    · by_cases e : p = i
      · subst e; exact pI_eq
      · rw [pI_nq (by omega)]; exact h1 p (by omega)
  · rintro m v s ⟨e1, F, h1⟩
    subst e1
    simp only [fX12_after_l31, fX12_after_b31, ho_lte]
    rw [if_pos (by decide)]
    apply h2_swap.mp
    have HM' : HcM s c C np nw := HM.ag (by funext b; exact F 1 b (by omega)) (fun b _ _ => F 0 b (by omega))
    have K' : KM s2 s := ⟨by funext b; exact F 1 b (by omega), by funext b; exact F 2 b (by omega)⟩
    have E' : SeR σ1 dd s (qp) := E0.ag (fun _ _ _ => rfl) (by funext b; exact F 1 b (by omega))
    have s23 : s.1 0 23 = Int32.ofNat (qp) := by rw [F 0 23 (by omega)]; exact h23
    unfold fX1_follow
    rw [bd_bd]
    simp only [ho_lte]
    apply h2_lr
    refine h2_mono (begin_2 (h := h) hN W HC hd HM') (fun _ t1 _ t2 ⟨P, B, ⟨b1, b2, b3, b4, b5, b6⟩, z26, ny0⟩ => ?_)
    have fin : ∀ (r x4 x5 : Int32) (u1 u2 : Mem) (ny : Nat → Nat), (∃ S', CJ h c C np nw σ1 s S' u1 u2) → u1.1 h 5 = x4 → u1.1 h 4 = x5 → (∀ p, p < np → u1.1 (h + 14) p = Int32.ofNat (ny p)) → (∀ p, p < 8 → u2.1 8 p = Int32.ofNat (ny p)) → (∀ p, np ≤ p → ny p = 0) → (∀ p, ny p < 1000) → H2 (if v3 = 0 then some (u1.1 h 5, u1) else if v3 = 1 then bd (fX1_mostNays N h u1) (fun r12 s13 => some (r12, s13)) else if v3 = 2 then some (u1.1 h 4, u1) else some (-2, u1)) (fX12_after_b253 N v3 x4 x5 u2) (AfQ h σ1 s2) := by
      intro r x4 x5 u1 u2 ny ⟨S', Pu⟩ q4 q5 qa qb qz qn
      have Z : FrC h (h + 15) σ1 u1 ∧ KM s2 u2 := ⟨Pu.2.2.2.2.2.2.1, K'.trans Pu.2.2.2.2.2.2.2⟩
      rw [nays_M hN hn Pu.c0.2.2.1 qb qz qn, nays_C hN Pu qa qn, bd_ret, q4, q5]
      obtain ⟨x, x1, x2, x3⟩ := z_of (v := v3) (a := 0) (b := 2) c0
      subst x3
      have cs : x = 0 ∨ x = 1 ∨ x = 2 := by omega
      rcases cs with e | e | e <;> subst e
      · rw [if_pos (show Int32.ofNat 0 = 0 from rfl), if_pos (show Int32.ofNat 0 = 0 from rfl)]; exact ⟨rfl, Z⟩
      · rw [if_neg (show ¬ Int32.ofNat 1 = 0 by decide), if_pos (show Int32.ofNat 1 = 1 from rfl), if_neg (show ¬ Int32.ofNat 1 = 0 by decide), if_neg (show ¬ Int32.ofNat 1 = 2 by decide)]; exact ⟨rfl, Z⟩
      · rw [if_neg (show ¬ Int32.ofNat 2 = 0 by decide), if_neg (show ¬ Int32.ofNat 2 = 1 by decide), if_pos (show Int32.ofNat 2 = 2 from rfl), if_neg (show ¬ Int32.ofNat 2 = 0 by decide), if_pos (show Int32.ofNat 2 = 2 from rfl)]; exact ⟨rfl, Z⟩
    refine h2_loop (F1 := fun m (v : Int32) s => bd (fX1_follow_l8 N h m dd (Int32.ofNat n) v s) (fun r10 s11 => if v3 = 0 then some (s11.1 h 5, s11) else if v3 = 1 then bd (fX1_mostNays N h s11) (fun r12 s13 => some (r12, s13)) else if v3 = 2 then some (s11.1 h 4, s11) else some (-2, s11))) (F2 := fun m (b : Int32 × Int32 × Int32 × Int32) s => fX12_after_l68 N m v3 b.1 b.2.1 b.2.2.1 b.2.2.2 s) (fun i v u1 b u2 => v = Int32.ofNat i ∧ b.2.2.2 = Int32.ofNat i ∧ u2.1 0 23 = Int32.ofNat (qp) ∧ (∃ S', CJ h c C np nw σ1 s S' u1 u2) ∧ u1.1 h 5 = b.1 ∧ u1.1 h 4 = b.2.1 ∧ u1.1 h 3 = b.2.2.1 ∧ ∃ (L T pq : Nat) (ny : Nat → Nat), b.2.1 = Int32.ofNat L ∧ L ≤ i ∧ b.2.2.1 = Int32.ofNat T ∧ T ≤ i ∧ u2.1 0 25 = Int32.ofNat pq ∧ pq ≤ i ∧ (∀ p, p < np → u1.1 (h + 14) p = Int32.ofNat (ny p)) ∧ (∀ p, p < 8 → u2.1 8 p = Int32.ofNat (ny p)) ∧ (∀ p, np ≤ p → ny p = 0) ∧ (∀ p, ny p ≤ i)) n ?_ ?_ n N N 0 0 t1 (-1, 0, 0, 0) t2 (by omega) (by omega) (by omega) ⟨rfl, rfl, by rw [B.1 0 23 (by omega) (by omega)]; exact s23, ⟨_, P⟩, b5, b4, b3, 0, 0, 0, fun _ => 0, rfl, by omega, rfl, by omega, by rw [← P.2.2.2.2.2.1.2.1]; exact b2, by omega, fun p hp => by rw [ny0 p (by omega)]; rfl, fun p hp => by rw [B.1 8 p (by omega) (by omega), h1 p hp]; rfl, fun _ _ => rfl, fun _ => Nat.le_refl 0⟩
    · rintro m1 m2 i v u1 ⟨x4, x5, x6, x7⟩ u2 hi ⟨e1, e2, e23, ⟨S', P⟩, f4, f5, f6, L, T, pq, ny, g1, g2, g3, g4, g5, g6, g7, g8, g9, g10⟩ rec
      dsimp only at e2 f4 f5 f6 g1 g3
      subst e1 e2
      obtain ⟨m', m1', m2', m3', m4'⟩ := P.sess E' (by omega)
      have sz : u1.1 dd 0 = Int32.ofNat n := by rw [P.2.2.2.2.2.2.1.1 _ (by omega)]; exact n2
      have hmn : m' = n := by rw [sz, nz_inj (by omega) (by omega)] at m2'; exact m2'.symm
      subst hmn
      obtain ⟨t, xa, xb, d1, d2, d3, d4, d5, d6, d7, d8⟩ := m4' i hi
      simp only [fX1_follow_l8, fX12_after_l68, fX1_follow_b8, fX12_after_b68, fX1_follow_b80, e23]
      rw [show (3 : Int32) * Int32.ofNat i = Int32.ofNat (3 * i) from nz_mul, show Int32.ofNat (qp) + 1 = Int32.ofNat (qp + 1) from nz_succ, show Int32.ofNat (qp + 1) + Int32.ofNat (3 * i) = Int32.ofNat (qp + 1 + 3 * i) from nz_add]
      have hA : qp + 1 + 3 * i ≤ 4000 := by omega
      generalize qp + 1 + 3 * i = aA at d4 d5 d6 hA ⊢
      have ge : ∀ (x : Nat), x < 4176 → ∀ (κ : Option (Int32 × Mem)), gd (inb (Int32.ofNat x) 4176) κ = κ := fun x hx κ => by rw [nz_inb (by omega), decide_eq_true hx]; rfl
      simp only [ho_lte, nz_inb (show i < 2147483648 by omega), show i < 40 by omega, decide_true, ho_gdt, nz_nat (show i < 2147483648 by omega)]
      rw [ge qp (by omega), ge aA (by omega), show Int32.ofNat aA + 1 = Int32.ofNat (aA + 1) from nz_succ, show Int32.ofNat aA + 2 = Int32.ofNat (aA + 2) from nz_add, ge (aA + 1) (by omega), ge (aA + 2) (by omega), nz_nat (show qp < 2147483648 by omega), nz_nat (show aA < 2147483648 by omega), nz_nat (show aA + 1 < 2147483648 by omega), nz_nat (show aA + 2 < 2147483648 by omega)]
      simp only [nz_succ]
      rw [sz, m3', d1, d2, d3, d4, d5, d6, if_neg (show ¬ Int32.ofNat m' ≤ Int32.ofNat i by rw [nz_le (by omega) (by omega)]; omega), if_neg (show ¬ Int32.ofNat m' ≤ Int32.ofNat i by rw [nz_le (by omega) (by omega)]; omega), if_neg (show ¬ Int32.ofNat m' ≤ Int32.ofNat i by rw [nz_le (by omega) (by omega)]; omega), bd_bd, g5]
      apply h2_lr
      refine h2_mono (does_2 hN P rfl d7 d8) (fun r1 w1 r2 w2 ⟨y1, y2, ⟨S'', P'⟩, D⟩ => ?_)
      subst y1
      have FS := D.fr
      have h56 := D.h56
      have w23 : w2.1 0 23 = Int32.ofNat (qp) := by rw [FS.1 0 23 (by omega) (by omega)]; exact e23
      have w8 : ∀ p, w2.1 8 p = u2.1 8 p := fun p => FS.1 8 p (by omega) (by omega)
      have w1c : w2.1 1 = u2.1 1 := FS.km.1
      have c15 : w1.1 (h + 1) 4 = w2.1 0 15 := by rw [P'.2.2.2.1.1, P'.2.2.2.2.1.2.1.2]
      by_cases z : r1 = 0
      · rw [if_pos z, if_pos z, ho_bds]
        rcases D with ⟨t0, dn⟩ | ⟨t0, tr, b, dp⟩
        · refine fin (Int32.ofNat 0) _ _ _ _ ny ⟨_, P'⟩ (by rw [dn.1]; exact f4) (by rw [dn.1]; exact f5) (fun p hp => by rw [dn.2.1]; exact g7 p hp) (fun p hp => by rw [w8]; exact g8 p hp) g9 (fun p => by have := g10 p; omega)
        · rw [z] at tr; exact absurd tr (by decide)
      · rw [if_neg z, if_neg z]
        -- what goes on, falls being told
        have nx : ∀ (x4' : Int32) (k1 : Mem), (∀ a b, ¬ (a = h ∧ b = 5) → k1.1 a b = w1.1 a b) → k1.1 h 5 = x4' → CJ h c C np nw σ1 s S'' k1 w2 → H2 (bd (fX1_follow_l8 N h m1 dd (Int32.ofNat m') (Int32.ofNat (i + 1)) k1) (fun r10 s11 => if v3 = 0 then some (s11.1 h 5, s11) else if v3 = 1 then bd (fX1_mostNays N h s11) (fun r12 s13 => some (r12, s13)) else if v3 = 2 then some (s11.1 h 4, s11) else some (-2, s11))) (fX12_after_b155 N (fX12_after_l68 N m2) v3 x4' x5 x6 (Int32.ofNat i) (Int32.ofNat (aA)) (Int32.ofNat pq) w2) (AfQ h σ1 s2) := by
          intro x4' k1 kf k5 Pk
          unfold fX12_after_b155
          simp only [nz_inb (show aA < 2147483648 by omega), show aA < 4176 by omega, decide_true, ho_gdt, nz_nat (show aA < 2147483648 by omega)]
          rw [w1c, d4]
          rcases D with ⟨t0, dn⟩ | ⟨t0, tr, b, dp⟩
          · rw [if_neg (show ¬ Int32.ofNat t = 0 by rw [z_eq (by omega) (by omega)]; exact t0)]
            unfold fX12_after_b247
            simp only [ho_lte, nz_succ]
            refine rec _ _ (_, _, _, _) _ ⟨rfl, rfl, w23, ⟨_, Pk⟩, k5, ?_, ?_, L, T, pq, ny, g1, by omega, g3, by omega, ?_, by omega, fun p hp => ?_, fun p hp => ?_, g9, fun p => by have := g10 p; omega⟩
            · rw [kf _ _ (by omega), dn.1]; exact f5
            · rw [kf _ _ (by omega), dn.1]; exact f6
            · rw [← P'.2.2.2.2.2.1.2.1, dn.1, P.2.2.2.2.2.1.2.1]; exact g5
            · rw [kf _ _ (by omega), dn.2.1]; exact g7 p hp
            · rw [w8]; exact g8 p hp
          · subst t0
            rw [if_pos (show Int32.ofNat 0 = 0 from rfl)]
            have pas : w2.1 0 25 = Int32.ofNat pq + (if b = true then 1 else 0) := by
              rw [← P'.2.2.2.2.2.1.2.1, dp.2.2.1, P.2.2.2.2.2.1.2.1, g5]
            have p3 : w1.1 h 3 = (if b = true then x6 + 1 else 0) := by rw [dp.2.2.2.1, f6]
            have p4 : w1.1 h 4 = (if b = true then mxI x5 (x6 + 1) else x5) := by rw [dp.2.2.2.2.1, f5, f6]
            let ny' : Nat → Nat := fun p => ny p + (if p < np ∧ w2.1 7 p = 2 then 1 else 0)
            have nyC : ∀ p, p < np → k1.1 (h + 14) p = Int32.ofNat (ny' p) := by
              intro p hp
              rw [kf _ _ (by omega), dp.2.2.2.2.2 p hp, g7 p hp]
              show _ = Int32.ofNat (ny p + (if p < np ∧ w2.1 7 p = 2 then 1 else 0))
              by_cases w : w2.1 7 p = 2
              · rw [if_pos w, if_pos ⟨hp, w⟩, nz_succ]
              · rw [if_neg w, if_neg (fun q => w q.2)]; exact Int32.add_zero _
            have nyz : ∀ p, np ≤ p → ny' p = 0 := by
              intro p hp
              show ny p + (if p < np ∧ w2.1 7 p = 2 then 1 else 0) = 0
              rw [g9 p hp, if_neg (by omega)]
            have nyl : ∀ p, ny' p ≤ i + 1 := by
              intro p
              show ny p + (if p < np ∧ w2.1 7 p = 2 then 1 else 0) ≤ i + 1
              have := g10 p
              split <;> omega
            -- behind the streak
            have tail : ∀ (x5' x6' : Int32) (L' T' pq' : Nat), x5' = Int32.ofNat L' → L' ≤ i + 1 → x6' = Int32.ofNat T' → T' ≤ i + 1 → w2.1 0 25 = Int32.ofNat pq' → pq' ≤ i + 1 → k1.1 h 4 = x5' → k1.1 h 3 = x6' → H2 (bd (fX1_follow_l8 N h m1 dd (Int32.ofNat m') (Int32.ofNat (i + 1)) k1) (fun r10 s11 => if v3 = 0 then some (s11.1 h 5, s11) else if v3 = 1 then bd (fX1_mostNays N h s11) (fun r12 s13 => some (r12, s13)) else if v3 = 2 then some (s11.1 h 4, s11) else some (-2, s11))) (fX12_after_b201 N (fX12_after_l68 N m2) v3 x4' x6' (Int32.ofNat i) x5' w2) (AfQ h σ1 s2) := by
              intro x5' x6' L' T' pq' q1 q2 q3 q4 q5 q6 q7 q8
              unfold fX12_after_b201
              simp only [ho_lte]
              apply h2_rr
              refine addn_M hN hn P'.c0.2.2.1 (fun s' G1 G2 G3 => ?_)
              have Pg : CJ h c C np nw σ1 s S'' k1 s' := by
                obtain ⟨W', X', O', H1, H3, ⟨p1, p2, p3', p4'⟩, F1, K2⟩ := Pk
                refine ⟨W', X', O', H1, H3.ag ⟨by funext b; exact G1 _ _ (by omega), by funext b; exact G1 _ _ (by omega), by funext b; exact G1 _ _ (by omega), by funext b; exact G1 _ _ (by omega), fun b _ _ => G1 _ _ (by omega)⟩, ⟨?_, ?_, ?_, ?_⟩, F1, K2.trans ⟨by funext b; exact G1 _ _ (by omega), by funext b; exact G1 _ _ (by omega)⟩⟩
                · rw [G1 _ _ (by omega)]; exact p1
                · rw [G1 _ _ (by omega)]; exact p2
                · rw [G1 _ _ (by omega)]; exact p3'
                · rw [G1 _ _ (by omega)]; exact p4'
              refine h2_swap.mp (rec _ _ (_, _, _, _) _ ⟨rfl, rfl, by rw [G1 _ _ (by omega)]; exact w23, ⟨_, Pg⟩, k5, q7, q8, L', T', pq', ny', q1, q2, q3, q4, by rw [G1 _ _ (by omega)]; exact q5, q6, nyC, fun p hp => ?_, nyz, nyl⟩)
              show _ = Int32.ofNat (ny p + (if p < np ∧ w2.1 7 p = 2 then 1 else 0))
              by_cases hp' : p < np
              · rw [G3 p hp', w8, g8 p hp]
                by_cases w : w2.1 7 p = 2
                · rw [if_pos w, if_pos ⟨hp', w⟩, nz_succ]
                · rw [if_neg w, if_neg (fun q => w q.2)]; exact Int32.add_zero _
              · rw [G1 _ _ (by omega), w8, g8 p hp, if_neg (by omega)]; rfl
            unfold fX12_after_b185
            simp only [ho_lte]
            cases b with
            | false =>
              rw [pas, show (if false = true then (1 : Int32) else 0) = 0 from rfl, Int32.add_zero, if_pos (Int32.le_refl _), if_pos (show (0 : Int32) ≤ x5 by rw [g1, z_le (by omega) (by omega)]; omega)]
              exact tail _ _ L 0 pq g1 (by omega) rfl (by omega) (by rw [pas]; exact Int32.add_zero _) (by omega) (by rw [kf _ _ (by omega), p4]; rfl) (by rw [kf _ _ (by omega), p3]; rfl)
            | true =>
              have e1 : w2.1 0 25 = Int32.ofNat (pq + 1) := by rw [pas, show (if true = true then (1 : Int32) else 0) = 1 from rfl, nz_succ]
              rw [e1, if_neg (show ¬ Int32.ofNat (pq + 1) ≤ Int32.ofNat pq by rw [nz_le (by omega) (by omega)]; omega)]
              have p3' : w1.1 h 3 = Int32.ofNat (T + 1) := by rw [p3, if_pos rfl, g3, nz_succ]
              have p4' : w1.1 h 4 = Int32.ofNat (if L < T + 1 then T + 1 else L) := by rw [p4, if_pos rfl, g1, g3, nz_succ, mx_nat (by omega) (by omega)]
              rw [g1, g3, nz_succ]
              by_cases w : L < T + 1
              · rw [if_neg (show ¬ Int32.ofNat (T + 1) ≤ Int32.ofNat L by rw [nz_le (by omega) (by omega)]; omega)]
                exact tail _ _ (T + 1) (T + 1) (pq + 1) rfl (by omega) rfl (by omega) e1 (by omega) (by rw [kf _ _ (by omega), p4', if_pos w]) (by rw [kf _ _ (by omega), p3'])
              · rw [if_pos (show Int32.ofNat (T + 1) ≤ Int32.ofNat L by rw [nz_le (by omega) (by omega)]; omega)]
                exact tail _ _ L (T + 1) (pq + 1) rfl (by omega) rfl (by omega) e1 (by omega) (by rw [kf _ _ (by omega), p4', if_neg w]) (by rw [kf _ _ (by omega), p3'])
        rw [h56.1, f4, c15]
        by_cases w4 : x4 = -1
        · rw [if_pos w4, if_pos w4]
          by_cases w15 : w2.1 0 15 = 0
          · rw [if_pos w15, if_pos w15]
            exact nx _ _ (fun _ _ _ => rfl) (by rw [h56.1]; exact f4) P'
          · rw [if_neg w15, if_neg w15]
            exact nx _ _ (fun a b hab => pI_nq (by omega)) pI_eq (P'.p5 (by omega))
        · rw [if_neg w4, if_neg w4]
          exact nx _ _ (fun _ _ _ => rfl) (by rw [h56.1]; exact f4) P'
    · rintro m1 m2 v u1 ⟨x4, x5, x6, x7⟩ u2 ⟨e1, e2, e23, ⟨S', P⟩, f4, f5, f6, L, T, pq, ny, g1, g2, g3, g4, g5, g6, g7, g8, g9, g10⟩
      dsimp only at e2 f4 f5 f6 g1 g3
      subst e1 e2
      obtain ⟨m', m1', m2', m3', m4'⟩ := P.sess E' (by omega)
      have sz : u1.1 dd 0 = Int32.ofNat n := by rw [P.2.2.2.2.2.2.1.1 _ (by omega)]; exact n2
      have hmn : m' = n := by rw [sz, nz_inj (by omega) (by omega)] at m2'; exact m2'.symm
      subst hmn
      simp only [fX1_follow_l8, fX12_after_l68, fX1_follow_b8, fX12_after_b68, fX1_follow_b86, e23, nz_inb (show qp < 2147483648 by omega), show qp < 4176 by omega, decide_true, ho_gdt, nz_nat (show qp < 2147483648 by omega)]
      rw [m3', if_pos (Int32.le_refl _), if_pos (Int32.le_refl _), ho_bds]
      exact fin (Int32.ofNat 0) _ _ _ _ ny ⟨_, P⟩ f4 f5 g7 g8 g9 (fun p => by have := g10 p; omega)
theorem t_after {σ1 σ2 : Mem} {N : Nat} (hN : 10000 ≤ N) (R : RR σ1 σ2) (v1 v2 v3 : Int32) : H2 (fX11_after N 0 v1 v2 v3 σ1) (fX12_after N v1 v2 v3 σ2) (QU σ1 σ2) := by
  unfold fX11_after fX12_after
  refine q_se R v1 v2 (fun j i0 C np nw s2 hj hi0 W HC HM K E h23 => ?_)
  have E0 := E
  obtain ⟨n, n1, n2, n3, n4⟩ := E
  rw [n2, isIn_Z, ho_bds]
  simp only [ite10, Int32.reduceToInt]
  by_cases c0 : 0 ≤ v3.toInt ∧ v3.toInt ≤ 2
  · rw [if_neg (show ¬ ¬ (0 ≤ v3.toInt ∧ v3.toInt ≤ 2) from fun z => z c0)]
    simp only [ho_lte]
    refine h2_mono (after_2 (h := 0 + 205) hN W HC (by omega) HM E0 (by omega) (by omega) h23 n1 n2 v3 c0) (fun r1 t1 r2 t2 ⟨e1, e2, e3⟩ => ⟨e1, R.kc.fr e2 (by omega), K.trans e3⟩)
  · rw [if_pos c0]
    have Fo := follow_2 hN W HC (show 7 + 9 * j + 9 ≤ 0 + 205 by omega) HM E0 (by omega) (by omega) h23 (Int32.ofNat n) 40 n n n2 n1 (Nat.le_refl n) (fun i hi => by rw [nz_le (by omega) (by omega)]; omega) (fun i hi => by rw [z_le (by omega) (by omega)]; omega) (Or.inr rfl) (Or.inr rfl) mn_self
    apply h2_l
    refine ho_mono (h2_pl Fo) (fun r1 t1 ⟨_, t2, i, S, i1, i2, i3, P⟩ => ?_)
    have nz : ∀ m : Nat, m < 3 → ¬ v3 = Int32.ofNat m := fun m hm e => by
      have := congrArg Int32.toInt e
      rw [nz_toInt (by omega)] at this; omega
    rw [if_neg (show ¬ v3 = 0 from nz 0 (by omega)), if_neg (show ¬ v3 = 1 from nz 1 (by omega)), if_neg (show ¬ v3 = 2 from nz 2 (by omega))]
    exact ⟨rfl, (P.fin R.kc K rfl).1, K⟩
