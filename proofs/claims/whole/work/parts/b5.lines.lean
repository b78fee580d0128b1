/-! Lines: what is common. -/
def QLn (B : Nat → Nat) (n : Nat) (D : Mem → Mem → Prop) (a1 a2 : Mem) (s0 : Nat) : Unit → Mem → Unit → Mem → Prop := fun _ t1 _ t2 => GC a1 t1 ∧ GM a2 t2 ∧ ((∃ p, WrE p t1 t2) ∨ ∃ s', s0 < s' ∧ PS B n s' t1 t2 ∧ FJ s' t1 t2 ∧ D t1 t2)
def WrG (s : Nat) (a2 t : Mem) : Prop := t.1 0 8 = 1 ∧ t.1 1 5 = 1 ∧ t.1 1 6 = Int32.ofNat s ∧ GM a2 t
def KK (N : Nat) (v3 v4 : Int32) : Int32 → Mem → Option (Unit × Mem) := fun r21 s22 => if r21 = 0 then fX6_readLine_b86 N 171 s22 else if (s22.1 171 7) = 3 then bd (fX6_advance N 171 s22) (fun _ s24 => bd (fX6_addLine N 171 v3 v4 s24) (fun _ s26 => some ((), s26))) else fX6_readLine_b86 N 171 s22
section LINES
variable {N : Nat} {B : Nat → Nat} {n s s0 : Nat} {σ σ1 σ2 a1 a2 : Mem} {D : Mem → Mem → Prop}
theorem tk_mark : (tkC B n s = 3 ∧ tkM B n s = 2 ∧ s < n) ∨ (¬ tkC B n s = 3 ∧ ¬ tkM B n s = 2) := by
  unfold tkC tkM
  by_cases a : s < n
  · rw [if_pos a, if_pos a]
    by_cases b : isL (B s) = true
    · rw [if_pos b, if_pos b]; right
      refine ⟨by decide, ?_⟩
      split <;> decide
    · rw [if_neg b, if_neg b]
      by_cases d : isD (B s) = true
      · rw [if_pos d, if_pos d]; right
        split <;> exact ⟨by decide, by decide⟩
      · rw [if_neg d, if_neg d]
        by_cases e : B s = 59
        · rw [if_pos e, if_pos e]; left; exact ⟨rfl, rfl, a⟩
        · rw [if_neg e, if_neg e]; right; exact ⟨by decide, by decide⟩
  · rw [if_neg a, if_neg a]; right; exact ⟨by decide, by decide⟩
theorem WrM.g {t : Mem} (h : WrM s σ2 t) (G : GM a2 σ2) : WrG s a2 t := ⟨h.1, h.2.1, h.2.2.1, G.trans h.2.2.2.gm⟩
theorem WrG.w {t u : Mem} (h : WrG s a2 t) (w : ∀ k j, k ≠ 3 → ¬ (k = 0 ∧ j = 9) → u.1 k j = t.1 k j) : WrG s a2 u := ⟨by rw [w _ _ (by omega) (by omega)]; exact h.1, by rw [w _ _ (by omega) (by omega)]; exact h.2.1, by rw [w _ _ (by omega) (by omega)]; exact h.2.2.1, h.2.2.2.trans ⟨fun j _ _ => w _ _ (by omega) (by omega), fun j => w _ _ (by omega) (by omega)⟩⟩
theorem bad_J {κ : Option (Unit × Mem)} (P : PS B n s σ1 σ2) (G1 : GC a1 σ1) (h : Ho κ (fun _ t => WrG s a2 t)) : H2 (fX6_readLine_b86 N 171 σ1) κ (QLn B n D a1 a2 s0) := by
  obtain ⟨t1, r1, r2, r3, r4⟩ := refuse_C (N := N) P
  unfold fX6_readLine_b86
  rw [r1, ho_bds]
  apply h2_sl
  exact ho_mono h (fun _ t w => ⟨G1.trans r4, w.2.2.2, Or.inl ⟨s, r2, r3, w.1, w.2.1, w.2.2.1⟩⟩)
theorem fin_J {v3 v4 : Int32} (hN : 10000 ≤ N) (P : PS B n s σ1 σ2) (Fj : FJ s σ1 σ2) (G1 : GC a1 σ1) (G2 : GM a2 σ2) (h0 : s0 ≤ s) (hn : n < 900)
    (add : ∀ t1 t2, FrLC σ1 t1 → FrLM σ2 t2 → Ho (fX6_addLine N 171 v3 v4 t1) (fun _ u => (∀ k j, ¬ (172 ≤ k ∧ k ≤ 190) → u.1 k j = t1.1 k j) ∧ D u t2)) :
    H2 (KK N v3 v4 1 σ1) (fX12_endsLine N σ2) (QLn B n D a1 a2 s0) := by
  unfold KK fX12_endsLine fX12_endsLine_b22
  have LC := P.2.2.2.1
  have LM := P.2.2.2.2
  rw [if_neg (show ¬ (1 : Int32) = 0 by decide), if_pos Fj.1, LC.2.2.1, LM.2.2.1]
  rcases tk_mark (B := B) (n := n) (s := s) with ⟨c1, c2, c3⟩ | ⟨c1, c2⟩
  · rw [if_pos c1, if_pos c2]
    refine adv_J hN P (fun s' t1 t2 h1 h2 P' F1 F2 => ?_)
    have ss := h2 c3
    have sn := P'.2.2.1
    apply h2_l
    refine ho_mono (add t1 t2 F1 F2) (fun _ u ⟨A, d⟩ => ?_)
    have P2 : PS B n s' u t2 := P'.ag (fun j _ _ => A _ _ (by omega)) (fun j => A _ _ (by omega)) (fun _ _ _ => rfl) (fun _ _ => rfl)
    have F3 : FJ s' u t2 := ((Fj.fr F1 F2).ag (A _ _ (by omega)) (A _ _ (by omega)) rfl rfl rfl).mono (by omega) (by omega)
    exact ⟨(G1.trans F1.toA.gc).trans (fun k j h => A k j (by omega)), G2.trans F2.toB.gm, Or.inr ⟨s', by omega, P2, F3, d⟩⟩
  · rw [if_neg c1, if_neg c2]
    obtain ⟨t2, e1, e2⟩ := ends_M (N := N) P Fj.1
    refine bad_J (N := N) P G1 ?_
    rw [e1, ho_bds]
    exact e2.g G2
theorem l33_end {row cnt m : Nat} (hc : rngT.getD row 0 = Int32.ofNat cnt) (h4 : cnt ≤ 4 ∧ row + 9 ≤ 153) : fX6_readNumbers_l33 N 171 (m + 1) (Int32.ofNat row) (Int32.ofNat cnt) σ = some (1, σ) := by
  simp only [fX6_readNumbers_l33]
  unfold fX6_readNumbers_b33
  rw [gdT (inb_k (show row < 153 by omega) (by omega)), nz_nat (by omega), hc, if_pos (Int32.le_refl _)]
theorem rn_eq {k M : Nat} {v4 : Int32} (hM : N = M + 5) (hk : k < 17) : fX6_readLine_b70 N 171 (Int32.ofNat k) v4 σ = bd (fX6_readNumbers_l33 N 171 (M + 1 + 1 + 1 + 1 + 1) (Int32.ofNat (k * 9)) (Int32.ofNat 0) (pI (pI σ 191 0 (-1)) 191 1 (-1))) (KK N (Int32.ofNat k) v4) := by
  have e0 : fX6_readLine_b70 N 171 (Int32.ofNat k) v4 σ = bd (fX6_readNumbers N 171 (Int32.ofNat k) σ) (KK N (Int32.ofNat k) v4) := rfl
  rw [e0]
  unfold fX6_readNumbers
  rw [if_neg (z_neg (by omega)), if_pos (show Int32.ofNat k < 17 by rw [z_gt (by omega) (by omega)]; exact hk)]
  simp only [ho_lte]
  rw [gdT (show inb 0 4 = true by decide), gdT (show inb 1 4 = true by decide), show (9 : Int32) = Int32.ofNat 9 from rfl, nz_mul, show M + 1 + 1 + 1 + 1 + 1 = N by omega]
  rfl
theorem PS.nums {x y : Int32} (P : PS B n s σ1 σ2) : PS B n s (pI (pI σ1 191 0 x) 191 1 y) σ2 := P.ag (fun j _ _ => by rw [pI_nq (by omega), pI_nq (by omega)]) (fun j => by rw [pI_nq (by omega), pI_nq (by omega)]) (fun _ _ _ => rfl) (fun _ _ => rfl)
theorem FJ.nums {x y : Int32} (F : FJ s σ1 σ2) : FJ s (pI (pI σ1 191 0 x) 191 1 y) σ2 := F.ag (by rw [pI_nq (by omega), pI_nq (by omega)]) (by rw [pI_nq (by omega), pI_nq (by omega)]) rfl rfl rfl
theorem FrAc.nums {x y : Int32} : FrAc σ1 (pI (pI σ1 191 0 x) 191 1 y) := fun k j h1 h2 => by rw [pI_nq (by omega), pI_nq (by omega)]
/-- is there room: a note if not -/
theorem full_J {c cap at0 : Nat} {hd : Int32} {v4 : Int32} {κ : Mem → Option (Unit × Mem)} (hF : fX6_isFull N 171 hd σ1 = some (if c < cap then 0 else 1, σ1)) (P : PS B n s σ1 σ2) (Fj : FJ at0 σ1 σ2) (ha : at0 < s) (hs : s < 900)
    (go : ∀ t1 t2, PS B n s t1 t2 → FJ s t1 t2 → (∀ k j, ¬ (k = 171 ∧ (j = 3 ∨ j = 4)) → t1.1 k j = σ1.1 k j) → (∀ k j, ¬ (k = 1 ∧ (j = 5 ∨ j = 6)) → t2.1 k j = σ2.1 k j) → (t1.1 171 3 = 0 → σ1.1 171 3 = 0) → (c < cap ∨ (cap ≤ c ∧ ¬ t1.1 171 3 = 0)) → H2 (fX6_readLine_b70 N 171 hd v4 t1) (κ t2) (QLn B n D a1 a2 s0)) :
    H2 (fX6_readLine_b56 N 171 (Int32.ofNat at0) hd v4 σ1) (if c < cap then κ σ2 else bd (fX12_also N 3 (Int32.ofNat at0) σ2) (fun _ t => κ t)) (QLn B n D a1 a2 s0) := by
  unfold fX6_readLine_b56
  rw [hF, ho_bds]
  by_cases h : c < cap
  · rw [if_pos h, if_pos h, if_pos rfl]
    exact go σ1 σ2 P (Fj.mono (by omega) (by omega)) (fun _ _ _ => rfl) (fun _ _ _ => rfl) id (Or.inl h)
  · rw [if_neg h, if_neg h, if_neg (show ¬ (1 : Int32) = 0 by decide)]
    obtain ⟨t1, t2, n1, n2, n3, n4, n5, n6⟩ := note_J (N := N) (f := 3) Fj (Or.inr rfl) (by omega) nz_3 (rfl : Int32.ofNat at0 = _)
    rw [n1, n2, ho_bds, ho_bds]
    exact go t1 t2 (P.ag (fun j _ _ => n5 _ _ (by omega)) (fun j => n5 _ _ (by omega)) (fun j _ _ => n6 _ _ (by omega)) (fun j _ => n6 _ _ (by omega))) (n3.mono (by omega) (by omega)) n5 n6 (fun h => absurd h n4) (Or.inr ⟨by omega, n4⟩)
end LINES
/-! Chambers. -/
def DD (np nw : Nat) (σ1 σ2 : Mem) : Prop :=
  (∃ d, d ≤ 9 ∧ σ1.1 172 2 = Int32.ofNat d ∧ σ2.1 3 2 = Int32.ofNat d) ∧
  (∀ p, p < np → ∃ a b c d e f, (a ≤ 3 ∧ b ≤ 2 ∧ c ≤ 50 ∧ (1 ≤ d ∧ d ≤ 99) ∧ e ≤ 63 ∧ 1 ≤ f ∧ f ≤ 9) ∧ (σ1.1 173 p = Int32.ofNat a ∧ σ1.1 174 p = Int32.ofNat b ∧ σ1.1 175 p = Int32.ofNat c ∧ σ1.1 176 p = Int32.ofNat d ∧ σ1.1 177 p = Int32.ofNat e ∧ σ1.1 178 p = Int32.ofNat f) ∧ (σ2.1 3 (3 + 6 * p) = Int32.ofNat a ∧ σ2.1 3 (3 + 6 * p + 1) = Int32.ofNat b ∧ σ2.1 3 (3 + 6 * p + 2) = Int32.ofNat c ∧ σ2.1 3 (3 + 6 * p + 3) = Int32.ofNat d ∧ σ2.1 3 (3 + 6 * p + 4) = Int32.ofNat e ∧ σ2.1 3 (3 + 6 * p + 5) = Int32.ofNat f)) ∧
  (∀ w, w < nw → ∃ g x, (1 ≤ g ∧ g ≤ 30 ∧ x ≤ 8) ∧ (σ1.1 179 w = Int32.ofNat g ∧ σ1.1 180 w = Int32.ofNat x) ∧ (σ2.1 3 (51 + 2 * w) = Int32.ofNat g ∧ σ2.1 3 (51 + 2 * w + 1) = Int32.ofNat x)) ∧
  ((σ2.1 0 9 = -1 ∧ ∀ w, w < nw → σ1.1 180 w = 8) ∨ ∃ F, F ≤ 7 ∧ σ2.1 0 9 = Int32.ofNat F ∧ (∃ w, w < nw ∧ σ1.1 180 w = Int32.ofNat F) ∧ ∀ w x, w < nw → x ≤ 7 → σ1.1 180 w = Int32.ofNat x → x ≤ F)
def DN (np nw : Nat) (σ1 σ2 : Mem) : Prop := (np ≤ 8 ∧ nw ≤ 6) ∧ (σ1.1 172 0 = Int32.ofNat np ∧ σ1.1 172 1 = Int32.ofNat nw ∧ σ2.1 3 0 = Int32.ofNat np ∧ σ2.1 3 1 = Int32.ofNat nw) ∧ (σ1.1 171 3 = 0 → DD np nw σ1 σ2)
def DC0 (σ1 σ2 : Mem) : Prop := ∃ np nw, DN np nw σ1 σ2
theorem DD.ag {np nw : Nat} {σ1 σ2 t1 t2 : Mem} (h : DD np nw σ1 σ2) (e1 : ∀ k j, 172 ≤ k → k ≤ 180 → t1.1 k j = σ1.1 k j) (e2 : ∀ j, t2.1 3 j = σ2.1 3 j) (e3 : t2.1 0 9 = σ2.1 0 9) : DD np nw t1 t2 := by
  unfold DD
  simp only [e1 172 2 (by omega) (by omega), fun p => e1 173 p (by omega) (by omega), fun p => e1 174 p (by omega) (by omega), fun p => e1 175 p (by omega) (by omega), fun p => e1 176 p (by omega) (by omega), fun p => e1 177 p (by omega) (by omega), fun p => e1 178 p (by omega) (by omega), fun p => e1 179 p (by omega) (by omega), fun p => e1 180 p (by omega) (by omega), e2, e3]
  exact h
theorem DN.fr {np nw : Nat} {σ1 σ2 t1 t2 : Mem} (h : DN np nw σ1 σ2) (F1 : FrAc σ1 t1) (F2 : FrBm σ2 t2) (c : t1.1 171 3 = 0 → σ1.1 171 3 = 0) : DN np nw t1 t2 := by
  obtain ⟨h1, ⟨h2, h3, h4, h5⟩, h6⟩ := h
  refine ⟨h1, ⟨?_, ?_, ?_, ?_⟩, fun z => (h6 (c z)).ag (fun k j _ _ => F1 k j (by omega) (by omega)) (fun j => F2 _ _ (by omega) (by omega)) (F2 _ _ (by omega) (by omega))⟩
  · rw [F1 _ _ (by omega) (by omega)]; exact h2
  · rw [F1 _ _ (by omega) (by omega)]; exact h3
  · rw [F2 _ _ (by omega) (by omega)]; exact h4
  · rw [F2 _ _ (by omega) (by omega)]; exact h5
section CHAM
variable {N : Nat} {B : Nat → Nat} {n s s0 : Nat} {σ σ1 σ2 a1 a2 : Mem}
theorem addLine_p {k : Nat} {w : Int32} (hk : k < 4) : fX6_addLine N 171 (Int32.ofNat k) w σ = fX0_addPiece N 172 (Int32.ofNat k) w 191 σ := by
  unfold fX6_addLine
  rw [if_neg (show ¬ (4 : Int32) ≤ Int32.ofNat k by rw [z_le (by omega) (by omega)]; omega), bd_unit]
theorem addLine_4 {w : Int32} : fX6_addLine N 171 (Int32.ofNat 4) w σ = fX0_addPerson N 172 (σ.1 191 0) (σ.1 191 1) σ := by
  unfold fX6_addLine
  rw [if_pos (by decide), if_pos (by decide), gdT (by decide), gdT (by decide), bd_unit]
  rfl
theorem addLine_5 {w : Int32} : fX6_addLine N 171 (Int32.ofNat 5) w σ = fX0_addPerson N 172 (σ.1 191 0) 8 σ := by
  unfold fX6_addLine
  rw [if_pos (by decide), if_neg (by decide), if_pos (by decide), gdT (by decide), bd_unit]
  rfl
theorem addLine_6 {w : Int32} : fX6_addLine N 171 (Int32.ofNat 6) w σ = some ((), pI σ 172 2 (σ.1 191 0)) := by
  unfold fX6_addLine
  rw [if_pos (by decide), if_neg (by decide), if_neg (by decide), if_neg (by decide), gdT (by decide), ho_lte]
  rfl
theorem b105_eq : fX12_chamberLine_b105 N σ = fX12_endsLine N σ := by unfold fX12_chamberLine_b105; exact bd_unit
theorem DD.piece {np nw a b c d e f : Nat} {σ1 σ2 t1 t2 : Mem} (h : DD np nw σ1 σ2) (hb : a ≤ 3 ∧ b ≤ 2 ∧ c ≤ 50 ∧ (1 ≤ d ∧ d ≤ 99) ∧ e ≤ 63 ∧ 1 ≤ f ∧ f ≤ 9) (h1 : t1.1 173 np = Int32.ofNat a ∧ t1.1 174 np = Int32.ofNat b ∧ t1.1 175 np = Int32.ofNat c ∧ t1.1 176 np = Int32.ofNat d ∧ t1.1 177 np = Int32.ofNat e ∧ t1.1 178 np = Int32.ofNat f) (h2 : t2.1 3 (3 + 6 * np) = Int32.ofNat a ∧ t2.1 3 (3 + 6 * np + 1) = Int32.ofNat b ∧ t2.1 3 (3 + 6 * np + 2) = Int32.ofNat c ∧ t2.1 3 (3 + 6 * np + 3) = Int32.ofNat d ∧ t2.1 3 (3 + 6 * np + 4) = Int32.ofNat e ∧ t2.1 3 (3 + 6 * np + 5) = Int32.ofNat f)
    (f1 : ∀ k j, 172 ≤ k → k ≤ 180 → ¬ (k = 172 ∧ j = 0) → ¬ (173 ≤ k ∧ k ≤ 178 ∧ j = np) → t1.1 k j = σ1.1 k j) (f2 : ∀ j, j ≠ 0 → ¬ (3 + 6 * np ≤ j ∧ j < 3 + 6 * np + 6) → t2.1 3 j = σ2.1 3 j) (f3 : t2.1 0 9 = σ2.1 0 9) (hn : np < 8) : DD (np + 1) nw t1 t2 := by
  obtain ⟨d1, d2, d3, d4⟩ := h
  refine ⟨?_, fun p hp => ?_, fun w hw => ?_, ?_⟩
  · rw [f1 172 2 (by omega) (by omega) (by omega) (by omega), f2 2 (by omega) (by omega)]; exact d1
  · by_cases q : p = np
    · subst q; exact ⟨a, b, c, d, e, f, hb, h1, h2⟩
    · rw [f1 173 p (by omega) (by omega) (by omega) (by omega), f1 174 p (by omega) (by omega) (by omega) (by omega), f1 175 p (by omega) (by omega) (by omega) (by omega), f1 176 p (by omega) (by omega) (by omega) (by omega), f1 177 p (by omega) (by omega) (by omega) (by omega), f1 178 p (by omega) (by omega) (by omega) (by omega), f2 (3 + 6 * p) (by omega) (by omega), f2 (3 + 6 * p + 1) (by omega) (by omega), f2 (3 + 6 * p + 2) (by omega) (by omega), f2 (3 + 6 * p + 3) (by omega) (by omega), f2 (3 + 6 * p + 4) (by omega) (by omega), f2 (3 + 6 * p + 5) (by omega) (by omega)]
      exact d2 p (by omega)
  · rw [f1 179 w (by omega) (by omega) (by omega) (by omega), f1 180 w (by omega) (by omega) (by omega) (by omega), f2 (51 + 2 * w) (by omega) (by omega), f2 (51 + 2 * w + 1) (by omega) (by omega)]
    exact d3 w hw
  · simp only [fun w => f1 180 w (by omega) (by omega) (by omega) (by omega), f3]
    exact d4
theorem pc_W {np : Nat} {t : Mem} {v2 v3 v4 v5 v6 v7 v8 : Int32} (w : WrG s a2 t) (h0 : t.1 3 0 = Int32.ofNat np) (hv : (v4 = 1 ∧ np < 8) ∨ v4 = 0) : Ho (bd (pcT v2 v3 v4 v5 v6 v7 v8 t) (fun _ u => fX12_chamberLine_b105 N u)) (fun _ u => WrG s a2 u) := by
  rcases hv with ⟨hv, hn⟩ | hv
  · subst hv
    rw [ho_bd]
    refine ho_mono (pcT_M hn h0) (fun _ u ⟨_, _, f⟩ => ?_)
    have w2 := w.w (fun k j h1 _ => f k j (by omega))
    rw [b105_eq, line_W w2.1]
    exact w2
  · subst hv
    rw [pcT_0, ho_bds, b105_eq, line_W w.1]
    exact w
theorem rng_p : ∀ k, k < 4 → (rngT.getD (k * 9) 0 = Int32.ofNat 4 ∧ rngT.getD (k * 9 + 1 + 0) 0 = Int32.ofNat 0 ∧ rngT.getD (k * 9 + 5 + 0) 0 = Int32.ofNat 50) ∧ (rngT.getD (k * 9) 0 = Int32.ofNat 4 ∧ rngT.getD (k * 9 + 1 + (0 + 1)) 0 = Int32.ofNat 1 ∧ rngT.getD (k * 9 + 5 + (0 + 1)) 0 = Int32.ofNat 99) ∧ (rngT.getD (k * 9) 0 = Int32.ofNat 4 ∧ rngT.getD (k * 9 + 1 + (0 + 1 + 1)) 0 = Int32.ofNat 0 ∧ rngT.getD (k * 9 + 5 + (0 + 1 + 1)) 0 = Int32.ofNat 63) ∧ (rngT.getD (k * 9) 0 = Int32.ofNat 4 ∧ rngT.getD (k * 9 + 1 + (0 + 1 + 1 + 1)) 0 = Int32.ofNat 1 ∧ rngT.getD (k * 9 + 5 + (0 + 1 + 1 + 1)) 0 = Int32.ofNat 9) := by decide +kernel
theorem piece_J {k wd np nw : Nat} {v4 : Int32} (hN : 10000 ≤ N) (hk : k < 4) (hw : wd < 3) (hn : n < 900) (h0 : s0 ≤ s) (P : PS B n s σ1 σ2) (Fj : FJ s σ1 σ2) (G1 : GC a1 σ1) (G2 : GM a2 σ2) (Dn : DN np nw σ1 σ2) (hv : (v4 = 1 ∧ np < 8) ∨ (v4 = 0 ∧ 8 ≤ np ∧ ¬ σ1.1 171 3 = 0)) :
    H2 (fX6_readLine_b70 N 171 (Int32.ofNat k) (Int32.ofNat wd) σ1) (bd (fX12_pieceLine_b48 N (Int32.ofNat k) (Int32.ofNat wd) v4 σ2) (fun _ u => fX12_chamberLine_b105 N u)) (QLn B n DC0 a1 a2 s0) := by
  obtain ⟨M, hM⟩ : ∃ M, N = M + 5 := ⟨N - 5, by omega⟩
  have rg := rng_p k hk
  have hv' : (v4 = 1 ∧ np < 8) ∨ v4 = 0 := hv.elim Or.inl (fun z => Or.inr z.1)
  have hnp := Dn.1.1
  have d0 := Dn.2.1.2.2.1
  rw [rn_eq hM (by omega), b48_eq, bd_bd]
  have C0 : FrAc σ1 (pI (pI σ1 191 0 (-1)) 191 1 (-1)) := FrAc.nums
  have c0 : (pI (pI σ1 191 0 (-1)) 191 1 (-1)).1 171 3 = σ1.1 171 3 := by rw [pI_nq (by omega), pI_nq (by omega)]
  refine nb_J (lo := 0) (hi := 50) hN rfl rfl rg.1 (by omega) P.nums Fj.nums (fun s1 x1 r1 u1 w1 g1 P1 F1 A1 B1 m1 o1 l1 u1' c1 => ?_) (fun t w => ?_)
  · rw [bd_bd]
    refine nb_J (lo := 1) (hi := 99) hN rfl rfl rg.2.1 (by omega) P1 F1 (fun s2 x2 r2 u2 w2 g2 P2 F2 A2 B2 m2 o2 l2 u2' c2 => ?_) (fun t w => ?_)
    · rw [bd_bd]
      refine nb_J (lo := 0) (hi := 63) hN rfl rfl rg.2.2.1 (by omega) P2 F2 (fun s3 x3 r3 u3 w3 g3 P3 F3 A3 B3 m3 o3 l3 u3' c3 => ?_) (fun t w => ?_)
      · rw [bd_bd]
        refine nb_J (lo := 1) (hi := 9) hN rfl rfl rg.2.2.2 (by omega) P3 F3 (fun s4 x4 r4 u4 w4 g4 P4 F4 A4 B4 m4 o4 l4 u4' c4 => ?_) (fun t w => ?_)
        · rw [show (0 + 1 + 1 + 1 + 1 : Nat) = 4 from rfl, l33_end rg.1.1 (by omega), ho_bds]
          have cl : u4.1 171 3 = 0 → σ1.1 171 3 = 0 ∧ x1 = r1 ∧ x2 = r2 ∧ x3 = r3 ∧ x4 = r4 := fun z => by
            obtain ⟨z4, e4⟩ := c4 z
            obtain ⟨z3, e3⟩ := c3 z4
            obtain ⟨z2, e2⟩ := c2 z3
            obtain ⟨z1, e1⟩ := c1 z2
            exact ⟨by rw [← c0]; exact z1, e1, e2, e3, e4⟩
          have FA := (((C0.trans A1).trans A2).trans A3).trans A4
          have FB := ((B1.trans B2).trans B3).trans B4
          have D4 : DN np nw u4 w4 := Dn.fr FA FB (fun z => (cl z).1)
          have y0 : u4.1 191 0 = Int32.ofNat x1 := by rw [o4 0 (by omega), o3 0 (by omega), o2 0 (by omega)]; exact m1
          have y1 : u4.1 191 1 = Int32.ofNat x2 := by rw [o4 1 (by omega), o3 1 (by omega)]; exact m2
          have y2 : u4.1 191 2 = Int32.ofNat x3 := by rw [o4 2 (by omega)]; exact m3
          have y3 : u4.1 191 3 = Int32.ofNat x4 := m4
          rcases hv with ⟨hv, hn8⟩ | ⟨hv, hn8, hcl⟩
          · subst hv
            apply h2_r
            refine ho_mono (pcT_M hn8 D4.2.1.2.2.1) (fun _ y ⟨q0, q1, qf⟩ => ?_)
            rw [b105_eq]
            have PY : PS B n s4 u4 y := P4.ag (fun _ _ _ => rfl) (fun _ => rfl) (fun j _ _ => qf _ _ (by omega)) (fun j _ => qf _ _ (by omega))
            have FY : FJ s4 u4 y := F4.ag rfl rfl (qf _ _ (by omega)) (qf _ _ (by omega)) (qf _ _ (by omega))
            refine fin_J hN PY FY (G1.trans FA.gc) ((G2.trans FB.gm).trans ⟨fun j _ _ => qf _ _ (by omega), fun j => qf _ _ (by omega)⟩) (by omega) hn (fun t1 t2 L1 L2 => ?_)
            rw [addLine_p hk]
            refine ho_mono (addPiece_C (np := np) hn8 (by rw [L1 _ _ (by omega)]; exact D4.2.1.1) (by omega)) (fun _ z ⟨z0, z1, zf⟩ => ?_)
            refine ⟨fun k j h => zf k j (by omega) (by omega), np + 1, nw, ⟨by omega, Dn.1.2⟩, ⟨z0, ?_, ?_, ?_⟩, fun cz => ?_⟩
            · rw [zf _ _ (by omega) (by omega), L1 _ _ (by omega)]; exact D4.2.1.2.1
            · rw [L2 _ _ (by omega)]; exact q0
            · rw [L2 _ _ (by omega), qf _ _ (by omega)]; exact D4.2.1.2.2.2
            · rw [zf _ _ (by omega) (by omega), L1 _ _ (by omega)] at cz
              obtain ⟨_, e1, e2, e3, e4⟩ := cl cz
              subst e1 e2 e3 e4
              refine (D4.2.2 cz).piece (a := k) (b := wd) (c := x1) (d := x2) (e := x3) (f := x4) (by omega) ?_ ?_ ?_ ?_ ?_ hn8
              · rw [L1 191 0 (by omega), L1 191 1 (by omega), L1 191 2 (by omega), L1 191 3 (by omega), y0, y1, y2, y3] at z1
                exact z1
              · rw [L2 _ _ (by omega), L2 _ _ (by omega), L2 _ _ (by omega), L2 _ _ (by omega), L2 _ _ (by omega), L2 _ _ (by omega)]
                exact q1
              · intro k j h1 h2 h3 h4
                rw [zf _ _ (by omega) (by omega), L1 _ _ (by omega)]
              · intro j h1 h2
                rw [L2 _ _ (by omega), qf _ _ (by omega)]
              · rw [L2 _ _ (by omega), qf _ _ (by omega)]
          · subst hv
            rw [pcT_0, ho_bds, b105_eq]
            refine fin_J hN P4 F4 (G1.trans FA.gc) (G2.trans FB.gm) (by omega) hn (fun t1 t2 L1 L2 => ?_)
            rw [addLine_p hk, addPiece_n (np := np) hn8 (by omega) (by rw [L1 _ _ (by omega)]; exact D4.2.1.1)]
            exact ⟨fun _ _ _ => rfl, np, nw, D4.fr L1.toA L2.toB (fun z => by rw [L1 _ _ (by omega)] at z; exact z)⟩
        · have FA := ((C0.trans A1).trans A2).trans A3
          have FB := (B1.trans B2).trans B3
          exact bad_J (N := N) P3 (G1.trans FA.gc) (pc_W (w.g (G2.trans FB.gm)) (by rw [w.2.2.2 _ _ (by omega) (by omega), FB _ _ (by omega) (by omega)]; exact d0) hv')
      · have FA := (C0.trans A1).trans A2
        have FB := B1.trans B2
        refine bad_J (N := N) P2 (G1.trans FA.gc) ?_
        simp only [num_W w.1, ho_bds]
        exact pc_W (w.g (G2.trans FB.gm)) (by rw [w.2.2.2 _ _ (by omega) (by omega), FB _ _ (by omega) (by omega)]; exact d0) hv'
    · have FA := C0.trans A1
      refine bad_J (N := N) P1 (G1.trans FA.gc) ?_
      simp only [num_W w.1, ho_bds]
      exact pc_W (w.g (G2.trans B1.gm)) (by rw [w.2.2.2 _ _ (by omega) (by omega), B1 _ _ (by omega) (by omega)]; exact d0) hv'
  · refine bad_J (N := N) P.nums (G1.trans C0.gc) ?_
    simp only [num_W w.1, ho_bds]
    exact pc_W (w.g G2) (by rw [w.2.2.2 _ _ (by omega) (by omega)]; exact d0) hv'
end CHAM
