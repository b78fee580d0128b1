def KT (N : Nat) (v1 k : Int32) : Unit → Mem → Option (Int32 × Mem) := fun _ s9 => lt_ (pI s9 1 2 (s9.1 171 3)) (fun s10 => lt_ (pI s10 1 3 (s10.1 171 4)) (fun s11 => if (s11.1 171 3) = 0 then bd (fX9_keep N 1 v1 k 171 s11) (fun _ s13 => some (k, s13)) else some ((-1), s11)))
section TTEXT
variable {N : Nat} {B : Nat → Nat} {n : Nat} {σ σ1 σ2 a1 a2 s1 s2 : Mem}
/-- the base: the tape taken, no fault -/
def BaC (σ1 a1 : Mem) : Prop := (∀ q j, ¬ (q = 1 ∧ 1 ≤ j ∧ j ≤ 3) → (q < 171 ∨ 192 ≤ q) → a1.1 q j = σ1.1 q j) ∧ a1.1 1 1 = 0
def BaM (σ2 a2 : Mem) : Prop := (∀ j, ¬ (4 ≤ j ∧ j ≤ 6) → a2.1 1 j = σ2.1 1 j) ∧ (∀ j, a2.1 2 j = σ2.1 2 j) ∧ a2.1 1 4 = 0
theorem kt_fr {v : Mem} : (pI (pI v 1 2 (v.1 171 3)) 1 3 ((pI v 1 2 (v.1 171 3)).1 171 4)).1 1 2 = v.1 171 3 ∧ (pI (pI v 1 2 (v.1 171 3)) 1 3 ((pI v 1 2 (v.1 171 3)).1 171 4)).1 1 3 = v.1 171 4 ∧ ∀ q j, ¬ (q = 1 ∧ (j = 2 ∨ j = 3)) → (pI (pI v 1 2 (v.1 171 3)) 1 3 ((pI v 1 2 (v.1 171 3)).1 171 4)).1 q j = v.1 q j :=
  ⟨by rw [pI_nq (by omega), pI_eq], by rw [pI_eq, pI_nq (by omega)], fun q j h => by rw [pI_nq (by omega), pI_nq (by omega)]⟩
theorem fin_bad {v1 v2 k f p : Int32} (R : RR σ1 σ2) (A : BaC σ1 a1) (A2 : BaM σ2 a2) (G1 : GC a1 s1) (G2 : GM a2 s2) (hf : ¬ f = 0) (h3 : s1.1 171 3 = f) (h4 : s1.1 171 4 = p) (h5 : s2.1 1 5 = f) (h6 : s2.1 1 6 = p) : H2 (KT N v1 k () s1) (fX12_text_b220 N v1 v2 s2) QR := by
  obtain ⟨k1, k2, k3⟩ := kt_fr (v := s1)
  unfold KT fX12_text_b220
  simp only [ho_lte]
  generalize pI (pI s1 1 2 (s1.1 171 3)) 1 3 ((pI s1 1 2 (s1.1 171 3)).1 171 4) = s11 at k1 k2 k3
  rw [k3 171 3 (by omega), h3, if_neg hf, gdT (show inb 5 4176 = true by decide), show (5 : Int32).toNatClampNeg = 5 from rfl, h5, if_neg hf]
  refine ⟨rfl, R.flt (fun q j h1 h2 => ?_) (fun j h => ?_) (fun j => ?_) ⟨?_, ?_, ?_, ?_⟩⟩
  · rw [k3 _ _ (by omega), G1 _ _ (by omega)]; exact A.1 q j h1 h2
  · rw [G2.1 j (by omega) (by omega)]; exact A2.1 j h
  · rw [G2.2 j]; exact A2.2.1 j
  · rw [k3 _ _ (by omega), G1 _ _ (by omega)]; exact A.2
  · rw [G2.1 _ (by omega) (by omega)]; exact A2.2.2
  · rw [k1, h3, h5]
  · rw [k2, h4, h6]
/-- class and reference at the end without a fault, to be kept as number k of sort t -/
theorem fin_good {t k c : Nat} {v2 : Int32} (hN : 10000 ≤ N) (R : RR σ1 σ2) (A : BaC σ1 a1) (A2 : BaM σ2 a2) (G1 : GC a1 s1) (G2 : GM a2 s2) (ht : t < 3) (hc : c ≤ 2) (ok : OkN v2 c k) (c1 : σ1.1 3 t = Int32.ofNat c) (c2 : σ2.1 1 t = Int32.ofNat c) (h3 : s1.1 171 3 = 0) (h4 : s1.1 171 4 = -1) (h5 : s2.1 1 5 = 0) (h6 : s2.1 1 6 = -1)
    (key : ∀ u1 u2 n', TpE u1 u2 → n' ≤ 2 → (∀ i, i < n' → i ≠ k → i < c) → u1.1 3 t = Int32.ofNat n' → u2.1 1 t = Int32.ofNat n' → (∀ i, i < szN t → u2.1 1 (plN t k + i) = s2.1 3 i) → (∀ j, ¬ (4 ≤ j ∧ j ≤ 6) → j ≠ t → ¬ (plN t k ≤ j ∧ j < plN t k + szN t) → u2.1 1 j = σ2.1 1 j) →
      (∃ v, (∀ q j, ¬ (q = 1 ∧ (j = 2 ∨ j = 3)) → v.1 q j = s1.1 q j) ∧ ((t = 0 ∧ ChCp u1 (7 + 9 * k) v 172 ∧ ∀ q j, ¬ (q = 1 ∧ 1 ≤ j ∧ j ≤ 3) → ¬ (q = 3 ∧ j = 0) → ¬ (7 + 9 * k ≤ q ∧ q < 16 + 9 * k) → (q < 171 ∨ 192 ≤ q) → u1.1 q j = σ1.1 q j) ∨ (t = 1 ∧ SeCp u1 (25 + 4 * k) v 181 ∧ ∀ q j, ¬ (q = 1 ∧ 1 ≤ j ∧ j ≤ 3) → ¬ (q = 3 ∧ j = 1) → ¬ (25 + 4 * k ≤ q ∧ q < 29 + 4 * k) → (q < 171 ∨ 192 ≤ q) → u1.1 q j = σ1.1 q j) ∨ (t = 2 ∧ LoCp u1 (33 + 5 * k) v 185 ∧ ∀ q j, ¬ (q = 1 ∧ 1 ≤ j ∧ j ≤ 3) → ¬ (q = 3 ∧ j = 2) → ¬ (33 + 5 * k ≤ q ∧ q < 38 + 5 * k) → (q < 171 ∨ 192 ≤ q) → u1.1 q j = σ1.1 q j))) → TR u1 1 u2 0) :
    H2 (KT N (Int32.ofNat t) (Int32.ofNat k) () s1) (fX12_text_b220 N (Int32.ofNat t) v2 s2) QR := by
  obtain ⟨k1, k2, k3⟩ := kt_fr (v := s1)
  obtain ⟨ce, cn, k2', ci⟩ := cnt_eq ok hc
  have pb := pl_bd ht k2'
  have e2 : s2.1 1 t = Int32.ofNat c := by rw [G2.1 t (by omega) (by omega), A2.1 t (by omega)]; exact c2
  unfold KT
  simp only [ho_lte]
  generalize pI (pI s1 1 2 (s1.1 171 3)) 1 3 ((pI s1 1 2 (s1.1 171 3)).1 171 4) = s11 at k1 k2 k3
  rw [k3 171 3 (by omega), h3, if_pos rfl]
  have e1 : s11.1 3 t = Int32.ofNat c := by rw [k3 _ _ (by omega), G1 _ _ (by omega), A.1 _ _ (by omega) (by omega)]; exact c1
  have f11 : ∀ q j, ¬ (q = 1 ∧ 1 ≤ j ∧ j ≤ 3) → (q < 171 ∨ 192 ≤ q) → s11.1 q j = σ1.1 q j := fun q j h1 h2 => by rw [k3 _ _ (by omega), G1 _ _ (by omega)]; exact A.1 q j h1 h2
  have s1' : s11.1 1 1 = 0 := by rw [k3 _ _ (by omega), G1 _ _ (by omega)]; exact A.2
  apply h2_l
  have hi : ∀ u1 u2 : Mem, (∀ q j, 43 ≤ q → (q < 171 ∨ 192 ≤ q) → u1.1 q j = s11.1 q j) → (∀ a b, ¬ (a = 1 ∧ b = t) → ¬ (a = 1 ∧ plN t k ≤ b ∧ b < plN t k + szN t) → u2.1 a b = s2.1 a b) → TR u1 1 u2 0 → RR u1 u2 := by
    intro u1 u2 f1 f2 T
    refine R.tx (fun q j h1 h2 => ?_) (fun j h => ?_) (fun j => ?_) T
    · rw [f1 q j h1 h2]; exact f11 q j (by omega) h2
    · rw [f2 _ _ (by omega) (by omega), G2.1 j (by omega) (by omega)]; exact A2.1 j (by omega)
    · rw [f2 _ _ (by omega) (by omega), G2.2 j]; exact A2.2.1 j
  have tail : ∀ u1 : Mem, (∀ q j, 43 ≤ q → (q < 171 ∨ 192 ≤ q) → u1.1 q j = s11.1 q j) → (∀ j, 1 ≤ j → j ≤ 3 → u1.1 1 j = s11.1 1 j) → u1.1 3 t = Int32.ofNat (if v2 = -1 then c + 1 else c) → (∀ u2 n', TpE u1 u2 → n' ≤ 2 → (∀ i, i < n' → i ≠ k → i < c) → u1.1 3 t = Int32.ofNat n' → u2.1 1 t = Int32.ofNat n' → (∀ i, i < szN t → u2.1 1 (plN t k + i) = s2.1 3 i) → (∀ j, ¬ (4 ≤ j ∧ j ≤ 6) → j ≠ t → ¬ (plN t k ≤ j ∧ j < plN t k + szN t) → u2.1 1 j = σ2.1 1 j) → TR u1 1 u2 0) → H2 (some (Int32.ofNat k, u1)) (fX12_text_b220 N (Int32.ofNat t) v2 s2) QR := by
    intro u1 f1 fb f3 ky
    apply h2_sl
    refine ho_mono (keep_M hN ht hc ok h5 e2) (fun r u2 ⟨q1, q2, q3, q4⟩ => ?_)
    refine ⟨q1.symm, hi u1 u2 f1 q4 (ky u2 _ ⟨?_, ?_, ?_, ?_⟩ cn ci f3 q2 q3 (fun j h1 h2 h3 => ?_))⟩
    · rw [fb 1 (by omega) (by omega)]; exact s1'
    · rw [q4 _ _ (by omega) (by omega), G2.1 _ (by omega) (by omega)]; exact A2.2.2
    · rw [fb 2 (by omega) (by omega), k1, h3, q4 _ _ (by omega) (by omega), h5]
    · rw [fb 3 (by omega) (by omega), k2, h4, q4 _ _ (by omega) (by omega), h6]
    · rw [q4 _ _ (by omega) (by omega), G2.1 j (by omega) (by omega)]; exact A2.1 j h1
  have cs : t = 0 ∨ t = 1 ∨ t = 2 := by omega
  rcases cs with e | e | e
  · subst e
    refine ho_mono (keep_0 k2' e1) (fun _ u1 ⟨q1, q2, q3⟩ => ?_)
    refine tail u1 (fun q j h1 h2 => q3 q j (by omega) (by omega)) (fun j h1 h2 => q3 1 j (by omega) (by omega)) (by rw [q1, ce]) (fun u2 n' b1 b2 b3 b4 b5 b6 b7 => key u1 u2 n' b1 b2 b3 b4 b5 b6 b7 ⟨s11, k3, Or.inl ⟨rfl, q2, fun q j h1 h2 h3 h4 => ?_⟩⟩)
    rw [q3 q j h2 h3]; exact f11 q j h1 h4
  · subst e
    refine ho_mono (keep_1 k2' e1) (fun _ u1 ⟨q1, q2, q3⟩ => ?_)
    refine tail u1 (fun q j h1 h2 => q3 q j (by omega) (by omega)) (fun j h1 h2 => q3 1 j (by omega) (by omega)) (by rw [q1, ce]) (fun u2 n' b1 b2 b3 b4 b5 b6 b7 => key u1 u2 n' b1 b2 b3 b4 b5 b6 b7 ⟨s11, k3, Or.inr (Or.inl ⟨rfl, q2, fun q j h1 h2 h3 h4 => ?_⟩)⟩)
    rw [q3 q j h2 h3]; exact f11 q j h1 h4
  · subst e
    refine ho_mono (keep_2 k2' e1) (fun _ u1 ⟨q1, q2, q3⟩ => ?_)
    refine tail u1 (fun q j h1 h2 => q3 q j (by omega) (by omega)) (fun j h1 h2 => q3 1 j (by omega) (by omega)) (by rw [q1, ce]) (fun u2 n' b1 b2 b3 b4 b5 b6 b7 => key u1 u2 n' b1 b2 b3 b4 b5 b6 b7 ⟨s11, k3, Or.inr (Or.inr ⟨rfl, q2, fun q j h1 h2 h3 h4 => ?_⟩)⟩)
    rw [q3 q j h2 h3]; exact f11 q j h1 h4
end TTEXT
