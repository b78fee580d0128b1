def plN (t k : Nat) : Nat := if t = 0 then 610 + 63 * k else if t = 1 then 736 + 121 * k else 978 + 33 * k
def szN (t : Nat) : Nat := if t = 0 then 63 else if t = 1 then 121 else 33
section FIN
variable {N : Nat} {B : Nat → Nat} {n : Nat} {σ σ1 σ2 : Mem}
theorem pl_bd {t k : Nat} (ht : t < 3) (hk : k < 2) : 610 ≤ plN t k ∧ plN t k + szN t ≤ 1044 ∧ szN t ≤ 121 := by
  unfold plN szN
  have cs : t = 0 ∨ t = 1 ∨ t = 2 := by omega
  rcases cs with e | e | e <;> subst e <;> simp <;> omega
theorem siz_M {t : Nat} (ht : t < 3) : fX12_sizeOf N (Int32.ofNat t) σ = some (Int32.ofNat (szN t), σ) := by
  have cs : t = 0 ∨ t = 1 ∨ t = 2 := by omega
  rcases cs with e | e | e <;> subst e <;> rfl
theorem plc_M {t k : Nat} (ht : t < 3) : fX12_placeOf N (Int32.ofNat t) (Int32.ofNat k) σ = some (Int32.ofNat (plN t k), σ) := by
  have cs : t = 0 ∨ t = 1 ∨ t = 2 := by omega
  rcases cs with e | e | e <;> subst e
  · have : plN 0 k = 610 + 63 * k := rfl
    rw [this, ← nz_add, ← nz_mul]; rfl
  · have : plN 1 k = 736 + 121 * k := rfl
    rw [this, ← nz_add, ← nz_mul]; rfl
  · have : plN 2 k = 978 + 33 * k := rfl
    rw [this, ← nz_add, ← nz_mul]; rfl
theorem cp_M {t k : Nat} (hN : 10000 ≤ N) (ht : t < 3) (hk : k < 2) (s0 : Mem) : Ho (fX12_text_l265 N N (Int32.ofNat t) (Int32.ofNat k) 0 s0) (fun r s => r = Int32.ofNat k ∧ (∀ i, i < szN t → s.1 1 (plN t k + i) = s0.1 3 i) ∧ ∀ a b, ¬ (a = 1 ∧ plN t k ≤ b ∧ b < plN t k + szN t) → s.1 a b = s0.1 a b) := by
  have pb := pl_bd ht hk
  refine ho_loop (F := fun m (b : Int32) s => fX12_text_l265 N m (Int32.ofNat t) (Int32.ofNat k) b s) (fun i b s => b = Int32.ofNat i ∧ (∀ j, j < i → s.1 1 (plN t k + j) = s0.1 3 j) ∧ ∀ a b, ¬ (a = 1 ∧ plN t k ≤ b ∧ b < plN t k + i) → s.1 a b = s0.1 a b) (szN t) ?_ ?_ (szN t) N 0 0 s0 (by omega) (by omega) ⟨rfl, fun j hj => absurd hj (Nat.not_lt_zero j), fun _ _ _ => rfl⟩
  · rintro m i b s hi ⟨e, I1, I2⟩ rec
    subst e
    simp only [fX12_text_l265]
    unfold fX12_text_b265
    rw [siz_M ht, ho_bds, if_neg (show ¬ Int32.ofNat (szN t) ≤ Int32.ofNat i by rw [nz_le (by omega) (by omega)]; omega), plc_M ht, ho_bds, gdT (inb_k (show i < 121 by omega) (by omega)), nz_add, gdT (inb_k (show plN t k + i < 4176 by omega) (by omega)), nz_nat (show plN t k + i < 2147483648 by omega), nz_nat (show i < 2147483648 by omega), ho_lte, ho_lte, nz_succ]
    refine rec _ _ ⟨rfl, fun j hj => ?_, fun a b h => ?_⟩
    · by_cases q : j = i
      · subst q; rw [pI_eq]; exact I2 3 j (by omega)
      · rw [pI_nq (by omega)]; exact I1 j (by omega)
    · rw [pI_nq (by omega)]; exact I2 a b (by omega)
  · rintro m b s ⟨e, I1, I2⟩
    subst e
    simp only [fX12_text_l265]
    unfold fX12_text_b265
    rw [siz_M ht, ho_bds, if_pos (Int32.le_refl _)]
    exact ⟨rfl, I1, I2⟩
/-- the reference keeps: count, copy -/
theorem keep_M {t k c : Nat} {v2 : Int32} (hN : 10000 ≤ N) (ht : t < 3) (hc : c ≤ 2) (ok : OkN v2 c k) (h5 : σ2.1 1 5 = 0) (h : σ2.1 1 t = Int32.ofNat c) : Ho (fX12_text_b220 N (Int32.ofNat t) v2 σ2) (fun r s => r = Int32.ofNat k ∧ s.1 1 t = Int32.ofNat (if v2 = -1 then c + 1 else c) ∧ (∀ i, i < szN t → s.1 1 (plN t k + i) = σ2.1 3 i) ∧ (∀ a b, ¬ (a = 1 ∧ b = t) → ¬ (a = 1 ∧ plN t k ≤ b ∧ b < plN t k + szN t) → s.1 a b = σ2.1 a b)) := by
  have k2 : k < 2 := by rcases ok with ⟨_, h1, h2⟩ | ⟨_, h1⟩ <;> omega
  have pb := pl_bd ht k2
  have i5 : inb 5 4176 = true := by decide
  have it : inb (Int32.ofNat t) 4176 = true := inb_k (by omega) (by omega)
  have nt : (Int32.ofNat t).toNatClampNeg = t := nz_nat (by omega)
  unfold fX12_text_b220 fX12_text_b246 fX12_text_b262
  rw [gdT i5, show (5 : Int32).toNatClampNeg = 5 from rfl, if_pos h5]
  by_cases m : v2 = -1
  · have kc : k = c := by
      rcases ok with ⟨_, _, h2⟩ | ⟨h1, h2⟩
      · exact h2
      · rw [m] at h1; exact absurd h1.symm (z_m1 (show k < 2147483648 by omega))
    subst kc
    simp only [if_pos m, ho_lte]
    rw [gdT it, gdT it, gdT it, nt, h, nz_succ]
    refine ho_mono (cp_M hN ht k2 _) (fun r s ⟨q1, q2, q3⟩ => ?_)
    refine ⟨q1, ?_, fun i hi => ?_, fun a b h1 h2 => ?_⟩
    · rw [q3 1 t (by omega), pI_eq]
    · rw [q2 i hi, pI_nq (by omega)]
    · rw [q3 a b h2, pI_nq h1]
  · have vk : v2 = Int32.ofNat k := by
      rcases ok with ⟨h1, _, _⟩ | ⟨h1, h2⟩
      · exact absurd h1 m
      · exact h1
    simp only [if_neg m, ho_lte]
    rw [vk]
    refine ho_mono (cp_M hN ht k2 _) (fun r s ⟨q1, q2, q3⟩ => ?_)
    exact ⟨q1, by rw [q3 1 t (by omega)]; exact h, q2, fun a b h1 h2 => q3 a b h2⟩
theorem cnt_eq {v2 : Int32} {c k : Nat} (ok : OkN v2 c k) (hc : c ≤ 2) : mxI (Int32.ofNat c) (Int32.ofNat k + 1) = Int32.ofNat (if v2 = -1 then c + 1 else c) ∧ (if v2 = -1 then c + 1 else c) ≤ 2 ∧ k < 2 ∧ ∀ i, i < (if v2 = -1 then c + 1 else c) → i ≠ k → i < c := by
  rcases ok with ⟨h1, h2, h3⟩ | ⟨h1, h2⟩
  · subst h3
    rw [if_pos h1, nz_succ, mx_nat (by omega) (by omega), if_pos (by omega)]
    exact ⟨rfl, by omega, h2, fun i _ _ => by omega⟩
  · have m : ¬ v2 = -1 := fun z => by rw [z] at h1; exact absurd h1.symm (z_m1 (show k < 2147483648 by omega))
    rw [if_neg m, nz_succ, mx_nat (by omega) (by omega), if_neg (by omega)]
    exact ⟨rfl, hc, by omega, fun i h _ => h⟩
theorem keep_0 {k c : Nat} (hk : k < 2) (h : σ.1 3 0 = Int32.ofNat c) : Ho (fX9_keep N 1 (Int32.ofNat 0) (Int32.ofNat k) 171 σ) (fun _ u => u.1 3 0 = mxI (Int32.ofNat c) (Int32.ofNat k + 1) ∧ ChCp u (7 + 9 * k) σ 172 ∧ ∀ q j, ¬ (q = 3 ∧ j = 0) → ¬ (7 + 9 * k ≤ q ∧ q < 16 + 9 * k) → u.1 q j = σ.1 q j) := by
  unfold fX9_keep fX9_keep_b73
  rw [if_neg (by decide), if_neg (by decide), if_neg (z_neg (by omega)), if_pos (show Int32.ofNat k < 2 by rw [z_gt (by omega) (by omega)]; exact hk), if_pos (show Int32.ofNat 0 = 0 from rfl), gdT (inb_k hk (by omega)), nz_nat (by omega), ho_bd]
  have e : raE 60 (1 + 3) k = 7 + 9 * k := by unfold raE; rw [if_pos rfl]
  rw [e]
  refine ho_mono (cpCh (x := 7 + 9 * k) (y := 172) (by omega)) (fun _ u ⟨p, f⟩ => ?_)
  rw [gdT (show inb (Int32.ofNat 0) 3 = true by decide), gdT (show inb (Int32.ofNat 0) 3 = true by decide), ho_lte, show (Int32.ofNat 0).toNatClampNeg = 0 from rfl]
  have e3 : u.1 (1 + 2) 0 = Int32.ofNat c := by rw [show (1 + 2 : Nat) = 3 from rfl, f.1 3 (by omega)]; exact h
  refine ⟨?_, p.ag (fun q h1 h2 => by rw [pI_ne (by omega)]) (fun _ _ _ => rfl), fun q j h1 h2 => ?_⟩
  · rw [show (1 + 2 : Nat) = 3 from rfl, pI_eq]
    rw [show (1 + 2 : Nat) = 3 from rfl] at e3
    rw [e3]
  · rw [pI_nq (by omega), f.1 q (by omega)]
theorem keep_1 {k c : Nat} (hk : k < 2) (h : σ.1 3 1 = Int32.ofNat c) : Ho (fX9_keep N 1 (Int32.ofNat 1) (Int32.ofNat k) 171 σ) (fun _ u => u.1 3 1 = mxI (Int32.ofNat c) (Int32.ofNat k + 1) ∧ SeCp u (25 + 4 * k) σ 181 ∧ ∀ q j, ¬ (q = 3 ∧ j = 1) → ¬ (25 + 4 * k ≤ q ∧ q < 29 + 4 * k) → u.1 q j = σ.1 q j) := by
  unfold fX9_keep fX9_keep_b73
  rw [if_neg (by decide), if_neg (by decide), if_neg (z_neg (by omega)), if_pos (show Int32.ofNat k < 2 by rw [z_gt (by omega) (by omega)]; exact hk), if_neg (by decide), if_pos (show Int32.ofNat 1 = 1 from rfl), gdT (inb_k hk (by omega)), nz_nat (by omega), ho_bd]
  have e : raE 61 (1 + 4) k = 25 + 4 * k := by unfold raE; rw [if_neg (by omega), if_pos rfl]
  rw [e]
  refine ho_mono (cpSe (x := 25 + 4 * k) (y := 181) (by omega)) (fun _ u ⟨p, f⟩ => ?_)
  rw [gdT (show inb (Int32.ofNat 1) 3 = true by decide), gdT (show inb (Int32.ofNat 1) 3 = true by decide), ho_lte, show (Int32.ofNat 1).toNatClampNeg = 1 from rfl]
  have e3 : u.1 3 1 = Int32.ofNat c := by rw [f.1 3 (by omega)]; exact h
  refine ⟨?_, p.ag (fun q h1 h2 => by rw [pI_ne (by omega)]) (fun _ _ _ => rfl), fun q j h1 h2 => ?_⟩
  · rw [show (1 + 2 : Nat) = 3 from rfl, pI_eq, e3]
  · rw [pI_nq (by omega), f.1 q (by omega)]
theorem keep_2 {k c : Nat} (hk : k < 2) (h : σ.1 3 2 = Int32.ofNat c) : Ho (fX9_keep N 1 (Int32.ofNat 2) (Int32.ofNat k) 171 σ) (fun _ u => u.1 3 2 = mxI (Int32.ofNat c) (Int32.ofNat k + 1) ∧ LoCp u (33 + 5 * k) σ 185 ∧ ∀ q j, ¬ (q = 3 ∧ j = 2) → ¬ (33 + 5 * k ≤ q ∧ q < 38 + 5 * k) → u.1 q j = σ.1 q j) := by
  unfold fX9_keep fX9_keep_b73
  rw [if_neg (by decide), if_neg (by decide), if_neg (z_neg (by omega)), if_pos (show Int32.ofNat k < 2 by rw [z_gt (by omega) (by omega)]; exact hk), if_neg (by decide), if_neg (by decide), gdT (inb_k hk (by omega)), nz_nat (by omega), ho_bd]
  have e : raE 62 (1 + 5) k = 33 + 5 * k := by unfold raE; rw [if_neg (by omega), if_neg (by omega), if_pos rfl]
  rw [e]
  refine ho_mono (cpLo (x := 33 + 5 * k) (y := 185) (by omega)) (fun _ u ⟨p, f⟩ => ?_)
  rw [gdT (show inb (Int32.ofNat 2) 3 = true by decide), gdT (show inb (Int32.ofNat 2) 3 = true by decide), ho_lte, show (Int32.ofNat 2).toNatClampNeg = 2 from rfl]
  have e3 : u.1 3 2 = Int32.ofNat c := by rw [f.1 3 (by omega)]; exact h
  refine ⟨?_, p.ag (fun q h1 h2 => by rw [pI_ne (by omega)]) (fun _ _ _ => rfl), fun q j h1 h2 => ?_⟩
  · rw [show (1 + 2 : Nat) = 3 from rfl, pI_eq, e3]
  · rw [pI_nq (by omega), f.1 q (by omega)]
/-- a lost seat -/
theorem lost_C {np nw : Nat} (hN : 10000 ≤ N) (hn : np ≤ 8 ∧ nw ≤ 6) (h0 : σ1.1 172 0 = Int32.ofNat np) (h1 : σ1.1 172 1 = Int32.ofNat nw) (hx : ∀ w, w < nw → ∃ x, x ≤ 8 ∧ σ1.1 180 w = Int32.ofNat x) : Ho (fX0_hasLostSeat N 172 σ1) (fun r t => t = σ1 ∧ ((r = 1 ∧ ∃ w x, w < nw ∧ np ≤ x ∧ x ≤ 7 ∧ σ1.1 180 w = Int32.ofNat x) ∨ (r = 0 ∧ ∀ w, w < nw → σ1.1 180 w = 8 ∨ ∃ p, p < np ∧ σ1.1 180 w = Int32.ofNat p))) := by
  unfold fX0_hasLostSeat
  rw [ho_lte]
  refine ho_loop (F := fun m (b : Int32) s => fX0_hasLostSeat_l2 N 172 m b s) (fun i b s => b = Int32.ofNat i ∧ s = σ1 ∧ ∀ w, w < i → σ1.1 180 w = 8 ∨ ∃ p, p < np ∧ σ1.1 180 w = Int32.ofNat p) nw ?_ ?_ nw N 0 0 σ1 (by omega) (by omega) ⟨rfl, rfl, fun w hw => absurd hw (Nat.not_lt_zero w)⟩
  · rintro m i b s hi ⟨e, e2, I⟩ rec
    subst e e2
    obtain ⟨x, x1, x2⟩ := hx i hi
    have nxt : (s.1 180 i = 8 ∨ ∃ p, p < np ∧ s.1 180 i = Int32.ofNat p) → Ho (fX0_hasLostSeat_b36 N 172 (fX0_hasLostSeat_l2 N 172 m) (Int32.ofNat i) s) (fun r t => t = s ∧ ((r = 1 ∧ ∃ w x, w < nw ∧ np ≤ x ∧ x ≤ 7 ∧ s.1 180 w = Int32.ofNat x) ∨ (r = 0 ∧ ∀ w, w < nw → s.1 180 w = 8 ∨ ∃ p, p < np ∧ s.1 180 w = Int32.ofNat p))) := by
      intro y
      unfold fX0_hasLostSeat_b36
      rw [ho_lte, nz_succ]
      refine rec _ _ ⟨rfl, rfl, fun w hw => ?_⟩
      by_cases q : w = i
      · subst q; exact y
      · exact I w (by omega)
    simp only [fX0_hasLostSeat_l2]
    unfold fX0_hasLostSeat_b2
    rw [h1, if_neg (show ¬ Int32.ofNat nw ≤ Int32.ofNat i by rw [nz_le (by omega) (by omega)]; omega), gdT (inb_k (show i < 6 by omega) (by omega)), nz_nat (by omega), show s.1 (172 + 8) i = Int32.ofNat x from x2]
    by_cases q : x = 8
    · rw [if_pos (show Int32.ofNat x = 8 by rw [q]; rfl)]
      exact nxt (Or.inl (by rw [x2, q]; rfl))
    · rw [if_neg (show ¬ Int32.ofNat x = 8 by rw [z_eq (by omega) (by omega)]; exact q), gdT (inb_k (show i < 6 by omega) (by omega)), has_eq (np := np) _ h0 hn.1, ho_bds, nz_inb (by omega)]
      by_cases p : x < np
      · rw [decide_eq_true p, if_pos rfl, if_neg (show ¬ (1 : Int32) = 0 by decide)]
        exact nxt (Or.inr ⟨x, p, x2⟩)
      · rw [decide_eq_false p, if_neg (show ¬ (false = true) by decide), if_pos rfl]
        exact ⟨rfl, Or.inl ⟨rfl, i, x, hi, by omega, by omega, x2⟩⟩
  · rintro m b s ⟨e, e2, I⟩
    subst e e2
    simp only [fX0_hasLostSeat_l2]
    unfold fX0_hasLostSeat_b2
    rw [h1, if_pos (Int32.le_refl _)]
    exact ⟨rfl, Or.inr ⟨rfl, I⟩⟩
theorem far_M {np nw : Nat} (hn : np ≤ 8) (d : DD np nw σ1 σ2) : ((∃ w x, w < nw ∧ np ≤ x ∧ x ≤ 7 ∧ σ1.1 180 w = Int32.ofNat x) → ¬ σ2.1 0 9 < Int32.ofNat np) ∧ ((∀ w, w < nw → σ1.1 180 w = 8 ∨ ∃ p, p < np ∧ σ1.1 180 w = Int32.ofNat p) → σ2.1 0 9 < Int32.ofNat np) := by
  have e8 : (8 : Int32) = Int32.ofNat 8 := rfl
  rcases d.2.2.2 with ⟨q1, q2⟩ | ⟨F, q1, q2, ⟨w, q3, q4⟩, q5⟩
  · refine ⟨fun ⟨w, x, h1, h2, h3, h4⟩ => ?_, fun _ => ?_⟩
    · rw [q2 w h1, e8, nz_inj (by omega) (by omega)] at h4
      omega
    · rw [q1, i32_lt, nz_toInt (by omega), show (-1 : Int32).toInt = -1 from rfl]
      omega
  · rw [q2, nz_lt (by omega) (by omega)]
    refine ⟨fun ⟨w, x, h1, h2, h3, h4⟩ => ?_, fun h => ?_⟩
    · have := q5 w x h1 h3 h4
      omega
    · rcases h w q3 with h | ⟨p, h1, h2⟩
      · rw [q4, e8, nz_inj (by omega) (by omega)] at h
        omega
      · rw [q4, nz_inj (by omega) (by omega)] at h2
        omega
end FIN
