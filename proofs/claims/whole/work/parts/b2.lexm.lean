/-! The reference's tokens. -/
/-- the word's number, 99 for none -/
def wdN (B : Nat → Nat) (s e : Nat) : Nat := if e - s ≤ 8 then wdF (cdW B s (e - s)) else 99
theorem ix_bd {v : Nat} : ∀ (l : List (List Nat)) (k : Nat), k + l.length ≤ 99 → ixF v l k ≤ 99
  | [], _, _ => Nat.le_refl _
  | w :: t, k, h => by
    simp only [ixF]
    simp only [List.length_cons] at h
    split
    · omega
    · exact ix_bd t (k + 1) (by omega)
theorem wd_bd (B : Nat → Nat) (s e : Nat) : wdN B s e ≤ 99 := by
  unfold wdN
  split
  · exact ix_bd _ _ (by decide)
  · exact Nat.le_refl _
def tkM (B : Nat → Nat) (n s : Nat) : Int32 := if s < n then (if isL (B s) = true then (if wdN B s (teN B n s) = 99 then 4 else 3) else if isD (B s) = true then (if teN B n s - s ≤ 2 then 1 else 4) else if B s = 59 then 2 else 4) else 0
def LxM (B : Nat → Nat) (n s : Nat) (t : Mem) : Prop := t.1 0 4 = Int32.ofNat s ∧ t.1 0 3 = Int32.ofNat (teN B n s) ∧ t.1 0 5 = tkM B n s ∧ (s < n → isD (B s) = true → t.1 0 6 = Int32.ofNat (vlN B s (teN B n s))) ∧ (s < n → isL (B s) = true → t.1 0 7 = Int32.ofNat (wdN B s (teN B n s)))
section LEXM
variable {N : Nat} {B : Nat → Nat} {n : Nat} {σ : Mem}
theorem nz_subn {a b : Nat} (h : b ≤ a) : Int32.ofNat a - Int32.ofNat b = Int32.ofNat (a - b) := by
  have : a = a - b + b := by omega
  rw [this, ← nz_add, Int32.add_sub_cancel, ← this]
theorem let_n : fX12_isLetter N (-1) σ = some (0, σ) := rfl
theorem dig_n : fX12_isDigit N (-1) σ = some (0, σ) := rfl
/-- digits read so far -/
def nuN (B : Nat → Nat) (s j : Nat) : Nat := if j = s then 0 else vlN B s j
theorem dig_row_M (hN : 10000 ≤ N) (T : TpM B n σ) {s : Nat} (hs : s < n) (hd : isD (B s) = true) (h4 : σ.1 0 4 = Int32.ofNat s) (h3 : σ.1 0 3 = Int32.ofNat s) (h0 : σ.1 0 6 = 0) : Ho (fX12_advance_l198 N N σ) (fun _ t => FrLM σ t ∧ t.1 0 4 = Int32.ofNat s ∧ t.1 0 3 = Int32.ofNat (ruN isD B (n - (s + 1)) (s + 1)) ∧ t.1 0 5 = (if ruN isD B (n - (s + 1)) (s + 1) - s ≤ 2 then 1 else 4) ∧ t.1 0 6 = Int32.ofNat (vlN B s (ruN isD B (n - (s + 1)) (s + 1)))) := by
  have h6 := T.1
  have rb := ru_bd (P := isD) (B := B) (n - (s + 1)) (s + 1)
  have d0 : 48 ≤ B s ∧ B s ≤ 57 := of_decide_eq_true hd
  have es := ru_s (P := isD) hs hd
  generalize hE : ruN isD B (n - (s + 1)) (s + 1) = E at rb es
  have vE : nuN B s E = vlN B s E := if_neg (by omega)
  have fin : ∀ t, FrLM σ t → t.1 0 4 = Int32.ofNat s → t.1 0 3 = Int32.ofNat E → t.1 0 6 = Int32.ofNat (nuN B s E) → Ho (if (t.1 0 3 - t.1 0 4) ≤ 2 then fX12_advance_b280 N 1 t else fX12_advance_b280 N 4 t) (fun _ t => FrLM σ t ∧ t.1 0 4 = Int32.ofNat s ∧ t.1 0 3 = Int32.ofNat E ∧ t.1 0 5 = (if E - s ≤ 2 then 1 else 4) ∧ t.1 0 6 = Int32.ofNat (vlN B s E)) := by
    intro t F g4 g3 g6
    unfold fX12_advance_b280
    rw [g3, g4, nz_subn (by omega)]
    rw [vE] at g6
    by_cases c : E - s ≤ 2
    · rw [if_pos (show Int32.ofNat (E - s) ≤ 2 by rw [z_ge (by omega) (by omega)]; exact c), ho_lte, if_pos c]
      exact ⟨F.pI (by omega), by rw [pI_nq (by omega)]; exact g4, by rw [pI_nq (by omega)]; exact g3, pI_eq, by rw [pI_nq (by omega)]; exact g6⟩
    · rw [if_neg (show ¬ Int32.ofNat (E - s) ≤ 2 by rw [z_ge (by omega) (by omega)]; exact c), ho_lte, if_neg c]
      exact ⟨F.pI (by omega), by rw [pI_nq (by omega)]; exact g4, by rw [pI_nq (by omega)]; exact g3, pI_eq, by rw [pI_nq (by omega)]; exact g6⟩
  refine ho_loop (F := fun m (_ : Unit) t => fX12_advance_l198 N m t) (fun j _ t => s ≤ j ∧ FrLM σ t ∧ t.1 0 4 = Int32.ofNat s ∧ t.1 0 3 = Int32.ofNat j ∧ t.1 0 6 = Int32.ofNat (nuN B s j) ∧ ruN isD B (n - j) j = E) n ?_ ?_ (n - s) N s () _ (by omega) (by omega) ⟨Nat.le_refl _, FrLM.refl _, h4, h3, by rw [h0]; unfold nuN; rw [if_pos rfl]; rfl, es⟩
  · rintro m j _ t hj ⟨g1, F, g4, g3, g6, e⟩ rec
    have T' := T.fr F
    have bj := (T'.2.2 j hj).1
    simp only [fX12_advance_l198]
    unfold fX12_advance_b198
    rw [g3, byteAt_M T' hj, ho_bds, dig_M bj, ho_bds]
    by_cases c : isD (B j) = true
    · have dj : 48 ≤ B j ∧ B j ≤ 57 := of_decide_eq_true c
      rw [if_pos c, if_neg (by decide), g3, g4, nz_subn (by omega)]
      by_cases q : 2 ≤ j - s
      · rw [if_pos (show (2 : Int32) ≤ Int32.ofNat (j - s) by rw [z_le (by omega) (by omega)]; exact q)]
        unfold fX12_advance_b248
        rw [ho_lte, g3, nz_succ]
        refine rec () _ ⟨by omega, F.pI (by omega), by rw [pI_nq (by omega)]; exact g4, pI_eq, ?_, by rw [← ru_s hj c]; exact e⟩
        have e1 : nuN B s j = 10 * (B s - 48) + (B (s + 1) - 48) := by unfold nuN vlN; rw [if_neg (show ¬ j = s by omega), if_pos (show s + 1 < j by omega)]
        have e2 : nuN B s (j + 1) = 10 * (B s - 48) + (B (s + 1) - 48) := by unfold nuN vlN; rw [if_neg (show ¬ j + 1 = s by omega), if_pos (show s + 1 < j + 1 by omega)]
        rw [pI_nq (by omega), g6, e1, e2]
      · rw [if_neg (show ¬ (2 : Int32) ≤ Int32.ofNat (j - s) by rw [z_le (by omega) (by omega)]; exact q), byteAt_M T' hj, ho_bds, ho_lte, g6]
        have val : 10 * Int32.ofNat (nuN B s j) + Int32.ofNat (B j) - 48 = Int32.ofNat (nuN B s (j + 1)) := by
          rw [show (10 : Int32) = Int32.ofNat 10 from rfl, nz_mul, nz_add]
          apply sub48
          · omega
          · by_cases z : j = s
            · subst z
              have e1 : nuN B j j = 0 := if_pos rfl
              have e2 : nuN B j (j + 1) = B j - 48 := by unfold nuN vlN; rw [if_neg (by omega), if_neg (by omega)]
              rw [e1, e2]; omega
            · have z' : j = s + 1 := by omega
              subst z'
              have e1 : nuN B s (s + 1) = B s - 48 := by unfold nuN vlN; rw [if_neg (by omega), if_neg (by omega)]
              have e2 : nuN B s (s + 1 + 1) = 10 * (B s - 48) + (B (s + 1) - 48) := by unfold nuN vlN; rw [if_neg (by omega), if_pos (by omega)]
              rw [e1, e2]; omega
        unfold fX12_advance_b248
        rw [val, ho_lte, pI_nq (by omega), g3, nz_succ]
        exact rec () _ ⟨by omega, (F.pI (by omega)).pI (by omega), by rw [pI_nq (by omega), pI_nq (by omega)]; exact g4, pI_eq, by rw [pI_nq (by omega), pI_eq], by rw [← ru_s hj c]; exact e⟩
    · rw [if_neg c, if_pos rfl]
      have ej : j = E := by rw [← e, ru_z hj c]
      exact fin t F g4 (by rw [g3, ej]) (by rw [g6, ej])
  · rintro m _ t ⟨g1, F, g4, g3, g6, e⟩
    have T' := T.fr F
    simp only [fX12_advance_l198]
    unfold fX12_advance_b198
    have ej : n = E := by rw [← e, ru_n]
    rw [g3, byteAt_n T', ho_bds, dig_n, ho_bds, if_pos rfl]
    exact fin t F g4 (by rw [g3, ej]) (by rw [g6, ej])
theorem cd_step {s k : Nat} : cdW B s (k + 1) = 32 * cdW B s k + (B (s + k) - 96) := rfl
theorem b_long : ∀ b, b < 256 → (Int32.ofNat b).toInt64 = Int64.ofNat b := by decide +kernel
theorem let_row_M (hN : 10000 ≤ N) (T : TpM B n σ) {s : Nat} (hs : s < n) (hd : isL (B s) = true) (h4 : σ.1 0 4 = Int32.ofNat s) (h3 : σ.1 0 3 = Int32.ofNat s) : Ho (fX12_advance_l77 N N 0 σ) (fun _ t => FrLM σ t ∧ t.1 0 4 = Int32.ofNat s ∧ t.1 0 3 = Int32.ofNat (ruN isL B (n - (s + 1)) (s + 1)) ∧ t.1 0 5 = (if wdN B s (ruN isL B (n - (s + 1)) (s + 1)) = 99 then 4 else 3) ∧ t.1 0 7 = Int32.ofNat (wdN B s (ruN isL B (n - (s + 1)) (s + 1)))) := by
  have h6 := T.1
  have rb := ru_bd (P := isL) (B := B) (n - (s + 1)) (s + 1)
  have es := ru_s (P := isL) hs hd
  generalize hE : ruN isL B (n - (s + 1)) (s + 1) = E at rb es
  have hw := wd_bd B s E
  have lt : ∀ j, s ≤ j → j < E → 97 ≤ B j ∧ B j ≤ 122 := fun j h1 h2 => by
    by_cases q : j = s
    · subst q; exact of_decide_eq_true hd
    · exact of_decide_eq_true (rb.2.2 j (by omega) h2)
  have cb : ∀ k, k ≤ 8 → s + k ≤ E → cdW B s k < 1099511627776 := fun k hk hk2 => by
    have h1 := cd_bd (g := fun j => B (s + j) - 96) k (fun j hj => by have := lt (s + j) (by omega) (by omega); omega)
    have h2 : 32 ^ k ≤ 32 ^ 8 := Nat.pow_le_pow_right (by omega) hk
    have h3 : 32 ^ 8 = 1099511627776 := by decide
    unfold cdW
    omega
  have fin0 : ∀ t w, FrLM σ t → t.1 0 4 = Int32.ofNat s → t.1 0 3 = Int32.ofNat E → w = wdN B s E → Ho (fX12_advance_b162 N (Int32.ofNat w) t) (fun _ t => FrLM σ t ∧ t.1 0 4 = Int32.ofNat s ∧ t.1 0 3 = Int32.ofNat E ∧ t.1 0 5 = (if wdN B s E = 99 then 4 else 3) ∧ t.1 0 7 = Int32.ofNat (wdN B s E)) := by
    intro t w F g4 g3 ew
    subst ew
    unfold fX12_advance_b162 fX12_advance_b180
    rw [ho_lte, pI_eq]
    by_cases c : wdN B s E = 99
    · rw [if_pos (show Int32.ofNat (wdN B s E) = 99 by rw [c]; rfl), ho_lte, if_pos c]
      exact ⟨(F.pI (by omega)).pI (by omega), by rw [pI_nq (by omega), pI_nq (by omega)]; exact g4, by rw [pI_nq (by omega), pI_nq (by omega)]; exact g3, pI_eq, by rw [pI_nq (by omega), pI_eq]⟩
    · rw [if_neg (show ¬ Int32.ofNat (wdN B s E) = 99 by rw [z_eq (by omega) (by omega)]; exact c), ho_lte, if_neg c]
      exact ⟨(F.pI (by omega)).pI (by omega), by rw [pI_nq (by omega), pI_nq (by omega)]; exact g4, by rw [pI_nq (by omega), pI_nq (by omega)]; exact g3, pI_eq, by rw [pI_nq (by omega), pI_eq]⟩
  have fin : ∀ t (v : Int64), FrLM σ t → t.1 0 4 = Int32.ofNat s → t.1 0 3 = Int32.ofNat E → (E - s ≤ 8 → v = Int64.ofNat (cdW B s (E - s))) → Ho (if (t.1 0 3 - t.1 0 4) ≤ 8 then bd (fX12_wordOf N v t) (fun r30 s31 => fX12_advance_b162 N r30 s31) else fX12_advance_b162 N 99 t) (fun _ t => FrLM σ t ∧ t.1 0 4 = Int32.ofNat s ∧ t.1 0 3 = Int32.ofNat E ∧ t.1 0 5 = (if wdN B s E = 99 then 4 else 3) ∧ t.1 0 7 = Int32.ofNat (wdN B s E)) := by
    intro t v F g4 g3 hv
    rw [g3, g4, nz_subn (by omega)]
    by_cases c : E - s ≤ 8
    · rw [if_pos (show Int32.ofNat (E - s) ≤ 8 by rw [z_ge (by omega) (by omega)]; exact c), hv c, wo_M (cb _ c (by omega)), ho_bds]
      exact fin0 t _ F g4 g3 (by unfold wdN; rw [if_pos c])
    · rw [if_neg (show ¬ Int32.ofNat (E - s) ≤ 8 by rw [z_ge (by omega) (by omega)]; exact c)]
      exact fin0 t 99 F g4 g3 (by unfold wdN; rw [if_neg c])
  refine ho_loop (F := fun m (v : Int64) t => fX12_advance_l77 N m v t) (fun j v t => s ≤ j ∧ FrLM σ t ∧ t.1 0 4 = Int32.ofNat s ∧ t.1 0 3 = Int32.ofNat j ∧ (j - s ≤ 8 → v = Int64.ofNat (cdW B s (j - s))) ∧ ruN isL B (n - j) j = E) n ?_ ?_ (n - s) N s _ _ (by omega) (by omega) ⟨Nat.le_refl _, FrLM.refl _, h4, h3, fun _ => by rw [Nat.sub_self]; rfl, es⟩
  · rintro m j v t hj ⟨g1, F, g4, g3, gv, e⟩ rec
    have T' := T.fr F
    have bj := (T'.2.2 j hj).1
    simp only [fX12_advance_l77]
    unfold fX12_advance_b77
    rw [g3, byteAt_M T' hj, ho_bds, let_M bj, ho_bds]
    by_cases c : isL (B j) = true
    · have dj : 97 ≤ B j ∧ B j ≤ 122 := of_decide_eq_true c
      have jE : j < E := by
        have := (ru_bd (P := isL) (B := B) (n - (j + 1)) (j + 1)).1
        rw [← ru_s hj c, e] at this
        omega
      rw [if_pos c, if_neg (by decide), g3, g4, nz_subn (by omega)]
      by_cases q : 8 ≤ j - s
      · rw [if_pos (show (8 : Int32) ≤ Int32.ofNat (j - s) by rw [z_le (by omega) (by omega)]; exact q)]
        unfold fX12_advance_b125
        rw [ho_lte, g3, nz_succ]
        exact rec _ _ ⟨by omega, F.pI (by omega), by rw [pI_nq (by omega)]; exact g4, pI_eq, fun h => by omega, by rw [← ru_s hj c]; exact e⟩
      · rw [if_neg (show ¬ (8 : Int32) ≤ Int32.ofNat (j - s) by rw [z_le (by omega) (by omega)]; exact q), byteAt_M T' hj, ho_bds, ho_lte, gv (by omega)]
        have val : 32 * Int64.ofNat (cdW B s (j - s)) + (Int32.ofNat (B j)).toInt64 - 96 = Int64.ofNat (cdW B s (j + 1 - s)) := by
          rw [b_long _ bj, show (32 : Int64) = Int64.ofNat 32 from rfl, l_mul, l_add, show j + 1 - s = j - s + 1 by omega, cd_step, show s + (j - s) = j by omega, show 32 * cdW B s (j - s) + B j = 32 * cdW B s (j - s) + (B j - 96) + 96 by omega, ← l_add, show (96 : Int64) = Int64.ofNat 96 from rfl, Int64.add_sub_cancel]
        unfold fX12_advance_b125
        rw [val, ho_lte, g3, nz_succ]
        exact rec _ _ ⟨by omega, F.pI (by omega), by rw [pI_nq (by omega)]; exact g4, pI_eq, fun _ => rfl, by rw [← ru_s hj c]; exact e⟩
    · rw [if_neg c, if_pos rfl]
      have ej : j = E := by rw [← e, ru_z hj c]
      exact fin t v F g4 (by rw [g3, ej]) (by rw [← ej]; exact gv)
  · rintro m v t ⟨g1, F, g4, g3, gv, e⟩
    have T' := T.fr F
    simp only [fX12_advance_l77]
    unfold fX12_advance_b77
    have ej : n = E := by rw [← e, ru_n]
    rw [g3, byteAt_n T', ho_bds, let_n, ho_bds, if_pos rfl]
    exact fin t v F g4 (by rw [g3, ej]) (by rw [← ej]; exact gv)
theorem adv_M (hN : 10000 ≤ N) (T : TpM B n σ) {i : Nat} (hi : i ≤ n) (h3 : σ.1 0 3 = Int32.ofNat i) : Ho (fX12_advance N σ) (fun _ t => FrLM σ t ∧ LxM B n (tsN B n i) t) := by
  have h6 := T.1
  unfold fX12_advance tsN
  refine ho_loop (F := fun m (_ : Unit) s => fX12_advance_l0 N m s) (fun j _ s => i ≤ j ∧ FrLM σ s ∧ s.1 0 3 = Int32.ofNat j ∧ ruN isB B (n - j) j = ruN isB B (n - i) i) n ?_ ?_ (n - i) N i () σ (by omega) (by omega) ⟨Nat.le_refl _, FrLM.refl _, h3, rfl⟩
  · rintro m j _ s hj ⟨g1, F, g3, E⟩ rec
    have T' := T.fr F
    have bj := (T'.2.2 j hj).1
    have bk := bm_k _ bj
    have bl : fX12_advance_b26 N (fX12_advance_l0 N m) s = fX12_advance_l0 N m (pI s 0 3 (Int32.ofNat (j + 1))) := by unfold fX12_advance_b26; rw [ho_lte, g3, nz_succ]
    simp only [fX12_advance_l0]
    unfold fX12_advance_b0
    rw [g3, byteAt_M T' hj, ho_bds]
    by_cases c : isB (B j) = true
    · have go : Ho (fX12_advance_b26 N (fX12_advance_l0 N m) s) (fun _ t => FrLM σ t ∧ LxM B n (ruN isB B (n - i) i) t) := by
        rw [bl]
        exact rec () _ ⟨by omega, F.pI (by omega), pI_eq, by rw [← ru_s hj c]; exact E⟩
      have c' : B j = 10 ∨ B j = 32 := of_decide_eq_true c
      by_cases c1 : B j = 10
      · rw [if_pos (bk.1.1.mpr c1)]; exact go
      · rw [if_neg (fun h => c1 (bk.1.1.mp h)), g3, byteAt_M T' hj, ho_bds, if_pos (bk.1.2.1.mpr (by omega))]; exact go
    · have c' : ¬ (B j = 10 ∨ B j = 32) := fun h => c (decide_eq_true h)
      rw [if_neg (fun h => c' (Or.inl (bk.1.1.mp h))), g3, byteAt_M T' hj, ho_bds, if_neg (fun h => c' (Or.inr (bk.1.2.1.mp h))), ← E, ru_z hj c, ho_lte, g3]
      have F0 : FrLM σ (pI s 0 4 (Int32.ofNat j)) := F.pI (by omega)
      have s4 : (pI s 0 4 (Int32.ofNat j)).1 0 4 = Int32.ofNat j := pI_eq
      have s3 : (pI s 0 4 (Int32.ofNat j)).1 0 3 = Int32.ofNat j := by rw [pI_nq (by omega)]; exact g3
      have T0 := T.fr F0
      generalize pI s 0 4 (Int32.ofNat j) = s5 at F0 s4 s3 T0
      rw [s3, byteAt_M T0 hj, ho_bds, ho_lte, if_pos (show (0 : Int32) ≤ Int32.ofNat (B j) by rw [z_le (by omega) (by omega)]; exact Nat.zero_le _), let_M bj, ho_bds]
      by_cases c2 : isL (B j) = true
      · have nd : ¬ isD (B j) = true := by
          have h1 : 97 ≤ B j ∧ B j ≤ 122 := of_decide_eq_true c2
          intro h
          have h2 : 48 ≤ B j ∧ B j ≤ 57 := of_decide_eq_true h
          omega
        have te : teN B n j = ruN isL B (n - (j + 1)) (j + 1) := by unfold teN; rw [if_pos hj, if_pos c2]
        rw [if_pos c2, if_neg (by decide), ho_lte]
        refine ho_mono (let_row_M hN T0 hj c2 s4 s3) (fun _ t ⟨F3, k4, k3, k5, k7⟩ => ?_)
        refine ⟨F0.trans F3, k4, by rw [k3, te], ?_, fun _ h => absurd h nd, fun _ _ => by rw [k7, te]⟩
        rw [k5]; unfold tkM; rw [if_pos hj, if_pos c2, te]
      · rw [if_neg c2, if_pos rfl, dig_M bj, ho_bds]
        by_cases c3 : isD (B j) = true
        · have te : teN B n j = ruN isD B (n - (j + 1)) (j + 1) := by unfold teN; rw [if_pos hj, if_neg c2, if_pos c3]
          rw [if_pos c3, if_neg (by decide), ho_lte]
          have F1 : FrLM σ (pI s5 0 6 0) := F0.pI (by omega)
          refine ho_mono (dig_row_M hN (T.fr F1) hj c3 (by rw [pI_nq (by omega)]; exact s4) (by rw [pI_nq (by omega)]; exact s3) pI_eq) (fun _ t ⟨F3, k4, k3, k5, k6⟩ => ?_)
          refine ⟨F1.trans F3, k4, by rw [k3, te], ?_, fun _ _ => by rw [k6, te], fun _ h => absurd h c2⟩
          rw [k5]; unfold tkM; rw [if_pos hj, if_neg c2, if_pos c3, te]
        · have te : teN B n j = j + 1 := by unfold teN; rw [if_pos hj, if_neg c2, if_neg c3]
          rw [if_neg c3, if_pos rfl, ho_lte, s3, nz_succ]
          unfold fX12_advance_b308
          by_cases c4 : B j = 59
          · rw [if_pos (bk.1.2.2.mpr c4), ho_lte]
            refine ⟨(F0.pI (by omega)).pI (by omega), ?_, ?_, ?_, fun _ h => absurd h c3, fun _ h => absurd h c2⟩
            · rw [pI_nq (by omega), pI_nq (by omega)]; exact s4
            · rw [pI_nq (by omega), pI_eq, te]
            · rw [pI_eq]; unfold tkM; rw [if_pos hj, if_neg c2, if_neg c3, if_pos c4]
          · rw [if_neg (fun h => c4 (bk.1.2.2.mp h)), ho_lte]
            refine ⟨(F0.pI (by omega)).pI (by omega), ?_, ?_, ?_, fun _ h => absurd h c3, fun _ h => absurd h c2⟩
            · rw [pI_nq (by omega), pI_nq (by omega)]; exact s4
            · rw [pI_nq (by omega), pI_eq, te]
            · rw [pI_eq]; unfold tkM; rw [if_pos hj, if_neg c2, if_neg c3, if_neg c4]
  · rintro m _ s ⟨g1, F, g3, E⟩
    have T' := T.fr F
    simp only [fX12_advance_l0]
    unfold fX12_advance_b0
    rw [g3, byteAt_n T', ho_bds, if_neg (by decide), g3, byteAt_n T', ho_bds, if_neg (by decide), ← E, ru_n, ho_lte, g3]
    have F0 : FrLM σ (pI s 0 4 (Int32.ofNat n)) := F.pI (by omega)
    have s4 : (pI s 0 4 (Int32.ofNat n)).1 0 4 = Int32.ofNat n := pI_eq
    have s3 : (pI s 0 4 (Int32.ofNat n)).1 0 3 = Int32.ofNat n := by rw [pI_nq (by omega)]; exact g3
    have T0 := T.fr F0
    generalize pI s 0 4 (Int32.ofNat n) = s5 at F0 s4 s3 T0
    rw [s3, byteAt_n T0, ho_bds, ho_lte, if_neg (by decide), ho_lte]
    have nn : ¬ n < n := Nat.lt_irrefl n
    refine ⟨F0.pI (by omega), ?_, ?_, ?_, fun h => absurd h nn, fun h => absurd h nn⟩
    · rw [pI_nq (by omega)]; exact s4
    · rw [pI_nq (by omega), s3]; unfold teN; rw [if_neg nn]
    · rw [pI_eq]; unfold tkM; rw [if_neg nn]
end LEXM
