/-! Sets of motions as the bits of a long. -/
def bS (v : Int64) (i : Nat) : Bool := v.toBitVec.getLsbD i
theorem bS_zero (i : Nat) : bS 0 i = false := by unfold bS; simp
theorem one_shl : ∀ m, m < 64 → ((1 : Int64) <<< ((Int32.ofNat m).toInt64 &&& 63)).toBitVec = BitVec.twoPow 64 m := by decide +kernel
theorem bS_or {v : Int64} {m : Nat} (i : Nat) (hm : m < 64) : bS (v ||| ((1 : Int64) <<< ((Int32.ofNat m).toInt64 &&& 63))) i = (bS v i || decide (m = i)) := by
  unfold bS
  rw [Int64.toBitVec_or, one_shl m hm, BitVec.getLsbD_or, BitVec.getLsbD_twoPow]
  simp [hm]
theorem bS_and {v u : Int64} (i : Nat) : bS (v &&& u) i = (bS v i && bS u i) := by
  unfold bS
  rw [Int64.toBitVec_and, BitVec.getLsbD_and]
theorem sh_amt : ∀ m, m < 64 → ((Int32.ofNat m).toInt64.toUInt64 &&& Int64.toUInt64 63) = UInt64.ofNat m := by decide +kernel
theorem us_bv {v : Int64} {m : Nat} (hm : m < 64) : (usL v (Int32.ofNat m)).toBitVec = v.toBitVec >>> m := by
  unfold usL
  rw [sh_amt m hm]
  show (v.toUInt64 >>> UInt64.ofNat m).toBitVec = _
  rw [UInt64.toBitVec_shiftRight]
  show v.toBitVec >>> ((UInt64.ofNat m).toBitVec % 64) = _
  rw [BitVec.ushiftRight_eq']
  have : ((UInt64.ofNat m).toBitVec % 64).toNat = m := by
    rw [BitVec.toNat_umod]
    show m % 2 ^ 64 % 64 = m
    omega
  rw [this]
theorem isIn_S {N m : Nat} {v : Int64} {σ : Mem} (hm : m < 64) : fX10_isIn N v (Int32.ofNat m) σ = some (if bS v m = true then 1 else 0, σ) := by
  unfold fX10_isIn
  have e : (lg_cmp (usL v (Int32.ofNat m) &&& 1) 0 = 0) ↔ ¬ bS v m = true := by
    rw [lg_cmp_eq, ← Int64.toBitVec_inj, Int64.toBitVec_and, us_bv hm]
    unfold bS
    constructor
    · intro h
      have h2 := congrArg (fun b => b.getLsbD 0) h
      simp at h2
      simp [h2]
    · intro h
      apply BitVec.eq_of_getLsbD_eq
      intro i hi
      simp only [BitVec.getLsbD_and, BitVec.getLsbD_ushiftRight]
      by_cases i0 : i = 0
      · subst i0; simp at h ⊢; exact h
      · have : (1 : Int64).toBitVec.getLsbD i = false := by
          show (1#64).getLsbD i = false
          rw [BitVec.getLsbD_one]; simp [i0]
        rw [this]; simp
  by_cases q : bS v m = true
  · rw [if_neg (fun h => e.mp h q), if_pos q]
  · rw [if_pos (e.mpr q), if_neg q]
section SETS
variable {N h k c np nw : Nat} {C : Vw} {σ : Mem}
theorem carriedSet_C (hN : 10000 ≤ N) (W : ChW C np nw) (H : ChC σ k C np nw) (hd : k + 9 ≤ h + 1) : Ho (fX10_carriedSet N h k σ) (fun v s => (∀ m, m < 64 → bS v m = carV (asT C) np nw (Int32.ofNat m)) ∧ FrC (h + 1) (h + 1 + 13) σ s) := by
  unfold fX10_carriedSet
  rw [ho_bd]
  refine ho_mono (enter_C hN W.1 H hd) (fun _ s1 ⟨b1, b2, b3, b4⟩ => ?_)
  simp only [ho_lte]
  have Wa := asT_wf W.1
  refine ho_loop (F := fun n (b : Int64 × Int32) s => fX10_carriedSet_l13 N h n b.1 b.2 s) (fun i b s => b.2 = Int32.ofNat i ∧ (∀ m, m < 64 → bS b.1 m = (decide (m < i) && carV (asT C) np nw (Int32.ofNat m))) ∧ HaC s (h + 1) (asT C) np nw ∧ FrC (h + 1) (h + 1 + 13) σ s) 64 ?_ ?_ 64 N 0 (0, 0) s1 (by omega) (by omega) ⟨rfl, fun m hm => by rw [bS_zero]; simp, b1, b4.wide (by omega) (by omega)⟩
  · rintro n i ⟨a, v⟩ s hi ⟨e1, e2, Hs, F⟩ rec
    dsimp only at e1 e2; subst e1
    simp only [fX10_carriedSet_l13, fX10_carriedSet_b13, fX10_carriedSet_b39, ho_lte, nz_succ]
    rw [if_neg (by rw [z_le (by omega) (by omega)]; omega), ho_bd]
    refine ho_mono (vote_C Wa Hs hN hi) (fun x s2 ⟨x1, V⟩ => ?_)
    have hx := lead_car Wa (Int32.ofNat i)
    rw [x1]
    cases hb : carV (asT C) np nw (Int32.ofNat i) with
    | false =>
      rw [if_pos (hx.mpr hb)]
      refine rec (_, _) _ ⟨rfl, fun m hm => ?_, Hs.frv V.1, F.trans V.1.toC⟩
      rw [e2 m hm]
      by_cases q : m = i
      · subst q; rw [hb]; simp
      · rw [show decide (m < i + 1) = decide (m < i) by apply decide_eq_decide.mpr; omega]
    | true =>
      rw [if_neg (by rw [hx, hb]; decide)]
      refine rec (_, _) _ ⟨rfl, fun m hm => ?_, Hs.frv V.1, F.trans V.1.toC⟩
      rw [bS_or m hi, e2 m hm]
      by_cases q : m = i
      · subst q; rw [hb]; simp
      · rw [show decide (m < i + 1) = decide (m < i) by apply decide_eq_decide.mpr; omega, decide_eq_false (show ¬ i = m by omega)]; simp
  · rintro n ⟨a, v⟩ s ⟨e1, e2, Hs, F⟩
    dsimp only at e1 e2; subst e1
    simp only [fX10_carriedSet_l13, fX10_carriedSet_b13]
    rw [if_pos (by decide), ho_some]
    refine ⟨fun m hm => ?_, F⟩
    rw [e2 m hm]; simp [hm]
/-- somebody says aye, nobody no -/
def clV (S : Vw) (np nw : Nat) (m : Int32) : Bool := decide (0 < ayV S np nw m) && decide (noV S np nw m = 0)
theorem clearSet_C (hN : 10000 ≤ N) (W : ChW C np nw) (H : ChC σ k C np nw) (hd : k + 9 ≤ h + 1) : Ho (fX10_clearSet N h k σ) (fun v s => (∀ m, m < 64 → bS v m = clV (asT C) np nw (Int32.ofNat m)) ∧ FrC (h + 1) (h + 1 + 13) σ s) := by
  unfold fX10_clearSet
  rw [ho_bd]
  refine ho_mono (enter_C hN W.1 H hd) (fun _ s1 ⟨b1, b2, b3, b4⟩ => ?_)
  simp only [ho_lte]
  have Wa := asT_wf W.1
  refine ho_loop (F := fun n (b : Int64 × Int32) s => fX10_clearSet_l13 N h n b.1 b.2 s) (fun i b s => b.2 = Int32.ofNat i ∧ (∀ m, m < 64 → bS b.1 m = (decide (m < i) && clV (asT C) np nw (Int32.ofNat m))) ∧ HaC s (h + 1) (asT C) np nw ∧ FrC (h + 1) (h + 1 + 13) σ s) 64 ?_ ?_ 64 N 0 (0, 0) s1 (by omega) (by omega) ⟨rfl, fun m hm => by rw [bS_zero]; simp, b1, b4.wide (by omega) (by omega)⟩
  · rintro n i ⟨a, v⟩ s hi ⟨e1, e2, Hs, F⟩ rec
    dsimp only at e1 e2; subst e1
    simp only [fX10_clearSet_l13, fX10_clearSet_b13, fX10_clearSet_b57, ho_lte, nz_succ]
    rw [if_neg (by rw [z_le (by omega) (by omega)]; omega), ho_bd]
    refine ho_mono (vote_C Wa Hs hN hi) (fun x s2 ⟨x1, V⟩ => ?_)
    rw [V.2.1, V.2.2.1]
    have no : clV (asT C) np nw (Int32.ofNat i) = false → Ho (fX10_clearSet_l13 N h n a (Int32.ofNat (i + 1)) s2) (fun v s => (∀ m, m < 64 → bS v m = clV (asT C) np nw (Int32.ofNat m)) ∧ FrC (h + 1) (h + 1 + 13) σ s) := by
      intro hb
      refine rec (_, _) _ ⟨rfl, fun m hm => ?_, Hs.frv V.1, F.trans V.1.toC⟩
      rw [e2 m hm]
      by_cases q : m = i
      · subst q; rw [hb]; simp
      · rw [show decide (m < i + 1) = decide (m < i) by apply decide_eq_decide.mpr; omega]
    by_cases c1 : ayV (asT C) np nw (Int32.ofNat i) ≤ 0
    · rw [if_pos c1]; apply no
      unfold clV; rw [decide_eq_false (by rw [Int32.not_lt]; exact c1)]; rfl
    · rw [if_neg c1]
      by_cases c2 : noV (asT C) np nw (Int32.ofNat i) = 0
      · rw [if_pos c2]
        have hb : clV (asT C) np nw (Int32.ofNat i) = true := by
          unfold clV; rw [decide_eq_true (by rw [← Int32.not_le]; exact c1), decide_eq_true c2]; rfl
        refine rec (_, _) _ ⟨rfl, fun m hm => ?_, Hs.frv V.1, F.trans V.1.toC⟩
        rw [bS_or m hi, e2 m hm]
        by_cases q : m = i
        · subst q; rw [hb]; simp
        · rw [show decide (m < i + 1) = decide (m < i) by apply decide_eq_decide.mpr; omega, decide_eq_false (show ¬ i = m by omega)]; simp
      · rw [if_neg c2]; apply no
        unfold clV; rw [decide_eq_false c2]; simp
  · rintro n ⟨a, v⟩ s ⟨e1, e2, Hs, F⟩
    dsimp only at e1 e2; subst e1
    simp only [fX10_clearSet_l13, fX10_clearSet_b13]
    rw [if_pos (by decide), ho_some]
    refine ⟨fun m hm => ?_, F⟩
    rw [e2 m hm]; simp [hm]
end SETS
theorem xor64 : ∀ a, a < 64 → ∀ b, b < 64 → Int32.ofNat a ^^^ Int32.ofNat b = Int32.ofNat (a ^^^ b) := by decide +kernel
theorem xor64_lt : ∀ a, a < 64 → ∀ b, b < 64 → a ^^^ b < 64 := by decide +kernel
theorem bits7 : ∀ a, a < 64 → ¬ (7 : Int32) ≤ bitsV (Int32.ofNat a) := by decide +kernel
section QS3
variable {σ1 σ2 : Mem} {N : Nat}
theorem t_nearest (hN : 10000 ≤ N) (R : RR σ1 σ2) (v1 v2 : Int32) : H2 (fX11_nearest N 0 v1 v2 σ1) (fX12_nearest N v1 v2 σ2) (QU σ1 σ2) := by
  unfold fX11_nearest fX12_nearest
  refine q_as R v1 v2 (fun j C np nw s2 mm hj hm em W HC HM K => ?_)
  subst em
  apply h2_l
  refine ho_mono (carriedSet_C hN W HC (by omega)) (fun v t1 ⟨hv, F1⟩ => ?_)
  have E1 : KC σ1 t1 := R.kc.fr F1 (by omega)
  apply h2_r
  refine ho_mono (asTold_M hN HM) (fun _ t2 ⟨HA, F2, _, _⟩ => ?_)
  unfold fX10_nearestOf
  rw [bd_ret]
  simp only [ho_lte]
  refine h2_loop (F1 := fun n (b : Int32 × Int32 × Int32) s => fX10_nearestOf_l9 N n v (Int32.ofNat mm) b.1 b.2.1 b.2.2 s) (F2 := fun n (b : Int32 × Int32) s => fX12_nearest_l26 N n (Int32.ofNat mm) b.1 b.2 s) (fun i b s b' s' => b.2.2 = Int32.ofNat i ∧ b'.2 = Int32.ofNat i ∧ b.1 = b'.1 ∧ ((b.1 = -1 ∧ b.2.1 = 7) ∨ ∃ l, l < 64 ∧ b.1 = Int32.ofNat l ∧ b.2.1 = bitsV (Int32.ofNat (l ^^^ mm))) ∧ s = t1 ∧ HaM s' (610 + 63 * j) C (asT C) np nw ∧ KM σ2 s') 64 ?_ ?_ 64 N N 0 (-1, 7, 0) t1 (-1, 0) t2 (by omega) (by omega) (by omega) ⟨rfl, rfl, rfl, Or.inl ⟨rfl, rfl⟩, rfl, HA, K.trans F2.km⟩
  · rintro n1 n2 i ⟨x1, x2, x3⟩ s ⟨y1, y2⟩ s' hi ⟨e1, e2, e3, e4, e5, Hs, K'⟩ rec
    dsimp only at e1 e2 e3 e4
    subst e1 e2 e3 e5
    simp only [fX10_nearestOf_l9, fX12_nearest_l26, fX10_nearestOf_b9, fX12_nearest_b26, fX10_nearestOf_b48, fX12_nearest_b66, fX12_nearest_b63, ho_lte, nz_succ, bc_J6, ho_bds, isIn_S hi, xor64 i hi mm hm, hv i hi, bc_bits _ (Nat.lt_trans (xor64_lt i hi mm hm) (by decide))]
    have h64 : ¬ (64 : Int32) ≤ Int32.ofNat i := by rw [z_le (by omega) (by omega)]; omega
    rw [if_neg h64, if_neg h64]
    apply h2_r
    refine ho_mono (answers_M hN (asT_wf W.1) Hs) (fun r u2 ⟨hr, V2⟩ => ?_)
    have H' := Hs.ag V2.1.ag
    have K2 := K'.trans V2.1.toH.km
    rw [hr]
    have keep : H2 (fX10_nearestOf_l9 N n1 v (Int32.ofNat mm) x1 x2 (Int32.ofNat (i + 1)) s) (fX12_nearest_l26 N n2 (Int32.ofNat mm) x1 (Int32.ofNat (i + 1)) u2) (QU σ1 σ2) := rec (_, _, _) _ (_, _) _ ⟨rfl, rfl, rfl, e4, rfl, H', K2⟩
    have upd : H2 (fX10_nearestOf_l9 N n1 v (Int32.ofNat mm) (Int32.ofNat i) (bitsV (Int32.ofNat (i ^^^ mm))) (Int32.ofNat (i + 1)) s) (fX12_nearest_l26 N n2 (Int32.ofNat mm) (Int32.ofNat i) (Int32.ofNat (i + 1)) u2) (QU σ1 σ2) := rec (_, _, _) _ (_, _) _ ⟨rfl, rfl, rfl, Or.inr ⟨i, hi, rfl, rfl⟩, rfl, H', K2⟩
    cases hb : carV (asT C) np nw (Int32.ofNat i) with
    | false =>
      simp only [hb, Bool.false_eq_true, if_false, if_true, ite_self]
      exact keep
    | true =>
      simp only [if_true]
      rw [if_neg (show ¬ (1 : Int32) = 0 by decide), if_neg (show ¬ (1 : Int32) = 0 by decide)]
      rcases e4 with ⟨z1, z2⟩ | ⟨l, hl, z1, z2⟩
      · rw [z2, if_neg (bits7 _ (xor64_lt i hi mm hm)), if_pos z1]; exact upd
      · rw [z1, z2] at keep ⊢
        rw [if_neg (z_m1 (by omega)), bits_M hN, ho_bds, xor64 l hl mm hm, bits_M hN, ho_bds]
        by_cases q : bitsV (Int32.ofNat (l ^^^ mm)) ≤ bitsV (Int32.ofNat (i ^^^ mm))
        · rw [if_pos q, if_pos q]; exact keep
        · rw [if_neg q, if_neg q]; exact upd
  · rintro n1 n2 ⟨x1, x2, x3⟩ s ⟨y1, y2⟩ s' ⟨e1, e2, e3, e4, e5, Hs, K'⟩
    dsimp only at e1 e2 e3 e4
    subst e1 e2 e3 e5
    simp only [fX10_nearestOf_l9, fX12_nearest_l26, fX10_nearestOf_b9, fX12_nearest_b26]
    rw [if_pos (by decide), if_pos (by decide)]
    exact ⟨rfl, E1, K'⟩
theorem t_worded (hN : 10000 ≤ N) (R : RR σ1 σ2) (v1 v2 : Int32) : H2 (fX11_worded N 0 v1 v2 σ1) (fX12_worded N v1 v2 σ2) (QU σ1 σ2) := by
  unfold fX11_worded fX12_worded
  refine q_as R v1 v2 (fun j C np nw s2 mm hj hm em W HC HM K => ?_)
  subst em
  apply h2_l
  refine ho_mono (carriedSet_C hN W HC (by omega)) (fun v t1 ⟨hv, F1⟩ => ?_)
  have E1 : KC σ1 t1 := R.kc.fr F1 (by omega)
  apply h2_r
  refine ho_mono (asTold_M hN HM) (fun _ t2 ⟨HA, F2, _, _⟩ => ?_)
  unfold fX10_fewestWith
  rw [bd_ret]
  simp only [ho_lte]
  refine h2_loop (F1 := fun n (b : Int32 × Int32 × Int32) s => fX10_fewestWith_l9 N n v (Int32.ofNat mm) b.1 b.2.1 b.2.2 s) (F2 := fun n (b : Int32 × Int32) s => fX12_worded_l26 N n (Int32.ofNat mm) b.1 b.2 s) (fun i b s b' s' => b.2.2 = Int32.ofNat i ∧ b'.2 = Int32.ofNat i ∧ b.1 = b'.1 ∧ ((b.1 = -1 ∧ b.2.1 = 7) ∨ ∃ l, l < 64 ∧ b.1 = Int32.ofNat l ∧ b.2.1 = bitsV (Int32.ofNat l)) ∧ s = t1 ∧ HaM s' (610 + 63 * j) C (asT C) np nw ∧ KM σ2 s') 64 ?_ ?_ 64 N N 0 (-1, 7, 0) t1 (-1, 0) t2 (by omega) (by omega) (by omega) ⟨rfl, rfl, rfl, Or.inl ⟨rfl, rfl⟩, rfl, HA, K.trans F2.km⟩
  · rintro n1 n2 i ⟨x1, x2, x3⟩ s ⟨y1, y2⟩ s' hi ⟨e1, e2, e3, e4, e5, Hs, K'⟩ rec
    dsimp only at e1 e2 e3 e4
    subst e1 e2 e3 e5
    simp only [fX10_fewestWith_l9, fX12_worded_l26, fX10_fewestWith_b9, fX12_worded_b26, fX10_fewestWith_b54, fX12_worded_b70, fX12_worded_b58, ho_lte, nz_succ, bc_J6, ho_bds, isIn_S hi, hv i hi, bc_bits i (by omega), bits_M hN]
    have h64 : ¬ (64 : Int32) ≤ Int32.ofNat i := by rw [z_le (by omega) (by omega)]; omega
    rw [if_neg h64, if_neg h64]
    have keep : ∀ u2, HaM u2 (610 + 63 * j) C (asT C) np nw → KM σ2 u2 → H2 (fX10_fewestWith_l9 N n1 v (Int32.ofNat mm) x1 x2 (Int32.ofNat (i + 1)) s) (fX12_worded_l26 N n2 (Int32.ofNat mm) x1 (Int32.ofNat (i + 1)) u2) (QU σ1 σ2) := fun u2 H' K2 => rec (_, _, _) _ (_, _) _ ⟨rfl, rfl, rfl, e4, rfl, H', K2⟩
    have upd : ∀ u2, HaM u2 (610 + 63 * j) C (asT C) np nw → KM σ2 u2 → H2 (fX10_fewestWith_l9 N n1 v (Int32.ofNat mm) (Int32.ofNat i) (bitsV (Int32.ofNat i)) (Int32.ofNat (i + 1)) s) (fX12_worded_l26 N n2 (Int32.ofNat mm) (Int32.ofNat i) (Int32.ofNat (i + 1)) u2) (QU σ1 σ2) := fun u2 H' K2 => rec (_, _, _) _ (_, _) _ ⟨rfl, rfl, rfl, Or.inr ⟨i, hi, rfl, rfl⟩, rfl, H', K2⟩
    by_cases q1 : Int32.ofNat i &&& Int32.ofNat mm = Int32.ofNat mm
    · rw [if_pos q1, if_pos q1]
      have ask : H2 (if (if carV (asT C) np nw (Int32.ofNat i) = true then (1 : Int32) else 0) = 0 then fX10_fewestWith_l9 N n1 v (Int32.ofNat mm) x1 x2 (Int32.ofNat (i + 1)) s else fX10_fewestWith_l9 N n1 v (Int32.ofNat mm) (Int32.ofNat i) (bitsV (Int32.ofNat i)) (Int32.ofNat (i + 1)) s) (bd (fX12_answers N (Int32.ofNat i) s') (fun r14 s15 => if r14 = 0 then fX12_worded_l26 N n2 (Int32.ofNat mm) x1 (Int32.ofNat (i + 1)) s15 else fX12_worded_l26 N n2 (Int32.ofNat mm) (Int32.ofNat i) (Int32.ofNat (i + 1)) s15)) (QU σ1 σ2) := by
        apply h2_r
        refine ho_mono (answers_M hN (asT_wf W.1) Hs) (fun r u2 ⟨hr, V2⟩ => ?_)
        rw [hr]
        have H' := Hs.ag V2.1.ag
        have K2 := K'.trans V2.1.toH.km
        by_cases hb : (if carV (asT C) np nw (Int32.ofNat i) = true then (1 : Int32) else 0) = 0
        · rw [if_pos hb, if_pos hb]; exact keep u2 H' K2
        · rw [if_neg hb, if_neg hb]; exact upd u2 H' K2
      rcases e4 with ⟨z1, z2⟩ | ⟨l, hl, z1, z2⟩
      · rw [if_pos z1]
        rw [if_neg (by rw [z2]; exact bits7 _ hi)]; exact ask
      · rw [if_neg (show ¬ x1 = -1 by rw [z1]; exact z_m1 (by omega))]
        by_cases q : x2 ≤ bitsV (Int32.ofNat i)
        · rw [if_pos q, if_pos (show bitsV x1 ≤ bitsV (Int32.ofNat i) by rw [z1, ← z2]; exact q)]; exact keep s' Hs K'
        · rw [if_neg q, if_neg (show ¬ bitsV x1 ≤ bitsV (Int32.ofNat i) by rw [z1, ← z2]; exact q)]; exact ask
    · rw [if_neg q1, if_neg q1]; exact keep s' Hs K'
  · rintro n1 n2 ⟨x1, x2, x3⟩ s ⟨y1, y2⟩ s' ⟨e1, e2, e3, e4, e5, Hs, K'⟩
    dsimp only at e1 e2 e3 e4
    subst e1 e2 e3 e5
    simp only [fX10_fewestWith_l9, fX12_worded_l26, fX10_fewestWith_b9, fX12_worded_b26]
    rw [if_pos (by decide), if_pos (by decide)]
    exact ⟨rfl, E1, K'⟩
end QS3
