def VoI (h : Nat) (S : Vw) (nw : Nat) (m : Int32) (σ : Mem) (i : Nat) (σ' : Mem) : Prop :=
  FrV h σ σ' ∧ σ'.1 h 5 = (vtV S nw m i).1 ∧ σ'.1 h 6 = (vtV S nw m i).2 ∧ ∀ q, q < i → σ'.1 (h + 12) q = saidV S nw m q
theorem vote_b41_C {σ σ' : Mem} {h np nw : Nat} {S : Vw} (W : WfV S np nw) (H : HaC σ h S np nw) {i N : Nat} {m : Int32} {rc : Int32 → Int32 → Mem → Option (Int32 × Mem)} {Q : Int32 → Mem → Prop} (hi : i < np) (I : VoI h S nw m σ i σ') (rec : ∀ σ'', VoI h S nw m σ (i + 1) σ'' → Ho (rc m (Int32.ofNat (i + 1)) σ'') Q) : Ho (fX2_vote_b41 N h rc m (Int32.ofNat i) (saidV S nw m i) σ') Q := by
  have hb : i < 8 := by have := W.1; omega
  have hc : i < 2147483648 := by omega
  obtain ⟨F, ha, hn, hs⟩ := I
  have H' := H.frv F
  obtain ⟨q1, q2, q3, q4, q5, q6, q7, q8⟩ := H'.2.2.2.2.1 i hi
  unfold fX2_vote_b41 fX2_vote_b98
  simp only [ho_lte, nz_inb hc, hb, decide_true, ho_gdt, nz_nat hc, nz_succ]
  have hv : vtV S nw m (i + 1) = ((vtV S nw m i).1 + (if saidV S nw m i = 1 then S 7 i else 0), (vtV S nw m i).2 + (if saidV S nw m i = 2 then S 7 i else 0)) := rfl
  have base : ∀ q, q < i + 1 → (pI σ' (h + 12) i (saidV S nw m i)).1 (h + 12) q = saidV S nw m q := by
    intro q hq
    by_cases hqi : q = i
    · subst hqi; exact pI_eq
    · rw [pI_nq (by omega)]; exact hs q (by omega)
  by_cases c1 : saidV S nw m i = 1
  · rw [if_pos c1]
    apply rec
    refine ⟨⟨fun k j h1 h2 => ?_, F.2⟩, ?_, ?_, fun q hq => ?_⟩
    · rw [pI_nq (by omega), pI_nq (by omega)]; exact F.1 k j h1 h2
    · rw [pI_eq, pI_nq (by omega), pI_nq (by omega), hv, ha, q6, if_pos c1]
    · rw [pI_nq (by omega), pI_nq (by omega), hv, hn]; show (vtV S nw m i).2 = (vtV S nw m i).2 + _; rw [c1, if_neg (show ¬ (1 : Int32) = 2 by decide), Int32.add_zero]
    · rw [pI_nq (by omega)]; exact base q hq
  · rw [if_neg c1]
    by_cases c2 : saidV S nw m i = 2
    · rw [if_pos c2]
      apply rec
      refine ⟨⟨fun k j h1 h2 => ?_, F.2⟩, ?_, ?_, fun q hq => ?_⟩
      · rw [pI_nq (by omega), pI_nq (by omega)]; exact F.1 k j h1 h2
      · rw [pI_nq (by omega), pI_nq (by omega), hv, ha]; show (vtV S nw m i).1 = (vtV S nw m i).1 + _; rw [c2, if_neg (show ¬ (2 : Int32) = 1 by decide), Int32.add_zero]
      · rw [pI_eq, pI_nq (by omega), pI_nq (by omega), hv, hn, q6, if_pos c2]
      · rw [pI_nq (by omega)]; exact base q hq
    · rw [if_neg c2]
      apply rec
      refine ⟨⟨fun k j h1 h2 => ?_, F.2⟩, ?_, ?_, fun q hq => base q hq⟩
      · rw [pI_nq (by omega)]; exact F.1 k j h1 h2
      · rw [pI_nq (by omega), hv, ha, if_neg c1, Int32.add_zero]
      · rw [pI_nq (by omega), hv, hn, if_neg c2, Int32.add_zero]
/-- a vote: the ayes' lead, voices, words; nothing else changes -/
def VoP (h : Nat) (S : Vw) (np nw : Nat) (m : Int32) (σ σ' : Mem) : Prop :=
  FrV h σ σ' ∧ σ'.1 h 5 = ayV S np nw m ∧ σ'.1 h 6 = noV S np nw m ∧ ∀ q, q < np → σ'.1 (h + 12) q = saidV S nw m q
theorem vote_C {σ : Mem} {h np nw : Nat} {S : Vw} (W : WfV S np nw) (H : HaC σ h S np nw) {mm N : Nat} (hN : 10000 ≤ N) (hm : mm < 64) : Ho (fX2_vote N h (Int32.ofNat mm) σ) (fun r σ' => r = ayV S np nw (Int32.ofNat mm) - noV S np nw (Int32.ofNat mm) ∧ VoP h S np nw (Int32.ofNat mm) σ σ') := by
  have hnp := W.1
  unfold fX2_vote
  simp only [ho_lt]
  refine ho_loop (F := fun n (v : Int32) s => fX2_vote_l12 N h n (Int32.ofNat mm) v s) (fun i v s => v = Int32.ofNat i ∧ VoI h S nw (Int32.ofNat mm) σ i s) np ?_ ?_ np N 0 _ _ (by omega) (by omega) ⟨rfl, ?_⟩
  · intro n i v s hi ⟨hv, I⟩ rec
    subst hv
    show Ho (fX2_vote_b12 N h (fX2_vote_l12 N h n) (Int32.ofNat mm) (Int32.ofNat i) s) _
    have H' := H.frv I.1
    unfold fX2_vote_b12
    rw [if_neg (by rw [H'.2.1, W.2.2.1, nz_le (by omega) (by omega)]; omega), isOver_C H']
    simp only [ho_bds]
    have fin : Ho (fX2_vote_b41 N h (fX2_vote_l12 N h n) (Int32.ofNat mm) (Int32.ofNat i) (saidV S nw (Int32.ofNat mm) i) s) (fun r σ' => r = ayV S np nw (Int32.ofNat mm) - noV S np nw (Int32.ofNat mm) ∧ VoP h S np nw (Int32.ofNat mm) σ σ') := vote_b41_C W H hi I (fun s' I' => rec _ s' ⟨rfl, I'⟩)
    cases ho : overV S i with
    | false =>
      rw [show (if (false = true) then (1 : Int32) else 0) = 0 from rfl, if_pos rfl, says_C W H' hi hm, ho_bds, I.2.1, I.2.2.1]
      unfold saidV sayV at fin
      rw [ho, if_neg (by decide)] at fin
      exact fin
    | true =>
      rw [show (if (true = true) then (1 : Int32) else 0) = 1 from rfl, if_neg (by decide)]
      unfold saidV sayV at fin
      rw [ho, if_pos rfl] at fin
      exact fin
  · intro n v s ⟨hv, I⟩
    subst hv
    show Ho (fX2_vote_b12 N h (fX2_vote_l12 N h n) (Int32.ofNat mm) (Int32.ofNat np) s) _
    have H' := H.frv I.1
    unfold fX2_vote_b12
    rw [if_pos (by rw [H'.2.1, W.2.2.1]; exact Int32.le_refl _), ho_some]
    refine ⟨?_, I⟩
    rw [I.2.1, I.2.2.1]; rfl
  · refine ⟨⟨fun k j h1 h2 => ?_, rfl⟩, ?_, ?_, fun q hq => absurd hq (Nat.not_lt_zero q)⟩
    · rw [pI_nq (by omega), pI_nq (by omega)]
    · rw [pI_nq (by omega), pI_eq]; rfl
    · rw [pI_eq]; rfl
