def goP (np nw : Nat) (m wd : Int32) : Nat → Vw → Nat → Nat → Prop
  | 0, S, _, _ => (if carV S np nw m = true then (1 : Int32) else 0) = wd
  | r + 1, S, lo, c => lo ≤ c / 8 ^ r ∧ c / 8 ^ r < np ∧ goP np nw m wd r (wxV S (c / 8 ^ r)) (c / 8 ^ r) (c % 8 ^ r)
theorem srN_sp {f : Nat → Option Nat} {b np : Nat} {G : Nat → Nat → Prop} (b0 : 0 < b) (hs : ∀ p c, f p = some c → c < b ∧ G p c ∧ ∀ c', c' < c → ¬ G p c') (hz : ∀ p, f p = none → ∀ c', c' < b → ¬ G p c') : ∀ n p, p + n = np → (∀ c, srN f b n p = some c → (p ≤ c / b ∧ c / b < np ∧ G (c / b) (c % b)) ∧ ∀ c', c' < c → p ≤ c' / b → ¬ G (c' / b) (c' % b)) ∧ (srN f b n p = none → ∀ c', p ≤ c' / b → c' / b < np → ¬ G (c' / b) (c' % b))
  | 0, p, hp => ⟨(fun c h => by cases h), fun _ c' h1 h2 => by omega⟩
  | n + 1, p, hp => by
    have ih := srN_sp (np := np) b0 hs hz n (p + 1) (by omega)
    simp only [srN]
    cases e : f p with
    | some c0 =>
      obtain ⟨s1, s2, s3⟩ := hs p c0 e
      refine ⟨fun c h => ?_, fun h => by cases h⟩
      cases h
      have d1 : (p * b + c0) / b = p := by rw [Nat.mul_comm, Nat.mul_add_div b0, Nat.div_eq_of_lt s1, Nat.add_zero]
      have d2 : (p * b + c0) % b = c0 := by rw [Nat.mul_comm, Nat.mul_add_mod, Nat.mod_eq_of_lt s1]
      rw [d1, d2]
      refine ⟨⟨Nat.le_refl _, by omega, s2⟩, fun c' h1 h2 => ?_⟩
      have le : c' / b ≤ (p * b + c0) / b := Nat.div_le_div_right (by omega)
      rw [d1] at le
      have eq : c' / b = p := by omega
      rw [eq]
      apply s3
      have := Nat.div_add_mod c' b
      rw [eq, Nat.mul_comm] at this
      omega
    | none =>
      have z := hz p e
      refine ⟨fun c h => ?_, fun h c' h1 h2 => ?_⟩
      · obtain ⟨⟨i1, i2, i3⟩, i4⟩ := ih.1 c h
        refine ⟨⟨by omega, i2, i3⟩, fun c' h1 h2 => ?_⟩
        by_cases q : c' / b = p
        · rw [q]; exact z _ (Nat.mod_lt _ b0)
        · exact i4 c' h1 (by omega)
      · by_cases q : c' / b = p
        · rw [q]; exact z _ (Nat.mod_lt _ b0)
        · exact ih.2 h c' (by omega) h2
theorem wfN_sp {np nw : Nat} {m wd : Int32} (hn : np ≤ 8) : ∀ r S lo, (∀ c, wfN np nw m wd r S lo = some c → goP np nw m wd r S lo c ∧ ∀ c', c' < c → ¬ goP np nw m wd r S lo c') ∧ (wfN np nw m wd r S lo = none → ∀ c', c' < 8 ^ r → ¬ goP np nw m wd r S lo c')
  | 0, S, lo => by
    simp only [wfN, goP]
    by_cases q : (if carV S np nw m = true then (1 : Int32) else 0) = wd
    · rw [if_pos q]
      exact ⟨(fun c h => by cases h; exact ⟨q, fun c' h => absurd h (Nat.not_lt_zero c')⟩), (fun h => by cases h)⟩
    · rw [if_neg q]
      exact ⟨(fun c h => by cases h), fun _ c' _ => q⟩
  | r + 1, S, lo => by
    have ih := wfN_sp (np := np) (nw := nw) (m := m) (wd := wd) hn r
    by_cases l : lo ≤ np
    · have sp := srN_sp (f := fun p => wfN np nw m wd r (wxV S p) p) (b := 8 ^ r) (np := np) (G := fun p c => goP np nw m wd r (wxV S p) p c) (Nat.pow_pos (by omega)) (fun p c h => ⟨wfN_lt hn r _ _ c h, (ih (wxV S p) p).1 c h⟩) (fun p h => (ih (wxV S p) p).2 h) (np - lo) lo (by omega)
      refine ⟨fun c h => ?_, fun h c' _ g => ?_⟩
      · obtain ⟨s1, s2⟩ := sp.1 c h
        exact ⟨s1, fun c' h' g => s2 c' h' g.1 g.2.2⟩
      · exact sp.2 h c' g.1 g.2.1 g.2.2
    · refine ⟨fun c h => absurd (show np - lo = 0 by omega) (srN_gt _ _ _ h), fun _ c' _ g => ?_⟩
      have := g.1; have := g.2.1; omega
theorem fewW_C {N h k np nw mm : Nat} {wd : Int32} {C : Vw} {σ : Mem} (hN : 10000 ≤ N) (W : WfV C np nw) (H : ChC σ k C np nw) (hd : k + 9 ≤ h) (hm : mm < 64) : Ho (fX3_fewestWaxes N h k (Int32.ofNat mm) wd σ) (fun v t => FrC (h + 1) (h + 15) σ t ∧ ((∃ r c, r ≤ 3 ∧ v = Int32.ofNat r ∧ wfN np nw (Int32.ofNat mm) wd r (asT C) 0 = some c ∧ (∀ r', r' < r → wfN np nw (Int32.ofNat mm) wd r' (asT C) 0 = none) ∧ ∀ j, j < r → t.1 (h + 1) j = Int32.ofNat (c / 8 ^ (r - 1 - j) % 8)) ∨ (v = -1 ∧ ∀ r, r ≤ 3 → wfN np nw (Int32.ofNat mm) wd r (asT C) 0 = none))) := by
  have W' := asT_wf W
  unfold fX3_fewestWaxes
  rw [ho_bd]
  refine ho_mono (enter_C hN W H (by omega)) (fun _ s ⟨HA, _, _, F⟩ => ?_)
  simp only [ho_lt]
  refine ho_loop (F := fun n (b : Int32) t => fX3_fewestWaxes_l11 N h n (Int32.ofNat mm) wd b t) (fun i b t => b = Int32.ofNat i ∧ HaC t (h + 2) (asT C) np nw ∧ FrC (h + 1) (h + 15) σ t ∧ ∀ r', r' < i → wfN np nw (Int32.ofNat mm) wd r' (asT C) 0 = none) 4 ?_ ?_ 4 N 0 0 s (by omega) (by omega) ⟨rfl, HA, F.wide (by omega) (by omega), fun r hr => absurd hr (Nat.not_lt_zero r)⟩
  · rintro n i b t hi ⟨e1, H1, F1, Z⟩ rec
    subst e1
    simp only [fX3_fewestWaxes_l11, fX3_fewestWaxes_b11]
    rw [if_neg (show ¬ (3 : Int32) < Int32.ofNat i by rw [z_lt (by omega) (by omega)]; omega), ho_bd]
    refine ho_mono (waxF_C (k := i) hN hm (by omega) i 5 0 0 (asT C) t (by omega) (by omega) (by omega) W' H1 (fun p hp => ⟨0, Nat.le_refl _, rfl⟩)) (fun v u ⟨H2', F2, _, Y⟩ => ?_)
    rcases Y with ⟨c, y1, y2, y3⟩ | ⟨y1, y2⟩
    · rw [if_neg (show ¬ v = 0 by rw [y2]; decide)]
      exact ⟨F1.trans F2, Or.inl ⟨i, c, by omega, rfl, y1, Z, fun j hj => by have := y3 j hj; rw [Nat.zero_add] at this; exact this⟩⟩
    · rw [if_pos y2]
      simp only [ho_lte, nz_succ]
      refine rec _ _ ⟨rfl, H2', F1.trans F2, fun r hr => ?_⟩
      by_cases q : r = i
      · subst q; exact y1
      · exact Z r (by omega)
  · rintro n b t ⟨e1, H1, F1, Z⟩
    subst e1
    simp only [fX3_fewestWaxes_l11, fX3_fewestWaxes_b11]
    rw [if_pos (by decide)]
    exact ⟨F1, Or.inr ⟨rfl, fun r hr => Z r (by omega)⟩⟩
