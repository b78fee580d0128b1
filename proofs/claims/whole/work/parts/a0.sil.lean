/-! Two views that differ only in the wax of pieces that are silent in both. -/
def WxB (S : Vw) (np r : Nat) : Prop := ∀ p, p < np → ∃ x, x + r ≤ 8 ∧ S 10 p = Int32.ofNat x
def SiV (np nw mm r : Nat) (S T : Vw) : Prop := NmV S np nw ∧ NmV T np nw ∧ (∀ i j, i ≠ 10 → S i j = T i j) ∧ WxB S np r ∧ WxB T np r ∧
  ∀ p, p < np → (S 10 p = T 10 p ∨ (loudV S nw (Int32.ofNat mm) p < S 5 p ∧ loudV T nw (Int32.ofNat mm) p < S 5 p))
theorem WxB.dn {S : Vw} {np r : Nat} (h : WxB S np (r + 1)) : WxB S np r := fun p hp => by
  obtain ⟨x, h1, h2⟩ := h p hp
  exact ⟨x, by omega, h2⟩
theorem WxB.wx {S : Vw} {np r q : Nat} (h : WxB S np (r + 1)) : WxB (wxV S q) np r := fun p hp => by
  obtain ⟨x, h1, h2⟩ := h p hp
  unfold wxV
  by_cases c : p = q
  · subst c; rw [upV_eq, h2, nz_succ]; exact ⟨x + 1, by omega, rfl⟩
  · rw [upV_ne _ _ (by omega)]; exact ⟨x, by omega, h2⟩
theorem NmV.wx {S : Vw} {np nw q : Nat} (H : NmV S np nw) : NmV (wxV S q) np nw := by
  obtain ⟨W, h1, h2, h3⟩ := H
  have u : ∀ i j, i ≠ 10 → wxV S q i j = S i j := fun i j hi => upV_ne _ _ (by omega)
  refine ⟨upV_wf W (by omega), ?_, fun p hp => ?_, fun w hw => ?_⟩
  · rw [u 1 2 (by omega)]; exact h1
  · rw [u 3 p (by omega), u 4 p (by omega)]; exact h2 p hp
  · rw [u 8 w (by omega)]; exact h3 w hw
theorem loud_eq {S T : Vw} {nw p : Nat} {m : Int32} (h : ∀ i j, i ≠ 10 → S i j = T i j) (h2 : S 10 p = T 10 p) : loudV S nw m p = loudV T nw m p := by
  unfold loudV sumV
  have el : loadV S nw p = loadV T nw p := ldV_congr nw (fun w _ => ⟨h 8 w (by omega), h 9 w (by omega)⟩)
  rw [el, h 4 p (by omega), h 1 2 (by omega), h 3 p (by omega), h 6 p (by omega), h2]
theorem SiV.say {np nw mm r : Nat} {S T : Vw} (H : SiV np nw mm r S T) {q : Nat} (hq : q < np) (a n : Int32) : sayV S nw (Int32.ofNat mm) q a n = sayV T nw (Int32.ofNat mm) q a n := by
  obtain ⟨_, _, h, _, _, k⟩ := H
  have el : loadV S nw q = loadV T nw q := ldV_congr nw (fun w _ => ⟨h 8 w (by omega), h 9 w (by omega)⟩)
  have cond : (loudV S nw (Int32.ofNat mm) q < T 5 q) ↔ (loudV T nw (Int32.ofNat mm) q < T 5 q) := by
    rcases k q hq with k1 | ⟨k1, k2⟩
    · rw [loud_eq h k1]
    · rw [h 5 q (by omega)] at k1 k2
      exact ⟨fun _ => k2, fun _ => k1⟩
  unfold sayV overV wordV
  rw [h 0 4 (by omega), h 2 q (by omega), el, h 5 q (by omega)]
  simp only [cond]
theorem SiV.car {np nw mm r : Nat} {S T : Vw} (H : SiV np nw mm r S T) : carV S np nw (Int32.ofNat mm) = carV T np nw (Int32.ofNat mm) := by
  have vt : ∀ q, q ≤ np → vtV S nw (Int32.ofNat mm) q = vtV T nw (Int32.ofNat mm) q := by
    intro q
    induction q with
    | zero => intro _; rfl
    | succ q ih =>
      intro hq
      simp only [vtV]
      rw [ih (by omega), H.say (by omega), H.2.2.1 7 q (by omega)]
  unfold carV ayV noV
  rw [vt np (Nat.le_refl _)]
theorem SiV.dn {np nw mm r : Nat} {S T : Vw} (H : SiV np nw mm (r + 1) S T) : SiV np nw mm r S T := ⟨H.1, H.2.1, H.2.2.1, H.2.2.2.1.dn, H.2.2.2.2.1.dn, H.2.2.2.2.2⟩
theorem loud_wl {S : Vw} {np nw p mm r : Nat} {l : Int32} (H : NmV S np nw) (X : WxB S np (r + 1)) (hp : p < np) (hm : mm < 64) (si : loudV S nw (Int32.ofNat mm) p < l) : loudV (wxV S p) nw (Int32.ofNat mm) p < l := by
  obtain ⟨x, hx, ex⟩ := X p hp
  have lw := loud_wax H hp hm (show x ≤ 8 by omega) ex
  rw [i32_lt] at si ⊢
  omega
theorem SiV.wx {np nw mm r q : Nat} {S T : Vw} (hm : mm < 64) (H : SiV np nw mm (r + 1) S T) : SiV np nw mm r (wxV S q) (wxV T q) := by
  obtain ⟨N1, N2, h, X1, X2, k⟩ := H
  refine ⟨N1.wx, N2.wx, fun i j hi => ?_, X1.wx, X2.wx, fun p hp => ?_⟩
  · unfold wxV; rw [upV_ne _ _ (by omega), upV_ne _ _ (by omega)]; exact h i j hi
  · have e5 : wxV S q 5 p = S 5 p := upV_ne _ _ (by omega)
    rw [e5]
    by_cases c : p = q
    · subst c
      rcases k p hp with k1 | ⟨k1, k2⟩
      · left; unfold wxV; rw [upV_eq, upV_eq, k1]
      · right; exact ⟨loud_wl N1 X1 hp hm k1, loud_wl N2 X2 hp hm k2⟩
    · have e1 : wxV S q 10 p = S 10 p := upV_ne _ _ (by omega)
      have e2 : wxV T q 10 p = T 10 p := upV_ne _ _ (by omega)
      rw [e1, e2]
      unfold wxV
      rw [loud_other c, loud_other c]
      exact k p hp
/-- the one whose turn it is, b, gets what it wants (true: carried), r waxes left -/
def wnP (np nw : Nat) (m : Int32) : Nat → Bool → Vw → Prop
  | 0, b, S => carV S np nw m = b
  | r + 1, b, S => ¬ wnP np nw m r (!b) S ∨ ∃ p, p < np ∧ ¬ wnP np nw m r (!b) (wxV S p)
theorem SiV.wn {np nw mm : Nat} (hm : mm < 64) : ∀ r b S T, SiV np nw mm r S T → (wnP np nw (Int32.ofNat mm) r b S ↔ wnP np nw (Int32.ofNat mm) r b T)
  | 0, b, S, T, H => by
    simp only [wnP]
    rw [H.car]
  | r + 1, b, S, T, H => by
    have ih := SiV.wn (np := np) (nw := nw) hm r (!b)
    have e : ∀ p, wnP np nw (Int32.ofNat mm) r (!b) (wxV S p) ↔ wnP np nw (Int32.ofNat mm) r (!b) (wxV T p) := fun p => ih _ _ (H.wx hm)
    simp only [wnP, e, ih _ _ H.dn]
theorem SiV.of {np nw mm r p : Nat} {S : Vw} (H : NmV S np nw) (X : WxB S np (r + 1)) (hp : p < np) (hm : mm < 64) (si : loudV S nw (Int32.ofNat mm) p < S 5 p) : SiV np nw mm r S (wxV S p) := by
  refine ⟨H, H.wx, fun i j hi => (upV_ne _ _ (by omega)).symm, X.dn, X.wx, fun q hq => ?_⟩
  by_cases c : q = p
  · subst c
    right
    exact ⟨si, loud_wl H X hq hm si⟩
  · left
    exact (upV_ne _ _ (by omega)).symm
