/-! Wax on a piece that is silent. -/
theorem ldV_n {S : Vw} {p : Nat} : ∀ n, (∀ w, w < n → ∃ x, x ≤ 30 ∧ S 8 w = Int32.ofNat x) → ∃ y, y ≤ 30 * n ∧ ldV S p n = Int32.ofNat y
  | 0, _ => ⟨0, Nat.le_refl _, rfl⟩
  | n + 1, h => by
    obtain ⟨y, hy, ey⟩ := ldV_n (S := S) (p := p) n (fun w hw => h w (by omega))
    obtain ⟨x, hx, ex⟩ := h n (by omega)
    simp only [ldV]
    rw [ey, ex]
    by_cases c : S 9 n = Int32.ofNat p
    · rw [if_pos c, nz_add]; exact ⟨y + x, by omega, rfl⟩
    · rw [if_neg c, Int32.add_zero]; exact ⟨y, by omega, rfl⟩
/-- views with a chamber's numbers -/
def NmV (S : Vw) (np nw : Nat) : Prop := WfV S np nw ∧ (∃ x, x ≤ 9 ∧ S 1 2 = Int32.ofNat x) ∧
  (∀ p, p < np → (∃ x, x ≤ 2 ∧ S 3 p = Int32.ofNat x) ∧ (∃ x, x ≤ 50 ∧ S 4 p = Int32.ofNat x)) ∧
  (∀ w, w < nw → ∃ x, x ≤ 30 ∧ S 8 w = Int32.ofNat x)
theorem sum_n {S : Vw} {np nw p mm : Nat} (H : NmV S np nw) (hp : p < np) (hm : mm < 64) : ∃ B, B ≤ 400 ∧ ∀ v, sumV (upV S 10 p v) nw (Int32.ofNat mm) p = Int32.ofNat B - 4 * v := by
  obtain ⟨W, ⟨d, hd, ed⟩, hq, hw⟩ := H
  obtain ⟨⟨o, ho, eo⟩, ⟨a, ha, ea⟩⟩ := hq p hp
  obtain ⟨e, he, ee⟩ := W.2.2.2.2.2.1 p hp
  have h6 := W.2.1
  obtain ⟨y, hy, ey⟩ := ldV_n (S := S) (p := p) nw hw
  have al : e &&& mm < 256 := Nat.lt_of_le_of_lt Nat.and_le_left (by omega)
  have c9 := ct9 _ al
  have dl : d * o ≤ 9 * 2 := Nat.mul_le_mul hd ho
  refine ⟨y + a + d * o + 3 * ctN 8 (e &&& mm), by omega, fun v => ?_⟩
  have el : loadV (upV S 10 p v) nw p = Int32.ofNat y := by
    rw [← ey]
    exact ldV_congr nw (fun w _ => ⟨upV_ne _ _ (by omega), upV_ne _ _ (by omega)⟩)
  unfold sumV
  rw [el, upV_ne _ _ (by omega), upV_ne _ _ (by omega), upV_ne _ _ (by omega), upV_ne _ _ (by omega), upV_eq, ea, ed, eo, ee, and_n, c9.1, show (3 : Int32) = Int32.ofNat 3 from rfl, nz_mul, nz_mul, nz_add, nz_add, nz_add]
