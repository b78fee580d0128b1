theorem loud_other {S : Vw} {nw p q : Nat} {m v : Int32} (h : q ≠ p) : loudV (upV S 10 p v) nw m q = loudV S nw m q := by
  unfold loudV sumV
  have el : loadV (upV S 10 p v) nw q = loadV S nw q := ldV_congr nw (fun w _ => ⟨upV_ne _ _ (by omega), upV_ne _ _ (by omega)⟩)
  rw [el, upV_ne _ _ (by omega), upV_ne _ _ (by omega), upV_ne _ _ (by omega), upV_ne _ _ (by omega), upV_ne _ _ (by omega)]
theorem mx_toInt {v : Int32} : (mxI 0 v).toInt = if 0 < v.toInt then v.toInt else 0 := by
  unfold mxI
  by_cases c : (0 : Int32) < v
  · rw [if_pos c]; rw [i32_lt] at c; rw [if_pos (show 0 < v.toInt from c)]
  · rw [if_neg c]; rw [i32_lt] at c; rw [if_neg (show ¬ 0 < v.toInt from c)]; rfl
theorem loud_wax {S : Vw} {np nw p mm x : Nat} (H : NmV S np nw) (hp : p < np) (hm : mm < 64) (hx : x ≤ 8) (ex : S 10 p = Int32.ofNat x) : (loudV (wxV S p) nw (Int32.ofNat mm) p).toInt ≤ (loudV S nw (Int32.ofNat mm) p).toInt := by
  obtain ⟨B, hB, hs⟩ := sum_n H hp hm
  have s1 := hs (S 10 p)
  have s2 := hs (S 10 p + 1)
  rw [upV_self, ex, show (4 : Int32) = Int32.ofNat 4 from rfl, nz_mul] at s1
  rw [ex, nz_succ, show (4 : Int32) = Int32.ofNat 4 from rfl, nz_mul] at s2
  have e2 : wxV S p = upV S 10 p (Int32.ofNat (x + 1)) := by unfold wxV; rw [ex, nz_succ]
  unfold loudV
  rw [mx_toInt, mx_toInt, e2, s1, s2, sub_toInt (by omega) (by omega), sub_toInt (by omega) (by omega)]
  split <;> split <;> omega
theorem say_wax {S : Vw} {np nw p mm x : Nat} (H : NmV S np nw) (hp : p < np) (hm : mm < 64) (hx : x ≤ 8) (ex : S 10 p = Int32.ofNat x) (si : loudV S nw (Int32.ofNat mm) p < S 5 p) (q : Nat) (a n : Int32) : sayV (wxV S p) nw (Int32.ofNat mm) q a n = sayV S nw (Int32.ofNat mm) q a n := by
  have lw := loud_wax H hp hm hx ex
  have cond : (loudV (wxV S p) nw (Int32.ofNat mm) q < wxV S p 5 q) ↔ (loudV S nw (Int32.ofNat mm) q < S 5 q) := by
    have e5 : wxV S p 5 q = S 5 q := upV_ne _ _ (by omega)
    rw [e5]
    by_cases c : q = p
    · subst c
      rw [i32_lt] at si ⊢
      rw [i32_lt]
      constructor <;> intro _ <;> omega
    · unfold wxV; rw [loud_other c]
  have el : loadV (wxV S p) nw q = loadV S nw q := ldV_congr nw (fun w _ => ⟨upV_ne _ _ (by omega), upV_ne _ _ (by omega)⟩)
  have e2 : wxV S p 2 q = S 2 q := upV_ne _ _ (by omega)
  have e0 : wxV S p 0 4 = S 0 4 := upV_ne _ _ (by omega)
  unfold sayV overV wordV
  rw [e0, e2, el]
  simp only [cond]
theorem car_wax {S : Vw} {np nw p mm x : Nat} (H : NmV S np nw) (hp : p < np) (hm : mm < 64) (hx : x ≤ 8) (ex : S 10 p = Int32.ofNat x) (si : loudV S nw (Int32.ofNat mm) p < S 5 p) : carV (wxV S p) np nw (Int32.ofNat mm) = carV S np nw (Int32.ofNat mm) := by
  have vt : ∀ q, vtV (wxV S p) nw (Int32.ofNat mm) q = vtV S nw (Int32.ofNat mm) q := by
    intro q
    induction q with
    | zero => rfl
    | succ q ih =>
      have e7 : wxV S p 7 q = S 7 q := upV_ne _ _ (by omega)
      simp only [vtV]
      rw [ih, say_wax H hp hm hx ex si, e7]
  unfold carV ayV noV
  rw [vt]
