/-! What is told moves. -/
def ChCp (s : Mem) (x : Nat) (σ : Mem) (y : Nat) : Prop := (s.1 x 0 = σ.1 y 0 ∧ s.1 x 1 = σ.1 y 1 ∧ s.1 x 2 = σ.1 y 2) ∧ (∀ p, p < 8 → s.1 (x + 1) p = σ.1 (y + 1) p ∧ s.1 (x + 2) p = σ.1 (y + 2) p ∧ s.1 (x + 3) p = σ.1 (y + 3) p ∧ s.1 (x + 4) p = σ.1 (y + 4) p ∧ s.1 (x + 5) p = σ.1 (y + 5) p ∧ s.1 (x + 6) p = σ.1 (y + 6) p) ∧ (∀ w, w < 6 → s.1 (x + 7) w = σ.1 (y + 7) w ∧ s.1 (x + 8) w = σ.1 (y + 8) w)
def SeCp (s : Mem) (x : Nat) (σ : Mem) (y : Nat) : Prop := s.1 x 0 = σ.1 y 0 ∧ ∀ p, p < 40 → s.1 (x + 1) p = σ.1 (y + 1) p ∧ s.1 (x + 2) p = σ.1 (y + 2) p ∧ s.1 (x + 3) p = σ.1 (y + 3) p
def LoCp (s : Mem) (x : Nat) (σ : Mem) (y : Nat) : Prop := s.1 x 0 = σ.1 y 0 ∧ ∀ p, p < 8 → s.1 (x + 1) p = σ.1 (y + 1) p ∧ s.1 (x + 2) p = σ.1 (y + 2) p ∧ s.1 (x + 3) p = σ.1 (y + 3) p ∧ s.1 (x + 4) p = σ.1 (y + 4) p
theorem ChCp.ag {s t σ ρ : Mem} {x y : Nat} (H : ChCp s x σ y) (h : ∀ q, x ≤ q → q < x + 9 → t.1 q = s.1 q) (h' : ∀ q, y ≤ q → q < y + 9 → σ.1 q = ρ.1 q) : ChCp t x ρ y := by
  unfold ChCp at *
  rw [h x (by omega) (by omega), h (x + 1) (by omega) (by omega), h (x + 2) (by omega) (by omega), h (x + 3) (by omega) (by omega), h (x + 4) (by omega) (by omega), h (x + 5) (by omega) (by omega), h (x + 6) (by omega) (by omega), h (x + 7) (by omega) (by omega), h (x + 8) (by omega) (by omega), ← h' y (by omega) (by omega), ← h' (y + 1) (by omega) (by omega), ← h' (y + 2) (by omega) (by omega), ← h' (y + 3) (by omega) (by omega), ← h' (y + 4) (by omega) (by omega), ← h' (y + 5) (by omega) (by omega), ← h' (y + 6) (by omega) (by omega), ← h' (y + 7) (by omega) (by omega), ← h' (y + 8) (by omega) (by omega)]
  exact H
theorem SeCp.ag {s t σ ρ : Mem} {x y : Nat} (H : SeCp s x σ y) (h : ∀ q, x ≤ q → q < x + 4 → t.1 q = s.1 q) (h' : ∀ q, y ≤ q → q < y + 4 → σ.1 q = ρ.1 q) : SeCp t x ρ y := by
  unfold SeCp at *
  rw [h x (by omega) (by omega), h (x + 1) (by omega) (by omega), h (x + 2) (by omega) (by omega), h (x + 3) (by omega) (by omega), ← h' y (by omega) (by omega), ← h' (y + 1) (by omega) (by omega), ← h' (y + 2) (by omega) (by omega), ← h' (y + 3) (by omega) (by omega)]
  exact H
theorem LoCp.ag {s t σ ρ : Mem} {x y : Nat} (H : LoCp s x σ y) (h : ∀ q, x ≤ q → q < x + 5 → t.1 q = s.1 q) (h' : ∀ q, y ≤ q → q < y + 5 → σ.1 q = ρ.1 q) : LoCp t x ρ y := by
  unfold LoCp at *
  rw [h x (by omega) (by omega), h (x + 1) (by omega) (by omega), h (x + 2) (by omega) (by omega), h (x + 3) (by omega) (by omega), h (x + 4) (by omega) (by omega), ← h' y (by omega) (by omega), ← h' (y + 1) (by omega) (by omega), ← h' (y + 2) (by omega) (by omega), ← h' (y + 3) (by omega) (by omega), ← h' (y + 4) (by omega) (by omega)]
  exact H
theorem ChCp.rfl' (s : Mem) (x : Nat) : ChCp s x s x := ⟨⟨rfl, rfl, rfl⟩, fun _ _ => ⟨rfl, rfl, rfl, rfl, rfl, rfl⟩, fun _ _ => ⟨rfl, rfl⟩⟩
theorem SeCp.rfl' (s : Mem) (x : Nat) : SeCp s x s x := ⟨rfl, fun _ _ => ⟨rfl, rfl, rfl⟩⟩
theorem LoCp.rfl' (s : Mem) (x : Nat) : LoCp s x s x := ⟨rfl, fun _ _ => ⟨rfl, rfl, rfl, rfl⟩⟩
theorem ChC.mv {σ s : Mem} {x y np nw : Nat} {C : Vw} (H : ChC σ y C np nw) (P : ChCp s x σ y) (hn : np ≤ 8) (hw : nw ≤ 6) : ChC s x C np nw := by
  obtain ⟨h1, h2, h3, h4, h5⟩ := H
  obtain ⟨⟨p1, p2, p3⟩, p4, p5⟩ := P
  refine ⟨by rw [p1]; exact h1, by rw [p2]; exact h2, by rw [p3]; exact h3, fun p hp => ?_, fun w hw' => ?_⟩
  · obtain ⟨a1, a2, a3, a4, a5, a6⟩ := p4 p (by omega)
    rw [a1, a2, a3, a4, a5, a6]; exact h4 p hp
  · obtain ⟨a1, a2⟩ := p5 w (by omega)
    rw [a1, a2]; exact h5 w hw'
theorem ChM.mv {σ s : Mem} {c c' np nw : Nat} {C : Vw} (H : ChM σ c C np nw) (h : ∀ i, i < 63 → s.1 1 (c' + i) = σ.1 1 (c + i)) (hn : np ≤ 8) (hw : nw ≤ 6) : ChM s c' C np nw := by
  obtain ⟨h1, h2, h3, h4, h5⟩ := H
  refine ⟨?_, ?_, ?_, fun p hp j hj => ?_, fun w hw' j hj => ?_⟩
  · have := h 0 (by omega); rw [Nat.add_zero, Nat.add_zero] at this; rw [this]; exact h1
  · rw [h 1 (by omega)]; exact h2
  · rw [h 2 (by omega)]; exact h3
  · rw [show c' + 3 + 6 * p + j = c' + (3 + 6 * p + j) by omega, h _ (by omega), show c + (3 + 6 * p + j) = c + 3 + 6 * p + j by omega]; exact h4 p hp j hj
  · rw [show c' + 51 + 2 * w + j = c' + (51 + 2 * w + j) by omega, h _ (by omega), show c + (51 + 2 * w + j) = c + 51 + 2 * w + j by omega]; exact h5 w hw' j hj
theorem SeR.mv {σ1 σ2 s1 s2 : Mem} {x y q q' : Nat} (H : SeR σ1 y σ2 q) (P : SeCp s1 x σ1 y) (h : ∀ i, i < 121 → s2.1 1 (q' + i) = σ2.1 1 (q + i)) : SeR s1 x s2 q' := by
  obtain ⟨n, n1, n2, n3, n4⟩ := H
  refine ⟨n, n1, by rw [P.1]; exact n2, ?_, fun d hd => ?_⟩
  · have := h 0 (by omega); rw [Nat.add_zero, Nat.add_zero] at this; rw [this]; exact n3
  · obtain ⟨t, a, b, t1, t2, t3, t4, t5, t6, t7, t8⟩ := n4 d hd
    obtain ⟨p1, p2, p3⟩ := P.2 d (by omega)
    refine ⟨t, a, b, by rw [p1]; exact t1, by rw [p2]; exact t2, by rw [p3]; exact t3, ?_, ?_, ?_, t7, t8⟩
    · rw [show q' + 1 + 3 * d = q' + (1 + 3 * d) by omega, h _ (by omega), show q + (1 + 3 * d) = q + 1 + 3 * d by omega]; exact t4
    · rw [show q' + 1 + 3 * d + 1 = q' + (1 + 3 * d + 1) by omega, h _ (by omega), show q + (1 + 3 * d + 1) = q + 1 + 3 * d + 1 by omega]; exact t5
    · rw [show q' + 1 + 3 * d + 2 = q' + (1 + 3 * d + 2) by omega, h _ (by omega), show q + (1 + 3 * d + 2) = q + 1 + 3 * d + 2 by omega]; exact t6
theorem LoR.mv {σ1 σ2 s1 s2 : Mem} {x y q q' : Nat} (H : LoR σ1 y σ2 q) (P : LoCp s1 x σ1 y) (h : ∀ i, i < 33 → s2.1 1 (q' + i) = σ2.1 1 (q + i)) : LoR s1 x s2 q' := by
  obtain ⟨n, n1, n2, n3, n4⟩ := H
  refine ⟨n, n1, by rw [P.1]; exact n2, ?_, fun d hd => ?_⟩
  · have := h 0 (by omega); rw [Nat.add_zero, Nat.add_zero] at this; rw [this]; exact n3
  · obtain ⟨t, a, b, m, t1, t2, t3, t4, u1, u2, u3, u4, w1, w2, w3, w4⟩ := n4 d hd
    obtain ⟨p1, p2, p3, p4⟩ := P.2 d (by omega)
    refine ⟨t, a, b, m, t1, t2, t3, t4, by rw [p1]; exact u1, by rw [p2]; exact u2, by rw [p3]; exact u3, by rw [p4]; exact u4, ?_, ?_, ?_, ?_⟩
    · rw [show q' + 1 + 4 * d = q' + (1 + 4 * d) by omega, h _ (by omega), show q + (1 + 4 * d) = q + 1 + 4 * d by omega]; exact w1
    · rw [show q' + 1 + 4 * d + 1 = q' + (1 + 4 * d + 1) by omega, h _ (by omega), show q + (1 + 4 * d + 1) = q + 1 + 4 * d + 1 by omega]; exact w2
    · rw [show q' + 1 + 4 * d + 2 = q' + (1 + 4 * d + 2) by omega, h _ (by omega), show q + (1 + 4 * d + 2) = q + 1 + 4 * d + 2 by omega]; exact w3
    · rw [show q' + 1 + 4 * d + 3 = q' + (1 + 4 * d + 3) by omega, h _ (by omega), show q + (1 + 4 * d + 3) = q + 1 + 4 * d + 3 by omega]; exact w4
/-- all but the tape, told at x, as it was at y -/
def TcR (s : Mem) (x : Nat) (σ : Mem) (y : Nat) : Prop := (∀ i, i < 3 → s.1 (x + 2) i = σ.1 (y + 2) i) ∧ (∀ i, i < 2 → ChCp s (x + 6 + 9 * i) σ (y + 6 + 9 * i)) ∧ (∀ i, i < 2 → SeCp s (x + 24 + 4 * i) σ (y + 24 + 4 * i)) ∧ ∀ i, i < 2 → LoCp s (x + 32 + 5 * i) σ (y + 32 + 5 * i)
theorem TcR.of {s σ : Mem} {x : Nat} (h : ∀ q, x + 2 ≤ q → q < x + 42 → s.1 q = σ.1 q) : TcR s x σ x :=
  ⟨fun i _ => by rw [h (x + 2) (by omega) (by omega)], fun i hi => (ChCp.rfl' s _).ag (fun _ _ _ => rfl) (fun q h1 h2 => h q (by omega) (by omega)), fun i hi => (SeCp.rfl' s _).ag (fun _ _ _ => rfl) (fun q h1 h2 => h q (by omega) (by omega)), fun i hi => (LoCp.rfl' s _).ag (fun _ _ _ => rfl) (fun q h1 h2 => h q (by omega) (by omega))⟩
/-- the tape, told anew; the rest as it was -/
theorem TR.mv {σ1 σ2 s1 s2 : Mem} {x y b b' : Nat} (T : TR σ1 y σ2 b) (P : TcR s1 x σ1 y) (h : ∀ i, i < 1044 → (i < 3 ∨ 610 ≤ i) → s2.1 1 (b' + i) = σ2.1 1 (b + i))
    (tape : ∃ n, n ≤ 600 ∧ s1.1 x 1 = Int32.ofNat n ∧ s2.1 1 (b' + 4) = Int32.ofNat n ∧ ∀ i, i < n → ByR (s1.1 (x + 1) i) (s2.1 1 (b' + 10 + i))) (flt : s1.1 x 2 = s2.1 1 (b' + 5) ∧ s1.1 x 3 = s2.1 1 (b' + 6)) (byt : byOk (s1.1 (x + 1)) 600 = true) : TR s1 x s2 b' := by
  obtain ⟨_, _, ⟨m, v1, v2, v3, v4⟩, ⟨m', w1, w2, w3, w4⟩, ⟨m'', x1, x2, x3, x4⟩, _⟩ := T
  obtain ⟨P1, P2, P3, P4⟩ := P
  refine ⟨tape, flt, ⟨m, v1, by rw [P1 0 (by omega)]; exact v2, ?_, fun i hi => ?_⟩, ⟨m', w1, by rw [P1 1 (by omega)]; exact w2, by rw [h 1 (by omega) (by omega)]; exact w3, fun i hi => ?_⟩, ⟨m'', x1, by rw [P1 2 (by omega)]; exact x2, by rw [h 2 (by omega) (by omega)]; exact x3, fun i hi => ?_⟩, byt⟩
  · have := h 0 (by omega) (by omega); rw [Nat.add_zero, Nat.add_zero] at this; rw [this]; exact v3
  · obtain ⟨C, np, nw, c1, c2, c3⟩ := v4 i hi
    refine ⟨C, np, nw, c1, c2.mv (P2 i (by omega)) c1.1.1 c1.1.2.1, c3.mv (fun e he => ?_) c1.1.1 c1.1.2.1⟩
    rw [show b' + 610 + 63 * i + e = b' + (610 + 63 * i + e) by omega, h _ (by omega) (by omega), show b + (610 + 63 * i + e) = b + 610 + 63 * i + e by omega]
  · refine (w4 i hi).mv (P3 i (by omega)) (fun e he => ?_)
    rw [show b' + 736 + 121 * i + e = b' + (736 + 121 * i + e) by omega, h _ (by omega) (by omega), show b + (736 + 121 * i + e) = b + 736 + 121 * i + e by omega]
  · refine (x4 i hi).mv (P4 i (by omega)) (fun e he => ?_)
    rw [show b' + 978 + 33 * i + e = b' + (978 + 33 * i + e) by omega, h _ (by omega) (by omega), show b + (978 + 33 * i + e) = b + 978 + 33 * i + e by omega]
theorem byOk_iff {f : Nat → Int32} {n : Nat} : byOk f n = true ↔ ∀ i, i < n → -128 ≤ (f i).toInt ∧ (f i).toInt ≤ 127 := by
  unfold byOk
  rw [List.all_eq_true]
  constructor
  · intro h i hi
    have := h i (List.mem_range.mpr hi)
    unfold fits at this
    rw [Bool.and_eq_true, decide_eq_true_eq, decide_eq_true_eq, i32_le, i32_le] at this
    exact this
  · intro h i hi
    have := h i (List.mem_range.mp hi)
    unfold fits
    rw [Bool.and_eq_true, decide_eq_true_eq, decide_eq_true_eq, i32_le, i32_le]
    exact this
/-- an image, or what is told, moves whole -/
theorem TR.mvw {σ1 σ2 s1 s2 : Mem} {x y b b' : Nat} (T : TR σ1 y σ2 b) (P : TcR s1 x σ1 y) (Pf : ∀ j, 1 ≤ j → j ≤ 3 → s1.1 x j = σ1.1 y j) (Pt : ∀ i, i < 600 → s1.1 (x + 1) i = σ1.1 (y + 1) i) (h : ∀ i, i < 1044 → s2.1 1 (b' + i) = σ2.1 1 (b + i)) : TR s1 x s2 b' := by
  refine T.mv P (fun i hi _ => h i hi) ?_ ?_ ?_
  · obtain ⟨n, n1, n2, n3, n4⟩ := T.1
    refine ⟨n, n1, by rw [Pf 1 (by omega) (by omega)]; exact n2, by rw [h 4 (by omega)]; exact n3, fun i hi => ?_⟩
    rw [Pt i (by omega), show b' + 10 + i = b' + (10 + i) by omega, h _ (by omega), show b + (10 + i) = b + 10 + i by omega]
    exact n4 i hi
  · rw [Pf 2 (by omega) (by omega), Pf 3 (by omega) (by omega), h 5 (by omega), h 6 (by omega)]; exact T.2.1
  · rw [byOk_iff]
    intro i hi
    rw [Pt i hi]
    exact byOk_iff.mp T.2.2.2.2.2 i hi
abbrev QR {α : Type} : α → Mem → α → Mem → Prop := fun r1 s1 r2 s2 => r1 = r2 ∧ RR s1 s2
section EASY
variable {σ1 σ2 : Mem} {N : Nat}
theorem QU.qr {α : Type} {κ1 κ2 : Option (α × Mem)} (R : RR σ1 σ2) (h : H2 κ1 κ2 (QU σ1 σ2)) : H2 κ1 κ2 QR := h2_mono h (fun r1 s1 r2 s2 ⟨a, b, c⟩ => ⟨a, R.keep b c⟩)
theorem t_fault (R : RR σ1 σ2) (v1 : Int32) : H2 (fX11_fault N 0 v1 σ1) (fX12_fault N v1 σ2) (QU σ1 σ2) := by
  unfold fX11_fault fX12_fault
  have E : ∀ x : Int32, H2 (some (x, σ1)) (some (x, σ2)) (QU σ1 σ2) := fun x => ⟨rfl, R.kc, KM.refl _⟩
  have t := R.1.2.1
  by_cases a : v1 = 0
  · rw [if_pos a, if_pos a]
    refine ⟨?_, R.kc, KM.refl _⟩
    exact t.1
  · rw [if_neg a, if_neg a]
    by_cases b : v1 = 1
    · rw [if_pos b, if_pos b]
      refine ⟨?_, R.kc, KM.refl _⟩
      exact t.2
    · rw [if_neg b, if_neg b]; exact E _
theorem t_count (R : RR σ1 σ2) (v1 : Int32) : H2 (fX11_count N 0 v1 σ1) (fX12_count N v1 σ2) (QU σ1 σ2) := by
  unfold fX11_count fX12_count fX11_count_b9
  rw [isIn_Z, ho_bds]
  simp only [ite10, Int32.reduceToInt]
  by_cases c0 : 0 ≤ v1.toInt ∧ v1.toInt ≤ 2
  · obtain ⟨x, _, x1, rfl⟩ := z_of (v := v1) (a := 0) (b := 2) c0
    rw [if_neg (z_neg (by omega)), if_pos (show Int32.ofNat x < 3 by rw [z_gt (by omega) (by omega)]; omega), if_neg (show ¬ ¬ (0 ≤ (Int32.ofNat x).toInt ∧ (Int32.ofNat x).toInt ≤ 2) from fun z => z c0), nz_inb (by omega), nz_inb (by omega), nz_nat (by omega), decide_eq_true (show x < 3 by omega), decide_eq_true (show x < 4176 by omega), ho_gdt, ho_gdt]
    refine ⟨?_, R.kc, KM.refl _⟩
    obtain ⟨m, v1, v2, v3, v4⟩ := R.1.2.2.1
    obtain ⟨m', w1, w2, w3, w4⟩ := R.1.2.2.2.1
    obtain ⟨m'', x1, x2, x3, x4⟩ := R.1.2.2.2.2.1
    have cs : x = 0 ∨ x = 1 ∨ x = 2 := by omega
    rcases cs with e | e | e <;> subst e
    · exact v2.trans v3.symm
    · exact w2.trans w3.symm
    · exact x2.trans x3.symm
  · rw [if_pos c0]
    by_cases c1 : v1 < 0
    · rw [if_pos c1]; exact ⟨rfl, R.kc, KM.refl _⟩
    · rw [if_neg c1, if_neg]
      · exact ⟨rfl, R.kc, KM.refl _⟩
      · rw [i32_lt] at c1 ⊢
        have : (0 : Int32).toInt = 0 := rfl
        have : (3 : Int32).toInt = 3 := rfl
        omega
theorem t_chamber (hN : 10000 ≤ N) (R : RR σ1 σ2) (v1 v2 : Int32) : H2 (fX11_chamber N 0 v1 v2 σ1) (fX12_chamber N v1 v2 σ2) (QU σ1 σ2) := by
  unfold fX11_chamber fX12_chamber
  refine q_ch R v1 (fun j C np nw s2 hj W HC HM K => ?_)
  have hn := W.1.1
  have hw6 := W.1.2.1
  have E : ∀ x : Int32, H2 (some (x, σ1)) (some (x, s2)) (QU σ1 σ2) := fun x => ⟨rfl, R.kc, K⟩
  unfold fX0_tell fX0_tellPerson fX0_tellPiece fX0_tellWhole
  simp only [ho_lte, isIn_Z, ho_bds, Int32.reduceToInt, isPiece_M (np := np) _ HM.2.1.2.1 hn, isPerson_M (nw := nw) _ HM.2.1.2.2 (show nw ≤ 8 by omega), has_eq (np := np) _ (HC.nn W).1 hn, hasw_eq (np := nw) _ (HC.nn W).2 (show nw ≤ 8 by omega), ite10, bd_ret]
  by_cases rg : 0 ≤ v2.toInt ∧ v2.toInt ≤ 89
  · obtain ⟨x, _, x1, rfl⟩ := z_of (v := v2) (a := 0) (b := 89) rg
    rw [if_neg (z_neg (by omega)), if_pos (show Int32.ofNat x < 90 by rw [z_gt (by omega) (by omega)]; omega), rm10 x (by omega), div10 x (by omega), nz_toInt (by omega)]
    by_cases s10 : x < 10
    · rw [if_neg (show ¬ (10 : Int32) ≤ Int32.ofNat x by rw [z_le (by omega) (by omega)]; omega)]
      by_cases s2' : x ≤ 2
      · rw [if_neg (show ¬ ¬ (0 ≤ (x : Int) ∧ (x : Int) ≤ 2) by omega), HM.2.1.1, nz_add, nz_inb (by have := HM.1.1; omega), nz_nat (by have := HM.1.1; omega), decide_eq_true (by have := HM.1.1; omega), ho_gdt]
        have cs : x = 0 ∨ x = 1 ∨ x = 2 := by omega
        rcases cs with e | e | e <;> subst e
        · rw [if_pos (show Int32.ofNat 0 = 0 from rfl), Nat.add_zero, HC.1, HM.2.2.1]; exact E _
        · rw [if_neg (show ¬ Int32.ofNat 1 = 0 by decide), if_pos (show Int32.ofNat 1 = 1 from rfl), HC.2.1, HM.2.2.2.1]; exact E _
        · rw [if_neg (show ¬ Int32.ofNat 2 = 0 by decide), if_neg (show ¬ Int32.ofNat 2 = 1 by decide), if_pos (show Int32.ofNat 2 = 2 from rfl), HC.2.2.1, HM.2.2.2.2.1]; exact E _
      · rw [if_neg (show ¬ Int32.ofNat x = 0 by rw [z_eq (by omega) (by omega)]; omega), if_neg (show ¬ Int32.ofNat x = 1 by rw [z_eq (by omega) (by omega)]; omega), if_neg (show ¬ Int32.ofNat x = 2 by rw [z_eq (by omega) (by omega)]; omega), if_pos (show ¬ (0 ≤ (x : Int) ∧ (x : Int) ≤ 2) by omega), if_pos (show ¬ (10 ≤ (x : Int) ∧ (x : Int) ≤ 69) by omega), if_pos (show ¬ (70 ≤ (x : Int) ∧ (x : Int) ≤ 89) by omega)]
        exact E _
    · rw [if_pos (show (10 : Int32) ≤ Int32.ofNat x by rw [z_le (by omega) (by omega)]; omega), if_pos (show ¬ (0 ≤ (x : Int) ∧ (x : Int) ≤ 2) by omega), nz_inb (by omega), nz_inb (by omega), nz_inb (by omega), nz_inb (by omega), nz_nat (by omega)]
      simp only [decide_eq_true_eq]
      by_cases s70 : x < 70
      · rw [if_neg (show ¬ (70 : Int32) ≤ Int32.ofNat x by rw [z_le (by omega) (by omega)]; omega), if_neg (show ¬ ¬ (10 ≤ (x : Int) ∧ (x : Int) ≤ 69) by omega)]
        by_cases f : x % 10 < np
        · have g := HC.2.2.2.1 _ f
          rw [if_neg (show ¬ ¬ x % 10 < np from fun z => z f), if_neg (show ¬ ¬ x % 10 < np from fun z => z f), decide_eq_true (show x % 10 < 8 by omega)]
          simp only [ho_gdt]
          rw [nz_subL (show 1 ≤ x / 10 by omega) (by omega)]
          have cs : x / 10 = 1 ∨ x / 10 = 2 ∨ x / 10 = 3 ∨ x / 10 = 4 ∨ x / 10 = 5 ∨ x / 10 = 6 := by omega
          rcases cs with e | e | e | e | e | e <;> rw [e]
          · rw [if_pos (show Int32.ofNat 1 = 1 from rfl), of_M HM f (show 0 < 6 by omega) rfl, g.1]; exact E _
          · rw [if_neg (show ¬ Int32.ofNat 2 = 1 by decide), if_pos (show Int32.ofNat 2 = 2 from rfl), of_M HM f (show 1 < 6 by omega) rfl, g.2.1]; exact E _
          · rw [if_neg (show ¬ Int32.ofNat 3 = 1 by decide), if_neg (show ¬ Int32.ofNat 3 = 2 by decide), if_pos (show Int32.ofNat 3 = 3 from rfl), of_M HM f (show 2 < 6 by omega) rfl, g.2.2.1]; exact E _
          · rw [if_neg (show ¬ Int32.ofNat 4 = 1 by decide), if_neg (show ¬ Int32.ofNat 4 = 2 by decide), if_neg (show ¬ Int32.ofNat 4 = 3 by decide), if_pos (show Int32.ofNat 4 = 4 from rfl), of_M HM f (show 3 < 6 by omega) rfl, g.2.2.2.1]; exact E _
          · rw [if_neg (show ¬ Int32.ofNat 5 = 1 by decide), if_neg (show ¬ Int32.ofNat 5 = 2 by decide), if_neg (show ¬ Int32.ofNat 5 = 3 by decide), if_neg (show ¬ Int32.ofNat 5 = 4 by decide), if_pos (show Int32.ofNat 5 = 5 from rfl), of_M HM f (show 4 < 6 by omega) rfl, g.2.2.2.2.1]; exact E _
          · rw [if_neg (show ¬ Int32.ofNat 6 = 1 by decide), if_neg (show ¬ Int32.ofNat 6 = 2 by decide), if_neg (show ¬ Int32.ofNat 6 = 3 by decide), if_neg (show ¬ Int32.ofNat 6 = 4 by decide), if_neg (show ¬ Int32.ofNat 6 = 5 by decide), if_pos (show Int32.ofNat 6 = 6 from rfl), of_M HM f (show 5 < 6 by omega) rfl, g.2.2.2.2.2]; exact E _
        · rw [if_pos (show ¬ x % 10 < np from f), if_pos (show ¬ x % 10 < np from f)]; exact E _
      · rw [if_pos (show (70 : Int32) ≤ Int32.ofNat x by rw [z_le (by omega) (by omega)]; omega), if_pos (show ¬ (10 ≤ (x : Int) ∧ (x : Int) ≤ 69) by omega), if_neg (show ¬ ¬ (70 ≤ (x : Int) ∧ (x : Int) ≤ 89) by omega)]
        by_cases f : x % 10 < nw
        · have g := HC.2.2.2.2 _ f
          rw [if_neg (show ¬ ¬ x % 10 < nw from fun z => z f), if_neg (show ¬ ¬ x % 10 < nw from fun z => z f), decide_eq_true (show x % 10 < 6 by omega)]
          simp only [ho_gdt]
          rw [nz_subL (show 7 ≤ x / 10 by omega) (by omega)]
          have cs : x / 10 = 7 ∨ x / 10 = 8 := by omega
          rcases cs with e | e <;> rw [e]
          · rw [if_pos (show Int32.ofNat 7 = 7 from rfl), ofP_M HM f (show 0 < 2 by omega) rfl, g.1]; exact E _
          · rw [if_neg (show ¬ Int32.ofNat 8 = 7 by decide), ofP_M HM f (show 1 < 2 by omega) rfl, g.2]; exact E _
        · rw [if_pos (show ¬ x % 10 < nw from f), if_pos (show ¬ x % 10 < nw from f)]; exact E _
  · rw [if_pos (show ¬ (0 ≤ v2.toInt ∧ v2.toInt ≤ 2) by omega), if_pos (show ¬ (10 ≤ v2.toInt ∧ v2.toInt ≤ 69) by omega), if_pos (show ¬ (70 ≤ v2.toInt ∧ v2.toInt ≤ 89) by omega)]
    by_cases c1 : v2 < 0
    · rw [if_pos c1]; exact E _
    · rw [if_neg c1, if_neg]
      · exact E _
      · rw [i32_lt] at c1 ⊢
        have : (0 : Int32).toInt = 0 := rfl
        have : (90 : Int32).toInt = 90 := rfl
        omega
theorem t_end (R : RR σ1 σ2) (v1 : Int32) : H2 (fX11_end N 0 v1 σ1) (fX12_end N v1 σ2) QR := by
  unfold fX11_end fX12_end
  obtain ⟨n, n1, n2, n3, n4⟩ := R.1.1
  have e0 : (0 + 1 : Nat) = 1 := rfl
  have g4 : inb 4 4176 = true := by decide
  have t4 : (4 : Int32).toNatClampNeg = 4 := rfl
  have n3' : σ2.1 1 4 = Int32.ofNat n := by rw [Nat.zero_add] at n3; exact n3
  rw [e0, g4, ho_gdt, ho_gdt, t4, n2, n3']
  by_cases c0 : v1 < 0
  · rw [if_pos c0, if_pos c0]; exact ⟨rfl, R⟩
  · rw [if_neg c0, if_neg c0]
    by_cases c1 : v1 ≤ Int32.ofNat n
    · rw [if_pos c1, if_pos c1]
      have t0 : 0 ≤ v1.toInt := by rw [i32_lt] at c0; have : (0 : Int32).toInt = 0 := rfl; omega
      have t1 : v1.toInt ≤ n := by rw [i32_le, nz_toInt (by omega)] at c1; exact c1
      obtain ⟨x, _, x1, rfl⟩ := z_of (v := v1) (a := 0) (b := n) ⟨t0, t1⟩
      refine ⟨rfl, ?_, fun k hk => ?_, ?_, ?_⟩
      · refine R.1.mv (TcR.of (fun q h1 h2 => pI_ne (by omega))) (fun i hi hr => pI_nq (by omega)) ⟨x, by omega, pI_eq, ?_, fun i hi => ?_⟩ ⟨?_, ?_⟩ ?_
        · exact pI_eq
        · rw [pI_nq (by omega), pI_nq (by omega)]; exact n4 i (by omega)
        · rw [pI_nq (by omega), pI_nq (by omega)]; exact R.1.2.1.1
        · rw [pI_nq (by omega), pI_nq (by omega)]; exact R.1.2.1.2
        · rw [pI_ne (by omega)]; exact R.1.2.2.2.2.2
      · have q := R.2.1 k hk
        rw [pI_ne (by omega), pI_ne (by omega), pI_ne (by omega)]
        refine ⟨q.1, ?_⟩
        rcases q.2 with q | ⟨q1, q2, q3⟩
        · exact Or.inl q
        · refine Or.inr ⟨q1, q2, q3.mvw (TcR.of (fun a h1 h2 => pI_ne (by omega))) (fun j _ _ => pI_nq (by omega)) (fun i _ => pI_nq (by omega)) (fun i hi => pI_nq (by omega))⟩
      · rw [pI_nq (by omega)]; exact R.2.2.1
      · unfold VR; rw [pI_ne (by omega)]; exact R.2.2.2
    · rw [if_neg c1, if_neg c1]; exact ⟨rfl, R⟩
end EASY
