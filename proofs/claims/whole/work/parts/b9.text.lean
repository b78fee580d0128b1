/-! text(): what is told anew. -/
section TOLD2
variable {σ1 σ2 s1 s2 : Mem}
theorem grpC (T : TR σ1 1 σ2 0) (fc : ∀ q j, 7 ≤ q → q < 25 → s1.1 q j = σ1.1 q j) (f3 : s1.1 3 0 = σ1.1 3 0) (fm : ∀ j, 610 ≤ j → j < 736 → s2.1 1 j = σ2.1 1 j) (f0 : s2.1 1 0 = σ2.1 1 0) : ∃ n, n ≤ 2 ∧ s1.1 (1 + 2) 0 = Int32.ofNat n ∧ s2.1 1 0 = Int32.ofNat n ∧ ∀ i, i < n → ∃ C np nw, ChW C np nw ∧ ChC s1 (1 + 6 + 9 * i) C np nw ∧ ChM s2 (0 + 610 + 63 * i) C np nw := by
  obtain ⟨_, _, ⟨m, v1, v2, v3, v4⟩, _⟩ := T
  refine ⟨m, v1, by rw [show (1 + 2 : Nat) = 3 from rfl, f3]; exact v2, by rw [f0]; exact v3, fun i hi => ?_⟩
  obtain ⟨C, np, nw, c1, c2, c3⟩ := v4 i hi
  exact ⟨C, np, nw, c1, c2.ag (fun q h1 h2 => by funext j; exact fc q j (by omega) (by omega)), c3.mv (fun e he => fm _ (by omega) (by omega)) c1.1.1 c1.1.2.1⟩
theorem grpS (T : TR σ1 1 σ2 0) (fc : ∀ q j, 25 ≤ q → q < 33 → s1.1 q j = σ1.1 q j) (f3 : s1.1 3 1 = σ1.1 3 1) (fm : ∀ j, 736 ≤ j → j < 978 → s2.1 1 j = σ2.1 1 j) (f0 : s2.1 1 1 = σ2.1 1 1) : ∃ n, n ≤ 2 ∧ s1.1 (1 + 2) 1 = Int32.ofNat n ∧ s2.1 1 (0 + 1) = Int32.ofNat n ∧ ∀ i, i < n → SeR s1 (1 + 24 + 4 * i) s2 (0 + 736 + 121 * i) := by
  obtain ⟨_, _, _, ⟨m, v1, v2, v3, v4⟩, _⟩ := T
  refine ⟨m, v1, by rw [show (1 + 2 : Nat) = 3 from rfl, f3]; exact v2, by rw [show (0 + 1 : Nat) = 1 from rfl, f0]; exact v3, fun i hi => ?_⟩
  exact (v4 i hi).mv ((SeCp.rfl' s1 _).ag (fun _ _ _ => rfl) (fun q h1 h2 => by funext j; exact fc q j (by omega) (by omega))) (fun e he => fm _ (by omega) (by omega))
theorem grpL (T : TR σ1 1 σ2 0) (fc : ∀ q j, 33 ≤ q → q < 43 → s1.1 q j = σ1.1 q j) (f3 : s1.1 3 2 = σ1.1 3 2) (fm : ∀ j, 978 ≤ j → j < 1044 → s2.1 1 j = σ2.1 1 j) (f0 : s2.1 1 2 = σ2.1 1 2) : ∃ n, n ≤ 2 ∧ s1.1 (1 + 2) 2 = Int32.ofNat n ∧ s2.1 1 (0 + 2) = Int32.ofNat n ∧ ∀ i, i < n → LoR s1 (1 + 32 + 5 * i) s2 (0 + 978 + 33 * i) := by
  obtain ⟨_, _, _, _, ⟨m, v1, v2, v3, v4⟩, _⟩ := T
  refine ⟨m, v1, by rw [show (1 + 2 : Nat) = 3 from rfl, f3]; exact v2, by rw [show (0 + 2 : Nat) = 2 from rfl, f0]; exact v3, fun i hi => ?_⟩
  exact (v4 i hi).mv ((LoCp.rfl' s1 _).ag (fun _ _ _ => rfl) (fun q h1 h2 => by funext j; exact fc q j (by omega) (by omega))) (fun e he => fm _ (by omega) (by omega))
/-- the tape is empty, faults alike -/
def TpE (s1 s2 : Mem) : Prop := s1.1 1 1 = 0 ∧ s2.1 1 4 = 0 ∧ s1.1 1 2 = s2.1 1 5 ∧ s1.1 1 3 = s2.1 1 6
theorem TpE.tape (h : TpE s1 s2) : ∃ n, n ≤ 600 ∧ s1.1 1 1 = Int32.ofNat n ∧ s2.1 1 (0 + 4) = Int32.ofNat n ∧ ∀ i, i < n → ByR (s1.1 (1 + 1) i) (s2.1 1 (0 + 10 + i)) := ⟨0, by omega, h.1, h.2.1, fun i hi => absurd hi (Nat.not_lt_zero i)⟩
theorem RR.tx (R : RR σ1 σ2) (fc : ∀ q j, 43 ≤ q → (q < 171 ∨ 192 ≤ q) → s1.1 q j = σ1.1 q j) (fm : ∀ j, 1044 ≤ j → s2.1 1 j = σ2.1 1 j) (f2 : ∀ j, s2.1 2 j = σ2.1 2 j) (T : TR s1 1 s2 0) : RR s1 s2 := by
  have frc : ∀ q, 43 ≤ q → (q < 171 ∨ 192 ≤ q) → s1.1 q = σ1.1 q := fun q h1 h2 => by funext j; exact fc q j h1 h2
  refine ⟨T, fun k hk => ?_, ?_, ?_⟩
  · have q := R.2.1 k hk
    rw [frc _ (by omega) (by omega), frc 170 (by omega) (by omega), f2]
    refine ⟨q.1, ?_⟩
    rcases q.2 with q | ⟨q1, q2, q3⟩
    · exact Or.inl q
    · exact Or.inr ⟨q1, q2, q3.mvw (TcR.of (fun a h1 h2 => frc a (by omega) (by omega))) (fun j _ _ => by rw [frc _ (by omega) (by omega)]) (fun i _ => by rw [frc _ (by omega) (by omega)]) (fun i hi => fm _ (by omega))⟩
  · rw [frc 269 (by omega) (by omega)]; exact R.2.2.1
  · unfold VR; rw [frc 220 (by omega) (by omega)]; exact R.2.2.2
/-- nothing told but a fault -/
theorem RR.flt (R : RR σ1 σ2) (fc : ∀ q j, ¬ (q = 1 ∧ 1 ≤ j ∧ j ≤ 3) → (q < 171 ∨ 192 ≤ q) → s1.1 q j = σ1.1 q j) (fm : ∀ j, ¬ (4 ≤ j ∧ j ≤ 6) → s2.1 1 j = σ2.1 1 j) (f2 : ∀ j, s2.1 2 j = σ2.1 2 j) (E : TpE s1 s2) : RR s1 s2 := by
  refine R.tx (fun q j h1 h2 => fc q j (by omega) h2) (fun j h => fm j (by omega)) f2 ?_
  have T := R.1
  refine ⟨E.tape, ⟨E.2.2.1, E.2.2.2⟩, grpC T (fun q j _ _ => fc q j (by omega) (by omega)) (fc _ _ (by omega) (by omega)) (fun j _ _ => fm j (by omega)) (fm _ (by omega)), grpS T (fun q j _ _ => fc q j (by omega) (by omega)) (fc _ _ (by omega) (by omega)) (fun j _ _ => fm j (by omega)) (fm _ (by omega)), grpL T (fun q j _ _ => fc q j (by omega) (by omega)) (fc _ _ (by omega) (by omega)) (fun j _ _ => fm j (by omega)) (fm _ (by omega)), ?_⟩
  have e : s1.1 (1 + 1) = σ1.1 (1 + 1) := by funext j; exact fc _ j (by omega) (by omega)
  rw [e]; exact T.2.2.2.2.2
end TOLD2
section NUM
variable {N : Nat} {σ : Mem}
/-- the number that a text gets -/
def OkN (v2 : Int32) (c k : Nat) : Prop := (v2 = -1 ∧ c < 2 ∧ k = c) ∨ (v2 = Int32.ofNat k ∧ k < c)
theorem numF_C {t c : Nat} {v2 : Int32} (ht : t < 3) (hc : c ≤ 2) (h : σ.1 3 t = Int32.ofNat c) : (∃ k, OkN v2 c k ∧ fX9_numberFor N 1 (Int32.ofNat t) v2 σ = some (Int32.ofNat k, σ)) ∨ ((∀ k, ¬ OkN v2 c k) ∧ fX9_numberFor N 1 (Int32.ofNat t) v2 σ = some (-1, σ)) := by
  unfold fX9_numberFor
  rw [if_neg (z_neg (by omega)), if_pos (show Int32.ofNat t < 3 by rw [z_gt (by omega) (by omega)]; exact ht), gdT (inb_k ht (by omega)), nz_nat (by omega), show σ.1 (1 + 2) t = Int32.ofNat c from h, ho_lte]
  by_cases m : v2 = -1
  · rw [if_pos m]
    by_cases q : c < 2
    · rw [if_neg (show ¬ (2 : Int32) ≤ Int32.ofNat c by rw [z_le (by omega) (by omega)]; omega)]
      exact Or.inl ⟨c, Or.inl ⟨m, q, rfl⟩, rfl⟩
    · rw [if_pos (show (2 : Int32) ≤ Int32.ofNat c by rw [z_le (by omega) (by omega)]; omega)]
      refine Or.inr ⟨fun k h => ?_, rfl⟩
      rcases h with ⟨_, h, _⟩ | ⟨h, h2⟩
      · exact q h
      · rw [m] at h
        exact z_m1 (show k < 2147483648 by omega) h.symm
  · rw [if_neg m]
    by_cases q : inb v2 c = true
    · obtain ⟨k, k1, k2, k3⟩ := inb_nat q
      subst k2
      rw [if_neg (z_neg (by omega)), if_neg (show ¬ Int32.ofNat c ≤ Int32.ofNat k by rw [nz_le (by omega) (by omega)]; omega)]
      exact Or.inl ⟨k, Or.inr ⟨rfl, k1⟩, rfl⟩
    · have no : ∀ k, ¬ OkN v2 c k := by
        rintro k (⟨h, _, _⟩ | ⟨h, h2⟩)
        · exact m h
        · rw [h] at q; exact q (inb_k h2 (by omega))
      refine Or.inr ⟨no, ?_⟩
      have q' := mt inb_iff.mpr q
      by_cases z : v2 < 0
      · rw [if_pos z]
      · rw [if_neg z]
        rw [i32_lt, show (0 : Int32).toInt = 0 from rfl] at z
        rw [if_pos (show Int32.ofNat c ≤ v2 by rw [i32_le, nz_toInt (by omega)]; omega)]
theorem numF_n {v1 v2 : Int32} (h : ¬ inb v1 3 = true) : fX9_numberFor N 1 v1 v2 σ = some (-1, σ) := by
  unfold fX9_numberFor
  have q := mt inb_iff.mpr h
  by_cases z : v1 < 0
  · rw [if_pos z]
  · rw [if_neg z]
    rw [i32_lt, show (0 : Int32).toInt = 0 from rfl] at z
    rw [if_neg (show ¬ v1 < 3 by rw [i32_lt, show (3 : Int32).toInt = 3 from rfl]; omega)]
/-- the reference asks the same -/
theorem askd_M {t c : Nat} {v2 : Int32} {α : Type} {dd : Mem → Option (α × Mem)} {κ : Mem → Option (α × Mem)} (ht : t < 3) (hc : c ≤ 2) (h : σ.1 1 t = Int32.ofNat c) : ((∃ k, OkN v2 c k) → (if v2 = (-1) then gd (inb (Int32.ofNat t) 4176) (if (σ.1 1 (Int32.ofNat t).toNatClampNeg) < 2 then κ σ else dd σ) else bd (fX12_isOf N (Int32.ofNat t) v2 σ) (fun r7 s8 => if r7 = 0 then dd s8 else κ s8)) = κ σ) ∧ ((∀ k, ¬ OkN v2 c k) → (if v2 = (-1) then gd (inb (Int32.ofNat t) 4176) (if (σ.1 1 (Int32.ofNat t).toNatClampNeg) < 2 then κ σ else dd σ) else bd (fX12_isOf N (Int32.ofNat t) v2 σ) (fun r7 s8 => if r7 = 0 then dd s8 else κ s8)) = dd σ) := by
  by_cases m : v2 = -1
  · rw [if_pos m, gdT (inb_k (show t < 4176 by omega) (by omega)), nz_nat (by omega), h]
    by_cases q : c < 2
    · rw [if_pos (show Int32.ofNat c < 2 by rw [z_gt (by omega) (by omega)]; exact q)]
      exact ⟨fun _ => rfl, fun no => absurd (Or.inl ⟨m, q, rfl⟩) (no c)⟩
    · rw [if_neg (show ¬ Int32.ofNat c < 2 by rw [z_gt (by omega) (by omega)]; exact q)]
      refine ⟨fun ⟨k, hk⟩ => ?_, fun _ => rfl⟩
      rcases hk with ⟨_, h, _⟩ | ⟨h, h2⟩
      · exact absurd h q
      · rw [m] at h
        exact absurd h.symm (z_m1 (show k < 2147483648 by omega))
  · rw [if_neg m, isOf_M h ht hc rfl, ho_bds]
    by_cases q : inb v2 c = true
    · obtain ⟨k, k1, k2, k3⟩ := inb_nat q
      rw [if_pos q, if_neg (show ¬ (1 : Int32) = 0 by decide)]
      exact ⟨fun _ => rfl, fun no => absurd (Or.inr ⟨k2, k1⟩) (no k)⟩
    · rw [if_neg q, if_pos rfl]
      refine ⟨fun ⟨k, hk⟩ => ?_, fun _ => rfl⟩
      rcases hk with ⟨h, _, _⟩ | ⟨h, h2⟩
      · exact absurd h m
      · rw [h] at q; exact absurd (inb_k h2 (by omega)) q
end NUM
section LOOP
variable {N : Nat} {B : Nat → Nat} {n s : Nat} {σ1 σ2 a1 a2 : Mem} {D : Mem → Mem → Prop}
theorem tk_0 : (tkC B n s = 0 ↔ ¬ s < n) ∧ (tkM B n s = 0 ↔ ¬ s < n) := by
  unfold tkC tkM
  by_cases a : s < n
  · rw [if_pos a, if_pos a]
    refine ⟨⟨fun h => ?_, fun h => absurd a h⟩, ⟨fun h => ?_, fun h => absurd a h⟩⟩
    · exfalso
      revert h
      by_cases b : isL (B s) = true
      · rw [if_pos b]; decide
      · rw [if_neg b]
        by_cases d : isD (B s) = true
        · rw [if_pos d]; split <;> decide
        · rw [if_neg d]; split <;> decide
    · exfalso
      revert h
      by_cases b : isL (B s) = true
      · rw [if_pos b]; split <;> decide
      · rw [if_neg b]
        by_cases d : isD (B s) = true
        · rw [if_pos d]; split <;> decide
        · rw [if_neg d]; split <;> decide
  · rw [if_neg a, if_neg a]; exact ⟨⟨fun _ => a, fun _ => rfl⟩, ⟨fun _ => a, fun _ => rfl⟩⟩
def FinR (B : Nat → Nat) (n : Nat) (D : Mem → Mem → Prop) (s1 s2 : Mem) : Prop := (∃ p, WrE p s1 s2) ∨ (PS B n n s1 s2 ∧ FJ n s1 s2 ∧ D s1 s2)
theorem loop_J {β : Type} {LM : Mem → Option (Unit × Mem)} {v1 v2 : Int32} {K : Unit → Mem → Option (β × Mem)} {Q : β → Mem → Int32 → Mem → Prop} (hN : 10000 ≤ N) (hn : n ≤ 600)
    (hL : ∀ (rc : Int32 → Int32 → Mem → Option (Int32 × Mem)) σ, σ.1 0 8 = 0 → ¬ σ.1 0 5 = 0 → fX12_text_b122 N rc v1 v2 σ = bd (LM σ) (fun _ s => rc v1 v2 s))
    (hJ : ∀ s σ1 σ2, PS B n s σ1 σ2 → FJ s σ1 σ2 → D σ1 σ2 → H2 (fX6_readLine N 171 v1 σ1) (LM σ2) (QLn B n D σ1 σ2 s))
    (fin : ∀ s1 s2, GC a1 s1 → GM a2 s2 → FinR B n D s1 s2 → H2 (bd (fX6_read_b92 N 171 v1 s1) K) (fX12_text_b185 N v1 v2 s2) Q)
    (G1 : GC a1 σ1) (G2 : GM a2 σ2) (P : PS B n s σ1 σ2) (Fj : FJ s σ1 σ2) (d : D σ1 σ2) : H2 (bd (fX6_read_l58 N 171 N v1 0 σ1) K) (fX12_text_l122 N N v1 v2 σ2) Q := by
  refine h2_loop (F1 := fun m (b : Int32) t => bd (fX6_read_l58 N 171 m v1 b t) K) (F2 := fun m (_ : Unit) t => fX12_text_l122 N m v1 v2 t) (fun i b t1 _ t2 => b = Int32.ofNat i ∧ GC a1 t1 ∧ GM a2 t2 ∧ ((∃ p, WrE p t1 t2) ∨ ∃ s, i ≤ s ∧ PS B n s t1 t2 ∧ FJ s t1 t2 ∧ D t1 t2)) (n + 2) ?_ ?_ (n + 2) N N 0 0 σ1 () σ2 (by omega) (by omega) (by omega) ⟨rfl, G1, G2, Or.inr ⟨s, Nat.zero_le _, P, Fj, d⟩⟩
  · rintro m1 m2 i b t1 _ t2 hi ⟨e, g1, g2, I⟩ rec
    subst e
    simp only [fX6_read_l58, fX12_text_l122]
    rcases I with ⟨p, w⟩ | ⟨s, hs, P, Fj, d⟩
    · have f := fin t1 t2 g1 g2 (Or.inl ⟨p, w⟩)
      unfold fX6_read_b58 fX12_text_b122
      rw [w.2.2.1, if_neg (show ¬ (1 : Int32) = 0 by decide)]
      by_cases c : (600 : Int32) < Int32.ofNat i
      · rw [if_pos c]; exact f
      · rw [if_neg c]
        by_cases c2 : t1.1 171 7 = 0
        · rw [if_pos c2]; exact f
        · rw [if_neg c2, if_pos w.1]; exact f
    · have sn := P.2.2.1
      have z := tk_0 (B := B) (n := n) (s := s)
      by_cases c : s < n
      · rw [hL _ _ Fj.1 (by rw [P.2.2.2.2.2.2.1]; exact fun h => (z.2.mp h) c)]
        unfold fX6_read_b58
        rw [if_neg (show ¬ (600 : Int32) < Int32.ofNat i by rw [z_lt (by omega) (by omega)]; omega), if_neg (show ¬ t1.1 171 7 = 0 by rw [P.2.2.2.1.2.2.1]; exact fun h => (z.1.mp h) c), if_neg (show ¬ t1.1 171 3 = 1 by
          rcases Fj.2 with ⟨h, _⟩ | ⟨f, p, hf, _, _, h, _⟩
          · rw [h]; decide
          · rw [h, z_eq (by omega) (by omega)]; omega), bd_bd]
        refine h2_lr (h2_mono (hJ s t1 t2 P Fj d) ?_)
        rintro _ u1 _ u2 ⟨q1, q2, q3⟩
        rw [ho_lte, nz_succ]
        refine rec _ _ () _ ⟨rfl, g1.trans q1, g2.trans q2, ?_⟩
        rcases q3 with q3 | ⟨s', h1, h2⟩
        · exact Or.inl q3
        · exact Or.inr ⟨s', by omega, h2⟩
      · have e : s = n := by omega
        subst e
        have f := fin t1 t2 g1 g2 (Or.inr ⟨P, Fj, d⟩)
        unfold fX6_read_b58 fX12_text_b122
        rw [if_pos Fj.1, if_pos (show t2.1 0 5 = 0 by rw [P.2.2.2.2.2.2.1]; exact z.2.mpr c), if_pos (show t1.1 171 7 = 0 by rw [P.2.2.2.1.2.2.1]; exact z.1.mpr c)]
        split <;> exact f
  · rintro m1 m2 b t1 _ t2 ⟨e, g1, g2, I⟩
    subst e
    simp only [fX6_read_l58, fX12_text_l122]
    rcases I with ⟨p, w⟩ | ⟨s, hs, P, Fj, d⟩
    · have f := fin t1 t2 g1 g2 (Or.inl ⟨p, w⟩)
      unfold fX6_read_b58 fX12_text_b122
      rw [w.2.2.1, if_neg (show ¬ (1 : Int32) = 0 by decide)]
      by_cases c : (600 : Int32) < Int32.ofNat (n + 2)
      · rw [if_pos c]; exact f
      · rw [if_neg c]
        by_cases c2 : t1.1 171 7 = 0
        · rw [if_pos c2]; exact f
        · rw [if_neg c2, if_pos w.1]; exact f
    · have := P.2.2.1
      omega
end LOOP
