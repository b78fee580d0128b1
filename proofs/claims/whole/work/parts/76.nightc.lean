theorem ldV_up {S : Vw} {p w : Nat} {s : Int32} : ∀ n, ldV (upV S 9 w s) p n = if w < n then ldV S p n + (if S 9 w = Int32.ofNat p then -(S 8 w) else 0) + (if s = Int32.ofNat p then S 8 w else 0) else ldV S p n
  | 0 => by simp [ldV]
  | n + 1 => by
    have ih := ldV_up (S := S) (p := p) (w := w) (s := s) n
    have e8 : upV S 9 w s 8 n = S 8 n := upV_ne S s (by omega)
    simp only [ldV, ih, e8]
    by_cases c : w = n
    · subst c
      rw [upV_eq, if_neg (Nat.lt_irrefl w), if_pos (Nat.lt_succ_self w)]
      split <;> split <;> grind
    · rw [upV_ne S s (by omega)]
      by_cases d : w < n
      · rw [if_pos d, if_pos (show w < n + 1 by omega)]; grind
      · rw [if_neg d, if_neg (show ¬ w < n + 1 by omega)]
theorem upV_wf9 {S : Vw} {np nw w : Nat} {s : Int32} (W : WfV S np nw) (hs : Seat np s) : WfV (upV S 9 w s) np nw := by
  obtain ⟨h1, h2, h3, h4, h5, h6, h7, h8⟩ := W
  refine ⟨h1, h2, ?_, ?_, ?_, ?_, ?_, ?_⟩
  · rw [upV_ne S s (by omega)]; exact h3
  · rw [upV_ne S s (by omega)]; exact h4
  · intro p hp; rw [upV_ne S s (by omega)]; exact h5 p hp
  · intro p hp; rw [upV_ne S s (by omega)]; exact h6 p hp
  · intro p hp; rw [upV_ne S s (by omega)]; exact h7 p hp
  · intro v hv
    by_cases e : v = w
    · subst e; rw [upV_eq]; exact hs
    · rw [upV_ne S s (by omega)]; exact h8 v hv
/-- changes of other rows keep what a hall is -/
theorem upV_wf {S : Vw} {np nw i j : Nat} {v : Int32} (W : WfV S np nw) (h : i = 0 ∨ i = 3 ∨ i = 4 ∨ i = 5 ∨ i = 8 ∨ i = 10 ∨ (i = 1 ∧ j = 2)) : WfV (upV S i j v) np nw := by
  obtain ⟨h1, h2, h3, h4, h5, h6, h7, h8⟩ := W
  refine ⟨h1, h2, ?_, ?_, ?_, ?_, ?_, ?_⟩
  · rw [upV_ne S v (by omega)]; exact h3
  · rw [upV_ne S v (by omega)]; exact h4
  · intro p hp; rw [upV_ne S v (by omega)]; exact h5 p hp
  · intro p hp; rw [upV_ne S v (by omega)]; exact h6 p hp
  · intro p hp; rw [upV_ne S v (by omega)]; exact h7 p hp
  · intro p hp; rw [upV_ne S v (by omega)]; exact h8 p hp
theorem ldV_ne {S : Vw} {p i j : Nat} {v : Int32} (h : i ≠ 8 ∧ i ≠ 9) (n : Nat) : ldV (upV S i j v) p n = ldV S p n := ldV_congr n (fun w _ => ⟨upV_ne S v (by omega), upV_ne S v (by omega)⟩)
theorem seat_C {σ : Mem} {N h np nw w : Nat} {S : Vw} {s : Int32} (W : WfV S np nw) (H : HaC σ h S np nw) (hw : w < nw) (hs : Seat np s) : Ho (fX2_seatPerson N h (Int32.ofNat w) s σ) (fun _ σ' => HaC σ' h (upV S 9 w s) np nw ∧ FrC (h + 9) (h + 12) σ σ') := by
  have hn := W.1
  have hw6 : w < 6 := by have := W.2.1; omega
  obtain ⟨h1, h2, h3, h4, h5, h6⟩ := H
  unfold fX2_seatPerson
  rw [hasw_eq (np := nw) _ (by rw [h3, W.2.2.2.1]) (by have := W.2.1; omega), nz_inb (by omega), ho_bds]
  simp only [hw, decide_true, if_true]
  rw [if_neg (by decide)]
  simp only [nz_inb (show w < 2147483648 by omega), hw6, decide_true, ho_gdt, nz_nat (show w < 2147483648 by omega)]
  rw [(h6 w hw).1, (h6 w hw).2, ho_bd]
  refine ho_mono (putLoad_C hn (by rw [h2, W.2.2.1]) (W.2.2.2.2.2.2.2 w hw)) (fun _ s1 ⟨a1, F1⟩ => ?_)
  rw [ho_bd, F1.1 _ (by omega), (h6 w hw).1]
  refine ho_mono (putLoad_C hn (by rw [F1.1 _ (by omega), h2, W.2.2.1]) hs) (fun _ s2 ⟨a2, F2⟩ => ?_)
  simp only [ho_lt, ho_some]
  have F12 := F1.trans F2
  have F : FrC (h + 9) (h + 12) σ (pI s2 (h + 1 + 8) w s) := (F12.wide (by omega) (by omega)).pI (by omega)
  refine ⟨⟨?_, ?_, ?_, ?_, fun p hp => ?_, fun v hv => ?_⟩, F⟩
  · rw [F.1 _ (by omega), upV_ne S s (by omega)]; exact h1
  · rw [F.1 _ (by omega), upV_ne S s (by omega)]; exact h2
  · rw [F.1 _ (by omega), upV_ne S s (by omega)]; exact h3
  · rw [F.1 _ (by omega), upV_ne S s (by omega)]; exact h4
  · have q := h5 p hp
    refine ⟨?_, ?_, ?_, ?_, ?_, ?_, ?_, ?_⟩
    · rw [F.1 _ (by omega), upV_ne S s (by omega)]; exact q.1
    · rw [F.1 _ (by omega), upV_ne S s (by omega)]; exact q.2.1
    · rw [F.1 _ (by omega), upV_ne S s (by omega)]; exact q.2.2.1
    · rw [F.1 _ (by omega), upV_ne S s (by omega)]; exact q.2.2.2.1
    · rw [F.1 _ (by omega), upV_ne S s (by omega)]; exact q.2.2.2.2.1
    · rw [F.1 _ (by omega), upV_ne S s (by omega)]; exact q.2.2.2.2.2.1
    · rw [pI_nq (by omega), F12.1 _ (by omega), upV_ne S s (by omega)]; exact q.2.2.2.2.2.2.1
    · rw [pI_nq (by omega), a2 p hp, a1 p hp, q.2.2.2.2.2.2.2]
      unfold loadV
      rw [ldV_up, if_pos hw]
  · have q := h6 v hv
    refine ⟨?_, ?_⟩
    · rw [F.1 _ (by omega), upV_ne S s (by omega)]; exact q.1
    · by_cases e : v = w
      · subst e; rw [pI_eq, upV_eq]
      · rw [pI_nq (by omega), F12.1 _ (by omega), upV_ne S s (by omega)]; exact q.2
/-- a night of the first n pieces -/
def nightV (S : Vw) (n : Nat) : Vw := fun i j => if i = 4 ∧ j < n then mnI 99 (S 4 j + (if S 3 j = 2 then 2 else 1)) else if i = 10 ∧ j < n then mxI 0 (S 10 j - 1) else S i j
theorem nightV_ne {S : Vw} {n i j : Nat} (h : ¬ i = 4 ∧ ¬ i = 10) : nightV S n i j = S i j := by
  unfold nightV; rw [if_neg (by omega), if_neg (by omega)]
theorem nightV_wf {S : Vw} {np nw n : Nat} (W : WfV S np nw) : WfV (nightV S n) np nw := by
  obtain ⟨h1, h2, h3, h4, h5, h6, h7, h8⟩ := W
  refine ⟨h1, h2, ?_, ?_, ?_, ?_, ?_, ?_⟩
  · rw [nightV_ne (by omega)]; exact h3
  · rw [nightV_ne (by omega)]; exact h4
  · intro p hp; rw [nightV_ne (by omega)]; exact h5 p hp
  · intro p hp; rw [nightV_ne (by omega)]; exact h6 p hp
  · intro p hp; rw [nightV_ne (by omega)]; exact h7 p hp
  · intro p hp; rw [nightV_ne (by omega)]; exact h8 p hp
theorem night_C {σ : Mem} {N h np nw : Nat} {S : Vw} (hN : 10000 ≤ N) (W : WfV S np nw) (H : HaC σ h S np nw) : Ho (fX2_passNight N h σ) (fun _ σ' => HaC σ' h (nightV S np) np nw ∧ FrC (h + 4) (h + 11) σ σ') := by
  have hn := W.1
  obtain ⟨h1, h2, h3, h4, h5, h6⟩ := H
  unfold fX2_passNight
  simp only [ho_lt]
  refine ho_loop (F := fun n (v : Int32) s => fX2_passNight_l2 N h n v s) (fun i v s => v = Int32.ofNat i ∧ (∀ k j, ¬ (k = h + 1 + 3 ∧ j < i) → ¬ (k = h + 10 ∧ j < i) → s.1 k j = σ.1 k j) ∧ (∀ p, p < i → s.1 (h + 1 + 3) p = nightV S np 4 p ∧ s.1 (h + 10) p = nightV S np 10 p) ∧ s.2 = σ.2) np ?_ ?_ np N 0 _ _ (by omega) (by omega) ⟨rfl, fun _ _ _ _ => rfl, fun p hp => absurd hp (Nat.not_lt_zero p), rfl⟩
  · intro n i v s hi ⟨hv, F, a1, a2⟩ rec
    subst hv
    show Ho (fX2_passNight_b2 N h (fX2_passNight_l2 N h n) (Int32.ofNat i) s) _
    unfold fX2_passNight_b2 fX2_passNight_b31
    have i8 : i < 8 := by omega
    have q := h5 i hi
    rw [if_neg (by rw [F _ _ (by omega) (by omega), h2, W.2.2.1, nz_le (by omega) (by omega)]; omega)]
    simp only [nz_inb (show i < 2147483648 by omega), i8, decide_true, ho_gdt, nz_nat (show i < 2147483648 by omega), nz_succ, ho_lte]
    have fin : ∀ (x : Int32), (if S 3 i = 2 then (2 : Int32) else 1) = x → Ho (fX2_passNight_l2 N h n (Int32.ofNat (i + 1)) (pI (pI s (h + 1 + 3) i (mnI 99 (s.1 (h + 1 + 3) i + x))) (h + 10) i (mxI 0 ((pI s (h + 1 + 3) i (mnI 99 (s.1 (h + 1 + 3) i + x))).1 (h + 10) i - 1)))) (fun _ σ' => HaC σ' h (nightV S np) np nw ∧ FrC (h + 4) (h + 11) σ σ') := by
      intro x hx
      refine rec _ _ ⟨rfl, fun k j c1 c2 => ?_, fun p hp => ?_, a2⟩
      · rw [pI_nq (by omega), pI_nq (by omega)]; exact F k j (by omega) (by omega)
      · by_cases e : p = i
        · subst e
          rw [pI_nq (by omega), pI_eq, pI_eq, pI_nq (by omega), F _ _ (by omega) (by omega), F _ _ (by omega) (by omega), q.2.2.1, q.2.2.2.2.2.2.1]
          refine ⟨?_, ?_⟩
          · unfold nightV; rw [if_pos ⟨rfl, hi⟩, hx]
          · unfold nightV; rw [if_neg (show ¬ (10 = 4 ∧ p < np) by omega), if_pos ⟨rfl, hi⟩]
        · rw [pI_nq (by omega), pI_nq (by omega), pI_nq (by omega), pI_nq (by omega)]; exact a1 p (by omega)
    have w3 : s.1 (h + 1 + 2) i = S 3 i := by rw [F _ _ (by omega) (by omega)]; exact q.2.1
    rw [w3]
    by_cases c : S 3 i = 2
    · rw [if_pos c]; exact fin 2 (if_pos c)
    · rw [if_neg c]; exact fin 1 (if_neg c)
  · intro n v s ⟨hv, F, a1, a2⟩
    subst hv
    show Ho (fX2_passNight_b2 N h (fX2_passNight_l2 N h n) (Int32.ofNat np) s) _
    unfold fX2_passNight_b2
    rw [if_pos (by rw [F _ _ (by omega) (by omega), h2, W.2.2.1]; exact Int32.le_refl _), ho_some]
    refine ⟨⟨?_, ?_, ?_, ?_, fun p hp => ?_, fun w hw => ?_⟩, fun k hk => ?_, a2⟩
    · rw [F _ _ (by omega) (by omega), nightV_ne (by omega)]; exact h1
    · rw [F _ _ (by omega) (by omega), nightV_ne (by omega)]; exact h2
    · rw [F _ _ (by omega) (by omega), nightV_ne (by omega)]; exact h3
    · rw [F _ _ (by omega) (by omega), nightV_ne (by omega)]; exact h4
    · have q := h5 p hp
      refine ⟨?_, ?_, (a1 p hp).1, ?_, ?_, ?_, (a1 p hp).2, ?_⟩
      · rw [F _ _ (by omega) (by omega), nightV_ne (by omega)]; exact q.1
      · rw [F _ _ (by omega) (by omega), nightV_ne (by omega)]; exact q.2.1
      · rw [F _ _ (by omega) (by omega), nightV_ne (by omega)]; exact q.2.2.2.1
      · rw [F _ _ (by omega) (by omega), nightV_ne (by omega)]; exact q.2.2.2.2.1
      · rw [F _ _ (by omega) (by omega), nightV_ne (by omega)]; exact q.2.2.2.2.2.1
      · rw [F _ _ (by omega) (by omega), q.2.2.2.2.2.2.2]
        exact (ldV_congr nw (fun w _ => ⟨nightV_ne (by omega), nightV_ne (by omega)⟩)).symm
    · have q := h6 w hw
      rw [F _ _ (by omega) (by omega), F _ _ (by omega) (by omega), nightV_ne (by omega), nightV_ne (by omega)]; exact q
    · funext j; exact F k j (by omega) (by omega)
