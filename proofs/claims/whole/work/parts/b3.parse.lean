/-! Class and reference at the same token. -/
def PS (B : Nat → Nat) (n s : Nat) (σ1 σ2 : Mem) : Prop := TpC B n σ1 ∧ TpM B n σ2 ∧ s ≤ n ∧ LxC B n s σ1 ∧ LxM B n s σ2
/-- nothing but cells 171 to 191 -/
def GC (σ t : Mem) : Prop := ∀ k j, (k < 171 ∨ 192 ≤ k) → t.1 k j = σ.1 k j
def GM (σ t : Mem) : Prop := (∀ j, j ≠ 5 → j ≠ 6 → t.1 1 j = σ.1 1 j) ∧ ∀ j, t.1 2 j = σ.1 2 j
theorem GC.refl (σ : Mem) : GC σ σ := fun _ _ _ => rfl
theorem GM.refl (σ : Mem) : GM σ σ := ⟨fun _ _ _ => rfl, fun _ => rfl⟩
theorem GC.trans {a b c : Mem} (x : GC a b) (y : GC b c) : GC a c := fun k j h => (y k j h).trans (x k j h)
theorem GM.trans {a b c : Mem} (x : GM a b) (y : GM b c) : GM a c := ⟨fun j h1 h2 => (y.1 j h1 h2).trans (x.1 j h1 h2), fun j => (y.2 j).trans (x.2 j)⟩
/-- no wrong token yet: faults alike, the place ahead of s -/
def FJ (s : Nat) (σ1 σ2 : Mem) : Prop := σ2.1 0 8 = 0 ∧ ((σ1.1 171 3 = 0 ∧ σ1.1 171 4 = -1 ∧ σ2.1 1 5 = 0 ∧ σ2.1 1 6 = -1) ∨ ∃ f p, (f = 2 ∨ f = 3) ∧ p < s ∧ s < 1000 ∧ σ1.1 171 3 = Int32.ofNat f ∧ σ1.1 171 4 = Int32.ofNat p ∧ σ2.1 1 5 = Int32.ofNat f ∧ σ2.1 1 6 = Int32.ofNat p)
/-- data's frames: all but the reader's own words -/
def FrAc (σ t : Mem) : Prop := ∀ k j, k ≠ 171 → k ≠ 191 → t.1 k j = σ.1 k j
def FrBm (σ t : Mem) : Prop := ∀ k j, ¬ (k = 0 ∧ 3 ≤ j ∧ j ≤ 8) → ¬ (k = 1 ∧ (j = 5 ∨ j = 6)) → t.1 k j = σ.1 k j
theorem FrAc.refl (σ : Mem) : FrAc σ σ := fun _ _ _ _ => rfl
theorem FrBm.refl (σ : Mem) : FrBm σ σ := fun _ _ _ _ => rfl
theorem FrAc.trans {a b c : Mem} (x : FrAc a b) (y : FrAc b c) : FrAc a c := fun k j h1 h2 => (y k j h1 h2).trans (x k j h1 h2)
theorem FrBm.trans {a b c : Mem} (x : FrBm a b) (y : FrBm b c) : FrBm a c := fun k j h1 h2 => (y k j h1 h2).trans (x k j h1 h2)
theorem FrLC.toA {a b : Mem} (x : FrLC a b) : FrAc a b := fun k j h1 _ => x k j (by omega)
theorem FrLM.toB {a b : Mem} (x : FrLM a b) : FrBm a b := fun k j h1 _ => x k j (by omega)
theorem FrAc.gc {a b : Mem} (x : FrAc a b) : GC a b := fun k j h => x k j (by omega) (by omega)
theorem FrBm.gm {a b : Mem} (x : FrBm a b) : GM a b := ⟨fun j h1 h2 => x 1 j (by omega) (by omega), fun j => x 2 j (by omega) (by omega)⟩
theorem FJ.mono {s s' : Nat} {σ1 σ2 : Mem} (h : FJ s σ1 σ2) (hs : s ≤ s') (hs' : s' < 1000) : FJ s' σ1 σ2 := by
  refine ⟨h.1, ?_⟩
  rcases h.2 with h | ⟨f, p, h1, h2, h3, h4⟩
  · exact Or.inl h
  · exact Or.inr ⟨f, p, h1, by omega, hs', h4⟩
theorem FJ.ag {s : Nat} {σ1 σ2 t1 t2 : Mem} (h : FJ s σ1 σ2) (a : t1.1 171 3 = σ1.1 171 3) (b : t1.1 171 4 = σ1.1 171 4) (c : t2.1 0 8 = σ2.1 0 8) (d : t2.1 1 5 = σ2.1 1 5) (e : t2.1 1 6 = σ2.1 1 6) : FJ s t1 t2 := by
  unfold FJ
  rw [a, b, c, d, e]
  exact h
theorem FJ.fr {s : Nat} {σ1 σ2 t1 t2 : Mem} (h : FJ s σ1 σ2) (F1 : FrLC σ1 t1) (F2 : FrLM σ2 t2) : FJ s t1 t2 := h.ag (F1 _ _ (by omega)) (F1 _ _ (by omega)) (F2 _ _ (by omega)) (F2 _ _ (by omega)) (F2 _ _ (by omega))
theorem PS.ag {B : Nat → Nat} {n s : Nat} {σ1 σ2 t1 t2 : Mem} (P : PS B n s σ1 σ2) (a : ∀ j, 5 ≤ j → j ≤ 10 → t1.1 171 j = σ1.1 171 j) (b : ∀ j, t1.1 2 j = σ1.1 2 j) (c : ∀ j, 2 ≤ j → j ≤ 7 → t2.1 0 j = σ2.1 0 j) (d : ∀ j, 10 ≤ j → t2.1 1 j = σ2.1 1 j) : PS B n s t1 t2 := by
  obtain ⟨⟨p1, p2, p3, p4⟩, ⟨q1, q2, q3⟩, r, ⟨u1, u2, u3, u4⟩, ⟨w1, w2, w3, w4, w5⟩⟩ := P
  refine ⟨⟨p1, ?_, ?_, ?_⟩, ⟨q1, ?_, ?_⟩, r, ⟨?_, ?_, ?_, ?_⟩, ⟨?_, ?_, ?_, ?_, ?_⟩⟩
  · rw [a 5 (by omega) (by omega)]; exact p2
  · rw [a 6 (by omega) (by omega)]; exact p3
  · intro i hi; rw [b]; exact p4 i hi
  · rw [c 2 (by omega) (by omega)]; exact q2
  · intro i hi; rw [d _ (by omega)]; exact q3 i hi
  · rw [a 8 (by omega) (by omega)]; exact u1
  · rw [a 9 (by omega) (by omega)]; exact u2
  · rw [a 7 (by omega) (by omega)]; exact u3
  · rw [a 10 (by omega) (by omega)]; exact u4
  · rw [c 4 (by omega) (by omega)]; exact w1
  · rw [c 3 (by omega) (by omega)]; exact w2
  · rw [c 5 (by omega) (by omega)]; exact w3
  · rw [c 6 (by omega) (by omega)]; exact w4
  · rw [c 7 (by omega) (by omega)]; exact w5
section PARSE
variable {N : Nat} {B : Nat → Nat} {n s : Nat} {σ1 σ2 : Mem}
theorem adv_J {α β : Type} {K1 : Unit → Mem → Option (α × Mem)} {K2 : Unit → Mem → Option (β × Mem)} {Q : α → Mem → β → Mem → Prop} (hN : 10000 ≤ N) (P : PS B n s σ1 σ2)
    (go : ∀ s' t1 t2, s ≤ s' → (s < n → s < s') → PS B n s' t1 t2 → FrLC σ1 t1 → FrLM σ2 t2 → H2 (K1 () t1) (K2 () t2) Q) : H2 (bd (fX6_advance N 171 σ1) K1) (bd (fX12_advance N σ2) K2) Q := by
  obtain ⟨TC, TM, hs, LC, LM⟩ := P
  have te := te_bd (B := B) hs
  have ts := ts_bd (B := B) te.2.1
  refine h2_lr (h2_mono (h2_both (adv_C hN TC te.2.1 LC.2.1) (adv_M hN TM te.2.1 LM.2.1)) ?_)
  rintro _ t1 _ t2 ⟨⟨F1, L1⟩, F2, L2⟩
  exact go _ t1 t2 (by omega) (fun h => by have := te.2.2 h; omega) ⟨TC.fr F1, TM.fr F2, ts.2, L1, L2⟩ F1 F2
theorem cd_low {g : Nat → Nat} : ∀ k, (∀ j, j < k + 1 → 1 ≤ g j) → 32 ^ k ≤ cdG g (k + 1)
  | 0, h => by have := h 0 (by omega); simp only [cdG]; omega
  | k + 1, h => by
    have ih := cd_low (g := g) k (fun j hj => h j (by omega))
    have e : cdG g (k + 1 + 1) = 32 * cdG g (k + 1) + g (k + 1) := rfl
    rw [e, Nat.pow_succ]
    omega
theorem ix_no {v : Nat} : ∀ (l : List (List Nat)) (k : Nat), (∀ w, w ∈ l → cdL w < v) → ixF v l k = 99
  | [], _, _ => rfl
  | w :: t, k, h => by
    have := h w (List.mem_cons_self)
    simp only [ixF]
    rw [if_neg (by omega)]
    exact ix_no t (k + 1) (fun x hx => h x (List.mem_cons_of_mem _ hx))
theorem wd_small : ∀ w, w ∈ wdT → cdL w < 1099511627776 := by decide +kernel
theorem wdN_eq {e : Nat} (hl : ∀ j, j < e - s → isL (B (s + j)) = true) : wdN B s e = wdF (cdW B s (e - s)) := by
  unfold wdN
  by_cases c : e - s ≤ 8
  · rw [if_pos c]
  · rw [if_neg c]
    obtain ⟨k, hk⟩ : ∃ k, e - s = k + 1 := ⟨e - s - 1, by omega⟩
    rw [hk] at hl ⊢
    have lo := cd_low (g := fun j => B (s + j) - 96) k (fun j hj => by
      have h : 97 ≤ B (s + j) ∧ B (s + j) ≤ 122 := of_decide_eq_true (hl j hj)
      show 1 ≤ B (s + j) - 96
      omega)
    have p8 : 32 ^ 8 ≤ 32 ^ k := Nat.pow_le_pow_right (by omega) (by omega)
    have e8 : 32 ^ 8 = 1099511627776 := by decide
    unfold wdF
    rw [ix_no]
    intro w hw
    have := wd_small w hw
    unfold cdW
    omega
theorem tkC_1 (h : ¬ (s < n ∧ isL (B s) = true)) : ¬ tkC B n s = 1 := by
  unfold tkC
  by_cases c : s < n
  · rw [if_pos c, if_neg (fun z => h ⟨c, z⟩)]
    (repeat' split) <;> decide
  · rw [if_neg c]; decide
theorem tkM_3 (h : ¬ (s < n ∧ isL (B s) = true)) : ¬ tkM B n s = 3 := by
  unfold tkM
  by_cases c : s < n
  · rw [if_pos c, if_neg (fun z => h ⟨c, z⟩)]
    (repeat' split) <;> decide
  · rw [if_neg c]; decide
/-- a word is asked for: class and reference -/
theorem wi_J {T lo cnt : Nat} {v1 v2 : Int32} (hN : 10000 ≤ N) (hT : T < 4) (hlo : 1 ≤ lo) (hc : lo + cnt ≤ 21) (hcn : 1 ≤ cnt) (e1 : v1 = Int32.ofNat lo) (e2 : v2 = Int32.ofNat (lo + cnt - 1)) (hd : ∀ {B : Nat → Nat} {s L : Nat}, (∀ j, j < L → isL (B (s + j)) = true) → waF T (sameF T B s L) (lenS.getD T 0) 0 0 0 = hdF (cdW B s L) lo cnt) (P : PS B n s σ1 σ2) (h8 : σ2.1 0 8 = 0) :
    (∃ k, k < cnt ∧ s < n ∧ fX6_wordAmong N 171 T σ1 = some (Int32.ofNat k, σ1) ∧ fX12_wordIn N v1 v2 σ2 = bd (fX12_advance N σ2) (fun _ s5 => some (Int32.ofNat (lo + k), s5))) ∨
    (fX6_wordAmong N 171 T σ1 = some (-1, σ1) ∧ fX12_wordIn N v1 v2 σ2 = bd (fX12_ends N σ2) (fun _ s7 => some (0, s7))) := by
  subst e1 e2
  obtain ⟨TC, TM, hs, LC, LM⟩ := P
  have te := te_bd (B := B) hs
  have h6 := TC.1
  have hw := wd_bd B s (teN B n s)
  unfold fX12_wordIn fX12_wordIn_b27
  rw [if_pos h8, LM.2.2.1]
  by_cases c : s < n ∧ isL (B s) = true
  · have tC : σ1.1 171 7 = 1 := by rw [LC.2.2.1]; unfold tkC; rw [if_pos c.1, if_pos c.2]
    have tM : tkM B n s = if wdN B s (teN B n s) = 99 then 4 else 3 := by unfold tkM; rw [if_pos c.1, if_pos c.2]
    have tE : teN B n s = ruN isL B (n - (s + 1)) (s + 1) := by unfold teN; rw [if_pos c.1, if_pos c.2]
    have rb := ru_bd (P := isL) (B := B) (n - (s + 1)) (s + 1)
    rw [← tE] at rb
    have hl : ∀ j, s ≤ j → j < teN B n s → isL (B j) = true := fun j h1 h2 => by
      by_cases q : j = s
      · subst q; exact c.2
      · exact rb.2.2 j (by omega) h2
    have hl' : ∀ j, j < teN B n s - s → isL (B (s + j)) = true := fun j hj => hl _ (by omega) (by omega)
    have h07 := LM.2.2.2.2 c.1 c.2
    rw [wdN_eq hl'] at h07 hw tM
    rw [among_C hN TC hT te.1 te.2.1 LC.1 LC.2.1 tC hl, hd hl', tM]
    unfold hdF
    generalize wdF (cdW B s (teN B n s - s)) = w at hw h07
    rw [h07, isIn_Z]
    have ei : (Int32.ofNat lo).toInt ≤ (Int32.ofNat w).toInt ∧ (Int32.ofNat w).toInt ≤ (Int32.ofNat (lo + cnt - 1)).toInt ↔ (lo ≤ w ∧ w < lo + cnt) := by
      rw [nz_toInt (by omega), nz_toInt (by omega), nz_toInt (by omega)]
      omega
    by_cases r : lo ≤ w ∧ w < lo + cnt
    · left
      refine ⟨w - lo, by omega, c.1, by rw [if_pos r], ?_⟩
      rw [if_neg (show ¬ w = 99 by omega), if_pos rfl, ho_bds, if_pos (ei.mpr r), if_neg (show ¬ (1 : Int32) = 0 by decide), ho_lte, h07, show lo + (w - lo) = w by omega]
    · right
      refine ⟨by rw [if_neg r], ?_⟩
      by_cases q : w = 99
      · rw [if_pos q, if_neg (show ¬ (4 : Int32) = 3 by decide)]
      · rw [if_neg q, if_pos rfl, ho_bds, if_neg (fun h => r (ei.mp h)), if_pos rfl]
  · right
    refine ⟨?_, ?_⟩
    · unfold fX6_wordAmong
      rw [if_neg (show ¬ σ1.1 171 7 = 1 by rw [LC.2.2.1]; exact tkC_1 c)]
    · rw [if_neg (tkM_3 c)]
/-- a fault that is no end -/
theorem note_J {f p : Nat} {v1 v2 : Int32} (h : FJ p σ1 σ2) (hf : f = 2 ∨ f = 3) (hp : p < 900) (e1 : v1 = Int32.ofNat f) (e2 : v2 = Int32.ofNat p) : ∃ t1 t2, fX6_note N 171 v1 v2 σ1 = some ((), t1) ∧ fX12_also N v1 v2 σ2 = some ((), t2) ∧ FJ (p + 1) t1 t2 ∧ ¬ t1.1 171 3 = 0 ∧ (∀ k j, ¬ (k = 171 ∧ (j = 3 ∨ j = 4)) → t1.1 k j = σ1.1 k j) ∧ (∀ k j, ¬ (k = 1 ∧ (j = 5 ∨ j = 6)) → t2.1 k j = σ2.1 k j) := by
  subst e1 e2
  unfold fX6_note fX12_also fX12_also_b49
  have i5 : inb 5 4176 = true := by decide
  have i6 : inb 6 4176 = true := by decide
  have n5 : (5 : Int32).toNatClampNeg = 5 := rfl
  have n6 : (6 : Int32).toNatClampNeg = 6 := rfl
  simp only [i5, i6, n5, n6, ho_gdt, ho_lte]
  rw [if_pos h.1]
  rcases h.2 with ⟨a, b, c, d⟩ | ⟨f', p', hf', hp', hs, a, b, c, d⟩
  · rw [if_pos a, if_pos c]
    refine ⟨_, _, rfl, rfl, ⟨?_, Or.inr ⟨f, p, hf, by omega, by omega, ?_, ?_, ?_, ?_⟩⟩, ?_, fun k j hk => ?_, fun k j hk => ?_⟩
    · rw [pI_nq (by omega), pI_nq (by omega)]; exact h.1
    · rw [pI_nq (by omega), pI_eq]
    · rw [pI_eq]
    · rw [pI_nq (by omega), pI_eq]
    · rw [pI_eq]
    · rw [pI_nq (by omega), pI_eq, z_eq (by omega) (by omega)]; omega
    · rw [pI_nq (by omega), pI_nq (by omega)]
    · rw [pI_nq (by omega), pI_nq (by omega)]
  · have nz : ¬ Int32.ofNat f' = 0 := by rw [z_eq (by omega) (by omega)]; omega
    rw [if_neg (show ¬ σ1.1 171 3 = 0 by rw [a]; exact nz), if_neg (show ¬ σ2.1 1 5 = 0 by rw [c]; exact nz), if_pos (show σ2.1 1 6 < Int32.ofNat p by rw [d, nz_lt (by omega) (by omega)]; exact hp')]
    exact ⟨_, _, rfl, rfl, FJ.mono h (by omega) (by omega), by rw [a]; exact nz, fun _ _ _ => rfl, fun _ _ _ => rfl⟩
/-- the end by a wrong token -/
def WrE (p : Nat) (t1 t2 : Mem) : Prop := t1.1 171 3 = 1 ∧ t1.1 171 4 = Int32.ofNat p ∧ t2.1 0 8 = 1 ∧ t2.1 1 5 = 1 ∧ t2.1 1 6 = Int32.ofNat p
def WrM (p : Nat) (σ2 t2 : Mem) : Prop := t2.1 0 8 = 1 ∧ t2.1 1 5 = 1 ∧ t2.1 1 6 = Int32.ofNat p ∧ FrBm σ2 t2
theorem refuse_C (P : PS B n s σ1 σ2) : ∃ t1, fX6_refuse N 171 σ1 = some ((), t1) ∧ t1.1 171 3 = 1 ∧ t1.1 171 4 = Int32.ofNat s ∧ GC σ1 t1 := by
  unfold fX6_refuse
  simp only [ho_lte]
  refine ⟨_, rfl, ?_, ?_, fun k j h => ?_⟩
  · rw [pI_nq (by omega), pI_eq]
  · rw [pI_eq, pI_nq (by omega)]; exact P.2.2.2.1.1
  · rw [pI_nq (by omega), pI_nq (by omega)]
theorem ends_M (P : PS B n s σ1 σ2) (h8 : σ2.1 0 8 = 0) : ∃ t2, fX12_ends N σ2 = some ((), t2) ∧ WrM s σ2 t2 := by
  unfold fX12_ends
  have i5 : inb 5 4176 = true := by decide
  have i6 : inb 6 4176 = true := by decide
  have n5 : (5 : Int32).toNatClampNeg = 5 := rfl
  have n6 : (6 : Int32).toNatClampNeg = 6 := rfl
  simp only [i5, i6, n5, n6, ho_gdt, ho_lte]
  rw [if_pos h8]
  refine ⟨_, rfl, ?_, ?_, ?_, fun k j h1 h2 => ?_⟩
  · rw [pI_nq (by omega), pI_nq (by omega), pI_eq]
  · rw [pI_nq (by omega), pI_eq]
  · rw [pI_eq, pI_nq (by omega), pI_nq (by omega)]; exact P.2.2.2.2.1
  · rw [pI_nq (by omega), pI_nq (by omega), pI_nq (by omega)]
/-- once wrong, the reference asks for nothing -/
theorem num_W {a b : Int32} (h : σ2.1 0 8 = 1) : fX12_numbered N a b σ2 = some (a, σ2) := by
  unfold fX12_numbered fX12_numbered_b15 fX12_ends
  rw [h, if_neg (show ¬ (1 : Int32) = 0 by decide), if_neg (show ¬ (1 : Int32) = 0 by decide), ho_bds]
theorem win_W {a b : Int32} (h : σ2.1 0 8 = 1) : fX12_wordIn N a b σ2 = some (0, σ2) := by
  unfold fX12_wordIn fX12_wordIn_b27 fX12_ends
  rw [h, if_neg (show ¬ (1 : Int32) = 0 by decide), if_neg (show ¬ (1 : Int32) = 0 by decide), ho_bds]
theorem line_W (h : σ2.1 0 8 = 1) : fX12_endsLine N σ2 = some ((), σ2) := by
  unfold fX12_endsLine fX12_endsLine_b22 fX12_ends
  rw [h, if_neg (show ¬ (1 : Int32) = 0 by decide), if_neg (show ¬ (1 : Int32) = 0 by decide), ho_bds]
theorem also_W {a b : Int32} (h : σ2.1 0 8 = 1) : fX12_also N a b σ2 = some ((), σ2) := by
  unfold fX12_also
  rw [h, if_neg (show ¬ (1 : Int32) = 0 by decide)]
/-- a number is asked for -/
theorem nb_J {row i lo hi m cnt : Nat} {v1 v2 : Int32} {α β : Type} {K1 : Int32 → Mem → Option (α × Mem)} {K2 : Int32 → Mem → Option (β × Mem)} {Q : α → Mem → β → Mem → Prop} (hN : 10000 ≤ N) (e1 : v1 = Int32.ofNat lo) (e2 : v2 = Int32.ofNat hi)
    (hc : rngT.getD row 0 = Int32.ofNat cnt ∧ rngT.getD (row + 1 + i) 0 = Int32.ofNat lo ∧ rngT.getD (row + 5 + i) 0 = Int32.ofNat hi) (hi4 : i < cnt ∧ cnt ≤ 4 ∧ row + 9 ≤ 153 ∧ lo ≤ hi ∧ hi ≤ 99)
    (P : PS B n s σ1 σ2) (Fj : FJ s σ1 σ2)
    (good : ∀ s' v r t1 t2, s < s' → PS B n s' t1 t2 → FJ s' t1 t2 → FrAc σ1 t1 → FrBm σ2 t2 → t1.1 191 i = Int32.ofNat v → (∀ q, q ≠ i → t1.1 191 q = σ1.1 191 q) → lo ≤ r → r ≤ hi → (t1.1 171 3 = 0 → σ1.1 171 3 = 0 ∧ v = r) → H2 (bd (fX6_readNumbers_l33 N 171 m (Int32.ofNat row) (Int32.ofNat (i + 1)) t1) K1) (K2 (Int32.ofNat r) t2) Q)
    (bad : ∀ t2, WrM s σ2 t2 → H2 (K1 0 σ1) (K2 (Int32.ofNat lo) t2) Q) :
    H2 (bd (fX6_readNumbers_l33 N 171 (m + 1) (Int32.ofNat row) (Int32.ofNat i) σ1) K1) (bd (fX12_numbered N v1 v2 σ2) K2) Q := by
  subst e1 e2
  have TC := P.1
  have LC := P.2.2.2.1
  have LM := P.2.2.2.2
  have hs := P.2.2.1
  have h6 := TC.1
  have te := te_bd (B := B) hs
  simp only [fX6_readNumbers_l33]
  unfold fX6_readNumbers_b33 fX12_numbered
  have pl1 : Int32.ofNat row + 1 + Int32.ofNat i = Int32.ofNat (row + 1 + i) := by rw [nz_succ, nz_add]
  have pl5 : Int32.ofNat row + 5 + Int32.ofNat i = Int32.ofNat (row + 5 + i) := by rw [show (5 : Int32) = Int32.ofNat 5 from rfl, nz_add, nz_add]
  rw [gdT (show inb (Int32.ofNat row) 153 = true by rw [nz_inb (by omega)]; exact decide_eq_true (by omega)), nz_nat (show row < 2147483648 by omega), hc.1, if_neg (show ¬ Int32.ofNat cnt ≤ Int32.ofNat i by rw [nz_le (by omega) (by omega)]; omega), if_neg (show ¬ (4 : Int32) ≤ Int32.ofNat i by rw [z_le (by omega) (by omega)]; omega), if_pos Fj.1]
  by_cases c : (s < n ∧ isD (B s) = true) ∧ teN B n s - s ≤ 2
  · have nl : ¬ isL (B s) = true := by
      have h2 : 48 ≤ B s ∧ B s ≤ 57 := of_decide_eq_true c.1.2
      intro h
      have h1 : 97 ≤ B s ∧ B s ≤ 122 := of_decide_eq_true h
      omega
    have tC : σ1.1 171 7 = 2 := by rw [LC.2.2.1]; unfold tkC; rw [if_pos c.1.1, if_neg nl, if_pos c.1.2, if_pos c.2]
    have tM : σ2.1 0 5 = 1 := by rw [LM.2.2.1]; unfold tkM; rw [if_pos c.1.1, if_neg nl, if_pos c.1.2, if_pos c.2]
    have vC := LC.2.2.2 c.1.1 c.1.2
    have vM := LM.2.2.2.1 c.1.1 c.1.2
    generalize hv : vlN B s (teN B n s) = v at vC vM
    have v99 : v < 1000 := by
      have h2 : 48 ≤ B s ∧ B s ≤ 57 := of_decide_eq_true c.1.2
      rw [← hv]
      unfold vlN
      by_cases z : s + 1 < teN B n s
      · rw [if_pos z]
        have tE : teN B n s = ruN isD B (n - (s + 1)) (s + 1) := by unfold teN; rw [if_pos c.1.1, if_neg nl, if_pos c.1.2]
        have rb := ru_bd (P := isD) (B := B) (n - (s + 1)) (s + 1)
        rw [← tE] at rb
        have h3 : 48 ≤ B (s + 1) ∧ B (s + 1) ≤ 57 := of_decide_eq_true (rb.2.2 (s + 1) (Nat.le_refl _) z)
        omega
      · rw [if_neg z]; omega
    rw [if_pos tC, if_pos tM, ho_lte, pl1, pl5, gdT (show inb (Int32.ofNat (row + 1 + i)) 153 = true by rw [nz_inb (by omega)]; exact decide_eq_true (by omega)), nz_nat (show row + 1 + i < 2147483648 by omega), hc.2.1, gdT (show inb (Int32.ofNat (row + 5 + i)) 153 = true by rw [nz_inb (by omega)]; exact decide_eq_true (by omega)), nz_nat (show row + 5 + i < 2147483648 by omega), hc.2.2, vC, vM, isIn_Z, ho_bds]
    have ei : (Int32.ofNat lo).toInt ≤ (Int32.ofNat v).toInt ∧ (Int32.ofNat v).toInt ≤ (Int32.ofNat hi).toInt ↔ (lo ≤ v ∧ v ≤ hi) := by
      rw [nz_toInt (by omega), nz_toInt (by omega), nz_toInt (by omega)]; omega
    have i4 : inb (Int32.ofNat i) 4 = true := by rw [nz_inb (by omega)]; exact decide_eq_true (by omega)
    have step : ∀ t1 t2 r, (∀ k j, ¬ (k = 171 ∧ (j = 3 ∨ j = 4)) → t1.1 k j = σ1.1 k j) → (∀ k j, ¬ (k = 1 ∧ (j = 5 ∨ j = 6)) → t2.1 k j = σ2.1 k j) → FJ (s + 1) t1 t2 → lo ≤ r → r ≤ hi → (t1.1 171 3 = 0 → σ1.1 171 3 = 0 ∧ v = r) → (r = if lo ≤ v ∧ v ≤ hi then v else lo) → H2 (bd (fX6_readNumbers_b102 N 171 (fX6_readNumbers_l33 N 171 m) (Int32.ofNat row) (Int32.ofNat i) t1) K1) (bd (fX12_numbered_b44 N (Int32.ofNat lo) (Int32.ofNat hi) (Int32.ofNat v) t2) K2) Q := by
      intro t1 t2 r A1 A2 FF r1 r2 r3 r4
      unfold fX6_readNumbers_b102 fX12_numbered_b44
      rw [gdT i4, nz_nat (show i < 2147483648 by omega), ho_lte, A1 171 10 (by omega), vC]
      have P1 : PS B n s (pI t1 (171 + 20) i (Int32.ofNat v)) t2 := by
        refine P.ag (fun j h1 h2 => ?_) (fun j => ?_) (fun j h1 h2 => ?_) (fun j h1 => ?_)
        · rw [pI_nq (by omega), A1 _ _ (by omega)]
        · rw [pI_nq (by omega), A1 _ _ (by omega)]
        · rw [A2 _ _ (by omega)]
        · rw [A2 _ _ (by omega)]
      rw [bd_bd, bd_bd]
      refine adv_J hN P1 (fun s' u1 u2 h1 h2 P2 F1 F2 => ?_)
      have ss := h2 c.1.1
      have sn := P2.2.2.1
      rw [ho_lte, nz_succ, isIn_Z, ho_bds]
      have res : (bd (if (if (Int32.ofNat lo).toInt ≤ (Int32.ofNat v).toInt ∧ (Int32.ofNat v).toInt ≤ (Int32.ofNat hi).toInt then (1 : Int32) else 0) = 0 then some (Int32.ofNat lo, u2) else some (Int32.ofNat v, u2)) K2) = K2 (Int32.ofNat r) u2 := by
        by_cases z : lo ≤ v ∧ v ≤ hi
        · rw [if_pos (ei.mpr z), if_neg (show ¬ (1 : Int32) = 0 by decide), ho_bds, r4, if_pos z]
        · rw [if_neg (fun h => z (ei.mp h)), if_pos rfl, ho_bds, r4, if_neg z]
      rw [res]
      refine good s' v r u1 u2 ss P2 ?_ ?_ ?_ ?_ ?_ r1 r2 ?_
      · have F3 : FJ (s + 1) (pI t1 (171 + 20) i (Int32.ofNat v)) t2 := FF.ag (pI_nq (by omega)) (pI_nq (by omega)) rfl rfl rfl
        exact (F3.fr F1 F2).mono (by omega) (by omega)
      · intro k j h1 h2
        rw [F1 k j (by omega), pI_nq (by omega), A1 k j (by omega)]
      · intro k j h1 h2
        rw [F2 k j (by omega), A2 k j (by omega)]
      · rw [F1 _ _ (by omega), pI_eq]
      · intro q hq
        rw [F1 _ _ (by omega), pI_nq (by omega), A1 _ _ (by omega)]
      · intro h
        rw [F1 _ _ (by omega), pI_nq (by omega)] at h
        exact r3 h
    by_cases z : lo ≤ v ∧ v ≤ hi
    · rw [if_neg (show ¬ Int32.ofNat v < Int32.ofNat lo by rw [nz_lt (by omega) (by omega)]; omega), if_pos (show Int32.ofNat v ≤ Int32.ofNat hi by rw [nz_le (by omega) (by omega)]; omega), if_pos (ei.mpr z), if_neg (show ¬ (1 : Int32) = 0 by decide)]
      exact step σ1 σ2 v (fun _ _ _ => rfl) (fun _ _ _ => rfl) (Fj.mono (by omega) (by omega)) z.1 z.2 (fun h => ⟨h, rfl⟩) (if_pos z).symm
    · rw [if_neg (fun h => z (ei.mp h)), if_pos rfl]
      obtain ⟨t1, t2, n1, n2, n3, n4, n5, n6⟩ := note_J (N := N) (f := 2) Fj (Or.inl rfl) (by omega) (show (2 : Int32) = Int32.ofNat 2 from rfl) rfl
      have st := step t1 t2 lo n5 n6 n3 (Nat.le_refl _) hi4.2.2.2.1 (fun h => absurd h n4) (if_neg z).symm
      have e93 : fX6_readNumbers_b93 N 171 (fX6_readNumbers_l33 N 171 m) (Int32.ofNat row) (Int32.ofNat i) σ1 = fX6_readNumbers_b102 N 171 (fX6_readNumbers_l33 N 171 m) (Int32.ofNat row) (Int32.ofNat i) t1 := by
        unfold fX6_readNumbers_b93
        rw [LC.1, n1, ho_bds]
      rw [LM.1, n2, ho_bds, e93]
      by_cases y : v < lo
      · rw [if_pos (show Int32.ofNat v < Int32.ofNat lo by rw [nz_lt (by omega) (by omega)]; exact y)]
        exact st
      · rw [if_neg (show ¬ Int32.ofNat v < Int32.ofNat lo by rw [nz_lt (by omega) (by omega)]; exact y), if_neg (show ¬ Int32.ofNat v ≤ Int32.ofNat hi by rw [nz_le (by omega) (by omega)]; omega)]
        exact st
  · have tC : ¬ σ1.1 171 7 = 2 := by
      rw [LC.2.2.1]; unfold tkC
      by_cases a : s < n
      · rw [if_pos a]
        by_cases b : isL (B s) = true
        · rw [if_pos b]; decide
        · rw [if_neg b]
          by_cases d : isD (B s) = true
          · rw [if_pos d, if_neg (fun z => c ⟨⟨a, d⟩, z⟩)]; decide
          · rw [if_neg d]; split <;> decide
      · rw [if_neg a]; decide
    have tM : ¬ σ2.1 0 5 = 1 := by
      rw [LM.2.2.1]; unfold tkM
      by_cases a : s < n
      · rw [if_pos a]
        by_cases b : isL (B s) = true
        · rw [if_pos b]; split <;> decide
        · rw [if_neg b]
          by_cases d : isD (B s) = true
          · rw [if_pos d, if_neg (fun z => c ⟨⟨a, d⟩, z⟩)]; decide
          · rw [if_neg d]; split <;> decide
      · rw [if_neg a]; decide
    obtain ⟨t2, w1, w2⟩ := ends_M (N := N) P Fj.1
    unfold fX12_numbered_b15
    rw [if_neg tC, if_neg tM, ho_bds, w1, ho_bds, ho_bds]
    exact bad t2 w2
end PARSE
