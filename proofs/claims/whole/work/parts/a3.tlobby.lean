def evB (i : Nat) : Bool := decide (i % 2 = 0)
theorem ev_s (i : Nat) : evB (i + 1) = !evB i := by
  unfold evB
  by_cases h : i % 2 = 0
  · rw [decide_eq_true h, decide_eq_false (by omega)]; rfl
  · rw [decide_eq_false h, decide_eq_true (by omega)]; rfl
/-- an entry of the table, i moves made -/
def EnP (np nw : Nat) (m : Int32) (l : Nat) (S : Vw) (i : Nat) (σ : Mem) (x : Nat) : Prop :=
  (σ.1 11 x = 1 ∧ ocP np nw m (l - i) (evB i) (hgV np S i x)) ∨ (σ.1 11 x = 0 ∧ ¬ ocP np nw m (l - i) (evB i) (hgV np S i x))
theorem dg8 {np d : Nat} {S : Vw} (h : ¬ d < np) : dgV np S d = S := if_neg h
theorem dgl {np d : Nat} {S : Vw} (h : d < np) : dgV np S d = wxV S d := if_pos h
theorem hg9 {np i x d : Nat} {S : Vw} (hd : d < 9) : hgV np S (i + 1) (9 * x + d) = dgV np (hgV np S i x) d := by
  simp only [hgV]
  rw [show (9 * x + d) / 9 = x by omega, show (9 * x + d) % 9 = d by omega]
theorem oc_any {np nw r : Nat} {m : Int32} {S : Vw} (hn : np ≤ 8) : ocP np nw m (r + 1) true S ↔ ∃ d, d < 9 ∧ okD np d ∧ ocP np nw m r false (dgV np S d) := by
  rw [ocP_t]
  constructor
  · rintro (h | ⟨p, h1, h2⟩)
    · exact ⟨8, by omega, Or.inr rfl, by rw [dg8 (by omega)]; exact h⟩
    · exact ⟨p, by omega, Or.inl h1, by rw [dgl h1]; exact h2⟩
  · rintro ⟨d, h1, h2, h3⟩
    by_cases c : d < np
    · rw [dgl c] at h3; exact Or.inr ⟨d, c, h3⟩
    · rw [dg8 c] at h3; exact Or.inl h3
theorem oc_all {np nw r : Nat} {m : Int32} {S : Vw} (hn : np ≤ 8) : ocP np nw m (r + 1) false S ↔ ∀ d, d < 9 → okD np d → ocP np nw m r true (dgV np S d) := by
  rw [ocP_f]
  constructor
  · rintro ⟨h1, h2⟩ d d1 d2
    by_cases c : d < np
    · rw [dgl c]; exact h2 d c
    · rw [dg8 c]; exact h1
  · intro h
    refine ⟨?_, fun p hp => ?_⟩
    · have := h 8 (by omega) (Or.inr rfl)
      rw [dg8 (by omega)] at this; exact this
    · have := h p (by omega) (Or.inl hp)
      rw [dgl hp] at this; exact this
theorem p9 : ∀ i, i ≤ 4 → 9 ^ i ≤ 6561 ∧ 1 ≤ 9 ^ i := by decide
/-- what lobby answers -/
def LbP (np nw : Nat) (m : Int32) (l : Nat) (S : Vw) (v4 v : Int32) : Prop :=
  (v4 = 0 ∧ ((ocP np nw m l true S ∧ v = 1) ∨ (¬ ocP np nw m l true S ∧ v = 0))) ∨ (¬ v4 = 0 ∧ ((l = 0 ∧ v = -1) ∨ ∃ r, l = r + 1 ∧ FcP np nw m r S v))
theorem FcP_u {np nw r : Nat} {m : Int32} {S : Vw} {v u : Int32} (a : FcP np nw m r S v) (b : FcP np nw m r S u) : v = u := by
  rcases a with ⟨p, p1, p2, p3, p4⟩ | ⟨a1, a2⟩
  · rcases b with ⟨q, q1, q2, q3, q4⟩ | ⟨b1, b2⟩
    · have h1 : ¬ p < q := fun h => q3 p h p2
      have h2 : ¬ q < p := fun h => p3 q h q2
      rw [p4, q4, show p = q by omega]
    · exact absurd p2 (b1 p p1)
  · rcases b with ⟨q, q1, q2, q3, q4⟩ | ⟨b1, b2⟩
    · exact absurd q2 (a1 q q1)
    · rcases a2 with ⟨x1, x2⟩ | ⟨x1, x2⟩ <;> rcases b2 with ⟨y1, y2⟩ | ⟨y1, y2⟩
      · rw [x2, y2]
      · exact absurd x1 y1
      · exact absurd y1 x1
      · rw [x2, y2]
theorem LbP_u {np nw l : Nat} {m : Int32} {S : Vw} {v4 v u : Int32} (a : LbP np nw m l S v4 v) (b : LbP np nw m l S v4 u) : v = u := by
  rcases a with ⟨a0, a1⟩ | ⟨a0, a1⟩
  · rcases b with ⟨b0, b1⟩ | ⟨b0, b1⟩
    · rcases a1 with ⟨x1, x2⟩ | ⟨x1, x2⟩ <;> rcases b1 with ⟨y1, y2⟩ | ⟨y1, y2⟩
      · rw [x2, y2]
      · exact absurd x1 y1
      · exact absurd y1 x1
      · rw [x2, y2]
    · exact absurd a0 b0
  · rcases b with ⟨b0, b1⟩ | ⟨b0, b1⟩
    · exact absurd b0 a0
    · rcases a1 with ⟨x1, x2⟩ | ⟨r, x1, x2⟩ <;> rcases b1 with ⟨y1, y2⟩ | ⟨r', y1, y2⟩
      · rw [x2, y2]
      · omega
      · omega
      · have : r = r' := by omega
        subst this
        exact FcP_u x2 y2
theorem lob178_M {N c np nw r : Nat} {m v4 : Int32} {C S : Vw} {σ s : Mem} (hN : 10000 ≤ N) (H : HcM s c C np nw) (K : KM σ s) (hT : ∀ x, x < 9 → EnP np nw m (r + 1) S 1 s x) : Ho (fX12_lobby_l178 N N v4 0 s) (fun v t => KM σ t ∧ LbP np nw m (r + 1) S v4 v) := by
  have hn := H.1.2.1
  have hE : ∀ x, x < 9 → (s.1 11 x = 1 ∧ ocP np nw m r false (dgV np S x)) ∨ (s.1 11 x = 0 ∧ ¬ ocP np nw m r false (dgV np S x)) := fun x hx => by
    have := hT x hx
    unfold EnP at this
    rw [show r + 1 - 1 = r by omega, show hgV np S 1 x = dgV np S (x % 9) from rfl, Nat.mod_eq_of_lt hx] at this
    exact this
  refine ho_loop (F := fun n (b : Int32) t => fX12_lobby_l178 N n v4 b t) (fun i b t => b = Int32.ofNat i ∧ t = s ∧ ∀ d, d < i → okD np d → ¬ ocP np nw m r false (dgV np S d)) 9 ?_ ?_ 9 N 0 0 s (by omega) (by omega) ⟨rfl, rfl, fun d hd => absurd hd (Nat.not_lt_zero d)⟩
  · rintro n i b t hi ⟨e1, e2, Z⟩ rec
    subst e1 e2
    have nxt : (okD np i → ¬ ocP np nw m r false (dgV np S i)) → Ho (fX12_lobby_b223 N (fX12_lobby_l178 N n) v4 (Int32.ofNat i) t) (fun v t => KM σ t ∧ LbP np nw m (r + 1) S v4 v) := by
      intro no
      unfold fX12_lobby_b223
      rw [ho_lte, nz_succ]
      refine rec _ _ ⟨rfl, rfl, fun d hd ok => ?_⟩
      by_cases q : d = i
      · subst q; exact no ok
      · exact Z d (by omega) ok
    have ins : okD np i → Ho (fX12_lobby_b201 N (fX12_lobby_l178 N n) v4 (Int32.ofNat i) t) (fun v t => KM σ t ∧ LbP np nw m (r + 1) S v4 v) := by
      intro ok
      unfold fX12_lobby_b201
      rw [gdT (show inb (Int32.ofNat i) 6561 = true by rw [nz_inb (by omega)]; exact decide_eq_true (by omega)), nz_nat (by omega)]
      rcases hE i hi with ⟨g1, g2⟩ | ⟨g1, g2⟩
      · rw [g1, if_neg (by decide)]
        by_cases q : v4 = 0
        · rw [if_pos q]
          exact ⟨K, Or.inl ⟨q, Or.inl ⟨(oc_any hn).mpr ⟨i, hi, ok, g2⟩, rfl⟩⟩⟩
        · rw [if_neg q]
          refine ⟨K, Or.inr ⟨q, Or.inr ⟨r, rfl, ?_⟩⟩⟩
          by_cases d : i < np
          · rw [dgl d] at g2
            exact Or.inl ⟨i, d, g2, fun q hq => by have := Z q hq (Or.inl (by omega)); rw [dgl (by omega)] at this; exact this, rfl⟩
          · have e8 : i = 8 := by rcases ok with ok | ok; exact absurd ok d; exact ok
            rw [dg8 d] at g2
            exact Or.inr ⟨fun q hq => by have := Z q (by omega) (Or.inl hq); rw [dgl hq] at this; exact this, Or.inl ⟨g2, by rw [e8]; rfl⟩⟩
      · rw [g1, if_pos rfl]
        exact nxt (fun _ => g2)
    simp only [fX12_lobby_l178]
    unfold fX12_lobby_b178
    rw [if_neg (show ¬ (9 : Int32) ≤ Int32.ofNat i by rw [z_le (by omega) (by omega)]; omega), isPiece_M (np := np) _ H.2.1.2.1 hn, ho_bds, nz_inb (by omega)]
    by_cases d : i < np
    · rw [decide_eq_true d, if_pos rfl, if_neg (by decide)]
      exact ins (Or.inl d)
    · rw [decide_eq_false d, if_neg (show ¬ (false = true) by decide), if_pos rfl]
      by_cases e8 : i = 8
      · rw [if_pos (show Int32.ofNat i = 8 by rw [e8]; rfl)]
        exact ins (Or.inr e8)
      · rw [if_neg (show ¬ Int32.ofNat i = 8 by rw [z_eq (by omega) (by omega)]; exact e8)]
        exact nxt (fun ok => by rcases ok with ok | ok; exact absurd ok d; exact absurd ok e8)
  · rintro n b t ⟨e1, e2, Z⟩
    subst e1 e2
    simp only [fX12_lobby_l178]
    unfold fX12_lobby_b178
    rw [if_pos (by decide)]
    by_cases q : v4 = 0
    · rw [if_pos q]
      exact ⟨K, Or.inl ⟨q, Or.inr ⟨fun h => by
        obtain ⟨d, d1, d2, d3⟩ := (oc_any hn).mp h
        exact Z d d1 d2 d3, rfl⟩⟩⟩
    · rw [if_neg q]
      refine ⟨K, Or.inr ⟨q, Or.inr ⟨r, rfl, Or.inr ⟨fun p hp => by have := Z p (by omega) (Or.inl hp); rw [dgl hp] at this; exact this, Or.inr ⟨?_, rfl⟩⟩⟩⟩⟩
      have := Z 8 (by omega) (Or.inr rfl)
      rw [dg8 (by omega)] at this; exact this
/-- one level of the table folded -/
theorem lob103_M {N c np nw l i : Nat} {m v3 v4 : Int32} {C S : Vw} {σ s : Mem} {rc88 : Int32 → Int32 → Int32 → Int32 → Mem → Option (Int32 × Mem)} {Q : Int32 → Mem → Prop} (hN : 10000 ≤ N) (H : HcM s c C np nw) (K : KM σ s) (hi : i + 1 ≤ l) (hl : l ≤ 4) (hT : ∀ x, x < 9 ^ (i + 1) → EnP np nw m l S (i + 1) s x)
    (go : ∀ t, HcM t c C np nw → KM σ t → (∀ x, x < 9 ^ i → EnP np nw m l S i t x) → Ho (rc88 v3 v4 (Int32.ofNat (9 ^ i)) (Int32.ofNat i + -1) t) Q) :
    Ho (fX12_lobby_l103 N rc88 N v3 v4 (Int32.ofNat (9 ^ i)) (Int32.ofNat i) 0 s) Q := by
  have hn := H.1.2.1
  have p1 := p9 i (by omega)
  have p2 := p9 (i + 1) (by omega)
  have ps : 9 ^ (i + 1) = 9 * 9 ^ i := by rw [Nat.pow_succ, Nat.mul_comm]
  generalize hM : 9 ^ i = M at *
  rw [ps] at hT p2
  refine ho_loop (F := fun n (b : Int32) t => fX12_lobby_l103 N rc88 n v3 v4 (Int32.ofNat M) (Int32.ofNat i) b t) (fun x b t => b = Int32.ofNat x ∧ HcM t c C np nw ∧ KM σ t ∧ (∀ y, y < x → EnP np nw m l S i t y) ∧ (∀ y, x ≤ y → y < 9 * M → EnP np nw m l S (i + 1) t y)) M ?_ ?_ M N 0 0 s (by omega) (by omega) ⟨rfl, H, K, fun y hy => absurd hy (Nat.not_lt_zero y), fun y _ hy => hT y hy⟩
  · rintro n x b t hx ⟨e1, H1, K1, Z1, Z2⟩ rec
    subst e1
    have main : ∀ v2 : Int32, (v2 = 0 ↔ evB i = false) → Ho (fX12_lobby_b131 N rc88 (fX12_lobby_l103 N rc88 n) v3 v4 (Int32.ofNat M) (Int32.ofNat i) (Int32.ofNat x) v2 (Int32.ofNat x) (Int32.ofNat x) t) Q := by
      intro v2 hv
      unfold fX12_lobby_b131
      rw [ho_bd]
      have hG : ∀ d, d < 9 → (t.1 11 (9 * x + d) = 1 ∧ ocP np nw m (l - (i + 1)) (evB (i + 1)) (dgV np (hgV np S i x) d)) ∨ (t.1 11 (9 * x + d) = 0 ∧ ¬ ocP np nw m (l - (i + 1)) (evB (i + 1)) (dgV np (hgV np S i x) d)) := fun d hd => by
        have := Z2 (9 * x + d) (by omega) (by omega)
        unfold EnP at this
        rw [hg9 hd] at this; exact this
      refine ho_mono (got_M hN H1 (by omega) hG) (fun v u ⟨e, v01, a1, a2⟩ => ?_)
      subst e
      have lk : l - i = (l - (i + 1)) + 1 := by omega
      have key : v = 1 ↔ ocP np nw m (l - i) (evB i) (hgV np S i x) := by
        rw [lk]
        cases he : evB i with
        | false =>
          rw [ev_s, he] at a1
          rw [a1 (hv.mpr he), oc_all hn]; rfl
        | true =>
          rw [ev_s, he] at a2
          rw [a2 (fun z => by rw [hv.mp z] at he; cases he), oc_any hn]; rfl
      have vn : vp_nar .boolean v = v := by rcases v01 with h | h <;> rw [h] <;> rfl
      rw [gdT (show inb (Int32.ofNat x) 6561 = true by rw [nz_inb (by omega)]; exact decide_eq_true (by omega)), nz_nat (by omega), vn, ho_lte, ho_lte, nz_succ]
      refine rec _ _ ⟨rfl, H1.ag (pI_ne (by omega)) (fun j _ _ => pI_nq (by omega)), K1.c12 (by omega), fun y hy => ?_, fun y h1 h2 => ?_⟩
      · by_cases q : y = x
        · subst q
          unfold EnP
          rw [pI_eq]
          rcases v01 with h | h
          · exact Or.inr ⟨h, fun z => by rw [key.mpr z] at h; exact absurd h (by decide)⟩
          · exact Or.inl ⟨h, key.mp h⟩
        · have := Z1 y (by omega)
          unfold EnP at this ⊢
          rw [pI_nq (by omega)]; exact this
      · have := Z2 y (by omega) h2
        unfold EnP at this ⊢
        rw [pI_nq (by omega)]; exact this
    simp only [fX12_lobby_l103]
    unfold fX12_lobby_b103
    rw [if_neg (show ¬ Int32.ofNat M ≤ Int32.ofNat x by rw [nz_le (by omega) (by omega)]; omega), show (2 : Int32) = Int32.ofNat 2 from rfl, nz_rem (by omega) (by omega)]
    by_cases q : i % 2 = 0
    · rw [if_pos (show Int32.ofNat (i % 2) = 0 by rw [q]; rfl)]
      exact main 1 ⟨fun h => absurd h (by decide), fun h => by unfold evB at h; rw [decide_eq_true q] at h; cases h⟩
    · rw [if_neg (show ¬ Int32.ofNat (i % 2) = 0 by rw [z_eq (by omega) (by omega)]; exact q)]
      exact main 0 ⟨fun _ => decide_eq_false q, fun _ => rfl⟩
  · rintro n b t ⟨e1, H1, K1, Z1, Z2⟩
    subst e1
    simp only [fX12_lobby_l103]
    unfold fX12_lobby_b103
    rw [if_pos (show Int32.ofNat M ≤ Int32.ofNat M from Int32.le_refl _), ho_lte]
    exact go t H1 K1 Z1
theorem lob88_M {N c np nw r : Nat} {m v4 : Int32} {C S : Vw} {σ s : Mem} (hN : 10000 ≤ N) (H : HcM s c C np nw) (K : KM σ s) (hr : r + 1 ≤ 4) (hT : ∀ x, x < 9 ^ (r + 1) → EnP np nw m (r + 1) S (r + 1) s x) : Ho (fX12_lobby_l88 N N (Int32.ofNat (r + 1)) v4 (Int32.ofNat (9 ^ (r + 1))) (Int32.ofNat r) s) (fun v t => KM σ t ∧ LbP np nw m (r + 1) S v4 v) := by
  have hn := H.1.2.1
  refine ho_loop (F := fun n (b : Int32 × Int32) t => fX12_lobby_l88 N n (Int32.ofNat (r + 1)) v4 b.1 b.2 t) (fun j b t => j ≤ r ∧ b.1 = Int32.ofNat (9 ^ (r - j + 1)) ∧ b.2 = Int32.ofNat (r - j) ∧ HcM t c C np nw ∧ KM σ t ∧ ∀ x, x < 9 ^ (r - j + 1) → EnP np nw m (r + 1) S (r - j + 1) t x) r ?_ ?_ r N 0 (_, _) s (by omega) (by omega) ⟨by omega, rfl, rfl, H, K, hT⟩
  · rintro n j ⟨v5, v6⟩ t hj ⟨_, e1, e2, H1, K1, T1⟩ rec
    dsimp only at e1 e2
    subst e1 e2
    obtain ⟨i, hi⟩ : ∃ i, r - j = i + 1 := ⟨r - j - 1, by omega⟩
    have hi2 : r - (j + 1) = i := by omega
    rw [hi] at T1 ⊢
    have p1 := p9 (i + 1) (by omega)
    have p2 := p9 (i + 1 + 1) (by omega)
    have ps : 9 ^ (i + 1 + 1) / 9 = 9 ^ (i + 1) := by rw [Nat.pow_succ, Nat.mul_div_cancel _ (by omega)]
    simp only [fX12_lobby_l88]
    unfold fX12_lobby_b88
    rw [if_neg (show ¬ Int32.ofNat (i + 1) ≤ 0 by rw [z_ge (by omega) (by omega)]; omega), ho_lte, ho_lte, show (9 : Int32) = Int32.ofNat 9 from rfl, nz_div (by omega) (by omega), ps]
    refine lob103_M hN H1 K1 (show i + 1 + 1 ≤ r + 1 by omega) hr T1 (fun u HU KU TU => ?_)
    refine rec (_, _) u ⟨by omega, by rw [hi2]; rfl, ?_, HU, KU, by rw [hi2]; exact TU⟩
    dsimp only
    rw [hi2, ← Int32.sub_eq_add_neg, z_sub1]
  · rintro n ⟨v5, v6⟩ t ⟨_, e1, e2, H1, K1, T1⟩
    dsimp only at e1 e2
    subst e1 e2
    rw [Nat.sub_self] at T1 ⊢
    simp only [fX12_lobby_l88]
    unfold fX12_lobby_b88
    rw [if_pos (by decide), if_neg (show ¬ Int32.ofNat (r + 1) = 0 by rw [z_eq (by omega) (by omega)]; omega), ho_lte]
    exact lob178_M hN H1 K1 (fun x hx => T1 x (by omega))
theorem lob_M {N c np nw mm l : Nat} {v4 : Int32} {C : Vw} {σ s : Mem} (hN : 10000 ≤ N) (W : WfV C np nw) (H : HcM s c C np nw) (K : KM σ s) (hl : l ≤ 4) : Ho (fX12_lobby_l33 N N (Int32.ofNat mm) (Int32.ofNat l) v4 1 0 s) (fun v t => KM σ t ∧ LbP np nw (Int32.ofNat mm) l (asT C) v4 v) := by
  have pl := p9 l hl
  refine ho_loop (F := fun n (b : Int32 × Int32) t => fX12_lobby_l33 N n (Int32.ofNat mm) (Int32.ofNat l) v4 b.1 b.2 t) (fun i b t => i ≤ l ∧ b.1 = Int32.ofNat (9 ^ i) ∧ b.2 = Int32.ofNat i ∧ t = s) l ?_ ?_ l N 0 (_, _) s (by omega) (by omega) ⟨by omega, rfl, rfl, rfl⟩
  · rintro n i ⟨v5, v6⟩ t hi ⟨_, e1, e2, e3⟩ rec
    dsimp only at e1 e2 e3
    subst e1 e2 e3
    simp only [fX12_lobby_l33]
    unfold fX12_lobby_b33
    rw [if_neg (show ¬ Int32.ofNat l ≤ Int32.ofNat i by rw [nz_le (by omega) (by omega)]; omega), ho_lte, ho_lte, nz_succ, show (9 : Int32) = Int32.ofNat 9 from rfl, nz_mul, ← Nat.pow_succ]
    exact rec (_, _) t ⟨by omega, rfl, rfl, rfl⟩
  · rintro n ⟨v5, v6⟩ t ⟨_, e1, e2, e3⟩
    dsimp only at e1 e2 e3
    subst e1 e2 e3
    simp only [fX12_lobby_l33]
    unfold fX12_lobby_b33
    rw [if_pos (show Int32.ofNat l ≤ Int32.ofNat l from Int32.le_refl _), ho_lte]
    have lv : ∀ (t : Mem) x, t.1 11 x = biI (carV (hgV np (asT C) l x) np nw (Int32.ofNat mm)) → EnP np nw (Int32.ofNat mm) l (asT C) l t x := by
      intro t x h
      unfold EnP
      rw [Nat.sub_self, ocP_0, h]
      cases carV (hgV np (asT C) l x) np nw (Int32.ofNat mm) with
      | false => exact Or.inr ⟨rfl, by decide⟩
      | true => exact Or.inl ⟨rfl, rfl⟩
    refine ho_loop (F := fun n (b : Int32) t => fX12_lobby_l55 N n (Int32.ofNat mm) (Int32.ofNat l) v4 (Int32.ofNat (9 ^ l)) b t) (fun x b t => b = Int32.ofNat x ∧ HcM t c C np nw ∧ KM σ t ∧ ∀ y, y < x → EnP np nw (Int32.ofNat mm) l (asT C) l t y) (9 ^ l) ?_ ?_ (9 ^ l) N 0 0 t (by omega) (by omega) ⟨rfl, H, K, fun y hy => absurd hy (Nat.not_lt_zero y)⟩
    · rintro n x b t hx ⟨e1, H1, K1, Z⟩ rec
      subst e1
      simp only [fX12_lobby_l55]
      unfold fX12_lobby_b55
      rw [if_neg (show ¬ Int32.ofNat (9 ^ l) ≤ Int32.ofNat x by rw [nz_le (by omega) (by omega)]; omega), ho_bd]
      refine ho_mono (won_M hN W H1 (show x < 6561 by omega) hl) (fun v u ⟨HU, KU, TU, ev⟩ => ?_)
      have vn : vp_nar .boolean v = v := by rcases bi01 (carV (hgV np (asT C) l x) np nw (Int32.ofNat mm)) with h | h <;> rw [ev, h] <;> rfl
      rw [gdT (show inb (Int32.ofNat x) 6561 = true by rw [nz_inb (by omega)]; exact decide_eq_true (by omega)), nz_nat (by omega), vn, ho_lte, ho_lte, nz_succ]
      refine rec _ _ ⟨rfl, HU.ag (pI_ne (by omega)) (fun j _ _ => pI_nq (by omega)), (K1.trans KU).c12 (by omega), fun y hy => ?_⟩
      by_cases q : y = x
      · subst q
        apply lv
        rw [pI_eq]; exact ev
      · have := Z y (by omega)
        unfold EnP at this ⊢
        rw [pI_nq (by omega), TU]; exact this
    · rintro n b t ⟨e1, H1, K1, Z⟩
      subst e1
      simp only [fX12_lobby_l55]
      unfold fX12_lobby_b55
      rw [if_pos (show Int32.ofNat (9 ^ l) ≤ Int32.ofNat (9 ^ l) from Int32.le_refl _), ho_lte]
      cases l with
      | zero =>
        have e := Z 0 (by decide)
        have hz : ∀ n, 1 ≤ n → Ho (fX12_lobby_l88 N n (Int32.ofNat 0) v4 (Int32.ofNat (9 ^ 0)) (Int32.ofNat 0 - 1) t) (fun v t => KM σ t ∧ LbP np nw (Int32.ofNat mm) 0 (asT C) v4 v) := by
          intro n hn
          obtain ⟨n', rfl⟩ : ∃ n', n = n' + 1 := ⟨n - 1, by omega⟩
          simp only [fX12_lobby_l88]
          unfold fX12_lobby_b88
          rw [if_pos (by decide), if_pos (show Int32.ofNat 0 = 0 from rfl)]
          by_cases q : v4 = 0
          · rw [if_pos q, gdT (show inb 0 6561 = true by decide), show (0 : Int32).toNatClampNeg = 0 from rfl]
            unfold EnP at e
            have eo : ocP np nw (Int32.ofNat mm) 0 true (asT C) ↔ ocP np nw (Int32.ofNat mm) (0 - 0) (evB 0) (hgV np (asT C) 0 0) := by rw [ocP_0]; exact ocP_0.symm
            rcases e with ⟨e1, e2⟩ | ⟨e1, e2⟩
            · rw [if_neg (show ¬ t.1 11 0 = 0 by rw [e1]; decide)]
              exact ⟨K1, Or.inl ⟨q, Or.inl ⟨eo.mpr e2, rfl⟩⟩⟩
            · rw [if_pos e1]
              exact ⟨K1, Or.inl ⟨q, Or.inr ⟨fun z => e2 (eo.mp z), rfl⟩⟩⟩
          · rw [if_neg q]
            exact ⟨K1, Or.inr ⟨q, Or.inl ⟨rfl, rfl⟩⟩⟩
        exact hz N (by omega)
      | succ r =>
        rw [z_sub1]
        exact lob88_M hN H1 K1 hl Z
theorem t_lobby {σ1 σ2 : Mem} {N : Nat} (hN : 10000 ≤ N) (R : RR σ1 σ2) (v1 v2 v3 v4 : Int32) : H2 (fX11_lobby N 0 v1 v2 v3 v4 σ1) (fX12_lobby N v1 v2 v3 v4 σ2) (QU σ1 σ2) := by
  unfold fX11_lobby fX12_lobby
  refine q_as R v1 v2 (fun j C np nw s2 mm hj hm em W HC HM K => ?_)
  subst em
  have i0 : (0 : Int32).toInt = 0 := rfl
  have i4 : (4 : Int32).toInt = 4 := rfl
  rw [isIn_Z, ho_bds]
  by_cases c0 : 0 ≤ v3.toInt ∧ v3.toInt ≤ 4
  · rw [if_pos (show (0 : Int32).toInt ≤ v3.toInt ∧ v3.toInt ≤ (4 : Int32).toInt from c0), if_neg (show ¬ (1 : Int32) = 0 by decide), if_neg (show ¬ v3 < 0 by rw [i32_lt, i0]; omega), if_pos (show v3 ≤ 4 by rw [i32_le, i4]; exact c0.2)]
    obtain ⟨l, l1, l2, l3⟩ := inb_nat (inb_iff.mpr ⟨c0.1, by omega⟩ : inb v3 5 = true)
    subst l2
    rw [ho_lte, ho_lte]
    have M := lob_M (v4 := v4) (mm := mm) hN W.1 HM K (show l ≤ 4 by omega)
    by_cases q : v4 = 0
    · rw [if_pos q]
      apply h2_l
      refine ho_mono (lob_C hN W HC (by omega) hm (by omega)) (fun v t ⟨F, Y⟩ => ?_)
      have E1 : KC σ1 t := R.kc.fr F (by omega)
      rcases Y with ⟨y1, y2⟩ | ⟨y1, y2⟩
      · rw [if_neg (show ¬ v = 0 by rw [y2]; decide)]
        apply h2_sl
        exact ho_mono M (fun u s ⟨k1, k2⟩ => ⟨LbP_u (Or.inl ⟨q, Or.inl ⟨y1, rfl⟩⟩) k2, E1, k1⟩)
      · rw [if_pos y2]
        apply h2_sl
        exact ho_mono M (fun u s ⟨k1, k2⟩ => ⟨LbP_u (Or.inl ⟨q, Or.inr ⟨y1, rfl⟩⟩) k2, E1, k1⟩)
    · rw [if_neg q]
      cases l with
      | zero =>
        rw [if_pos (show Int32.ofNat 0 = 0 from rfl)]
        apply h2_sl
        exact ho_mono M (fun u s ⟨k1, k2⟩ => ⟨LbP_u (Or.inr ⟨q, Or.inl ⟨rfl, rfl⟩⟩) k2, R.kc, k1⟩)
      | succ r =>
        rw [if_neg (show ¬ Int32.ofNat (r + 1) = 0 by rw [z_eq (by omega) (by omega)]; omega)]
        apply h2_l
        refine ho_mono (fst_C hN W HC (by omega) hm (by omega)) (fun v t ⟨F, Y⟩ => ?_)
        have E1 : KC σ1 t := R.kc.fr F (by omega)
        apply h2_sl
        exact ho_mono M (fun u s ⟨k1, k2⟩ => ⟨LbP_u (Or.inr ⟨q, Or.inr ⟨r, rfl, Y⟩⟩) k2, E1, k1⟩)
  · rw [if_neg (show ¬ ((0 : Int32).toInt ≤ v3.toInt ∧ v3.toInt ≤ (4 : Int32).toInt) from c0), if_pos rfl]
    by_cases z : v3 < 0
    · rw [if_pos z]; exact ⟨rfl, R.kc, K⟩
    · rw [i32_lt, i0] at z
      rw [if_neg (show ¬ v3 < 0 by rw [i32_lt, i0]; exact z), if_neg (show ¬ v3 ≤ 4 by rw [i32_le, i4]; omega)]
      exact ⟨rfl, R.kc, K⟩
