/-! Words: a row of letters as a number; the class's texts of words, the reference's. -/
def cdG (g : Nat → Nat) : Nat → Nat
  | 0 => 0
  | k + 1 => 32 * cdG g k + g k
theorem cd_inj {g g' : Nat → Nat} : ∀ k k', (∀ j, j < k → 1 ≤ g j ∧ g j ≤ 31) → (∀ j, j < k' → 1 ≤ g' j ∧ g' j ≤ 31) → cdG g k = cdG g' k' → k = k' ∧ ∀ j, j < k → g j = g' j
  | 0, 0, _, _, _ => ⟨rfl, fun j hj => absurd hj (Nat.not_lt_zero j)⟩
  | 0, k' + 1, _, h2, e => by
    have := h2 k' (by omega)
    simp only [cdG] at e
    omega
  | k + 1, 0, h1, _, e => by
    have := h1 k (by omega)
    simp only [cdG] at e
    omega
  | k + 1, k' + 1, h1, h2, e => by
    have a := h1 k (by omega)
    have b := h2 k' (by omega)
    simp only [cdG] at e
    obtain ⟨i1, i2⟩ := cd_inj (g := g) (g' := g') k k' (fun j hj => h1 j (by omega)) (fun j hj => h2 j (by omega)) (by omega)
    subst i1
    refine ⟨rfl, fun j hj => ?_⟩
    by_cases q : j = k
    · subst q; omega
    · exact i2 j (by omega)
theorem cd_congr {g g' : Nat → Nat} : ∀ k, (∀ j, j < k → g j = g' j) → cdG g k = cdG g' k
  | 0, _ => rfl
  | k + 1, h => by
    simp only [cdG]
    rw [cd_congr k (fun j hj => h j (by omega)), h k (by omega)]
theorem cd_bd {g : Nat → Nat} : ∀ k, (∀ j, j < k → g j ≤ 31) → cdG g k < 32 ^ k
  | 0, _ => by simp only [cdG]; decide
  | k + 1, h => by
    have ih := cd_bd (g := g) k (fun j hj => h j (by omega))
    have := h k (by omega)
    simp only [cdG]
    rw [Nat.pow_succ]
    omega
def cdW (B : Nat → Nat) (s k : Nat) : Nat := cdG (fun j => B (s + j) - 96) k
def cdL (l : List Nat) : Nat := l.foldl (fun a d => 32 * a + d) 0
def ixF (v : Nat) : List (List Nat) → Nat → Nat
  | [], _ => 99
  | w :: t, k => if v = cdL w then k else ixF v t (k + 1)
def wdT : List (List Nat) := [[2, 5, 14, 3, 8], [19, 20, 15, 15, 12], [3, 8, 1, 9, 18], [20, 1, 2, 12, 5], [19, 9, 20, 19], [19, 20, 1, 14, 4, 19], [4, 1, 13, 16], [15, 1, 11], [23, 1, 12, 14, 21, 20], [16, 9, 14, 5], [13, 15, 20, 9, 15, 14], [19, 20, 1, 14, 4], [23, 1, 24], [19, 5, 20], [19, 9, 20], [23, 5, 20], [4, 18, 25], [14, 9, 7, 8, 20], [19, 20, 9, 12, 12], [19, 15, 21, 14, 4, 19]]
def wdF (v : Nat) : Nat := ixF v wdT 1
theorem wo_s {v k : Nat} {r : Int64} {w : List Nat} {t : List (List Nat)} {σ : Mem} {P : Option (Int32 × Mem)} (hv : v < 1099511627776) (hr : r = Int64.ofNat (cdL w)) (hw : cdL w < 1099511627776) (hP : P = some (Int32.ofNat (ixF v t (k + 1)), σ)) : (if lg_cmp (Int64.ofNat v) r = 0 then some (Int32.ofNat k, σ) else P) = some (Int32.ofNat (ixF v (w :: t) k), σ) := by
  have e : lg_cmp (Int64.ofNat v) r = 0 ↔ v = cdL w := by rw [hr, lg_cmp_eq, l_inj (by omega) (by omega)]
  simp only [ixF]
  by_cases c : v = cdL w
  · rw [if_pos (e.mpr c), if_pos c]
  · rw [if_neg (fun h => c (e.mp h)), if_neg c, hP]
def fo64 (a b c d : Int32) : Int64 := ((((((a * 32) + b) * 32) + c) * 32) + d).toInt64
theorem four_M {N : Nat} {a b c d : Int32} {σ : Mem} : fX12_four N a b c d σ = some (fo64 a b c d, σ) := rfl
theorem eight_M {N : Nat} {a b c d e f g h : Int32} {σ : Mem} : fX12_eight N a b c d e f g h σ = some (fo64 a b c d * 1048576 + fo64 e f g h, σ) := rfl
theorem wo_M {N v : Nat} {σ : Mem} (hv : v < 1099511627776) : fX12_wordOf N (Int64.ofNat v) σ = some (Int32.ofNat (wdF v), σ) := by
  unfold fX12_wordOf wdF wdT
  rw [eight_M, ho_bds]
  refine wo_s (k := 1) hv (by decide +kernel) (by decide +kernel) ?_
  rw [eight_M, ho_bds]
  refine wo_s (k := 2) hv (by decide +kernel) (by decide +kernel) ?_
  rw [eight_M, ho_bds]
  refine wo_s (k := 3) hv (by decide +kernel) (by decide +kernel) ?_
  rw [eight_M, ho_bds]
  refine wo_s (k := 4) hv (by decide +kernel) (by decide +kernel) ?_
  rw [four_M, ho_bds]
  refine wo_s (k := 5) hv (by decide +kernel) (by decide +kernel) ?_
  rw [eight_M, ho_bds]
  refine wo_s (k := 6) hv (by decide +kernel) (by decide +kernel) ?_
  rw [four_M, ho_bds]
  refine wo_s (k := 7) hv (by decide +kernel) (by decide +kernel) ?_
  rw [four_M, ho_bds]
  refine wo_s (k := 8) hv (by decide +kernel) (by decide +kernel) ?_
  rw [eight_M, ho_bds]
  refine wo_s (k := 9) hv (by decide +kernel) (by decide +kernel) ?_
  rw [four_M, ho_bds]
  refine wo_s (k := 10) hv (by decide +kernel) (by decide +kernel) ?_
  rw [eight_M, ho_bds]
  refine wo_s (k := 11) hv (by decide +kernel) (by decide +kernel) ?_
  rw [eight_M, ho_bds]
  refine wo_s (k := 12) hv (by decide +kernel) (by decide +kernel) ?_
  rw [four_M, ho_bds]
  refine wo_s (k := 13) hv (by decide +kernel) (by decide +kernel) ?_
  rw [four_M, ho_bds]
  refine wo_s (k := 14) hv (by decide +kernel) (by decide +kernel) ?_
  rw [four_M, ho_bds]
  refine wo_s (k := 15) hv (by decide +kernel) (by decide +kernel) ?_
  rw [four_M, ho_bds]
  refine wo_s (k := 16) hv (by decide +kernel) (by decide +kernel) ?_
  rw [four_M, ho_bds]
  refine wo_s (k := 17) hv (by decide +kernel) (by decide +kernel) ?_
  rw [eight_M, ho_bds]
  refine wo_s (k := 18) hv (by decide +kernel) (by decide +kernel) ?_
  rw [eight_M, ho_bds]
  refine wo_s (k := 19) hv (by decide +kernel) (by decide +kernel) ?_
  rw [eight_M, ho_bds]
  refine wo_s (k := 20) hv (by decide +kernel) (by decide +kernel) ?_
  rfl
def txN : List (List Nat) := [[98, 101, 110, 99, 104, 32, 115, 116, 111, 111, 108, 32, 99, 104, 97, 105, 114, 32, 116, 97, 98, 108, 101, 32, 115, 105, 116, 115, 32, 115, 116, 97, 110, 100, 115, 32, 100, 97, 109, 112, 32], [109, 111, 116, 105, 111, 110, 32, 115, 116, 97, 110, 100, 32, 119, 97, 120, 32, 115, 101, 116, 32, 115, 105, 116, 32, 119, 101, 116, 32, 100, 114, 121, 32, 110, 105, 103, 104, 116, 32], [115, 116, 105, 108, 108, 32, 115, 111, 117, 110, 100, 115, 32], [111, 97, 107, 32, 119, 97, 108, 110, 117, 116, 32, 112, 105, 110, 101, 32]]
def chN (T i : Nat) : Nat := (txN.getD T []).getD i 0
theorem ch_k : ∀ T, T < 4 → ∀ i, i < lenS.getD T 0 → chS T (Int32.ofNat i) = Int32.ofNat (chN T i) ∧ chN T i < 128 ∧ ((chS T (Int32.ofNat i)).toUInt32 % 65536).toInt32 = chS T (Int32.ofNat i) := by decide +kernel
theorem ci_C {a n : Nat} {σ : Mem} (h : a < n) (hn : n < 1000) : fJ0_ci (Int32.ofNat a) (Int32.ofNat n) σ = some ((), σ) := by
  unfold fJ0_ci fJ3_ci
  rw [if_neg (z_neg (by omega)), if_pos (show Int32.ofNat a < Int32.ofNat n by rw [nz_lt (by omega) (by omega)]; exact h), ho_bds]
theorem ch_C {T i : Nat} {σ : Mem} (hT : T < 4) (hi : i < lenS.getD T 0) : fJ0_ch T (Int32.ofNat i) σ = some (Int32.ofNat (chN T i), σ) := by
  have k := ch_k T hT i hi
  have l4 : ∀ T, T < 4 → lenS.getD T 0 < 100 := by decide
  have l5 := l4 T hT
  unfold fJ0_ch fJ1_ch
  rw [ho_bds, if_neg (by decide), ci_C hi (by omega), ho_bds, gdT (show inb (Int32.ofNat i) (lenS.getD T 0) = true by rw [nz_inb (by omega)]; exact decide_eq_true hi), gdD k.2.2, ho_bds, gdD k.2.2, k.1]
theorem len_C {T : Nat} {σ : Mem} (hT : T < 4) : fJ0_len T σ = some (Int32.ofNat (lenS.getD T 0), σ) := by
  have h : ∀ T, T < 4 → Int32.ofNat (lenS.getD T 0) >>> ((0 : Int32) &&& 31) = Int32.ofNat (lenS.getD T 0) := by decide +kernel
  unfold fJ0_len
  rw [h T hT]
def sameN (T fr : Nat) (B : Nat → Nat) (s : Nat) : Nat → Bool
  | 0 => true
  | k + 1 => sameN T fr B s k && decide (chN T (fr + k) = B (s + k))
theorem sameN_iff {T fr : Nat} {B : Nat → Nat} {s : Nat} : ∀ k, sameN T fr B s k = true ↔ ∀ j, j < k → chN T (fr + j) = B (s + j)
  | 0 => ⟨fun _ j hj => absurd hj (Nat.not_lt_zero j), fun _ => rfl⟩
  | k + 1 => by
    have ih := sameN_iff (T := T) (fr := fr) (B := B) (s := s) k
    simp only [sameN, Bool.and_eq_true, decide_eq_true_eq, ih]
    constructor
    · rintro ⟨h1, h2⟩ j hj
      by_cases q : j = k
      · subst q; exact h2
      · exact h1 j (by omega)
    · intro h
      exact ⟨fun j hj => h j (by omega), h k (by omega)⟩
theorem same_C {N : Nat} {B : Nat → Nat} {n s e T fr : Nat} {σ : Mem} (hN : 10000 ≤ N) (Tp : TpC B n σ) (hT : T < 4) (hse : s ≤ e) (hen : e ≤ n) (h8 : σ.1 171 8 = Int32.ofNat s) (h9 : σ.1 171 9 = Int32.ofNat e) (hl : ∀ j, s ≤ j → j < e → isL (B j) = true) (hf : fr + (e - s) ≤ lenS.getD T 0) : fX6_isSame N 171 T (Int32.ofNat fr) σ = some (if sameN T fr B s (e - s) = true then 1 else 0, σ) := by
  have h6 := Tp.1
  have l4 : ∀ T, T < 4 → lenS.getD T 0 < 100 := by decide
  have l5 := l4 T hT
  apply ho_eq
  unfold fX6_isSame
  rw [ho_lte]
  refine ho_loop (F := fun m (v : Int32) t => fX6_isSame_l2 N 171 m T (Int32.ofNat fr) v t) (fun j v t => v = Int32.ofNat j ∧ t = σ ∧ sameN T fr B s j = true) (e - s) ?_ ?_ (e - s) N 0 0 σ (by omega) (by omega) ⟨rfl, rfl, rfl⟩
  · rintro m j v t hj ⟨e1, e2, e3⟩ rec
    subst e1 e2
    have bl : 97 ≤ B (s + j) ∧ B (s + j) ≤ 122 := of_decide_eq_true (hl (s + j) (by omega) (by omega))
    have tb := Tp.2.2.2 (s + j) (by omega)
    have bx : byX (B (s + j)) = Int32.ofNat (B (s + j)) := (by_k _ tb.1).2.2.2 (by omega)
    have ck := ch_k T hT (fr + j) (by omega)
    simp only [fX6_isSame_l2]
    unfold fX6_isSame_b2
    rw [h9, h8, nz_add, nz_add, if_neg (show ¬ Int32.ofNat e ≤ Int32.ofNat (s + j) by rw [nz_le (by omega) (by omega)]; omega), ch_C hT (show fr + j < lenS.getD T 0 by omega), ho_bds, h8, Tp.2.1, gdD kd2, nz_add, gdT (show inb (Int32.ofNat (s + j)) 600 = true by rw [nz_inb (by omega)]; exact decide_eq_true (by omega)), show (2 : Int32).toNatClampNeg = 2 from rfl, nz_nat (by omega), tb.2, bx]
    by_cases c : chN T (fr + j) = B (s + j)
    · rw [if_pos (show Int32.ofNat (chN T (fr + j)) = Int32.ofNat (B (s + j)) by rw [c]), ho_lte, nz_succ]
      exact rec _ _ ⟨rfl, rfl, by simp only [sameN, e3, Bool.true_and]; exact decide_eq_true c⟩
    · rw [if_neg (show ¬ Int32.ofNat (chN T (fr + j)) = Int32.ofNat (B (s + j)) by rw [nz_inj (by omega) (by omega)]; exact c)]
      have no : ¬ sameN T fr B s (e - s) = true := fun h => c ((sameN_iff _).mp h j hj)
      rw [if_neg no]
      exact ⟨rfl, rfl⟩
  · rintro m v t ⟨e1, e2, e3⟩
    subst e1 e2
    simp only [fX6_isSame_l2]
    unfold fX6_isSame_b2
    rw [h9, h8, nz_add, if_pos (show Int32.ofNat e ≤ Int32.ofNat (s + (e - s)) by rw [nz_le (by omega) (by omega)]; omega), if_pos e3]
    exact ⟨rfl, rfl⟩
def waF (T : Nat) (f : Nat → Nat → Bool) : Nat → Nat → Nat → Nat → Int32
  | 0, _, _, _ => -1
  | d + 1, i, num, fr => if chN T i = 32 then (if f fr (i - fr) = true then Int32.ofNat num else waF T f d (i + 1) (num + 1) (i + 1)) else waF T f d (i + 1) num fr
def sameF (T : Nat) (B : Nat → Nat) (s L : Nat) (fr len : Nat) : Bool := decide (len = L) && sameN T fr B s L
theorem among_C {N : Nat} {B : Nat → Nat} {n s e T : Nat} {σ : Mem} (hN : 10000 ≤ N) (Tp : TpC B n σ) (hT : T < 4) (hse : s ≤ e) (hen : e ≤ n) (h8 : σ.1 171 8 = Int32.ofNat s) (h9 : σ.1 171 9 = Int32.ofNat e) (h7 : σ.1 171 7 = 1) (hl : ∀ j, s ≤ j → j < e → isL (B j) = true) : fX6_wordAmong N 171 T σ = some (waF T (sameF T B s (e - s)) (lenS.getD T 0) 0 0 0, σ) := by
  have h6 := Tp.1
  have l4 : ∀ T, T < 4 → lenS.getD T 0 < 100 := by decide
  have l5 := l4 T hT
  apply ho_eq
  unfold fX6_wordAmong
  rw [if_pos h7, ho_lte, ho_lte, ho_lte]
  generalize hM : lenS.getD T 0 = M at l5
  have eL : Int32.ofNat e - Int32.ofNat s = Int32.ofNat (e - s) := by
    have : e = e - s + s := by omega
    rw [this, ← nz_add, Int32.add_sub_cancel, ← this]
  generalize hG : waF T (sameF T B s (e - s)) M 0 0 0 = G
  refine ho_loop (F := fun m (b : Int32 × Int32 × Int32) t => fX6_wordAmong_l17 N 171 m T b.1 b.2.1 b.2.2 t) (fun i b t => t = σ ∧ b.2.2 = Int32.ofNat i ∧ ∃ num fr, num ≤ i ∧ fr ≤ i ∧ b.1 = Int32.ofNat num ∧ b.2.1 = Int32.ofNat fr ∧ waF T (sameF T B s (e - s)) (M - i) i num fr = G) M ?_ ?_ M N 0 (_, _, _) σ (by omega) (by omega) ⟨rfl, rfl, 0, 0, Nat.le_refl _, Nat.le_refl _, rfl, rfl, hG⟩
  · rintro m i ⟨v2, v3, v4⟩ t hi ⟨e1, e2, num, fr, n1, n2, e3, e4, g⟩ rec
    dsimp only at e1 e2 e3 e4
    subst e1 e2 e3 e4
    obtain ⟨d, hd⟩ : ∃ d, M - i = d + 1 := ⟨M - i - 1, by omega⟩
    have hd' : M - (i + 1) = d := by omega
    have eF : Int32.ofNat i - Int32.ofNat fr = Int32.ofNat (i - fr) := by
      have : i = i - fr + fr := by omega
      rw [this, ← nz_add, Int32.add_sub_cancel, ← this]
    have cb := (ch_k T hT i (by omega)).2.1
    rw [hd] at g
    simp only [waF] at g
    simp only [fX6_wordAmong_l17]
    unfold fX6_wordAmong_b17
    rw [len_C hT, ho_bds, hM, if_neg (show ¬ Int32.ofNat M ≤ Int32.ofNat i by rw [nz_le (by omega) (by omega)]; omega), ch_C hT (by omega), ho_bds, h9, h8, eF, eL]
    by_cases c : chN T i = 32
    · rw [if_pos c] at g
      rw [if_pos (show Int32.ofNat (chN T i) = 32 by rw [c]; rfl)]
      have nxt : sameF T B s (e - s) fr (i - fr) = false → Ho (fX6_wordAmong_b64 N 171 (fX6_wordAmong_l17 N 171 m) T (Int32.ofNat num) (Int32.ofNat i) t) (fun r s => r = G ∧ s = t) := by
        intro hf
        rw [if_neg (by rw [hf]; decide)] at g
        unfold fX6_wordAmong_b64 fX6_wordAmong_b72
        rw [ho_lte, ho_lte, ho_lte, nz_succ, nz_succ]
        exact rec (_, _, _) t ⟨rfl, rfl, num + 1, i + 1, by omega, Nat.le_refl _, rfl, rfl, by rw [hd']; exact g⟩
      by_cases q : i - fr = e - s
      · rw [if_pos (show Int32.ofNat (i - fr) = Int32.ofNat (e - s) by rw [q]), same_C hN Tp hT hse hen h8 h9 hl (by omega), ho_bds]
        by_cases z : sameN T fr B s (e - s) = true
        · have sf : sameF T B s (e - s) fr (i - fr) = true := by unfold sameF; rw [decide_eq_true q, z]; rfl
          rw [if_pos sf] at g
          rw [if_pos z, if_neg (by decide)]
          exact ⟨g, rfl⟩
        · rw [if_neg z, if_pos rfl]
          exact nxt (by unfold sameF; rw [show sameN T fr B s (e - s) = false by simpa using z, Bool.and_false])
      · rw [if_neg (show ¬ Int32.ofNat (i - fr) = Int32.ofNat (e - s) by rw [nz_inj (by omega) (by omega)]; exact q)]
        exact nxt (by unfold sameF; rw [decide_eq_false q]; rfl)
    · rw [if_neg c] at g
      rw [if_neg (show ¬ Int32.ofNat (chN T i) = 32 by rw [z_eq (by omega) (by omega)]; exact c)]
      unfold fX6_wordAmong_b72
      rw [ho_lte, nz_succ]
      exact rec (_, _, _) t ⟨rfl, rfl, num, fr, by omega, by omega, rfl, rfl, by rw [hd']; exact g⟩
  · rintro m ⟨v2, v3, v4⟩ t ⟨e1, e2, num, fr, n1, n2, e3, e4, g⟩
    dsimp only at e1 e2 e3 e4
    subst e1 e2 e3 e4
    rw [Nat.sub_self] at g
    simp only [waF] at g
    simp only [fX6_wordAmong_l17]
    unfold fX6_wordAmong_b17
    rw [len_C hT, ho_bds, hM, if_pos (Int32.le_refl _)]
    exact ⟨g, rfl⟩
theorem sm_cd {T fr len : Nat} {B : Nat → Nat} {s L : Nat} (hl : ∀ j, j < L → isL (B (s + j)) = true) (hc : ∀ j, j < len → 97 ≤ chN T (fr + j) ∧ chN T (fr + j) ≤ 122) : sameF T B s L fr len = true ↔ cdW B s L = cdG (fun j => chN T (fr + j) - 96) len := by
  have hb : ∀ j, j < L → 97 ≤ B (s + j) ∧ B (s + j) ≤ 122 := fun j hj => of_decide_eq_true (hl j hj)
  unfold sameF cdW
  rw [Bool.and_eq_true, decide_eq_true_eq, sameN_iff]
  constructor
  · rintro ⟨h1, h2⟩
    subst h1
    exact cd_congr _ (fun j hj => by rw [h2 j hj])
  · intro h
    obtain ⟨h1, h2⟩ := cd_inj L len (fun j hj => by have := hb j hj; omega) (fun j hj => by have := hc j hj; omega) h
    refine ⟨h1.symm, fun j hj => ?_⟩
    have a := h2 j hj
    have b := hb j hj
    have c := hc j (by omega)
    omega
/-- which of cnt words from lo on a number is, or -1 -/
def hdF (v lo cnt : Nat) : Int32 := if lo ≤ wdF v ∧ wdF v < lo + cnt then Int32.ofNat (wdF v - lo) else -1
theorem wa_0 (f : Nat → Nat → Bool) : waF 0 f 41 0 0 0 = (if f 0 5 = true then Int32.ofNat 0 else if f 6 5 = true then Int32.ofNat 1 else if f 12 5 = true then Int32.ofNat 2 else if f 18 5 = true then Int32.ofNat 3 else if f 24 4 = true then Int32.ofNat 4 else if f 29 6 = true then Int32.ofNat 5 else if f 36 4 = true then Int32.ofNat 6 else -1) := rfl
theorem hd_0 {B : Nat → Nat} {s L : Nat} (hl : ∀ j, j < L → isL (B (s + j)) = true) : waF 0 (sameF 0 B s L) (lenS.getD 0 0) 0 0 0 = hdF (cdW B s L) 1 7 := by
  rw [show lenS.getD 0 0 = 41 from rfl, wa_0]
  have e0 : sameF 0 B s L 0 5 = true ↔ cdW B s L = cdL [2, 5, 14, 3, 8] := by rw [sm_cd hl (by decide)]; exact Iff.rfl
  have e1 : sameF 0 B s L 6 5 = true ↔ cdW B s L = cdL [19, 20, 15, 15, 12] := by rw [sm_cd hl (by decide)]; exact Iff.rfl
  have e2 : sameF 0 B s L 12 5 = true ↔ cdW B s L = cdL [3, 8, 1, 9, 18] := by rw [sm_cd hl (by decide)]; exact Iff.rfl
  have e3 : sameF 0 B s L 18 5 = true ↔ cdW B s L = cdL [20, 1, 2, 12, 5] := by rw [sm_cd hl (by decide)]; exact Iff.rfl
  have e4 : sameF 0 B s L 24 4 = true ↔ cdW B s L = cdL [19, 9, 20, 19] := by rw [sm_cd hl (by decide)]; exact Iff.rfl
  have e5 : sameF 0 B s L 29 6 = true ↔ cdW B s L = cdL [19, 20, 1, 14, 4, 19] := by rw [sm_cd hl (by decide)]; exact Iff.rfl
  have e6 : sameF 0 B s L 36 4 = true ↔ cdW B s L = cdL [4, 1, 13, 16] := by rw [sm_cd hl (by decide)]; exact Iff.rfl
  simp only [e0, e1, e2, e3, e4, e5, e6]
  generalize cdW B s L = v
  by_cases c0 : v = cdL [2, 5, 14, 3, 8]
  · subst c0; decide +kernel
  by_cases c1 : v = cdL [19, 20, 15, 15, 12]
  · subst c1; decide +kernel
  by_cases c2 : v = cdL [3, 8, 1, 9, 18]
  · subst c2; decide +kernel
  by_cases c3 : v = cdL [20, 1, 2, 12, 5]
  · subst c3; decide +kernel
  by_cases c4 : v = cdL [19, 9, 20, 19]
  · subst c4; decide +kernel
  by_cases c5 : v = cdL [19, 20, 1, 14, 4, 19]
  · subst c5; decide +kernel
  by_cases c6 : v = cdL [4, 1, 13, 16]
  · subst c6; decide +kernel
  by_cases c7 : v = cdL [15, 1, 11]
  · subst c7; decide +kernel
  by_cases c8 : v = cdL [23, 1, 12, 14, 21, 20]
  · subst c8; decide +kernel
  by_cases c9 : v = cdL [16, 9, 14, 5]
  · subst c9; decide +kernel
  by_cases c10 : v = cdL [13, 15, 20, 9, 15, 14]
  · subst c10; decide +kernel
  by_cases c11 : v = cdL [19, 20, 1, 14, 4]
  · subst c11; decide +kernel
  by_cases c12 : v = cdL [23, 1, 24]
  · subst c12; decide +kernel
  by_cases c13 : v = cdL [19, 5, 20]
  · subst c13; decide +kernel
  by_cases c14 : v = cdL [19, 9, 20]
  · subst c14; decide +kernel
  by_cases c15 : v = cdL [23, 5, 20]
  · subst c15; decide +kernel
  by_cases c16 : v = cdL [4, 18, 25]
  · subst c16; decide +kernel
  by_cases c17 : v = cdL [14, 9, 7, 8, 20]
  · subst c17; decide +kernel
  by_cases c18 : v = cdL [19, 20, 9, 12, 12]
  · subst c18; decide +kernel
  by_cases c19 : v = cdL [19, 15, 21, 14, 4, 19]
  · subst c19; decide +kernel
  have z : wdF v = 99 := by
    simp only [wdF, wdT, ixF]
    rw [if_neg c0, if_neg c1, if_neg c2, if_neg c3, if_neg c4, if_neg c5, if_neg c6, if_neg c7, if_neg c8, if_neg c9, if_neg c10, if_neg c11, if_neg c12, if_neg c13, if_neg c14, if_neg c15, if_neg c16, if_neg c17, if_neg c18, if_neg c19]
  unfold hdF
  rw [z, if_neg (show ¬ (1 ≤ 99 ∧ 99 < 1 + 7) by decide)]
  rw [if_neg c0, if_neg c1, if_neg c2, if_neg c3, if_neg c4, if_neg c5, if_neg c6]
theorem wa_1 (f : Nat → Nat → Bool) : waF 1 f 39 0 0 0 = (if f 0 6 = true then Int32.ofNat 0 else if f 7 5 = true then Int32.ofNat 1 else if f 13 3 = true then Int32.ofNat 2 else if f 17 3 = true then Int32.ofNat 3 else if f 21 3 = true then Int32.ofNat 4 else if f 25 3 = true then Int32.ofNat 5 else if f 29 3 = true then Int32.ofNat 6 else if f 33 5 = true then Int32.ofNat 7 else -1) := rfl
theorem hd_1 {B : Nat → Nat} {s L : Nat} (hl : ∀ j, j < L → isL (B (s + j)) = true) : waF 1 (sameF 1 B s L) (lenS.getD 1 0) 0 0 0 = hdF (cdW B s L) 11 8 := by
  rw [show lenS.getD 1 0 = 39 from rfl, wa_1]
  have e0 : sameF 1 B s L 0 6 = true ↔ cdW B s L = cdL [13, 15, 20, 9, 15, 14] := by rw [sm_cd hl (by decide)]; exact Iff.rfl
  have e1 : sameF 1 B s L 7 5 = true ↔ cdW B s L = cdL [19, 20, 1, 14, 4] := by rw [sm_cd hl (by decide)]; exact Iff.rfl
  have e2 : sameF 1 B s L 13 3 = true ↔ cdW B s L = cdL [23, 1, 24] := by rw [sm_cd hl (by decide)]; exact Iff.rfl
  have e3 : sameF 1 B s L 17 3 = true ↔ cdW B s L = cdL [19, 5, 20] := by rw [sm_cd hl (by decide)]; exact Iff.rfl
  have e4 : sameF 1 B s L 21 3 = true ↔ cdW B s L = cdL [19, 9, 20] := by rw [sm_cd hl (by decide)]; exact Iff.rfl
  have e5 : sameF 1 B s L 25 3 = true ↔ cdW B s L = cdL [23, 5, 20] := by rw [sm_cd hl (by decide)]; exact Iff.rfl
  have e6 : sameF 1 B s L 29 3 = true ↔ cdW B s L = cdL [4, 18, 25] := by rw [sm_cd hl (by decide)]; exact Iff.rfl
  have e7 : sameF 1 B s L 33 5 = true ↔ cdW B s L = cdL [14, 9, 7, 8, 20] := by rw [sm_cd hl (by decide)]; exact Iff.rfl
  simp only [e0, e1, e2, e3, e4, e5, e6, e7]
  generalize cdW B s L = v
  by_cases c0 : v = cdL [2, 5, 14, 3, 8]
  · subst c0; decide +kernel
  by_cases c1 : v = cdL [19, 20, 15, 15, 12]
  · subst c1; decide +kernel
  by_cases c2 : v = cdL [3, 8, 1, 9, 18]
  · subst c2; decide +kernel
  by_cases c3 : v = cdL [20, 1, 2, 12, 5]
  · subst c3; decide +kernel
  by_cases c4 : v = cdL [19, 9, 20, 19]
  · subst c4; decide +kernel
  by_cases c5 : v = cdL [19, 20, 1, 14, 4, 19]
  · subst c5; decide +kernel
  by_cases c6 : v = cdL [4, 1, 13, 16]
  · subst c6; decide +kernel
  by_cases c7 : v = cdL [15, 1, 11]
  · subst c7; decide +kernel
  by_cases c8 : v = cdL [23, 1, 12, 14, 21, 20]
  · subst c8; decide +kernel
  by_cases c9 : v = cdL [16, 9, 14, 5]
  · subst c9; decide +kernel
  by_cases c10 : v = cdL [13, 15, 20, 9, 15, 14]
  · subst c10; decide +kernel
  by_cases c11 : v = cdL [19, 20, 1, 14, 4]
  · subst c11; decide +kernel
  by_cases c12 : v = cdL [23, 1, 24]
  · subst c12; decide +kernel
  by_cases c13 : v = cdL [19, 5, 20]
  · subst c13; decide +kernel
  by_cases c14 : v = cdL [19, 9, 20]
  · subst c14; decide +kernel
  by_cases c15 : v = cdL [23, 5, 20]
  · subst c15; decide +kernel
  by_cases c16 : v = cdL [4, 18, 25]
  · subst c16; decide +kernel
  by_cases c17 : v = cdL [14, 9, 7, 8, 20]
  · subst c17; decide +kernel
  by_cases c18 : v = cdL [19, 20, 9, 12, 12]
  · subst c18; decide +kernel
  by_cases c19 : v = cdL [19, 15, 21, 14, 4, 19]
  · subst c19; decide +kernel
  have z : wdF v = 99 := by
    simp only [wdF, wdT, ixF]
    rw [if_neg c0, if_neg c1, if_neg c2, if_neg c3, if_neg c4, if_neg c5, if_neg c6, if_neg c7, if_neg c8, if_neg c9, if_neg c10, if_neg c11, if_neg c12, if_neg c13, if_neg c14, if_neg c15, if_neg c16, if_neg c17, if_neg c18, if_neg c19]
  unfold hdF
  rw [z, if_neg (show ¬ (11 ≤ 99 ∧ 99 < 11 + 8) by decide)]
  rw [if_neg c10, if_neg c11, if_neg c12, if_neg c13, if_neg c14, if_neg c15, if_neg c16, if_neg c17]
theorem wa_2 (f : Nat → Nat → Bool) : waF 2 f 13 0 0 0 = (if f 0 5 = true then Int32.ofNat 0 else if f 6 6 = true then Int32.ofNat 1 else -1) := rfl
theorem hd_2 {B : Nat → Nat} {s L : Nat} (hl : ∀ j, j < L → isL (B (s + j)) = true) : waF 2 (sameF 2 B s L) (lenS.getD 2 0) 0 0 0 = hdF (cdW B s L) 19 2 := by
  rw [show lenS.getD 2 0 = 13 from rfl, wa_2]
  have e0 : sameF 2 B s L 0 5 = true ↔ cdW B s L = cdL [19, 20, 9, 12, 12] := by rw [sm_cd hl (by decide)]; exact Iff.rfl
  have e1 : sameF 2 B s L 6 6 = true ↔ cdW B s L = cdL [19, 15, 21, 14, 4, 19] := by rw [sm_cd hl (by decide)]; exact Iff.rfl
  simp only [e0, e1]
  generalize cdW B s L = v
  by_cases c0 : v = cdL [2, 5, 14, 3, 8]
  · subst c0; decide +kernel
  by_cases c1 : v = cdL [19, 20, 15, 15, 12]
  · subst c1; decide +kernel
  by_cases c2 : v = cdL [3, 8, 1, 9, 18]
  · subst c2; decide +kernel
  by_cases c3 : v = cdL [20, 1, 2, 12, 5]
  · subst c3; decide +kernel
  by_cases c4 : v = cdL [19, 9, 20, 19]
  · subst c4; decide +kernel
  by_cases c5 : v = cdL [19, 20, 1, 14, 4, 19]
  · subst c5; decide +kernel
  by_cases c6 : v = cdL [4, 1, 13, 16]
  · subst c6; decide +kernel
  by_cases c7 : v = cdL [15, 1, 11]
  · subst c7; decide +kernel
  by_cases c8 : v = cdL [23, 1, 12, 14, 21, 20]
  · subst c8; decide +kernel
  by_cases c9 : v = cdL [16, 9, 14, 5]
  · subst c9; decide +kernel
  by_cases c10 : v = cdL [13, 15, 20, 9, 15, 14]
  · subst c10; decide +kernel
  by_cases c11 : v = cdL [19, 20, 1, 14, 4]
  · subst c11; decide +kernel
  by_cases c12 : v = cdL [23, 1, 24]
  · subst c12; decide +kernel
  by_cases c13 : v = cdL [19, 5, 20]
  · subst c13; decide +kernel
  by_cases c14 : v = cdL [19, 9, 20]
  · subst c14; decide +kernel
  by_cases c15 : v = cdL [23, 5, 20]
  · subst c15; decide +kernel
  by_cases c16 : v = cdL [4, 18, 25]
  · subst c16; decide +kernel
  by_cases c17 : v = cdL [14, 9, 7, 8, 20]
  · subst c17; decide +kernel
  by_cases c18 : v = cdL [19, 20, 9, 12, 12]
  · subst c18; decide +kernel
  by_cases c19 : v = cdL [19, 15, 21, 14, 4, 19]
  · subst c19; decide +kernel
  have z : wdF v = 99 := by
    simp only [wdF, wdT, ixF]
    rw [if_neg c0, if_neg c1, if_neg c2, if_neg c3, if_neg c4, if_neg c5, if_neg c6, if_neg c7, if_neg c8, if_neg c9, if_neg c10, if_neg c11, if_neg c12, if_neg c13, if_neg c14, if_neg c15, if_neg c16, if_neg c17, if_neg c18, if_neg c19]
  unfold hdF
  rw [z, if_neg (show ¬ (19 ≤ 99 ∧ 99 < 19 + 2) by decide)]
  rw [if_neg c18, if_neg c19]
theorem wa_3 (f : Nat → Nat → Bool) : waF 3 f 16 0 0 0 = (if f 0 3 = true then Int32.ofNat 0 else if f 4 6 = true then Int32.ofNat 1 else if f 11 4 = true then Int32.ofNat 2 else -1) := rfl
theorem hd_3 {B : Nat → Nat} {s L : Nat} (hl : ∀ j, j < L → isL (B (s + j)) = true) : waF 3 (sameF 3 B s L) (lenS.getD 3 0) 0 0 0 = hdF (cdW B s L) 8 3 := by
  rw [show lenS.getD 3 0 = 16 from rfl, wa_3]
  have e0 : sameF 3 B s L 0 3 = true ↔ cdW B s L = cdL [15, 1, 11] := by rw [sm_cd hl (by decide)]; exact Iff.rfl
  have e1 : sameF 3 B s L 4 6 = true ↔ cdW B s L = cdL [23, 1, 12, 14, 21, 20] := by rw [sm_cd hl (by decide)]; exact Iff.rfl
  have e2 : sameF 3 B s L 11 4 = true ↔ cdW B s L = cdL [16, 9, 14, 5] := by rw [sm_cd hl (by decide)]; exact Iff.rfl
  simp only [e0, e1, e2]
  generalize cdW B s L = v
  by_cases c0 : v = cdL [2, 5, 14, 3, 8]
  · subst c0; decide +kernel
  by_cases c1 : v = cdL [19, 20, 15, 15, 12]
  · subst c1; decide +kernel
  by_cases c2 : v = cdL [3, 8, 1, 9, 18]
  · subst c2; decide +kernel
  by_cases c3 : v = cdL [20, 1, 2, 12, 5]
  · subst c3; decide +kernel
  by_cases c4 : v = cdL [19, 9, 20, 19]
  · subst c4; decide +kernel
  by_cases c5 : v = cdL [19, 20, 1, 14, 4, 19]
  · subst c5; decide +kernel
  by_cases c6 : v = cdL [4, 1, 13, 16]
  · subst c6; decide +kernel
  by_cases c7 : v = cdL [15, 1, 11]
  · subst c7; decide +kernel
  by_cases c8 : v = cdL [23, 1, 12, 14, 21, 20]
  · subst c8; decide +kernel
  by_cases c9 : v = cdL [16, 9, 14, 5]
  · subst c9; decide +kernel
  by_cases c10 : v = cdL [13, 15, 20, 9, 15, 14]
  · subst c10; decide +kernel
  by_cases c11 : v = cdL [19, 20, 1, 14, 4]
  · subst c11; decide +kernel
  by_cases c12 : v = cdL [23, 1, 24]
  · subst c12; decide +kernel
  by_cases c13 : v = cdL [19, 5, 20]
  · subst c13; decide +kernel
  by_cases c14 : v = cdL [19, 9, 20]
  · subst c14; decide +kernel
  by_cases c15 : v = cdL [23, 5, 20]
  · subst c15; decide +kernel
  by_cases c16 : v = cdL [4, 18, 25]
  · subst c16; decide +kernel
  by_cases c17 : v = cdL [14, 9, 7, 8, 20]
  · subst c17; decide +kernel
  by_cases c18 : v = cdL [19, 20, 9, 12, 12]
  · subst c18; decide +kernel
  by_cases c19 : v = cdL [19, 15, 21, 14, 4, 19]
  · subst c19; decide +kernel
  have z : wdF v = 99 := by
    simp only [wdF, wdT, ixF]
    rw [if_neg c0, if_neg c1, if_neg c2, if_neg c3, if_neg c4, if_neg c5, if_neg c6, if_neg c7, if_neg c8, if_neg c9, if_neg c10, if_neg c11, if_neg c12, if_neg c13, if_neg c14, if_neg c15, if_neg c16, if_neg c17, if_neg c18, if_neg c19]
  unfold hdF
  rw [z, if_neg (show ¬ (8 ≤ 99 ∧ 99 < 8 + 3) by decide)]
  rw [if_neg c7, if_neg c8, if_neg c9]
