theorem wxF_wf {S : Vw} {np nw : Nat} {f : Nat → Nat} (W : WfV S np nw) : ∀ i, WfV (wxF S f i) np nw
  | 0 => W
  | i + 1 => upV_wf (wxF_wf W i) (by omega)
theorem b512 : ∀ x, x < 512 → Int32.ofNat x &&& 7 = Int32.ofNat (x % 8) ∧ Int32.ofNat x >>> ((3 : Int32) &&& 31) = Int32.ofNat (x / 8) := by decide +kernel
theorem shl3 : ∀ k, k < 4 → (1 : Int32) <<< ((3 * Int32.ofNat k) &&& 31) = Int32.ofNat (8 ^ k) ∧ 8 ^ k ≤ 512 := by decide +kernel
def FlP (np k x i : Nat) : Prop := x < 8 ^ k ∧ ∀ v, k ≤ v + i → v < k → rwN k x v < np ∧ (v + 1 < k → rwN k x v ≤ rwN k x (v + 1))
theorem FlP_s {np k x i : Nat} (hi : i < k) : FlP np k x (i + 1) ↔ (FlP np k x i ∧ rwN k x (k - 1 - i) < np ∧ (k - 1 - i + 1 < k → rwN k x (k - 1 - i) ≤ rwN k x (k - 1 - i + 1))) := by
  unfold FlP
  constructor
  · rintro ⟨h1, h2⟩
    exact ⟨⟨h1, fun v a b => h2 v (by omega) b⟩, h2 (k - 1 - i) (by omega) (by omega)⟩
  · rintro ⟨⟨h1, h2⟩, h3⟩
    refine ⟨h1, fun v a b => ?_⟩
    by_cases q : v = k - 1 - i
    · rw [q]; exact h3
    · exact h2 v (by omega) b
theorem waxed_M {N c np nw mm k : Nat} {wd : Int32} {C : Vw} {σ s : Mem} (hN : 10000 ≤ N) (W : WfV C np nw) (H : HcM s c C np nw) (K : KM σ s) (hk : k ≤ 3) : Ho (fX12_areWaxed N (Int32.ofNat mm) wd (Int32.ofNat k) s) (fun v t => HcM t c C np nw ∧ KM σ t ∧ ((∃ x, x < 8 ^ k ∧ goP np nw (Int32.ofNat mm) wd k (asT C) 0 x ∧ (∀ x', x' < x → ¬ goP np nw (Int32.ofNat mm) wd k (asT C) 0 x') ∧ v = 1 ∧ ∀ j, j < k → t.1 10 j = Int32.ofNat (rwN k x j)) ∨ (v = 0 ∧ ∀ x, x < 8 ^ k → ¬ goP np nw (Int32.ofNat mm) wd k (asT C) 0 x))) := by
  have W' := asT_wf W
  have hn := W.1
  have s3 := shl3 k (by omega)
  unfold fX12_areWaxed
  simp only [ho_lt]
  refine ho_loop (F := fun n (b : Int32) t => fX12_areWaxed_l3 N n (Int32.ofNat mm) wd (Int32.ofNat k) b t) (fun x b t => b = Int32.ofNat x ∧ HcM t c C np nw ∧ KM σ t ∧ ∀ x', x' < x → x' < 8 ^ k → ¬ goP np nw (Int32.ofNat mm) wd k (asT C) 0 x') 512 ?_ ?_ 512 N 0 0 s (by omega) (by omega) ⟨rfl, H, K, fun x hx => absurd hx (Nat.not_lt_zero x)⟩
  · rintro n x b t hx ⟨e1, H1, K1, Z⟩ rec
    subst e1
    generalize hr : fX12_areWaxed_l3 N n = rc3 at rec
    simp only [fX12_areWaxed_l3, hr]
    rw [fX12_areWaxed_b3, if_neg (show ¬ (512 : Int32) ≤ Int32.ofNat x by rw [z_le (by omega) (by omega)]; omega), ho_lte, s3.1]
    have nxt : ∀ u, HcM u c C np nw → KM σ u → (x < 8 ^ k → ¬ goP np nw (Int32.ofNat mm) wd k (asT C) 0 x) → Ho (fX12_areWaxed_b173 N rc3 (Int32.ofNat mm) wd (Int32.ofNat k) (Int32.ofNat x) u) (fun v t => HcM t c C np nw ∧ KM σ t ∧ ((∃ x, x < 8 ^ k ∧ goP np nw (Int32.ofNat mm) wd k (asT C) 0 x ∧ (∀ x', x' < x → ¬ goP np nw (Int32.ofNat mm) wd k (asT C) 0 x') ∧ v = 1 ∧ ∀ j, j < k → t.1 10 j = Int32.ofNat (rwN k x j)) ∨ (v = 0 ∧ ∀ x, x < 8 ^ k → ¬ goP np nw (Int32.ofNat mm) wd k (asT C) 0 x))) := by
      intro u HU KU no
      rw [fX12_areWaxed_b173, ho_lte, nz_succ]
      refine rec _ _ ⟨rfl, HU, KU, fun x' h1 h2 => ?_⟩
      by_cases q : x' = x
      · subst q; exact no h2
      · exact Z x' (by omega) h2
    have main : ∀ v6 : Int32, ((v6 = 1 ∧ x < 8 ^ k) ∨ (v6 = 0 ∧ ¬ x < 8 ^ k)) → Ho (fX12_areWaxed_b30 N rc3 (Int32.ofNat mm) wd (Int32.ofNat k) (Int32.ofNat x) (Int32.ofNat x) v6 t) (fun v t => HcM t c C np nw ∧ KM σ t ∧ ((∃ x, x < 8 ^ k ∧ goP np nw (Int32.ofNat mm) wd k (asT C) 0 x ∧ (∀ x', x' < x → ¬ goP np nw (Int32.ofNat mm) wd k (asT C) 0 x') ∧ v = 1 ∧ ∀ j, j < k → t.1 10 j = Int32.ofNat (rwN k x j)) ∨ (v = 0 ∧ ∀ x, x < 8 ^ k → ¬ goP np nw (Int32.ofNat mm) wd k (asT C) 0 x))) := by
      intro v6 h6
      unfold fX12_areWaxed_b30
      simp only [ho_lt]
      refine ho_loop (F := fun n (b : Int32 × Int32 × Int32) t => fX12_areWaxed_l37 N rc3 n (Int32.ofNat mm) wd (Int32.ofNat k) (Int32.ofNat x) b.1 b.2.1 b.2.2 t) (fun i b t => b.1 = Int32.ofNat (x / 8 ^ i) ∧ b.2.2 = Int32.ofNat (k - i) - 1 ∧ ((b.2.1 = 1 ∧ FlP np k x i) ∨ (b.2.1 = 0 ∧ ¬ FlP np k x i)) ∧ HcM t c C np nw ∧ KM σ t ∧ ∀ v, k ≤ v + i → v < k → t.1 10 v = Int32.ofNat (rwN k x v)) k ?_ ?_ k N 0 (_, _, _) t (by omega) (by omega) ⟨by rw [Nat.pow_zero, Nat.div_one]; rfl, rfl, ?_, H1, K1, fun v a b => by omega⟩
      · rintro n i ⟨v5, v6, v7⟩ t hi ⟨e1, e2, e3, H1, K1, R1⟩ rec'
        obtain ⟨w, hw⟩ : ∃ w, k - i = w + 1 := ⟨k - i - 1, by omega⟩
        have wk : w = k - 1 - i := by omega
        dsimp only at e1 e2 e3
        rw [hw, z_sub1] at e2
        subst e1 e2
        have x8 : x / 8 ^ i < 512 := Nat.lt_of_le_of_lt (Nat.div_le_self _ _) hx
        have b5 := b512 _ x8
        have rw1 : x / 8 ^ i % 8 = rwN k x w := by unfold rwN; rw [show k - 1 - w = i by omega]
        have dv : x / 8 ^ i / 8 = x / 8 ^ (i + 1) := by rw [Nat.div_div_eq_div_mul, Nat.pow_succ]
        have i3 : inb (Int32.ofNat w) 3 = true := by rw [nz_inb (by omega)]; exact decide_eq_true (by omega)
        have nw' : (Int32.ofNat w).toNatClampNeg = w := nz_nat (by omega)
        have r8 : rwN k x w < 8 := Nat.mod_lt _ (by omega)
        have fs := FlP_s (np := np) (x := x) hi
        rw [← wk] at fs
        have HP : HcM (pI t 10 w (Int32.ofNat (rwN k x w))) c C np nw := H1.ag (pI_ne (by omega)) (fun j _ _ => pI_nq (by omega))
        have RP : ∀ v, k ≤ v + (i + 1) → v < k → (pI t 10 w (Int32.ofNat (rwN k x w))).1 10 v = Int32.ofNat (rwN k x v) := fun v a b => by
          by_cases q : v = w
          · subst q; rw [pI_eq]
          · rw [pI_nq (by omega)]; exact R1 v (by omega) b
        have em : Int32.ofNat w + -1 = Int32.ofNat (k - (i + 1)) - 1 := by rw [Int32.sub_eq_add_neg, show k - (i + 1) = w by omega]
        have stp : ∀ v : Int32, ((v = 1 ∧ FlP np k x (i + 1)) ∨ (v = 0 ∧ ¬ FlP np k x (i + 1))) → Ho (fX12_areWaxed_b111 N rc3 (fX12_areWaxed_l37 N rc3 n) (Int32.ofNat mm) wd (Int32.ofNat k) (Int32.ofNat x) (Int32.ofNat (x / 8 ^ (i + 1))) (Int32.ofNat w) v (pI t 10 w (Int32.ofNat (rwN k x w)))) (fun v t => HcM t c C np nw ∧ KM σ t ∧ ((∃ x, x < 8 ^ k ∧ goP np nw (Int32.ofNat mm) wd k (asT C) 0 x ∧ (∀ x', x' < x → ¬ goP np nw (Int32.ofNat mm) wd k (asT C) 0 x') ∧ v = 1 ∧ ∀ j, j < k → t.1 10 j = Int32.ofNat (rwN k x j)) ∨ (v = 0 ∧ ∀ x, x < 8 ^ k → ¬ goP np nw (Int32.ofNat mm) wd k (asT C) 0 x))) := by
          intro v hv
          unfold fX12_areWaxed_b111
          simp only [ho_lt]
          exact rec' (_, _, _) _ ⟨rfl, em, hv, HP, K1.c12 (by omega), RP⟩
        simp only [fX12_areWaxed_l37, fX12_areWaxed_b37, fX12_areWaxed_b110, fX12_areWaxed_b106, ho_lte]
        rw [if_neg (z_neg (by omega)), gdT i3, nw', b5.1, b5.2, rw1, dv]
        rcases e3 with ⟨f1, f2⟩ | ⟨f1, f2⟩
        · rw [if_neg (show ¬ v6 = 0 by rw [f1]; decide), gdT i3, pI_eq, HP.2.1.2.1]
          by_cases g : rwN k x w < np
          · rw [if_neg (show ¬ Int32.ofNat np ≤ Int32.ofNat (rwN k x w) by rw [nz_le (by omega) (by omega)]; omega)]
            by_cases l : w + 1 < k
            · have wk2 : ¬ Int32.ofNat w = Int32.ofNat k - 1 := by
                obtain ⟨d, hd⟩ : ∃ d, k = d + 1 := ⟨k - 1, by omega⟩
                rw [hd, z_sub1, nz_inj (by omega) (by omega)]; omega
              have i4 : inb (Int32.ofNat w + 1) 3 = true := by rw [nz_succ, nz_inb (by omega)]; exact decide_eq_true (by omega)
              have r9 : rwN k x (w + 1) < 8 := Nat.mod_lt _ (by omega)
              rw [if_neg wk2, gdT i3, gdT i4, nz_succ, nz_nat (show w + 1 < 2147483648 by omega), RP (w + 1) (by omega) l]
              by_cases o : rwN k x (w + 1) < rwN k x w
              · rw [if_pos (show Int32.ofNat (rwN k x (w + 1)) < Int32.ofNat (rwN k x w) by rw [nz_lt (by omega) (by omega)]; exact o)]
                exact stp 0 (Or.inr ⟨rfl, fun h => by have := (fs.mp h).2.2 l; omega⟩)
              · rw [if_neg (show ¬ Int32.ofNat (rwN k x (w + 1)) < Int32.ofNat (rwN k x w) by rw [nz_lt (by omega) (by omega)]; exact o)]
                exact stp 1 (Or.inl ⟨rfl, fs.mpr ⟨f2, g, fun _ => by omega⟩⟩)
            · have wk2 : Int32.ofNat w = Int32.ofNat k - 1 := by
                obtain ⟨d, hd⟩ : ∃ d, k = d + 1 := ⟨k - 1, by omega⟩
                rw [hd, z_sub1, show w = d by omega]
              rw [if_pos wk2]
              exact stp 1 (Or.inl ⟨rfl, fs.mpr ⟨f2, g, fun q => absurd q l⟩⟩)
          · rw [if_pos (show Int32.ofNat np ≤ Int32.ofNat (rwN k x w) by rw [nz_le (by omega) (by omega)]; omega)]
            exact stp 0 (Or.inr ⟨rfl, fun h => g (fs.mp h).2.1⟩)
        · rw [if_pos f1]
          exact stp 0 (Or.inr ⟨rfl, fun h => f2 (fs.mp h).1⟩)
      · rintro n ⟨v5, v6, v7⟩ t ⟨e1, e2, e3, H1, K1, R1⟩
        dsimp only at e1 e2 e3
        rw [Nat.sub_self] at e2
        subst e1 e2
        simp only [fX12_areWaxed_l37, fX12_areWaxed_b37, ho_lte]
        rw [if_pos (by decide)]
        have gi : x < 8 ^ k → (goP np nw (Int32.ofNat mm) wd k (asT C) 0 x ↔ _) := fun h => goP_iff k (asT C) 0 x h
        rcases e3 with ⟨f1, f2⟩ | ⟨f1, f2⟩
        · rw [if_neg (show ¬ v6 = 0 by rw [f1]; decide), ho_bd]
          have fv : ∀ v, v < k → rwN k x v < np ∧ (v + 1 < k → rwN k x v ≤ rwN k x (v + 1)) := fun v hv => f2.2 v (by omega) hv
          refine ho_mono (asTold_M hN H1) (fun _ u ⟨HA, F2, _, _⟩ => ?_)
          have R2 : ∀ j, j < k → u.1 10 j = Int32.ofNat (rwN k x j) := fun j hj => by rw [F2.cell (k := 10) (by omega)]; exact R1 j (by omega) hj
          refine ho_loop (F := fun n (b : Int32) t => fX12_areWaxed_l134 N rc3 n (Int32.ofNat mm) wd (Int32.ofNat k) (Int32.ofNat x) b t) (fun i b t => b = Int32.ofNat i ∧ HaM t c C (wxF (asT C) (rwN k x) i) np nw ∧ KM σ t ∧ ∀ j, j < k → t.1 10 j = Int32.ofNat (rwN k x j)) k ?_ ?_ k N 0 0 u (by omega) (by omega) ⟨rfl, HA, K1.trans F2.km, R2⟩
          · rintro n i b t hi ⟨e1, H1, K1, R1⟩ rec'
            subst e1
            have p1 := (fv i hi).1
            have i3 : inb (Int32.ofNat i) 3 = true := by rw [nz_inb (by omega)]; exact decide_eq_true (by omega)
            have i8 : inb (Int32.ofNat (rwN k x i)) 8 = true := by rw [nz_inb (by omega)]; exact decide_eq_true (by omega)
            simp only [fX12_areWaxed_l134, fX12_areWaxed_b134, ho_lte, nz_succ]
            rw [if_neg (show ¬ Int32.ofNat k ≤ Int32.ofNat i by rw [nz_le (by omega) (by omega)]; omega), gdT i3, nz_nat (show i < 2147483648 by omega), R1 i hi, gdT i8, gdT i8, nz_nat (show rwN k x i < 2147483648 by omega), (H1.2.2.1 _ p1).2.1]
            refine rec' _ _ ⟨rfl, H1.wax, ⟨by rw [pI_ne (by omega)]; exact K1.1, by rw [pI_ne (by omega)]; exact K1.2⟩, fun j hj => by rw [pI_nq (by omega)]; exact R1 j hj⟩
          · rintro n b t ⟨e1, H1, K1, R1⟩
            subst e1
            simp only [fX12_areWaxed_l134, fX12_areWaxed_b134]
            rw [if_pos (show Int32.ofNat k ≤ Int32.ofNat k by rw [nz_le (by omega) (by omega)]; omega), ho_bd]
            refine ho_mono (answers_M hN (wxF_wf W' k) H1) (fun r t2 ⟨hr, V⟩ => ?_)
            have K2 := K1.trans V.1.toH.km
            have H2' := (H1.ag V.1.ag).1
            rw [hr]
            by_cases z : (if carV (wxF (asT C) (rwN k x) k) np nw (Int32.ofNat mm) = true then (1 : Int32) else 0) = wd
            · rw [if_pos z]
              have good := (gi f2.1).mpr ⟨fun _ => Nat.zero_le _, fv, z⟩
              exact ⟨H2', K2, Or.inl ⟨x, f2.1, good, fun x' hx' => Z x' hx' (by have := f2.1; omega), rfl, fun j hj => by rw [V.1.1 10 j (by omega) (by omega)]; exact R1 j hj⟩⟩
            · rw [if_neg z]
              exact nxt t2 H2' K2 (fun h g => z ((gi h).mp g).2.2)
        · rw [if_pos f1]
          exact nxt t H1 K1 (fun h g => f2 ⟨h, fun v _ hv => ((gi h).mp g).2.1 v hv⟩)
      · rcases h6 with ⟨a, b⟩ | ⟨a, b⟩
        · exact Or.inl ⟨a, b, fun v h1 h2 => by omega⟩
        · exact Or.inr ⟨a, fun h => b h.1⟩
    by_cases q : 8 ^ k ≤ x
    · rw [if_pos (show Int32.ofNat (8 ^ k) ≤ Int32.ofNat x by rw [nz_le (by omega) (by omega)]; exact q)]
      exact main 0 (Or.inr ⟨rfl, by omega⟩)
    · rw [if_neg (show ¬ Int32.ofNat (8 ^ k) ≤ Int32.ofNat x by rw [nz_le (by omega) (by omega)]; exact q)]
      exact main 1 (Or.inl ⟨rfl, by omega⟩)
  · rintro n b t ⟨e1, H1, K1, Z⟩
    subst e1
    simp only [fX12_areWaxed_l3, fX12_areWaxed_b3]
    rw [if_pos (by decide)]
    exact ⟨H1, K1, Or.inr ⟨rfl, fun x hx => Z x (by omega) hx⟩⟩
