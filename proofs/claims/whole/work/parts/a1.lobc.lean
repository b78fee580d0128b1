def biI (b : Bool) : Int32 := if b = true then 1 else 0
def EcQ (np nw : Nat) (m : Int32) (h r : Nat) (b : Bool) (S : Vw) (t : Mem) : Int32 → Mem → Prop := fun v t' => HaC t' (h + 2) S np nw ∧ FrC (h + 1) (h + 15) t t' ∧ ((wnP np nw m r b S ∧ v = biI b) ∨ (¬ wnP np nw m r b S ∧ v = biI (!b)))
theorem bi01 (b : Bool) : biI b = 0 ∨ biI b = 1 := by cases b <;> decide
theorem bi_ne (b : Bool) : ¬ biI (!b) = biI b := by cases b <;> decide
theorem ecBy_C {N h np nw mm r : Nat} {b : Bool} {q0 : Nat → Int32 → Int32 → Int32 → Mem → Option (Int32 × Mem)} (hr : r < 5)
    (hq : ∀ S t, NmV S np nw → WxB S np r → HaC t (h + 2) S np nw → Ho (q0 h (Int32.ofNat mm) (Int32.ofNat r) (biI (!b)) t) (EcQ np nw (Int32.ofNat mm) h r (!b) S t))
    {S : Vw} {t : Mem} {p : Nat} (hp : p < np) (W : NmV S np nw) (X : WxB S np (r + 1)) (H : HaC t (h + 2) S np nw) :
    Ho (fX3_endsCarriedBy N h q0 (Int32.ofNat p) (Int32.ofNat mm) (Int32.ofNat (r + 1)) (biI b) t) (fun v t' => HaC t' (h + 2) S np nw ∧ FrC (h + 1) (h + 15) t t' ∧ ((wnP np nw (Int32.ofNat mm) r (!b) (wxV S p) ∧ v = biI (!b)) ∨ (¬ wnP np nw (Int32.ofNat mm) r (!b) (wxV S p) ∧ v = biI b))) := by
  have hn := W.1.1
  obtain ⟨x, hx, ex⟩ := X p hp
  have wx : t.1 (h + 2 + 10) p = Int32.ofNat x := by rw [(H.2.2.2.2.1 p hp).2.2.2.2.2.2.1, ex]
  have i8 : inb (Int32.ofNat p) 8 = true := by rw [nz_inb (by omega)]; exact decide_eq_true (by omega)
  have np' : (Int32.ofNat p).toNatClampNeg = p := nz_nat (by omega)
  have main : Ho (fX3_endsCarriedBy_b67 N h q0 (Int32.ofNat p) (biI (!b)) (Int32.ofNat r) (Int32.ofNat mm) h (pI t (h + 2 + 10) p (S 10 p + 1))) (fun v t' => HaC t' (h + 2) S np nw ∧ FrC (h + 1) (h + 15) t t' ∧ ((wnP np nw (Int32.ofNat mm) r (!b) (wxV S p) ∧ v = biI (!b)) ∨ (¬ wnP np nw (Int32.ofNat mm) r (!b) (wxV S p) ∧ v = biI b))) := by
    unfold fX3_endsCarriedBy_b67
    rw [ho_bd]
    have HU : HaC (pI t (h + 2 + 10) p (S 10 p + 1)) (h + 2) (wxV S p) np nw := H.wax
    refine ho_mono (hq _ _ W.wx X.wx HU) (fun v u ⟨H4, F4, Y⟩ => ?_)
    rw [ho_lte, gdT i8, gdT i8, np', ho_lte, show u.1 (h + 2 + 10) p = wxV S p 10 p from (H4.2.2.2.2.1 p hp).2.2.2.2.2.2.1]
    have H5 : HaC (pI u (h + 2 + 10) p (wxV S p 10 p - 1)) (h + 2) S np nw := by
      have := H4.wax (j := p) (v := wxV S p 10 p - 1)
      rw [wxV_back] at this; exact this
    have F5 : FrC (h + 1) (h + 15) t (pI u (h + 2 + 10) p (wxV S p 10 p - 1)) := (((FrC.refl _ _ _).pI (by omega)).trans F4).pI (by omega)
    rcases Y with ⟨y1, y2⟩ | ⟨y1, y2⟩
    · rw [gdD (by rw [y2]; exact bi01 _)]
      exact ⟨H5, F5, Or.inl ⟨y1, y2⟩⟩
    · rw [gdD (by rw [y2]; exact bi01 _)]
      exact ⟨H5, F5, Or.inr ⟨y1, by rw [y2, Bool.not_not]⟩⟩
  unfold fX3_endsCarriedBy
  rw [has_in (by rw [H.2.1, W.1.2.2.1]) hn hp, ho_bds, if_neg (by decide), gdT i8, np', wx, if_pos (show Int32.ofNat x < (9 : Int32) by rw [z_gt (by omega) (by omega)]; omega), gdT i8, gdT i8, ho_lte, z_sub1, ← ex]
  cases b with
  | false => rw [if_pos (show biI false = 0 from rfl)]; exact main
  | true => rw [if_neg (show ¬ biI true = 0 by decide)]; exact main
theorem ends_C {N h np nw mm : Nat} (hN : 10000 ≤ N) (hm : mm < 64) : ∀ (r d : Nat) (b : Bool) (S : Vw) (t : Mem), r < 5 → r + 1 ≤ d → NmV S np nw → WxB S np r → HaC t (h + 2) S np nw → Ho (gX3_endsCarried N d h (Int32.ofNat mm) (Int32.ofNat r) (biI b) t) (EcQ np nw (Int32.ofNat mm) h r b S t)
  | 0, d, b, S, t, h5, hd, W, X, H => by
    obtain ⟨d', rfl⟩ : ∃ d', d = d' + 1 := ⟨d - 1, by omega⟩
    simp only [gX3_endsCarried, fX3_endsCarried]
    rw [if_neg (by decide), ho_bd]
    refine ho_mono (vote_C W.1 H hN hm) (fun x u ⟨hx, V⟩ => ?_)
    have HU := H.frv V.1
    have FU : FrC (h + 1) (h + 15) t u := V.1.toC.wide (by omega) (by omega)
    have lc := lead_car W.1 (Int32.ofNat mm)
    rw [hx]
    by_cases q : carV S np nw (Int32.ofNat mm) = true
    · rw [if_neg (fun z => by rw [lc, q] at z; cases z)]
      refine ⟨HU, FU, ?_⟩
      simp only [wnP, q]
      cases b with
      | false => exact Or.inr ⟨by decide, rfl⟩
      | true => exact Or.inl ⟨rfl, rfl⟩
    · have q' : carV S np nw (Int32.ofNat mm) = false := by simpa using q
      rw [if_pos (lc.mpr q')]
      refine ⟨HU, FU, ?_⟩
      simp only [wnP, q']
      cases b with
      | false => exact Or.inl ⟨rfl, rfl⟩
      | true => exact Or.inr ⟨by decide, rfl⟩
  | r + 1, d, b, S, t, h5, hd, W, X, H => by
    have hn := W.1.1
    have ihr := ends_C (N := N) (h := h) (np := np) (nw := nw) (mm := mm) hN hm r
    obtain ⟨d', rfl⟩ : ∃ d', d = d' + 1 := ⟨d - 1, by omega⟩
    simp only [gX3_endsCarried, fX3_endsCarried]
    generalize hq0 : gX3_endsCarried N d' = q0 at ihr
    have ih0 : ∀ S t, NmV S np nw → WxB S np r → HaC t (h + 2) S np nw → Ho (q0 h (Int32.ofNat mm) (Int32.ofNat r) (biI (!b)) t) (EcQ np nw (Int32.ofNat mm) h r (!b) S t) := fun S t a1 a2 a3 => by
      rw [← hq0]; exact ends_C (N := N) (h := h) (np := np) (nw := nw) (mm := mm) hN hm r d' (!b) S t (by omega) (by omega) a1 a2 a3
    have main : Ho (fX3_endsCarried_b35 N h q0 (fun h => fX3_endsCarriedBy N h q0) (Int32.ofNat mm) (Int32.ofNat (r + 1)) (biI b) (biI (!b)) (Int32.ofNat r) (Int32.ofNat mm) h t) (EcQ np nw (Int32.ofNat mm) h (r + 1) b S t) := by
      unfold fX3_endsCarried_b35
      rw [ho_bd]
      refine ho_mono (ih0 S t W X.dn H) (fun v u ⟨HU, FU, Y⟩ => ?_)
      rcases Y with ⟨y1, y2⟩ | ⟨y1, y2⟩
      · rw [if_neg (show ¬ v = biI b by rw [y2]; exact bi_ne b), ho_lte]
        refine ho_loop (F := fun n (v4 : Int32) u => fX3_endsCarried_l47 N h q0 (fun h => fX3_endsCarriedBy N h q0) n (Int32.ofNat mm) (Int32.ofNat (r + 1)) (biI b) v4 u) (fun p v4 u => v4 = Int32.ofNat p ∧ HaC u (h + 2) S np nw ∧ FrC (h + 1) (h + 15) t u ∧ ∀ q, q < p → wnP np nw (Int32.ofNat mm) r (!b) (wxV S q)) np ?_ ?_ np N 0 0 u (by omega) (by omega) ⟨rfl, HU, FU, fun q hq => absurd hq (Nat.not_lt_zero q)⟩
        · rintro n p v4 u hp ⟨e1, H1, F1, Z⟩ rec
          subst e1
          have nxt : ∀ u, HaC u (h + 2) S np nw → FrC (h + 1) (h + 15) t u → wnP np nw (Int32.ofNat mm) r (!b) (wxV S p) → Ho (fX3_endsCarried_b90 N h q0 (fun h => fX3_endsCarriedBy N h q0) (fX3_endsCarried_l47 N h q0 (fun h => fX3_endsCarriedBy N h q0) n) (Int32.ofNat mm) (Int32.ofNat (r + 1)) (biI b) (Int32.ofNat p) u) (EcQ np nw (Int32.ofNat mm) h (r + 1) b S t) := by
            intro u HU FU yes
            unfold fX3_endsCarried_b90
            rw [ho_lte, nz_succ]
            refine rec _ _ ⟨rfl, HU, FU, fun q hq => ?_⟩
            by_cases c : q = p
            · subst c; exact yes
            · exact Z q (by omega)
          simp only [fX3_endsCarried_l47]
          unfold fX3_endsCarried_b47
          rw [show u.1 (h + 2 + 1) 0 = Int32.ofNat np by rw [H1.2.1, W.1.2.2.1], if_neg (show ¬ Int32.ofNat np ≤ Int32.ofNat p by rw [nz_le (by omega) (by omega)]; omega), sounds_C W.1 H1 hp hm, ho_bds]
          by_cases si : loudV S nw (Int32.ofNat mm) p < S 5 p
          · rw [if_pos si, if_pos rfl]
            exact nxt u H1 F1 ((SiV.wn hm r (!b) S (wxV S p) (SiV.of W X hp hm si)).mp y1)
          · rw [if_neg si, if_neg (by decide), ho_bd]
            refine ho_mono (ecBy_C (by omega) ih0 hp W X H1) (fun v u2 ⟨H2', F2, Y⟩ => ?_)
            rcases Y with ⟨z1, z2⟩ | ⟨z1, z2⟩
            · rw [if_neg (show ¬ v = biI b by rw [z2]; exact bi_ne b)]
              exact nxt u2 H2' (F1.trans F2) z1
            · rw [if_pos z2, gdD (bi01 b)]
              exact ⟨H2', F1.trans F2, Or.inl ⟨Or.inr ⟨p, hp, z1⟩, rfl⟩⟩
        · rintro n v4 u ⟨e1, H1, F1, Z⟩
          subst e1
          simp only [fX3_endsCarried_l47]
          unfold fX3_endsCarried_b47
          rw [show u.1 (h + 2 + 1) 0 = Int32.ofNat np by rw [H1.2.1, W.1.2.2.1], if_pos (show Int32.ofNat np ≤ Int32.ofNat np from Int32.le_refl _)]
          have no : ¬ wnP np nw (Int32.ofNat mm) (r + 1) b S := by
            rintro (h1 | ⟨p, h1, h2⟩)
            · exact h1 y1
            · exact h2 (Z p h1)
          cases b with
          | false => rw [if_pos (show biI false = 0 from rfl)]; exact ⟨H1, F1, Or.inr ⟨no, rfl⟩⟩
          | true => rw [if_neg (show ¬ biI true = 0 by decide)]; exact ⟨H1, F1, Or.inr ⟨no, rfl⟩⟩
      · rw [Bool.not_not] at y2
        rw [if_pos y2, gdD (bi01 b)]
        exact ⟨HU, FU, Or.inl ⟨Or.inl y1, rfl⟩⟩
    rw [if_pos (show (0 : Int32) < Int32.ofNat (r + 1) by rw [show (0 : Int32) = Int32.ofNat 0 from rfl, nz_lt (by omega) (by omega)]; omega), z_sub1]
    cases b with
    | false => rw [if_pos (show biI false = 0 from rfl)]; exact main
    | true => rw [if_neg (show ¬ biI true = 0 by decide)]; exact main
/-- what comes out, carried or not -/
def ocP (np nw : Nat) (m : Int32) (r : Nat) (b : Bool) (S : Vw) : Prop := if b = true then wnP np nw m r true S else ¬ wnP np nw m r false S
theorem ocP_0 {np nw : Nat} {m : Int32} {b : Bool} {S : Vw} : ocP np nw m 0 b S ↔ carV S np nw m = true := by
  unfold ocP
  cases b <;> simp [wnP]
theorem ocP_t {np nw r : Nat} {m : Int32} {S : Vw} : ocP np nw m (r + 1) true S ↔ (ocP np nw m r false S ∨ ∃ p, p < np ∧ ocP np nw m r false (wxV S p)) := by
  simp [ocP, wnP]
theorem ocP_f {np nw r : Nat} {m : Int32} {S : Vw} : ocP np nw m (r + 1) false S ↔ (ocP np nw m r true S ∧ ∀ p, p < np → ocP np nw m r true (wxV S p)) := by
  simp only [ocP, wnP, if_true, if_neg (show ¬ (false = true) by decide), Bool.not_false, not_or, not_exists, not_and, Classical.not_not]
theorem asT_nm {C : Vw} {np nw : Nat} (W : ChW C np nw) : NmV (asT C) np nw := by
  obtain ⟨W0, h1, h2, h3⟩ := W
  have u : ∀ i j, i ≠ 10 → i ≠ 0 → asT C i j = C i j := fun i j h1 h2 => if_neg (by omega)
  refine ⟨asT_wf W0, ?_, fun p hp => ?_, fun w hw => ?_⟩
  · rw [u 1 2 (by omega) (by omega)]; exact h1
  · rw [u 3 p (by omega) (by omega), u 4 p (by omega) (by omega)]; exact ⟨(h2 p hp).1, (h2 p hp).2.1⟩
  · rw [u 8 w (by omega) (by omega)]; exact h3 w hw
theorem asT_wx {C : Vw} {np r : Nat} (h : r ≤ 8) : WxB (asT C) np r := fun p _ => ⟨0, by omega, rfl⟩
/-- the first choice that carries: a piece, 8 (none waxed), or -1 -/
def FcP (np nw : Nat) (m : Int32) (r : Nat) (S : Vw) (v : Int32) : Prop :=
  (∃ p, p < np ∧ ocP np nw m r false (wxV S p) ∧ (∀ q, q < p → ¬ ocP np nw m r false (wxV S q)) ∧ v = Int32.ofNat p) ∨
  ((∀ q, q < np → ¬ ocP np nw m r false (wxV S q)) ∧ ((ocP np nw m r false S ∧ v = 8) ∨ (¬ ocP np nw m r false S ∧ v = -1)))
theorem oc_false {np nw r : Nat} {m : Int32} {S : Vw} : ocP np nw m r false S ↔ ¬ wnP np nw m r false S := by simp [ocP]
theorem lob_C {N h k np nw mm r : Nat} {C : Vw} {σ : Mem} (hN : 10000 ≤ N) (W : ChW C np nw) (H : ChC σ k C np nw) (hd : k + 9 ≤ h) (hm : mm < 64) (hr : r < 5) : Ho (fX3_lobbied N h k (Int32.ofNat mm) (Int32.ofNat r) σ) (fun v t => FrC (h + 1) (h + 15) σ t ∧ ((ocP np nw (Int32.ofNat mm) r true (asT C) ∧ v = 1) ∨ (¬ ocP np nw (Int32.ofNat mm) r true (asT C) ∧ v = 0))) := by
  unfold fX3_lobbied
  rw [ho_bd]
  refine ho_mono (enter_C hN W.1 H (by omega)) (fun _ s ⟨HA, _, _, F⟩ => ?_)
  rw [ho_bd]
  refine ho_mono (ends_C hN hm r 6 true (asT C) s hr (by omega) (asT_nm W) (asT_wx (by omega)) HA) (fun v u ⟨HU, FU, Y⟩ => ?_)
  have F2 := (F.wide (a' := h + 1) (b' := h + 15) (by omega) (by omega)).trans FU
  rcases Y with ⟨y1, y2⟩ | ⟨y1, y2⟩
  · rw [gdD (by rw [y2]; exact bi01 _)]
    exact ⟨F2, Or.inl ⟨by simpa [ocP] using y1, y2⟩⟩
  · rw [gdD (by rw [y2]; exact bi01 _)]
    exact ⟨F2, Or.inr ⟨by simpa [ocP] using y1, y2⟩⟩
theorem fst_C {N h k np nw mm r : Nat} {C : Vw} {σ : Mem} (hN : 10000 ≤ N) (W : ChW C np nw) (H : ChC σ k C np nw) (hd : k + 9 ≤ h) (hm : mm < 64) (hr : r < 4) : Ho (fX3_firstChoice N h k (Int32.ofNat mm) (Int32.ofNat (r + 1)) σ) (fun v t => FrC (h + 1) (h + 15) σ t ∧ FcP np nw (Int32.ofNat mm) r (asT C) v) := by
  have hn := W.1.1
  unfold fX3_firstChoice
  rw [ho_bd]
  refine ho_mono (enter_C hN W.1 H (by omega)) (fun _ s ⟨HA, _, _, F⟩ => ?_)
  rw [ho_lte]
  have ih0 : ∀ S t, NmV S np nw → WxB S np r → HaC t (h + 2) S np nw → Ho (gX3_endsCarried N 6 h (Int32.ofNat mm) (Int32.ofNat r) (biI (!true)) t) (EcQ np nw (Int32.ofNat mm) h r (!true) S t) := fun S t a1 a2 a3 => ends_C hN hm r 6 (!true) S t (by omega) (by omega) a1 a2 a3
  refine ho_loop (F := fun n (v4 : Int32) u => fX3_firstChoice_l11 N h n k (Int32.ofNat mm) (Int32.ofNat (r + 1)) v4 u) (fun p v4 u => v4 = Int32.ofNat p ∧ HaC u (h + 2) (asT C) np nw ∧ FrC (h + 1) (h + 15) σ u ∧ ∀ q, q < p → ¬ ocP np nw (Int32.ofNat mm) r false (wxV (asT C) q)) np ?_ ?_ np N 0 0 s (by omega) (by omega) ⟨rfl, HA, F.wide (by omega) (by omega), fun q hq => absurd hq (Nat.not_lt_zero q)⟩
  · rintro n p v4 u hp ⟨e1, H1, F1, Z⟩ rec
    subst e1
    simp only [fX3_firstChoice_l11]
    unfold fX3_firstChoice_b11
    rw [show u.1 k 0 = Int32.ofNat np by rw [F1.1 k (by omega), H.1, W.1.2.2.1], if_neg (show ¬ Int32.ofNat np ≤ Int32.ofNat p by rw [nz_le (by omega) (by omega)]; omega), ho_bd]
    refine ho_mono (ecBy_C (b := true) (by omega) ih0 hp (asT_nm W) (asT_wx (by omega)) H1) (fun v u2 ⟨H2', F2, Y⟩ => ?_)
    rcases Y with ⟨z1, z2⟩ | ⟨z1, z2⟩
    · rw [if_pos (show v = 0 from z2), ho_lte, nz_succ]
      refine rec _ _ ⟨rfl, H2', F1.trans F2, fun q hq => ?_⟩
      by_cases c : q = p
      · subst c; rw [oc_false]; exact fun z => z z1
      · exact Z q (by omega)
    · rw [if_neg (show ¬ v = 0 by rw [z2]; decide)]
      exact ⟨F1.trans F2, Or.inl ⟨p, hp, oc_false.mpr z1, Z, rfl⟩⟩
  · rintro n v4 u ⟨e1, H1, F1, Z⟩
    subst e1
    simp only [fX3_firstChoice_l11]
    unfold fX3_firstChoice_b11
    rw [show u.1 k 0 = Int32.ofNat np by rw [F1.1 k (by omega), H.1, W.1.2.2.1], if_pos (show Int32.ofNat np ≤ Int32.ofNat np from Int32.le_refl _), z_sub1, ho_bd]
    refine ho_mono (ih0 _ _ (asT_nm W) (asT_wx (by omega)) H1) (fun v u2 ⟨H2', F2, Y⟩ => ?_)
    rcases Y with ⟨z1, z2⟩ | ⟨z1, z2⟩
    · rw [if_pos (show v = 0 from z2)]
      exact ⟨F1.trans F2, Or.inr ⟨Z, Or.inr ⟨by rw [oc_false]; exact fun z => z z1, rfl⟩⟩⟩
    · rw [if_neg (show ¬ v = 0 by rw [z2]; decide)]
      exact ⟨F1.trans F2, Or.inr ⟨Z, Or.inl ⟨oc_false.mpr z1, rfl⟩⟩⟩
