/-! The hall as a view: S i j: i = 0 the hall's own (4 overs), 1 the room's own (0 pieces, 1 people, 2 damp), 2 kind, 3 wood, 4 age, 5 limit, 6 ear, 7 voices, 8 weight, 9 seat, 10 wax. -/
abbrev Vw : Type := Nat → Nat → Int32
def upV (S : Vw) (i j : Nat) (v : Int32) : Vw := fun a b => if a = i ∧ b = j then v else S a b
theorem upV_eq (S : Vw) (i j : Nat) (v : Int32) : upV S i j v i j = v := by simp [upV]
theorem upV_ne (S : Vw) {i j a b : Nat} (v : Int32) (h : ¬ (a = i ∧ b = j)) : upV S i j v a b = S a b := if_neg h
theorem pI_eq {σ : Mem} {k j : Nat} {v : Int32} : (pI σ k j v).1 k j = v := by simp [pI]
theorem pI_nq {σ : Mem} {k j a b : Nat} {v : Int32} (h : ¬ (a = k ∧ b = j)) : (pI σ k j v).1 a b = σ.1 a b := if_neg h
def ldV (S : Vw) (p : Nat) : Nat → Int32
  | 0 => 0
  | w + 1 => ldV S p w + (if S 9 w = Int32.ofNat p then S 8 w else 0)
def loadV (S : Vw) (nw p : Nat) : Int32 := ldV S p nw
def btV (v : Int32) : Nat → Int32
  | 0 => 0
  | k + 1 => btV v k + ((v >>> (Int32.ofNat k &&& 31)) &&& 1)
def bitsV (v : Int32) : Int32 := btV v 8
def sumV (S : Vw) (nw : Nat) (m : Int32) (p : Nat) : Int32 := loadV S nw p + S 4 p + S 1 2 * S 3 p + 3 * bitsV (S 6 p &&& m) - 4 * S 10 p
def loudV (S : Vw) (nw : Nat) (m : Int32) (p : Nat) : Int32 := mxI 0 (sumV S nw m p)
def overV (S : Vw) (p : Nat) : Bool := !decide ((S 0 4 >>> (Int32.ofNat p &&& 31)) &&& 1 = 0)
/-- what a piece that is not over says, a and n being the voices ahead of it -/
def wordV (S : Vw) (nw : Nat) (m : Int32) (p : Nat) (a n : Int32) : Int32 :=
  if S 2 p = 3 then (if a ≤ n then if n ≤ a then 0 else 1 else 2)
  else if S 2 p = 2 ∧ loadV S nw p = 0 then 0
  else if loudV S nw m p < S 5 p then (if S 2 p = 2 then 2 else 0) else (if S 2 p = 1 then 2 else 1)
def sayV (S : Vw) (nw : Nat) (m : Int32) (p : Nat) (a n : Int32) : Int32 := if overV S p = true then 0 else wordV S nw m p a n
def vtV (S : Vw) (nw : Nat) (m : Int32) : Nat → Int32 × Int32
  | 0 => (0, 0)
  | p + 1 => ((vtV S nw m p).1 + (if sayV S nw m p (vtV S nw m p).1 (vtV S nw m p).2 = 1 then S 7 p else 0), (vtV S nw m p).2 + (if sayV S nw m p (vtV S nw m p).1 (vtV S nw m p).2 = 2 then S 7 p else 0))
def saidV (S : Vw) (nw : Nat) (m : Int32) (p : Nat) : Int32 := sayV S nw m p (vtV S nw m p).1 (vtV S nw m p).2
/-- how a hall is: np pieces, nw people, numbers as they can be -/
def WfV (S : Vw) (np nw : Nat) : Prop := np ≤ 8 ∧ nw ≤ 6 ∧ S 1 0 = Int32.ofNat np ∧ S 1 1 = Int32.ofNat nw ∧
  (∀ p, p < np → S 2 p = 0 ∨ S 2 p = 1 ∨ S 2 p = 2 ∨ S 2 p = 3) ∧ (∀ p, p < np → ∃ e, e < 64 ∧ S 6 p = Int32.ofNat e) ∧
  (∀ p, p < np → 1 ≤ S 7 p ∧ S 7 p ≤ 9) ∧ (∀ w, w < nw → S 9 w = 8 ∨ ∃ p, p < np ∧ S 9 w = Int32.ofNat p)
/-- two views that agree where an answer looks -/
def EqV (S T : Vw) (np nw : Nat) : Prop := S 0 4 = T 0 4 ∧ S 1 2 = T 1 2 ∧ (∀ p, p < np → S 2 p = T 2 p ∧ S 3 p = T 3 p ∧ S 4 p = T 4 p ∧ S 5 p = T 5 p ∧ S 6 p = T 6 p ∧ S 7 p = T 7 p ∧ S 10 p = T 10 p) ∧ (∀ w, w < nw → S 8 w = T 8 w ∧ S 9 w = T 9 w)
theorem nz_and1 (x : Int32) : x &&& 1 = 0 ∨ x &&& 1 = 1 := by
  have h : (x &&& 1).toBitVec = 0#32 ∨ (x &&& 1).toBitVec = 1#32 := by
    have h1 : (x &&& 1).toBitVec = x.toBitVec &&& 1#32 := rfl
    rw [h1]
    generalize x.toBitVec = y
    have h2 : (y &&& 1#32).toNat = y.toNat % 2 := by
      rw [BitVec.toNat_and]; exact Nat.and_one_is_mod _
    rcases Nat.mod_two_eq_zero_or_one y.toNat with h3 | h3
    · left; apply BitVec.eq_of_toNat_eq; rw [h2, h3]; rfl
    · right; apply BitVec.eq_of_toNat_eq; rw [h2, h3]; rfl
  rcases h with h | h
  · left; exact Int32.toBitVec_inj.mp h
  · right; exact Int32.toBitVec_inj.mp h
theorem bits_and : ∀ a, a < 64 → ∀ b, b < 64 → Int32.ofNat a &&& Int32.ofNat b = Int32.ofNat (a &&& b) := by decide +kernel
theorem nat_and64 {a b : Nat} (h : a < 64) : a &&& b < 64 := Nat.lt_of_le_of_lt Nat.and_le_left h
def bcI (v0 : Int32) : Int32 :=
  lt_ (v0 - ((usI v0 1) &&& 1431655765)) (fun v0_1 => lt_ ((v0_1 &&& 858993459) + ((usI v0_1 2) &&& 858993459)) (fun v0_2 => lt_ ((v0_2 + (usI v0_2 4)) &&& 252645135) (fun v0_3 => lt_ (v0_3 + (usI v0_3 8)) (fun v0_4 => lt_ (v0_4 + (usI v0_4 16)) (fun v0_5 => v0_5 &&& 63)))))
theorem bc_bits : ∀ a, a < 256 → bcI (Int32.ofNat a) = bitsV (Int32.ofNat a) := by decide +kernel
theorem bc_J6 (N : Nat) (v : Int32) (σ : Mem) : fJ6_bitCount_0f7a4 N v σ = some (bcI v, σ) := rfl
theorem ldV_congr {S T : Vw} {p : Nat} : ∀ nw, (∀ w, w < nw → S 8 w = T 8 w ∧ S 9 w = T 9 w) → ldV S p nw = ldV T p nw
  | 0, _ => rfl
  | w + 1, h => by
    have ih := ldV_congr (S := S) (T := T) (p := p) w (fun v hv => h v (Nat.lt_succ_of_lt hv))
    have h1 := h w (Nat.lt_succ_self w)
    simp only [ldV, ih, h1.1, h1.2]
theorem EqV.load {S T : Vw} {np nw : Nat} (h : EqV S T np nw) (p : Nat) : loadV S nw p = loadV T nw p := ldV_congr nw h.2.2.2
theorem EqV.loud {S T : Vw} {np nw : Nat} (h : EqV S T np nw) {p : Nat} (hp : p < np) (m : Int32) : loudV S nw m p = loudV T nw m p := by
  obtain ⟨h1, h2, h3, h4, h5, h6, h7⟩ := h.2.2.1 p hp
  unfold loudV sumV
  rw [h.load p, h.2.1, h2, h3, h5, h7]
theorem EqV.say {S T : Vw} {np nw : Nat} (h : EqV S T np nw) {p : Nat} (hp : p < np) (m a n : Int32) : sayV S nw m p a n = sayV T nw m p a n := by
  obtain ⟨h1, h2, h3, h4, h5, h6, h7⟩ := h.2.2.1 p hp
  unfold sayV wordV overV
  rw [h.load p, h.loud hp m, h.1, h1, h4]
theorem EqV.vt {S T : Vw} {np nw : Nat} (h : EqV S T np nw) (m : Int32) : ∀ p, p ≤ np → vtV S nw m p = vtV T nw m p
  | 0, _ => rfl
  | p + 1, hp => by
    have ih := EqV.vt h m p (Nat.le_of_succ_le hp)
    simp only [vtV, ih, h.say hp, (h.2.2.1 p hp).2.2.2.2.2.1]
theorem EqV.said {S T : Vw} {np nw : Nat} (h : EqV S T np nw) {p : Nat} (hp : p < np) (m : Int32) : saidV S nw m p = saidV T nw m p := by
  unfold saidV
  rw [h.vt m p (Nat.le_of_lt hp), h.say hp]
theorem EqV.refl (S : Vw) (np nw : Nat) : EqV S S np nw := ⟨rfl, rfl, fun _ _ => ⟨rfl, rfl, rfl, rfl, rfl, rfl, rfl⟩, fun _ _ => ⟨rfl, rfl⟩⟩
/-- voices are few -/
theorem vt_bd {S : Vw} {np nw : Nat} (h : WfV S np nw) (m : Int32) : ∀ p, p ≤ np → (0 ≤ (vtV S nw m p).1.toInt ∧ (vtV S nw m p).1.toInt ≤ 9 * p) ∧ (0 ≤ (vtV S nw m p).2.toInt ∧ (vtV S nw m p).2.toInt ≤ 9 * p)
  | 0, _ => by simp [vtV]
  | p + 1, hp => by
    obtain ⟨⟨a1, a2⟩, b1, b2⟩ := vt_bd h m p (Nat.le_of_succ_le hp)
    have hv := h.2.2.2.2.2.2.1 p hp
    have hn := h.1
    have v1 : 1 ≤ (S 7 p).toInt := by simpa [Int32.le_iff_toInt_le] using hv.1
    have v2 : (S 7 p).toInt ≤ 9 := by simpa [Int32.le_iff_toInt_le] using hv.2
    have key : ∀ (x y : Int32), 0 ≤ x.toInt → x.toInt ≤ 9 * p → 0 ≤ y.toInt → y.toInt ≤ 9 → 0 ≤ (x + y).toInt ∧ (x + y).toInt ≤ 9 * (p + 1 : Nat) := by
      intro x y h1 h2 h3 h4
      have h5 : (x + y).toInt = x.toInt + y.toInt := by
        rw [Int32.toInt_add]
        apply Int.bmod_eq_of_le <;> omega
      rw [h5]; omega
    refine ⟨?_, ?_⟩
    · simp only [vtV]
      split
      · exact key _ _ a1 a2 (by omega) v2
      · exact key _ _ a1 a2 (by decide) (by decide)
    · simp only [vtV]
      split
      · exact key _ _ b1 b2 (by omega) v2
      · exact key _ _ b1 b2 (by decide) (by decide)
def ayV (S : Vw) (np nw : Nat) (m : Int32) : Int32 := (vtV S nw m np).1
def noV (S : Vw) (np nw : Nat) (m : Int32) : Int32 := (vtV S nw m np).2
def carV (S : Vw) (np nw : Nat) (m : Int32) : Bool := decide (noV S np nw m < ayV S np nw m)
theorem ay_bd {S : Vw} {np nw : Nat} (h : WfV S np nw) (m : Int32) : 0 ≤ (ayV S np nw m).toInt ∧ (ayV S np nw m).toInt ≤ 72 ∧ 0 ≤ (noV S np nw m).toInt ∧ (noV S np nw m).toInt ≤ 72 := by
  have h1 := vt_bd h m np (Nat.le_refl np)
  have h2 := h.1
  unfold ayV noV
  omega
theorem lead_toInt {S : Vw} {np nw : Nat} (h : WfV S np nw) (m : Int32) : (ayV S np nw m - noV S np nw m).toInt = (ayV S np nw m).toInt - (noV S np nw m).toInt := by
  have h1 := ay_bd h m
  rw [Int32.toInt_sub]
  apply Int.bmod_eq_of_le <;> omega
theorem lead_car {S : Vw} {np nw : Nat} (h : WfV S np nw) (m : Int32) : (ayV S np nw m - noV S np nw m ≤ 0) ↔ carV S np nw m = false := by
  have h1 := lead_toInt h m
  unfold carV
  rw [Int32.le_iff_toInt_le, h1, decide_eq_false_iff_not, Int32.lt_iff_toInt_lt]
  simp
  omega
theorem EqV.car {S T : Vw} {np nw : Nat} (h : EqV S T np nw) (m : Int32) : carV S np nw m = carV T np nw m ∧ ayV S np nw m = ayV T np nw m ∧ noV S np nw m = noV T np nw m := by
  unfold carV ayV noV
  rw [h.vt m np (Nat.le_refl np)]
  exact ⟨rfl, rfl, rfl⟩
