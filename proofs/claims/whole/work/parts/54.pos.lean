def s0L : List (Nat × Nat × Int32) := [(1, 3, (-1)), (7, 2, 3), (16, 2, 3), (44, 3, (-1)), (50, 2, 3), (59, 2, 3), (86, 3, (-1)), (92, 2, 3), (101, 2, 3), (128, 3, (-1)), (134, 2, 3), (143, 2, 3), (172, 2, 3), (193, 2, 3), (207, 2, 3), (222, 2, 3), (239, 2, 3), (254, 2, 3), (171, 5, 190), (220, 1, 234), (220, 2, 235)]
def s0F (l : List (Nat × Nat × Int32)) (k j : Nat) : Int32 := match l with
  | [] => 0
  | q :: l => if q.1 = k ∧ q.2.1 = j then q.2.2 else s0F l k j
def s0C : Mem := (fun k j => s0F (s0L.filter (fun q => q.1 == k)) k j, fun _ _ => 0)
def s0M : Mem := (fun k j => if k = 1 then upd (fun _ => 0) (6 : Int32).toNatClampNeg (-1) j else 0, fun _ _ => 0)
theorem at_ref {D : va_G} {H : Heap} {a n : Nat} {cA : ClassId} {f g : Nat → Option Nat} (h : va_at D classes (a, .inl (cA, n, .inr (.inr (.inr (.inr f))))) H) (hfg : ∀ j, j < n → f j = g j) : va_at D classes (a, .inl (cA, n, .inr (.inr (.inr (.inr g))))) H := by
  show H[a]? = some (vp_cell cA (n, .inr (.inr (.inr (.inr g)))))
  rw [vp_cell_q, ← arrV_ext (f := fun j => va_rf (f j)) (fun j hj => by rw [hfg j hj]), ← vp_cell_q]
  exact h
theorem P_l {D : va_G} {cl : List vw_C} {a b : va_W} {H : Heap} (h : va_P D cl (a ++ b) H) : va_P D cl a H := fun k q hk => h k q (by rw [List.getElem?_append_left (List.getElem?_eq_some_iff.mp hk).1]; exact hk)
theorem P_r {D : va_G} {cl : List vw_C} {a b : va_W} {H : Heap} (h : va_P D cl (a ++ b) H) : va_P D cl b H := fun k q hk => h (a.length + k) q (by rw [List.getElem?_append_right (by omega)]; rw [Nat.add_sub_cancel_left]; exact hk)
theorem P_t {D : va_G} {cl : List vw_C} {x : Nat × va_E} {b : va_W} {H : Heap} (h : va_P D cl (x :: b) H) : va_P D cl b H := fun k q hk => h (k + 1) q (by rw [List.getElem?_cons_succ]; exact hk)
set_option maxRecDepth 100000 in
set_option maxHeartbeats 2000000 in
theorem pb0_7 {z : Sx} {u : Nat → Nat} {H : Heap} (h : va_P z.1 classes (PW_0 z (fun i => u (7 + i))) H) : ∀ k ∈ ([7, 8, 9, 10, 11, 12, 13, 14, 15] : List Nat), va_at z.1 classes (u k, ent kdC z.2.1 u s0C k) H := by
  unfold PW_0 at h
  have g0 := h
  exact List.forall_mem_cons.mpr ⟨g0 0 _ rfl, List.forall_mem_cons.mpr ⟨g0 1 _ rfl, List.forall_mem_cons.mpr ⟨g0 2 _ rfl, List.forall_mem_cons.mpr ⟨g0 3 _ rfl, List.forall_mem_cons.mpr ⟨g0 4 _ rfl, List.forall_mem_cons.mpr ⟨g0 5 _ rfl, List.forall_mem_cons.mpr ⟨g0 6 _ rfl, List.forall_mem_cons.mpr ⟨g0 7 _ rfl, List.forall_mem_cons.mpr ⟨g0 8 _ rfl, fun _ h => absurd h List.not_mem_nil⟩⟩⟩⟩⟩⟩⟩⟩⟩
set_option maxRecDepth 100000 in
set_option maxHeartbeats 2000000 in
theorem pb8_25 {z : Sx} {u : Nat → Nat} {H : Heap} (h : va_P z.1 classes (PW_8 z (fun i => u (25 + i))) H) : ∀ k ∈ ([25, 26, 27, 28] : List Nat), va_at z.1 classes (u k, ent kdC z.2.1 u s0C k) H := by
  unfold PW_8 at h
  have g0 := h
  exact List.forall_mem_cons.mpr ⟨g0 0 _ rfl, List.forall_mem_cons.mpr ⟨g0 1 _ rfl, List.forall_mem_cons.mpr ⟨g0 2 _ rfl, List.forall_mem_cons.mpr ⟨g0 3 _ rfl, fun _ h => absurd h List.not_mem_nil⟩⟩⟩⟩
set_option maxRecDepth 100000 in
set_option maxHeartbeats 2000000 in
theorem pb4_33 {z : Sx} {u : Nat → Nat} {H : Heap} (h : va_P z.1 classes (PW_4 z (fun i => u (33 + i))) H) : ∀ k ∈ ([33, 34, 35, 36, 37] : List Nat), va_at z.1 classes (u k, ent kdC z.2.1 u s0C k) H := by
  unfold PW_4 at h
  have g0 := h
  exact List.forall_mem_cons.mpr ⟨g0 0 _ rfl, List.forall_mem_cons.mpr ⟨g0 1 _ rfl, List.forall_mem_cons.mpr ⟨g0 2 _ rfl, List.forall_mem_cons.mpr ⟨g0 3 _ rfl, List.forall_mem_cons.mpr ⟨g0 4 _ rfl, fun _ h => absurd h List.not_mem_nil⟩⟩⟩⟩⟩
set_option maxRecDepth 100000 in
set_option maxHeartbeats 2000000 in
theorem pb0_16 {z : Sx} {u : Nat → Nat} {H : Heap} (h : va_P z.1 classes (PW_0 z (fun i => u (16 + i))) H) : ∀ k ∈ ([16, 17, 18, 19, 20, 21, 22, 23, 24] : List Nat), va_at z.1 classes (u k, ent kdC z.2.1 u s0C k) H := by
  unfold PW_0 at h
  have g0 := h
  exact List.forall_mem_cons.mpr ⟨g0 0 _ rfl, List.forall_mem_cons.mpr ⟨g0 1 _ rfl, List.forall_mem_cons.mpr ⟨g0 2 _ rfl, List.forall_mem_cons.mpr ⟨g0 3 _ rfl, List.forall_mem_cons.mpr ⟨g0 4 _ rfl, List.forall_mem_cons.mpr ⟨g0 5 _ rfl, List.forall_mem_cons.mpr ⟨g0 6 _ rfl, List.forall_mem_cons.mpr ⟨g0 7 _ rfl, List.forall_mem_cons.mpr ⟨g0 8 _ rfl, fun _ h => absurd h List.not_mem_nil⟩⟩⟩⟩⟩⟩⟩⟩⟩
set_option maxRecDepth 100000 in
set_option maxHeartbeats 2000000 in
theorem pb8_29 {z : Sx} {u : Nat → Nat} {H : Heap} (h : va_P z.1 classes (PW_8 z (fun i => u (29 + i))) H) : ∀ k ∈ ([29, 30, 31, 32] : List Nat), va_at z.1 classes (u k, ent kdC z.2.1 u s0C k) H := by
  unfold PW_8 at h
  have g0 := h
  exact List.forall_mem_cons.mpr ⟨g0 0 _ rfl, List.forall_mem_cons.mpr ⟨g0 1 _ rfl, List.forall_mem_cons.mpr ⟨g0 2 _ rfl, List.forall_mem_cons.mpr ⟨g0 3 _ rfl, fun _ h => absurd h List.not_mem_nil⟩⟩⟩⟩
set_option maxRecDepth 100000 in
set_option maxHeartbeats 2000000 in
theorem pb4_38 {z : Sx} {u : Nat → Nat} {H : Heap} (h : va_P z.1 classes (PW_4 z (fun i => u (38 + i))) H) : ∀ k ∈ ([38, 39, 40, 41, 42] : List Nat), va_at z.1 classes (u k, ent kdC z.2.1 u s0C k) H := by
  unfold PW_4 at h
  have g0 := h
  exact List.forall_mem_cons.mpr ⟨g0 0 _ rfl, List.forall_mem_cons.mpr ⟨g0 1 _ rfl, List.forall_mem_cons.mpr ⟨g0 2 _ rfl, List.forall_mem_cons.mpr ⟨g0 3 _ rfl, List.forall_mem_cons.mpr ⟨g0 4 _ rfl, fun _ h => absurd h List.not_mem_nil⟩⟩⟩⟩⟩
set_option maxRecDepth 100000 in
set_option maxHeartbeats 2000000 in
theorem pb9_1 {z : Sx} {u : Nat → Nat} {H : Heap} (h : va_P z.1 classes (PW_9 z (fun i => u (1 + i))) H) : ∀ k ∈ ([1, 2, 3, 4, 5, 6, 7, 8, 9, 10, 11, 12, 13, 14, 15, 16, 17, 18, 19, 20, 21, 22, 23, 24, 25, 26, 27, 28, 29, 30, 31, 32, 33, 34, 35, 36, 37, 38, 39, 40, 41, 42] : List Nat), va_at z.1 classes (u k, ent kdC z.2.1 u s0C k) H := by
  unfold PW_9 at h
  have g0 := (P_l (P_l (P_l (P_l (P_l (P_l h))))))
  have g1 := pb0_7 (z := z) (u := u) (P_r (P_l (P_l (P_l (P_l (P_l h))))))
  have g2 := pb8_25 (z := z) (u := u) (P_r (P_l (P_l (P_l (P_l h)))))
  have g3 := pb4_33 (z := z) (u := u) (P_r (P_l (P_l (P_l h))))
  have g4 := pb0_16 (z := z) (u := u) (P_r (P_l (P_l h)))
  have g5 := pb8_29 (z := z) (u := u) (P_r (P_l h))
  have g6 := pb4_38 (z := z) (u := u) (P_r h)
  exact List.forall_mem_cons.mpr ⟨g0 0 _ rfl, List.forall_mem_cons.mpr ⟨g0 1 _ rfl, List.forall_mem_cons.mpr ⟨g0 2 _ rfl, List.forall_mem_cons.mpr ⟨at_ref (n := 2) (g0 3 _ rfl) (fun j hj => by rcases (show j = 0 ∨ j = 1 by omega) with rfl | rfl <;> rfl), List.forall_mem_cons.mpr ⟨at_ref (n := 2) (g0 4 _ rfl) (fun j hj => by rcases (show j = 0 ∨ j = 1 by omega) with rfl | rfl <;> rfl), List.forall_mem_cons.mpr ⟨at_ref (n := 2) (g0 5 _ rfl) (fun j hj => by rcases (show j = 0 ∨ j = 1 by omega) with rfl | rfl <;> rfl), List.forall_mem_cons.mpr ⟨g1 7 (by decide), List.forall_mem_cons.mpr ⟨g1 8 (by decide), List.forall_mem_cons.mpr ⟨g1 9 (by decide), List.forall_mem_cons.mpr ⟨g1 10 (by decide), List.forall_mem_cons.mpr ⟨g1 11 (by decide), List.forall_mem_cons.mpr ⟨g1 12 (by decide), List.forall_mem_cons.mpr ⟨g1 13 (by decide), List.forall_mem_cons.mpr ⟨g1 14 (by decide), List.forall_mem_cons.mpr ⟨g1 15 (by decide), List.forall_mem_cons.mpr ⟨g4 16 (by decide), List.forall_mem_cons.mpr ⟨g4 17 (by decide), List.forall_mem_cons.mpr ⟨g4 18 (by decide), List.forall_mem_cons.mpr ⟨g4 19 (by decide), List.forall_mem_cons.mpr ⟨g4 20 (by decide), List.forall_mem_cons.mpr ⟨g4 21 (by decide), List.forall_mem_cons.mpr ⟨g4 22 (by decide), List.forall_mem_cons.mpr ⟨g4 23 (by decide), List.forall_mem_cons.mpr ⟨g4 24 (by decide), List.forall_mem_cons.mpr ⟨g2 25 (by decide), List.forall_mem_cons.mpr ⟨g2 26 (by decide), List.forall_mem_cons.mpr ⟨g2 27 (by decide), List.forall_mem_cons.mpr ⟨g2 28 (by decide), List.forall_mem_cons.mpr ⟨g5 29 (by decide), List.forall_mem_cons.mpr ⟨g5 30 (by decide), List.forall_mem_cons.mpr ⟨g5 31 (by decide), List.forall_mem_cons.mpr ⟨g5 32 (by decide), List.forall_mem_cons.mpr ⟨g3 33 (by decide), List.forall_mem_cons.mpr ⟨g3 34 (by decide), List.forall_mem_cons.mpr ⟨g3 35 (by decide), List.forall_mem_cons.mpr ⟨g3 36 (by decide), List.forall_mem_cons.mpr ⟨g3 37 (by decide), List.forall_mem_cons.mpr ⟨g6 38 (by decide), List.forall_mem_cons.mpr ⟨g6 39 (by decide), List.forall_mem_cons.mpr ⟨g6 40 (by decide), List.forall_mem_cons.mpr ⟨g6 41 (by decide), List.forall_mem_cons.mpr ⟨g6 42 (by decide), fun _ h => absurd h List.not_mem_nil⟩⟩⟩⟩⟩⟩⟩⟩⟩⟩⟩⟩⟩⟩⟩⟩⟩⟩⟩⟩⟩⟩⟩⟩⟩⟩⟩⟩⟩⟩⟩⟩⟩⟩⟩⟩⟩⟩⟩⟩⟩⟩
set_option maxRecDepth 100000 in
set_option maxHeartbeats 2000000 in
theorem pb0_50 {z : Sx} {u : Nat → Nat} {H : Heap} (h : va_P z.1 classes (PW_0 z (fun i => u (50 + i))) H) : ∀ k ∈ ([50, 51, 52, 53, 54, 55, 56, 57, 58] : List Nat), va_at z.1 classes (u k, ent kdC z.2.1 u s0C k) H := by
  unfold PW_0 at h
  have g0 := h
  exact List.forall_mem_cons.mpr ⟨g0 0 _ rfl, List.forall_mem_cons.mpr ⟨g0 1 _ rfl, List.forall_mem_cons.mpr ⟨g0 2 _ rfl, List.forall_mem_cons.mpr ⟨g0 3 _ rfl, List.forall_mem_cons.mpr ⟨g0 4 _ rfl, List.forall_mem_cons.mpr ⟨g0 5 _ rfl, List.forall_mem_cons.mpr ⟨g0 6 _ rfl, List.forall_mem_cons.mpr ⟨g0 7 _ rfl, List.forall_mem_cons.mpr ⟨g0 8 _ rfl, fun _ h => absurd h List.not_mem_nil⟩⟩⟩⟩⟩⟩⟩⟩⟩
set_option maxRecDepth 100000 in
set_option maxHeartbeats 2000000 in
theorem pb8_68 {z : Sx} {u : Nat → Nat} {H : Heap} (h : va_P z.1 classes (PW_8 z (fun i => u (68 + i))) H) : ∀ k ∈ ([68, 69, 70, 71] : List Nat), va_at z.1 classes (u k, ent kdC z.2.1 u s0C k) H := by
  unfold PW_8 at h
  have g0 := h
  exact List.forall_mem_cons.mpr ⟨g0 0 _ rfl, List.forall_mem_cons.mpr ⟨g0 1 _ rfl, List.forall_mem_cons.mpr ⟨g0 2 _ rfl, List.forall_mem_cons.mpr ⟨g0 3 _ rfl, fun _ h => absurd h List.not_mem_nil⟩⟩⟩⟩
set_option maxRecDepth 100000 in
set_option maxHeartbeats 2000000 in
theorem pb4_76 {z : Sx} {u : Nat → Nat} {H : Heap} (h : va_P z.1 classes (PW_4 z (fun i => u (76 + i))) H) : ∀ k ∈ ([76, 77, 78, 79, 80] : List Nat), va_at z.1 classes (u k, ent kdC z.2.1 u s0C k) H := by
  unfold PW_4 at h
  have g0 := h
  exact List.forall_mem_cons.mpr ⟨g0 0 _ rfl, List.forall_mem_cons.mpr ⟨g0 1 _ rfl, List.forall_mem_cons.mpr ⟨g0 2 _ rfl, List.forall_mem_cons.mpr ⟨g0 3 _ rfl, List.forall_mem_cons.mpr ⟨g0 4 _ rfl, fun _ h => absurd h List.not_mem_nil⟩⟩⟩⟩⟩
set_option maxRecDepth 100000 in
set_option maxHeartbeats 2000000 in
theorem pb0_59 {z : Sx} {u : Nat → Nat} {H : Heap} (h : va_P z.1 classes (PW_0 z (fun i => u (59 + i))) H) : ∀ k ∈ ([59, 60, 61, 62, 63, 64, 65, 66, 67] : List Nat), va_at z.1 classes (u k, ent kdC z.2.1 u s0C k) H := by
  unfold PW_0 at h
  have g0 := h
  exact List.forall_mem_cons.mpr ⟨g0 0 _ rfl, List.forall_mem_cons.mpr ⟨g0 1 _ rfl, List.forall_mem_cons.mpr ⟨g0 2 _ rfl, List.forall_mem_cons.mpr ⟨g0 3 _ rfl, List.forall_mem_cons.mpr ⟨g0 4 _ rfl, List.forall_mem_cons.mpr ⟨g0 5 _ rfl, List.forall_mem_cons.mpr ⟨g0 6 _ rfl, List.forall_mem_cons.mpr ⟨g0 7 _ rfl, List.forall_mem_cons.mpr ⟨g0 8 _ rfl, fun _ h => absurd h List.not_mem_nil⟩⟩⟩⟩⟩⟩⟩⟩⟩
set_option maxRecDepth 100000 in
set_option maxHeartbeats 2000000 in
theorem pb8_72 {z : Sx} {u : Nat → Nat} {H : Heap} (h : va_P z.1 classes (PW_8 z (fun i => u (72 + i))) H) : ∀ k ∈ ([72, 73, 74, 75] : List Nat), va_at z.1 classes (u k, ent kdC z.2.1 u s0C k) H := by
  unfold PW_8 at h
  have g0 := h
  exact List.forall_mem_cons.mpr ⟨g0 0 _ rfl, List.forall_mem_cons.mpr ⟨g0 1 _ rfl, List.forall_mem_cons.mpr ⟨g0 2 _ rfl, List.forall_mem_cons.mpr ⟨g0 3 _ rfl, fun _ h => absurd h List.not_mem_nil⟩⟩⟩⟩
set_option maxRecDepth 100000 in
set_option maxHeartbeats 2000000 in
theorem pb4_81 {z : Sx} {u : Nat → Nat} {H : Heap} (h : va_P z.1 classes (PW_4 z (fun i => u (81 + i))) H) : ∀ k ∈ ([81, 82, 83, 84, 85] : List Nat), va_at z.1 classes (u k, ent kdC z.2.1 u s0C k) H := by
  unfold PW_4 at h
  have g0 := h
  exact List.forall_mem_cons.mpr ⟨g0 0 _ rfl, List.forall_mem_cons.mpr ⟨g0 1 _ rfl, List.forall_mem_cons.mpr ⟨g0 2 _ rfl, List.forall_mem_cons.mpr ⟨g0 3 _ rfl, List.forall_mem_cons.mpr ⟨g0 4 _ rfl, fun _ h => absurd h List.not_mem_nil⟩⟩⟩⟩⟩
set_option maxRecDepth 100000 in
set_option maxHeartbeats 2000000 in
theorem pb9_44 {z : Sx} {u : Nat → Nat} {H : Heap} (h : va_P z.1 classes (PW_9 z (fun i => u (44 + i))) H) : ∀ k ∈ ([44, 45, 46, 47, 48, 49, 50, 51, 52, 53, 54, 55, 56, 57, 58, 59, 60, 61, 62, 63, 64, 65, 66, 67, 68, 69, 70, 71, 72, 73, 74, 75, 76, 77, 78, 79, 80, 81, 82, 83, 84, 85] : List Nat), va_at z.1 classes (u k, ent kdC z.2.1 u s0C k) H := by
  unfold PW_9 at h
  have g0 := (P_l (P_l (P_l (P_l (P_l (P_l h))))))
  have g1 := pb0_50 (z := z) (u := u) (P_r (P_l (P_l (P_l (P_l (P_l h))))))
  have g2 := pb8_68 (z := z) (u := u) (P_r (P_l (P_l (P_l (P_l h)))))
  have g3 := pb4_76 (z := z) (u := u) (P_r (P_l (P_l (P_l h))))
  have g4 := pb0_59 (z := z) (u := u) (P_r (P_l (P_l h)))
  have g5 := pb8_72 (z := z) (u := u) (P_r (P_l h))
  have g6 := pb4_81 (z := z) (u := u) (P_r h)
  exact List.forall_mem_cons.mpr ⟨g0 0 _ rfl, List.forall_mem_cons.mpr ⟨g0 1 _ rfl, List.forall_mem_cons.mpr ⟨g0 2 _ rfl, List.forall_mem_cons.mpr ⟨at_ref (n := 2) (g0 3 _ rfl) (fun j hj => by rcases (show j = 0 ∨ j = 1 by omega) with rfl | rfl <;> rfl), List.forall_mem_cons.mpr ⟨at_ref (n := 2) (g0 4 _ rfl) (fun j hj => by rcases (show j = 0 ∨ j = 1 by omega) with rfl | rfl <;> rfl), List.forall_mem_cons.mpr ⟨at_ref (n := 2) (g0 5 _ rfl) (fun j hj => by rcases (show j = 0 ∨ j = 1 by omega) with rfl | rfl <;> rfl), List.forall_mem_cons.mpr ⟨g1 50 (by decide), List.forall_mem_cons.mpr ⟨g1 51 (by decide), List.forall_mem_cons.mpr ⟨g1 52 (by decide), List.forall_mem_cons.mpr ⟨g1 53 (by decide), List.forall_mem_cons.mpr ⟨g1 54 (by decide), List.forall_mem_cons.mpr ⟨g1 55 (by decide), List.forall_mem_cons.mpr ⟨g1 56 (by decide), List.forall_mem_cons.mpr ⟨g1 57 (by decide), List.forall_mem_cons.mpr ⟨g1 58 (by decide), List.forall_mem_cons.mpr ⟨g4 59 (by decide), List.forall_mem_cons.mpr ⟨g4 60 (by decide), List.forall_mem_cons.mpr ⟨g4 61 (by decide), List.forall_mem_cons.mpr ⟨g4 62 (by decide), List.forall_mem_cons.mpr ⟨g4 63 (by decide), List.forall_mem_cons.mpr ⟨g4 64 (by decide), List.forall_mem_cons.mpr ⟨g4 65 (by decide), List.forall_mem_cons.mpr ⟨g4 66 (by decide), List.forall_mem_cons.mpr ⟨g4 67 (by decide), List.forall_mem_cons.mpr ⟨g2 68 (by decide), List.forall_mem_cons.mpr ⟨g2 69 (by decide), List.forall_mem_cons.mpr ⟨g2 70 (by decide), List.forall_mem_cons.mpr ⟨g2 71 (by decide), List.forall_mem_cons.mpr ⟨g5 72 (by decide), List.forall_mem_cons.mpr ⟨g5 73 (by decide), List.forall_mem_cons.mpr ⟨g5 74 (by decide), List.forall_mem_cons.mpr ⟨g5 75 (by decide), List.forall_mem_cons.mpr ⟨g3 76 (by decide), List.forall_mem_cons.mpr ⟨g3 77 (by decide), List.forall_mem_cons.mpr ⟨g3 78 (by decide), List.forall_mem_cons.mpr ⟨g3 79 (by decide), List.forall_mem_cons.mpr ⟨g3 80 (by decide), List.forall_mem_cons.mpr ⟨g6 81 (by decide), List.forall_mem_cons.mpr ⟨g6 82 (by decide), List.forall_mem_cons.mpr ⟨g6 83 (by decide), List.forall_mem_cons.mpr ⟨g6 84 (by decide), List.forall_mem_cons.mpr ⟨g6 85 (by decide), fun _ h => absurd h List.not_mem_nil⟩⟩⟩⟩⟩⟩⟩⟩⟩⟩⟩⟩⟩⟩⟩⟩⟩⟩⟩⟩⟩⟩⟩⟩⟩⟩⟩⟩⟩⟩⟩⟩⟩⟩⟩⟩⟩⟩⟩⟩⟩⟩
set_option maxRecDepth 100000 in
set_option maxHeartbeats 2000000 in
theorem pb0_92 {z : Sx} {u : Nat → Nat} {H : Heap} (h : va_P z.1 classes (PW_0 z (fun i => u (92 + i))) H) : ∀ k ∈ ([92, 93, 94, 95, 96, 97, 98, 99, 100] : List Nat), va_at z.1 classes (u k, ent kdC z.2.1 u s0C k) H := by
  unfold PW_0 at h
  have g0 := h
  exact List.forall_mem_cons.mpr ⟨g0 0 _ rfl, List.forall_mem_cons.mpr ⟨g0 1 _ rfl, List.forall_mem_cons.mpr ⟨g0 2 _ rfl, List.forall_mem_cons.mpr ⟨g0 3 _ rfl, List.forall_mem_cons.mpr ⟨g0 4 _ rfl, List.forall_mem_cons.mpr ⟨g0 5 _ rfl, List.forall_mem_cons.mpr ⟨g0 6 _ rfl, List.forall_mem_cons.mpr ⟨g0 7 _ rfl, List.forall_mem_cons.mpr ⟨g0 8 _ rfl, fun _ h => absurd h List.not_mem_nil⟩⟩⟩⟩⟩⟩⟩⟩⟩
set_option maxRecDepth 100000 in
set_option maxHeartbeats 2000000 in
theorem pb8_110 {z : Sx} {u : Nat → Nat} {H : Heap} (h : va_P z.1 classes (PW_8 z (fun i => u (110 + i))) H) : ∀ k ∈ ([110, 111, 112, 113] : List Nat), va_at z.1 classes (u k, ent kdC z.2.1 u s0C k) H := by
  unfold PW_8 at h
  have g0 := h
  exact List.forall_mem_cons.mpr ⟨g0 0 _ rfl, List.forall_mem_cons.mpr ⟨g0 1 _ rfl, List.forall_mem_cons.mpr ⟨g0 2 _ rfl, List.forall_mem_cons.mpr ⟨g0 3 _ rfl, fun _ h => absurd h List.not_mem_nil⟩⟩⟩⟩
set_option maxRecDepth 100000 in
set_option maxHeartbeats 2000000 in
theorem pb4_118 {z : Sx} {u : Nat → Nat} {H : Heap} (h : va_P z.1 classes (PW_4 z (fun i => u (118 + i))) H) : ∀ k ∈ ([118, 119, 120, 121, 122] : List Nat), va_at z.1 classes (u k, ent kdC z.2.1 u s0C k) H := by
  unfold PW_4 at h
  have g0 := h
  exact List.forall_mem_cons.mpr ⟨g0 0 _ rfl, List.forall_mem_cons.mpr ⟨g0 1 _ rfl, List.forall_mem_cons.mpr ⟨g0 2 _ rfl, List.forall_mem_cons.mpr ⟨g0 3 _ rfl, List.forall_mem_cons.mpr ⟨g0 4 _ rfl, fun _ h => absurd h List.not_mem_nil⟩⟩⟩⟩⟩
set_option maxRecDepth 100000 in
set_option maxHeartbeats 2000000 in
theorem pb0_101 {z : Sx} {u : Nat → Nat} {H : Heap} (h : va_P z.1 classes (PW_0 z (fun i => u (101 + i))) H) : ∀ k ∈ ([101, 102, 103, 104, 105, 106, 107, 108, 109] : List Nat), va_at z.1 classes (u k, ent kdC z.2.1 u s0C k) H := by
  unfold PW_0 at h
  have g0 := h
  exact List.forall_mem_cons.mpr ⟨g0 0 _ rfl, List.forall_mem_cons.mpr ⟨g0 1 _ rfl, List.forall_mem_cons.mpr ⟨g0 2 _ rfl, List.forall_mem_cons.mpr ⟨g0 3 _ rfl, List.forall_mem_cons.mpr ⟨g0 4 _ rfl, List.forall_mem_cons.mpr ⟨g0 5 _ rfl, List.forall_mem_cons.mpr ⟨g0 6 _ rfl, List.forall_mem_cons.mpr ⟨g0 7 _ rfl, List.forall_mem_cons.mpr ⟨g0 8 _ rfl, fun _ h => absurd h List.not_mem_nil⟩⟩⟩⟩⟩⟩⟩⟩⟩
set_option maxRecDepth 100000 in
set_option maxHeartbeats 2000000 in
theorem pb8_114 {z : Sx} {u : Nat → Nat} {H : Heap} (h : va_P z.1 classes (PW_8 z (fun i => u (114 + i))) H) : ∀ k ∈ ([114, 115, 116, 117] : List Nat), va_at z.1 classes (u k, ent kdC z.2.1 u s0C k) H := by
  unfold PW_8 at h
  have g0 := h
  exact List.forall_mem_cons.mpr ⟨g0 0 _ rfl, List.forall_mem_cons.mpr ⟨g0 1 _ rfl, List.forall_mem_cons.mpr ⟨g0 2 _ rfl, List.forall_mem_cons.mpr ⟨g0 3 _ rfl, fun _ h => absurd h List.not_mem_nil⟩⟩⟩⟩
set_option maxRecDepth 100000 in
set_option maxHeartbeats 2000000 in
theorem pb4_123 {z : Sx} {u : Nat → Nat} {H : Heap} (h : va_P z.1 classes (PW_4 z (fun i => u (123 + i))) H) : ∀ k ∈ ([123, 124, 125, 126, 127] : List Nat), va_at z.1 classes (u k, ent kdC z.2.1 u s0C k) H := by
  unfold PW_4 at h
  have g0 := h
  exact List.forall_mem_cons.mpr ⟨g0 0 _ rfl, List.forall_mem_cons.mpr ⟨g0 1 _ rfl, List.forall_mem_cons.mpr ⟨g0 2 _ rfl, List.forall_mem_cons.mpr ⟨g0 3 _ rfl, List.forall_mem_cons.mpr ⟨g0 4 _ rfl, fun _ h => absurd h List.not_mem_nil⟩⟩⟩⟩⟩
set_option maxRecDepth 100000 in
set_option maxHeartbeats 2000000 in
theorem pb9_86 {z : Sx} {u : Nat → Nat} {H : Heap} (h : va_P z.1 classes (PW_9 z (fun i => u (86 + i))) H) : ∀ k ∈ ([86, 87, 88, 89, 90, 91, 92, 93, 94, 95, 96, 97, 98, 99, 100, 101, 102, 103, 104, 105, 106, 107, 108, 109, 110, 111, 112, 113, 114, 115, 116, 117, 118, 119, 120, 121, 122, 123, 124, 125, 126, 127] : List Nat), va_at z.1 classes (u k, ent kdC z.2.1 u s0C k) H := by
  unfold PW_9 at h
  have g0 := (P_l (P_l (P_l (P_l (P_l (P_l h))))))
  have g1 := pb0_92 (z := z) (u := u) (P_r (P_l (P_l (P_l (P_l (P_l h))))))
  have g2 := pb8_110 (z := z) (u := u) (P_r (P_l (P_l (P_l (P_l h)))))
  have g3 := pb4_118 (z := z) (u := u) (P_r (P_l (P_l (P_l h))))
  have g4 := pb0_101 (z := z) (u := u) (P_r (P_l (P_l h)))
  have g5 := pb8_114 (z := z) (u := u) (P_r (P_l h))
  have g6 := pb4_123 (z := z) (u := u) (P_r h)
  exact List.forall_mem_cons.mpr ⟨g0 0 _ rfl, List.forall_mem_cons.mpr ⟨g0 1 _ rfl, List.forall_mem_cons.mpr ⟨g0 2 _ rfl, List.forall_mem_cons.mpr ⟨at_ref (n := 2) (g0 3 _ rfl) (fun j hj => by rcases (show j = 0 ∨ j = 1 by omega) with rfl | rfl <;> rfl), List.forall_mem_cons.mpr ⟨at_ref (n := 2) (g0 4 _ rfl) (fun j hj => by rcases (show j = 0 ∨ j = 1 by omega) with rfl | rfl <;> rfl), List.forall_mem_cons.mpr ⟨at_ref (n := 2) (g0 5 _ rfl) (fun j hj => by rcases (show j = 0 ∨ j = 1 by omega) with rfl | rfl <;> rfl), List.forall_mem_cons.mpr ⟨g1 92 (by decide), List.forall_mem_cons.mpr ⟨g1 93 (by decide), List.forall_mem_cons.mpr ⟨g1 94 (by decide), List.forall_mem_cons.mpr ⟨g1 95 (by decide), List.forall_mem_cons.mpr ⟨g1 96 (by decide), List.forall_mem_cons.mpr ⟨g1 97 (by decide), List.forall_mem_cons.mpr ⟨g1 98 (by decide), List.forall_mem_cons.mpr ⟨g1 99 (by decide), List.forall_mem_cons.mpr ⟨g1 100 (by decide), List.forall_mem_cons.mpr ⟨g4 101 (by decide), List.forall_mem_cons.mpr ⟨g4 102 (by decide), List.forall_mem_cons.mpr ⟨g4 103 (by decide), List.forall_mem_cons.mpr ⟨g4 104 (by decide), List.forall_mem_cons.mpr ⟨g4 105 (by decide), List.forall_mem_cons.mpr ⟨g4 106 (by decide), List.forall_mem_cons.mpr ⟨g4 107 (by decide), List.forall_mem_cons.mpr ⟨g4 108 (by decide), List.forall_mem_cons.mpr ⟨g4 109 (by decide), List.forall_mem_cons.mpr ⟨g2 110 (by decide), List.forall_mem_cons.mpr ⟨g2 111 (by decide), List.forall_mem_cons.mpr ⟨g2 112 (by decide), List.forall_mem_cons.mpr ⟨g2 113 (by decide), List.forall_mem_cons.mpr ⟨g5 114 (by decide), List.forall_mem_cons.mpr ⟨g5 115 (by decide), List.forall_mem_cons.mpr ⟨g5 116 (by decide), List.forall_mem_cons.mpr ⟨g5 117 (by decide), List.forall_mem_cons.mpr ⟨g3 118 (by decide), List.forall_mem_cons.mpr ⟨g3 119 (by decide), List.forall_mem_cons.mpr ⟨g3 120 (by decide), List.forall_mem_cons.mpr ⟨g3 121 (by decide), List.forall_mem_cons.mpr ⟨g3 122 (by decide), List.forall_mem_cons.mpr ⟨g6 123 (by decide), List.forall_mem_cons.mpr ⟨g6 124 (by decide), List.forall_mem_cons.mpr ⟨g6 125 (by decide), List.forall_mem_cons.mpr ⟨g6 126 (by decide), List.forall_mem_cons.mpr ⟨g6 127 (by decide), fun _ h => absurd h List.not_mem_nil⟩⟩⟩⟩⟩⟩⟩⟩⟩⟩⟩⟩⟩⟩⟩⟩⟩⟩⟩⟩⟩⟩⟩⟩⟩⟩⟩⟩⟩⟩⟩⟩⟩⟩⟩⟩⟩⟩⟩⟩⟩⟩
set_option maxRecDepth 100000 in
set_option maxHeartbeats 2000000 in
theorem pb0_134 {z : Sx} {u : Nat → Nat} {H : Heap} (h : va_P z.1 classes (PW_0 z (fun i => u (134 + i))) H) : ∀ k ∈ ([134, 135, 136, 137, 138, 139, 140, 141, 142] : List Nat), va_at z.1 classes (u k, ent kdC z.2.1 u s0C k) H := by
  unfold PW_0 at h
  have g0 := h
  exact List.forall_mem_cons.mpr ⟨g0 0 _ rfl, List.forall_mem_cons.mpr ⟨g0 1 _ rfl, List.forall_mem_cons.mpr ⟨g0 2 _ rfl, List.forall_mem_cons.mpr ⟨g0 3 _ rfl, List.forall_mem_cons.mpr ⟨g0 4 _ rfl, List.forall_mem_cons.mpr ⟨g0 5 _ rfl, List.forall_mem_cons.mpr ⟨g0 6 _ rfl, List.forall_mem_cons.mpr ⟨g0 7 _ rfl, List.forall_mem_cons.mpr ⟨g0 8 _ rfl, fun _ h => absurd h List.not_mem_nil⟩⟩⟩⟩⟩⟩⟩⟩⟩
set_option maxRecDepth 100000 in
set_option maxHeartbeats 2000000 in
theorem pb8_152 {z : Sx} {u : Nat → Nat} {H : Heap} (h : va_P z.1 classes (PW_8 z (fun i => u (152 + i))) H) : ∀ k ∈ ([152, 153, 154, 155] : List Nat), va_at z.1 classes (u k, ent kdC z.2.1 u s0C k) H := by
  unfold PW_8 at h
  have g0 := h
  exact List.forall_mem_cons.mpr ⟨g0 0 _ rfl, List.forall_mem_cons.mpr ⟨g0 1 _ rfl, List.forall_mem_cons.mpr ⟨g0 2 _ rfl, List.forall_mem_cons.mpr ⟨g0 3 _ rfl, fun _ h => absurd h List.not_mem_nil⟩⟩⟩⟩
set_option maxRecDepth 100000 in
set_option maxHeartbeats 2000000 in
theorem pb4_160 {z : Sx} {u : Nat → Nat} {H : Heap} (h : va_P z.1 classes (PW_4 z (fun i => u (160 + i))) H) : ∀ k ∈ ([160, 161, 162, 163, 164] : List Nat), va_at z.1 classes (u k, ent kdC z.2.1 u s0C k) H := by
  unfold PW_4 at h
  have g0 := h
  exact List.forall_mem_cons.mpr ⟨g0 0 _ rfl, List.forall_mem_cons.mpr ⟨g0 1 _ rfl, List.forall_mem_cons.mpr ⟨g0 2 _ rfl, List.forall_mem_cons.mpr ⟨g0 3 _ rfl, List.forall_mem_cons.mpr ⟨g0 4 _ rfl, fun _ h => absurd h List.not_mem_nil⟩⟩⟩⟩⟩
set_option maxRecDepth 100000 in
set_option maxHeartbeats 2000000 in
theorem pb0_143 {z : Sx} {u : Nat → Nat} {H : Heap} (h : va_P z.1 classes (PW_0 z (fun i => u (143 + i))) H) : ∀ k ∈ ([143, 144, 145, 146, 147, 148, 149, 150, 151] : List Nat), va_at z.1 classes (u k, ent kdC z.2.1 u s0C k) H := by
  unfold PW_0 at h
  have g0 := h
  exact List.forall_mem_cons.mpr ⟨g0 0 _ rfl, List.forall_mem_cons.mpr ⟨g0 1 _ rfl, List.forall_mem_cons.mpr ⟨g0 2 _ rfl, List.forall_mem_cons.mpr ⟨g0 3 _ rfl, List.forall_mem_cons.mpr ⟨g0 4 _ rfl, List.forall_mem_cons.mpr ⟨g0 5 _ rfl, List.forall_mem_cons.mpr ⟨g0 6 _ rfl, List.forall_mem_cons.mpr ⟨g0 7 _ rfl, List.forall_mem_cons.mpr ⟨g0 8 _ rfl, fun _ h => absurd h List.not_mem_nil⟩⟩⟩⟩⟩⟩⟩⟩⟩
set_option maxRecDepth 100000 in
set_option maxHeartbeats 2000000 in
theorem pb8_156 {z : Sx} {u : Nat → Nat} {H : Heap} (h : va_P z.1 classes (PW_8 z (fun i => u (156 + i))) H) : ∀ k ∈ ([156, 157, 158, 159] : List Nat), va_at z.1 classes (u k, ent kdC z.2.1 u s0C k) H := by
  unfold PW_8 at h
  have g0 := h
  exact List.forall_mem_cons.mpr ⟨g0 0 _ rfl, List.forall_mem_cons.mpr ⟨g0 1 _ rfl, List.forall_mem_cons.mpr ⟨g0 2 _ rfl, List.forall_mem_cons.mpr ⟨g0 3 _ rfl, fun _ h => absurd h List.not_mem_nil⟩⟩⟩⟩
set_option maxRecDepth 100000 in
set_option maxHeartbeats 2000000 in
theorem pb4_165 {z : Sx} {u : Nat → Nat} {H : Heap} (h : va_P z.1 classes (PW_4 z (fun i => u (165 + i))) H) : ∀ k ∈ ([165, 166, 167, 168, 169] : List Nat), va_at z.1 classes (u k, ent kdC z.2.1 u s0C k) H := by
  unfold PW_4 at h
  have g0 := h
  exact List.forall_mem_cons.mpr ⟨g0 0 _ rfl, List.forall_mem_cons.mpr ⟨g0 1 _ rfl, List.forall_mem_cons.mpr ⟨g0 2 _ rfl, List.forall_mem_cons.mpr ⟨g0 3 _ rfl, List.forall_mem_cons.mpr ⟨g0 4 _ rfl, fun _ h => absurd h List.not_mem_nil⟩⟩⟩⟩⟩
set_option maxRecDepth 100000 in
set_option maxHeartbeats 2000000 in
theorem pb9_128 {z : Sx} {u : Nat → Nat} {H : Heap} (h : va_P z.1 classes (PW_9 z (fun i => u (128 + i))) H) : ∀ k ∈ ([128, 129, 130, 131, 132, 133, 134, 135, 136, 137, 138, 139, 140, 141, 142, 143, 144, 145, 146, 147, 148, 149, 150, 151, 152, 153, 154, 155, 156, 157, 158, 159, 160, 161, 162, 163, 164, 165, 166, 167, 168, 169] : List Nat), va_at z.1 classes (u k, ent kdC z.2.1 u s0C k) H := by
  unfold PW_9 at h
  have g0 := (P_l (P_l (P_l (P_l (P_l (P_l h))))))
  have g1 := pb0_134 (z := z) (u := u) (P_r (P_l (P_l (P_l (P_l (P_l h))))))
  have g2 := pb8_152 (z := z) (u := u) (P_r (P_l (P_l (P_l (P_l h)))))
  have g3 := pb4_160 (z := z) (u := u) (P_r (P_l (P_l (P_l h))))
  have g4 := pb0_143 (z := z) (u := u) (P_r (P_l (P_l h)))
  have g5 := pb8_156 (z := z) (u := u) (P_r (P_l h))
  have g6 := pb4_165 (z := z) (u := u) (P_r h)
  exact List.forall_mem_cons.mpr ⟨g0 0 _ rfl, List.forall_mem_cons.mpr ⟨g0 1 _ rfl, List.forall_mem_cons.mpr ⟨g0 2 _ rfl, List.forall_mem_cons.mpr ⟨at_ref (n := 2) (g0 3 _ rfl) (fun j hj => by rcases (show j = 0 ∨ j = 1 by omega) with rfl | rfl <;> rfl), List.forall_mem_cons.mpr ⟨at_ref (n := 2) (g0 4 _ rfl) (fun j hj => by rcases (show j = 0 ∨ j = 1 by omega) with rfl | rfl <;> rfl), List.forall_mem_cons.mpr ⟨at_ref (n := 2) (g0 5 _ rfl) (fun j hj => by rcases (show j = 0 ∨ j = 1 by omega) with rfl | rfl <;> rfl), List.forall_mem_cons.mpr ⟨g1 134 (by decide), List.forall_mem_cons.mpr ⟨g1 135 (by decide), List.forall_mem_cons.mpr ⟨g1 136 (by decide), List.forall_mem_cons.mpr ⟨g1 137 (by decide), List.forall_mem_cons.mpr ⟨g1 138 (by decide), List.forall_mem_cons.mpr ⟨g1 139 (by decide), List.forall_mem_cons.mpr ⟨g1 140 (by decide), List.forall_mem_cons.mpr ⟨g1 141 (by decide), List.forall_mem_cons.mpr ⟨g1 142 (by decide), List.forall_mem_cons.mpr ⟨g4 143 (by decide), List.forall_mem_cons.mpr ⟨g4 144 (by decide), List.forall_mem_cons.mpr ⟨g4 145 (by decide), List.forall_mem_cons.mpr ⟨g4 146 (by decide), List.forall_mem_cons.mpr ⟨g4 147 (by decide), List.forall_mem_cons.mpr ⟨g4 148 (by decide), List.forall_mem_cons.mpr ⟨g4 149 (by decide), List.forall_mem_cons.mpr ⟨g4 150 (by decide), List.forall_mem_cons.mpr ⟨g4 151 (by decide), List.forall_mem_cons.mpr ⟨g2 152 (by decide), List.forall_mem_cons.mpr ⟨g2 153 (by decide), List.forall_mem_cons.mpr ⟨g2 154 (by decide), List.forall_mem_cons.mpr ⟨g2 155 (by decide), List.forall_mem_cons.mpr ⟨g5 156 (by decide), List.forall_mem_cons.mpr ⟨g5 157 (by decide), List.forall_mem_cons.mpr ⟨g5 158 (by decide), List.forall_mem_cons.mpr ⟨g5 159 (by decide), List.forall_mem_cons.mpr ⟨g3 160 (by decide), List.forall_mem_cons.mpr ⟨g3 161 (by decide), List.forall_mem_cons.mpr ⟨g3 162 (by decide), List.forall_mem_cons.mpr ⟨g3 163 (by decide), List.forall_mem_cons.mpr ⟨g3 164 (by decide), List.forall_mem_cons.mpr ⟨g6 165 (by decide), List.forall_mem_cons.mpr ⟨g6 166 (by decide), List.forall_mem_cons.mpr ⟨g6 167 (by decide), List.forall_mem_cons.mpr ⟨g6 168 (by decide), List.forall_mem_cons.mpr ⟨g6 169 (by decide), fun _ h => absurd h List.not_mem_nil⟩⟩⟩⟩⟩⟩⟩⟩⟩⟩⟩⟩⟩⟩⟩⟩⟩⟩⟩⟩⟩⟩⟩⟩⟩⟩⟩⟩⟩⟩⟩⟩⟩⟩⟩⟩⟩⟩⟩⟩⟩⟩
set_option maxRecDepth 100000 in
set_option maxHeartbeats 2000000 in
theorem pb0_172 {z : Sx} {u : Nat → Nat} {H : Heap} (h : va_P z.1 classes (PW_0 z (fun i => u (172 + i))) H) : ∀ k ∈ ([172, 173, 174, 175, 176, 177, 178, 179, 180] : List Nat), va_at z.1 classes (u k, ent kdC z.2.1 u s0C k) H := by
  unfold PW_0 at h
  have g0 := h
  exact List.forall_mem_cons.mpr ⟨g0 0 _ rfl, List.forall_mem_cons.mpr ⟨g0 1 _ rfl, List.forall_mem_cons.mpr ⟨g0 2 _ rfl, List.forall_mem_cons.mpr ⟨g0 3 _ rfl, List.forall_mem_cons.mpr ⟨g0 4 _ rfl, List.forall_mem_cons.mpr ⟨g0 5 _ rfl, List.forall_mem_cons.mpr ⟨g0 6 _ rfl, List.forall_mem_cons.mpr ⟨g0 7 _ rfl, List.forall_mem_cons.mpr ⟨g0 8 _ rfl, fun _ h => absurd h List.not_mem_nil⟩⟩⟩⟩⟩⟩⟩⟩⟩
set_option maxRecDepth 100000 in
set_option maxHeartbeats 2000000 in
theorem pb8_181 {z : Sx} {u : Nat → Nat} {H : Heap} (h : va_P z.1 classes (PW_8 z (fun i => u (181 + i))) H) : ∀ k ∈ ([181, 182, 183, 184] : List Nat), va_at z.1 classes (u k, ent kdC z.2.1 u s0C k) H := by
  unfold PW_8 at h
  have g0 := h
  exact List.forall_mem_cons.mpr ⟨g0 0 _ rfl, List.forall_mem_cons.mpr ⟨g0 1 _ rfl, List.forall_mem_cons.mpr ⟨g0 2 _ rfl, List.forall_mem_cons.mpr ⟨g0 3 _ rfl, fun _ h => absurd h List.not_mem_nil⟩⟩⟩⟩
set_option maxRecDepth 100000 in
set_option maxHeartbeats 2000000 in
theorem pb4_185 {z : Sx} {u : Nat → Nat} {H : Heap} (h : va_P z.1 classes (PW_4 z (fun i => u (185 + i))) H) : ∀ k ∈ ([185, 186, 187, 188, 189] : List Nat), va_at z.1 classes (u k, ent kdC z.2.1 u s0C k) H := by
  unfold PW_4 at h
  have g0 := h
  exact List.forall_mem_cons.mpr ⟨g0 0 _ rfl, List.forall_mem_cons.mpr ⟨g0 1 _ rfl, List.forall_mem_cons.mpr ⟨g0 2 _ rfl, List.forall_mem_cons.mpr ⟨g0 3 _ rfl, List.forall_mem_cons.mpr ⟨g0 4 _ rfl, fun _ h => absurd h List.not_mem_nil⟩⟩⟩⟩⟩
set_option maxRecDepth 100000 in
set_option maxHeartbeats 2000000 in
theorem pb6_171 {z : Sx} {u : Nat → Nat} {H : Heap} (h : va_P z.1 classes (PW_6 z (fun i => u (171 + i))) H) : ∀ k ∈ ([171, 172, 173, 174, 175, 176, 177, 178, 179, 180, 181, 182, 183, 184, 185, 186, 187, 188, 189, 190, 191] : List Nat), va_at z.1 classes (u k, ent kdC z.2.1 u s0C k) H := by
  unfold PW_6 at h
  have g0 := (P_l (P_l (P_l (P_l h))))
  have g1 := pb0_172 (z := z) (u := u) (P_r (P_l (P_l (P_l h))))
  have g2 := pb8_181 (z := z) (u := u) (P_r (P_l (P_l h)))
  have g3 := pb4_185 (z := z) (u := u) (P_r (P_l h))
  have g4 := (P_r h)
  exact List.forall_mem_cons.mpr ⟨g0 0 _ rfl, List.forall_mem_cons.mpr ⟨g1 172 (by decide), List.forall_mem_cons.mpr ⟨g1 173 (by decide), List.forall_mem_cons.mpr ⟨g1 174 (by decide), List.forall_mem_cons.mpr ⟨g1 175 (by decide), List.forall_mem_cons.mpr ⟨g1 176 (by decide), List.forall_mem_cons.mpr ⟨g1 177 (by decide), List.forall_mem_cons.mpr ⟨g1 178 (by decide), List.forall_mem_cons.mpr ⟨g1 179 (by decide), List.forall_mem_cons.mpr ⟨g1 180 (by decide), List.forall_mem_cons.mpr ⟨g2 181 (by decide), List.forall_mem_cons.mpr ⟨g2 182 (by decide), List.forall_mem_cons.mpr ⟨g2 183 (by decide), List.forall_mem_cons.mpr ⟨g2 184 (by decide), List.forall_mem_cons.mpr ⟨g3 185 (by decide), List.forall_mem_cons.mpr ⟨g3 186 (by decide), List.forall_mem_cons.mpr ⟨g3 187 (by decide), List.forall_mem_cons.mpr ⟨g3 188 (by decide), List.forall_mem_cons.mpr ⟨g3 189 (by decide), List.forall_mem_cons.mpr ⟨g4 0 _ rfl, List.forall_mem_cons.mpr ⟨g4 1 _ rfl, fun _ h => absurd h List.not_mem_nil⟩⟩⟩⟩⟩⟩⟩⟩⟩⟩⟩⟩⟩⟩⟩⟩⟩⟩⟩⟩⟩
set_option maxRecDepth 100000 in
set_option maxHeartbeats 2000000 in
theorem pb0_193 {z : Sx} {u : Nat → Nat} {H : Heap} (h : va_P z.1 classes (PW_0 z (fun i => u (193 + i))) H) : ∀ k ∈ ([193, 194, 195, 196, 197, 198, 199, 200, 201] : List Nat), va_at z.1 classes (u k, ent kdC z.2.1 u s0C k) H := by
  unfold PW_0 at h
  have g0 := h
  exact List.forall_mem_cons.mpr ⟨g0 0 _ rfl, List.forall_mem_cons.mpr ⟨g0 1 _ rfl, List.forall_mem_cons.mpr ⟨g0 2 _ rfl, List.forall_mem_cons.mpr ⟨g0 3 _ rfl, List.forall_mem_cons.mpr ⟨g0 4 _ rfl, List.forall_mem_cons.mpr ⟨g0 5 _ rfl, List.forall_mem_cons.mpr ⟨g0 6 _ rfl, List.forall_mem_cons.mpr ⟨g0 7 _ rfl, List.forall_mem_cons.mpr ⟨g0 8 _ rfl, fun _ h => absurd h List.not_mem_nil⟩⟩⟩⟩⟩⟩⟩⟩⟩
set_option maxRecDepth 100000 in
set_option maxHeartbeats 2000000 in
theorem pb2_192 {z : Sx} {u : Nat → Nat} {H : Heap} (h : va_P z.1 classes (PW_2 z (fun i => u (192 + i))) H) : ∀ k ∈ ([192, 193, 194, 195, 196, 197, 198, 199, 200, 201, 202, 203, 204] : List Nat), va_at z.1 classes (u k, ent kdC z.2.1 u s0C k) H := by
  unfold PW_2 at h
  have g0 := (P_l (P_l h))
  have g1 := pb0_193 (z := z) (u := u) (P_r (P_l h))
  have g2 := (P_r h)
  exact List.forall_mem_cons.mpr ⟨g0 0 _ rfl, List.forall_mem_cons.mpr ⟨g1 193 (by decide), List.forall_mem_cons.mpr ⟨g1 194 (by decide), List.forall_mem_cons.mpr ⟨g1 195 (by decide), List.forall_mem_cons.mpr ⟨g1 196 (by decide), List.forall_mem_cons.mpr ⟨g1 197 (by decide), List.forall_mem_cons.mpr ⟨g1 198 (by decide), List.forall_mem_cons.mpr ⟨g1 199 (by decide), List.forall_mem_cons.mpr ⟨g1 200 (by decide), List.forall_mem_cons.mpr ⟨g1 201 (by decide), List.forall_mem_cons.mpr ⟨g2 0 _ rfl, List.forall_mem_cons.mpr ⟨g2 1 _ rfl, List.forall_mem_cons.mpr ⟨g2 2 _ rfl, fun _ h => absurd h List.not_mem_nil⟩⟩⟩⟩⟩⟩⟩⟩⟩⟩⟩⟩⟩
set_option maxRecDepth 100000 in
set_option maxHeartbeats 2000000 in
theorem pb0_207 {z : Sx} {u : Nat → Nat} {H : Heap} (h : va_P z.1 classes (PW_0 z (fun i => u (207 + i))) H) : ∀ k ∈ ([207, 208, 209, 210, 211, 212, 213, 214, 215] : List Nat), va_at z.1 classes (u k, ent kdC z.2.1 u s0C k) H := by
  unfold PW_0 at h
  have g0 := h
  exact List.forall_mem_cons.mpr ⟨g0 0 _ rfl, List.forall_mem_cons.mpr ⟨g0 1 _ rfl, List.forall_mem_cons.mpr ⟨g0 2 _ rfl, List.forall_mem_cons.mpr ⟨g0 3 _ rfl, List.forall_mem_cons.mpr ⟨g0 4 _ rfl, List.forall_mem_cons.mpr ⟨g0 5 _ rfl, List.forall_mem_cons.mpr ⟨g0 6 _ rfl, List.forall_mem_cons.mpr ⟨g0 7 _ rfl, List.forall_mem_cons.mpr ⟨g0 8 _ rfl, fun _ h => absurd h List.not_mem_nil⟩⟩⟩⟩⟩⟩⟩⟩⟩
set_option maxRecDepth 100000 in
set_option maxHeartbeats 2000000 in
theorem pb2_206 {z : Sx} {u : Nat → Nat} {H : Heap} (h : va_P z.1 classes (PW_2 z (fun i => u (206 + i))) H) : ∀ k ∈ ([206, 207, 208, 209, 210, 211, 212, 213, 214, 215, 216, 217, 218] : List Nat), va_at z.1 classes (u k, ent kdC z.2.1 u s0C k) H := by
  unfold PW_2 at h
  have g0 := (P_l (P_l h))
  have g1 := pb0_207 (z := z) (u := u) (P_r (P_l h))
  have g2 := (P_r h)
  exact List.forall_mem_cons.mpr ⟨g0 0 _ rfl, List.forall_mem_cons.mpr ⟨g1 207 (by decide), List.forall_mem_cons.mpr ⟨g1 208 (by decide), List.forall_mem_cons.mpr ⟨g1 209 (by decide), List.forall_mem_cons.mpr ⟨g1 210 (by decide), List.forall_mem_cons.mpr ⟨g1 211 (by decide), List.forall_mem_cons.mpr ⟨g1 212 (by decide), List.forall_mem_cons.mpr ⟨g1 213 (by decide), List.forall_mem_cons.mpr ⟨g1 214 (by decide), List.forall_mem_cons.mpr ⟨g1 215 (by decide), List.forall_mem_cons.mpr ⟨g2 0 _ rfl, List.forall_mem_cons.mpr ⟨g2 1 _ rfl, List.forall_mem_cons.mpr ⟨g2 2 _ rfl, fun _ h => absurd h List.not_mem_nil⟩⟩⟩⟩⟩⟩⟩⟩⟩⟩⟩⟩⟩
set_option maxRecDepth 100000 in
set_option maxHeartbeats 2000000 in
theorem pb1_205 {z : Sx} {u : Nat → Nat} {H : Heap} (h : va_P z.1 classes (PW_1 z (fun i => u (205 + i))) H) : ∀ k ∈ ([205, 206, 207, 208, 209, 210, 211, 212, 213, 214, 215, 216, 217, 218, 219] : List Nat), va_at z.1 classes (u k, ent kdC z.2.1 u s0C k) H := by
  unfold PW_1 at h
  have g0 := (P_l (P_l h))
  have g1 := pb2_206 (z := z) (u := u) (P_r (P_l h))
  have g2 := (P_r h)
  exact List.forall_mem_cons.mpr ⟨g0 0 _ rfl, List.forall_mem_cons.mpr ⟨g1 206 (by decide), List.forall_mem_cons.mpr ⟨g1 207 (by decide), List.forall_mem_cons.mpr ⟨g1 208 (by decide), List.forall_mem_cons.mpr ⟨g1 209 (by decide), List.forall_mem_cons.mpr ⟨g1 210 (by decide), List.forall_mem_cons.mpr ⟨g1 211 (by decide), List.forall_mem_cons.mpr ⟨g1 212 (by decide), List.forall_mem_cons.mpr ⟨g1 213 (by decide), List.forall_mem_cons.mpr ⟨g1 214 (by decide), List.forall_mem_cons.mpr ⟨g1 215 (by decide), List.forall_mem_cons.mpr ⟨g1 216 (by decide), List.forall_mem_cons.mpr ⟨g1 217 (by decide), List.forall_mem_cons.mpr ⟨g1 218 (by decide), List.forall_mem_cons.mpr ⟨g2 0 _ rfl, fun _ h => absurd h List.not_mem_nil⟩⟩⟩⟩⟩⟩⟩⟩⟩⟩⟩⟩⟩⟩⟩
set_option maxRecDepth 100000 in
set_option maxHeartbeats 2000000 in
theorem pb0_222 {z : Sx} {u : Nat → Nat} {H : Heap} (h : va_P z.1 classes (PW_0 z (fun i => u (222 + i))) H) : ∀ k ∈ ([222, 223, 224, 225, 226, 227, 228, 229, 230] : List Nat), va_at z.1 classes (u k, ent kdC z.2.1 u s0C k) H := by
  unfold PW_0 at h
  have g0 := h
  exact List.forall_mem_cons.mpr ⟨g0 0 _ rfl, List.forall_mem_cons.mpr ⟨g0 1 _ rfl, List.forall_mem_cons.mpr ⟨g0 2 _ rfl, List.forall_mem_cons.mpr ⟨g0 3 _ rfl, List.forall_mem_cons.mpr ⟨g0 4 _ rfl, List.forall_mem_cons.mpr ⟨g0 5 _ rfl, List.forall_mem_cons.mpr ⟨g0 6 _ rfl, List.forall_mem_cons.mpr ⟨g0 7 _ rfl, List.forall_mem_cons.mpr ⟨g0 8 _ rfl, fun _ h => absurd h List.not_mem_nil⟩⟩⟩⟩⟩⟩⟩⟩⟩
set_option maxRecDepth 100000 in
set_option maxHeartbeats 2000000 in
theorem pb2_221 {z : Sx} {u : Nat → Nat} {H : Heap} (h : va_P z.1 classes (PW_2 z (fun i => u (221 + i))) H) : ∀ k ∈ ([221, 222, 223, 224, 225, 226, 227, 228, 229, 230, 231, 232, 233] : List Nat), va_at z.1 classes (u k, ent kdC z.2.1 u s0C k) H := by
  unfold PW_2 at h
  have g0 := (P_l (P_l h))
  have g1 := pb0_222 (z := z) (u := u) (P_r (P_l h))
  have g2 := (P_r h)
  exact List.forall_mem_cons.mpr ⟨g0 0 _ rfl, List.forall_mem_cons.mpr ⟨g1 222 (by decide), List.forall_mem_cons.mpr ⟨g1 223 (by decide), List.forall_mem_cons.mpr ⟨g1 224 (by decide), List.forall_mem_cons.mpr ⟨g1 225 (by decide), List.forall_mem_cons.mpr ⟨g1 226 (by decide), List.forall_mem_cons.mpr ⟨g1 227 (by decide), List.forall_mem_cons.mpr ⟨g1 228 (by decide), List.forall_mem_cons.mpr ⟨g1 229 (by decide), List.forall_mem_cons.mpr ⟨g1 230 (by decide), List.forall_mem_cons.mpr ⟨g2 0 _ rfl, List.forall_mem_cons.mpr ⟨g2 1 _ rfl, List.forall_mem_cons.mpr ⟨g2 2 _ rfl, fun _ h => absurd h List.not_mem_nil⟩⟩⟩⟩⟩⟩⟩⟩⟩⟩⟩⟩⟩
set_option maxRecDepth 100000 in
set_option maxHeartbeats 2000000 in
theorem pb10_220 {z : Sx} {u : Nat → Nat} {H : Heap} (h : va_P z.1 classes (PW_10 z (fun i => u (220 + i))) H) : ∀ k ∈ ([220, 221, 222, 223, 224, 225, 226, 227, 228, 229, 230, 231, 232, 233, 234, 235] : List Nat), va_at z.1 classes (u k, ent kdC z.2.1 u s0C k) H := by
  unfold PW_10 at h
  have g0 := (P_l (P_l h))
  have g1 := pb2_221 (z := z) (u := u) (P_r (P_l h))
  have g2 := (P_r h)
  exact List.forall_mem_cons.mpr ⟨g0 0 _ rfl, List.forall_mem_cons.mpr ⟨g1 221 (by decide), List.forall_mem_cons.mpr ⟨g1 222 (by decide), List.forall_mem_cons.mpr ⟨g1 223 (by decide), List.forall_mem_cons.mpr ⟨g1 224 (by decide), List.forall_mem_cons.mpr ⟨g1 225 (by decide), List.forall_mem_cons.mpr ⟨g1 226 (by decide), List.forall_mem_cons.mpr ⟨g1 227 (by decide), List.forall_mem_cons.mpr ⟨g1 228 (by decide), List.forall_mem_cons.mpr ⟨g1 229 (by decide), List.forall_mem_cons.mpr ⟨g1 230 (by decide), List.forall_mem_cons.mpr ⟨g1 231 (by decide), List.forall_mem_cons.mpr ⟨g1 232 (by decide), List.forall_mem_cons.mpr ⟨g1 233 (by decide), List.forall_mem_cons.mpr ⟨g2 0 _ rfl, List.forall_mem_cons.mpr ⟨g2 1 _ rfl, fun _ h => absurd h List.not_mem_nil⟩⟩⟩⟩⟩⟩⟩⟩⟩⟩⟩⟩⟩⟩⟩⟩
set_option maxRecDepth 100000 in
set_option maxHeartbeats 2000000 in
theorem pb0_239 {z : Sx} {u : Nat → Nat} {H : Heap} (h : va_P z.1 classes (PW_0 z (fun i => u (239 + i))) H) : ∀ k ∈ ([239, 240, 241, 242, 243, 244, 245, 246, 247] : List Nat), va_at z.1 classes (u k, ent kdC z.2.1 u s0C k) H := by
  unfold PW_0 at h
  have g0 := h
  exact List.forall_mem_cons.mpr ⟨g0 0 _ rfl, List.forall_mem_cons.mpr ⟨g0 1 _ rfl, List.forall_mem_cons.mpr ⟨g0 2 _ rfl, List.forall_mem_cons.mpr ⟨g0 3 _ rfl, List.forall_mem_cons.mpr ⟨g0 4 _ rfl, List.forall_mem_cons.mpr ⟨g0 5 _ rfl, List.forall_mem_cons.mpr ⟨g0 6 _ rfl, List.forall_mem_cons.mpr ⟨g0 7 _ rfl, List.forall_mem_cons.mpr ⟨g0 8 _ rfl, fun _ h => absurd h List.not_mem_nil⟩⟩⟩⟩⟩⟩⟩⟩⟩
set_option maxRecDepth 100000 in
set_option maxHeartbeats 2000000 in
theorem pb2_238 {z : Sx} {u : Nat → Nat} {H : Heap} (h : va_P z.1 classes (PW_2 z (fun i => u (238 + i))) H) : ∀ k ∈ ([238, 239, 240, 241, 242, 243, 244, 245, 246, 247, 248, 249, 250] : List Nat), va_at z.1 classes (u k, ent kdC z.2.1 u s0C k) H := by
  unfold PW_2 at h
  have g0 := (P_l (P_l h))
  have g1 := pb0_239 (z := z) (u := u) (P_r (P_l h))
  have g2 := (P_r h)
  exact List.forall_mem_cons.mpr ⟨g0 0 _ rfl, List.forall_mem_cons.mpr ⟨g1 239 (by decide), List.forall_mem_cons.mpr ⟨g1 240 (by decide), List.forall_mem_cons.mpr ⟨g1 241 (by decide), List.forall_mem_cons.mpr ⟨g1 242 (by decide), List.forall_mem_cons.mpr ⟨g1 243 (by decide), List.forall_mem_cons.mpr ⟨g1 244 (by decide), List.forall_mem_cons.mpr ⟨g1 245 (by decide), List.forall_mem_cons.mpr ⟨g1 246 (by decide), List.forall_mem_cons.mpr ⟨g1 247 (by decide), List.forall_mem_cons.mpr ⟨g2 0 _ rfl, List.forall_mem_cons.mpr ⟨g2 1 _ rfl, List.forall_mem_cons.mpr ⟨g2 2 _ rfl, fun _ h => absurd h List.not_mem_nil⟩⟩⟩⟩⟩⟩⟩⟩⟩⟩⟩⟩⟩
set_option maxRecDepth 100000 in
set_option maxHeartbeats 2000000 in
theorem pb7_236 {z : Sx} {u : Nat → Nat} {H : Heap} (h : va_P z.1 classes (PW_7 z (fun i => u (236 + i))) H) : ∀ k ∈ ([236, 237, 238, 239, 240, 241, 242, 243, 244, 245, 246, 247, 248, 249, 250] : List Nat), va_at z.1 classes (u k, ent kdC z.2.1 u s0C k) H := by
  unfold PW_7 at h
  have g0 := (P_l h)
  have g1 := pb2_238 (z := z) (u := u) (P_r h)
  exact List.forall_mem_cons.mpr ⟨g0 0 _ rfl, List.forall_mem_cons.mpr ⟨g0 1 _ rfl, List.forall_mem_cons.mpr ⟨g1 238 (by decide), List.forall_mem_cons.mpr ⟨g1 239 (by decide), List.forall_mem_cons.mpr ⟨g1 240 (by decide), List.forall_mem_cons.mpr ⟨g1 241 (by decide), List.forall_mem_cons.mpr ⟨g1 242 (by decide), List.forall_mem_cons.mpr ⟨g1 243 (by decide), List.forall_mem_cons.mpr ⟨g1 244 (by decide), List.forall_mem_cons.mpr ⟨g1 245 (by decide), List.forall_mem_cons.mpr ⟨g1 246 (by decide), List.forall_mem_cons.mpr ⟨g1 247 (by decide), List.forall_mem_cons.mpr ⟨g1 248 (by decide), List.forall_mem_cons.mpr ⟨g1 249 (by decide), List.forall_mem_cons.mpr ⟨g1 250 (by decide), fun _ h => absurd h List.not_mem_nil⟩⟩⟩⟩⟩⟩⟩⟩⟩⟩⟩⟩⟩⟩⟩
set_option maxRecDepth 100000 in
set_option maxHeartbeats 2000000 in
theorem pb0_254 {z : Sx} {u : Nat → Nat} {H : Heap} (h : va_P z.1 classes (PW_0 z (fun i => u (254 + i))) H) : ∀ k ∈ ([254, 255, 256, 257, 258, 259, 260, 261, 262] : List Nat), va_at z.1 classes (u k, ent kdC z.2.1 u s0C k) H := by
  unfold PW_0 at h
  have g0 := h
  exact List.forall_mem_cons.mpr ⟨g0 0 _ rfl, List.forall_mem_cons.mpr ⟨g0 1 _ rfl, List.forall_mem_cons.mpr ⟨g0 2 _ rfl, List.forall_mem_cons.mpr ⟨g0 3 _ rfl, List.forall_mem_cons.mpr ⟨g0 4 _ rfl, List.forall_mem_cons.mpr ⟨g0 5 _ rfl, List.forall_mem_cons.mpr ⟨g0 6 _ rfl, List.forall_mem_cons.mpr ⟨g0 7 _ rfl, List.forall_mem_cons.mpr ⟨g0 8 _ rfl, fun _ h => absurd h List.not_mem_nil⟩⟩⟩⟩⟩⟩⟩⟩⟩
set_option maxRecDepth 100000 in
set_option maxHeartbeats 2000000 in
theorem pb2_253 {z : Sx} {u : Nat → Nat} {H : Heap} (h : va_P z.1 classes (PW_2 z (fun i => u (253 + i))) H) : ∀ k ∈ ([253, 254, 255, 256, 257, 258, 259, 260, 261, 262, 263, 264, 265] : List Nat), va_at z.1 classes (u k, ent kdC z.2.1 u s0C k) H := by
  unfold PW_2 at h
  have g0 := (P_l (P_l h))
  have g1 := pb0_254 (z := z) (u := u) (P_r (P_l h))
  have g2 := (P_r h)
  exact List.forall_mem_cons.mpr ⟨g0 0 _ rfl, List.forall_mem_cons.mpr ⟨g1 254 (by decide), List.forall_mem_cons.mpr ⟨g1 255 (by decide), List.forall_mem_cons.mpr ⟨g1 256 (by decide), List.forall_mem_cons.mpr ⟨g1 257 (by decide), List.forall_mem_cons.mpr ⟨g1 258 (by decide), List.forall_mem_cons.mpr ⟨g1 259 (by decide), List.forall_mem_cons.mpr ⟨g1 260 (by decide), List.forall_mem_cons.mpr ⟨g1 261 (by decide), List.forall_mem_cons.mpr ⟨g1 262 (by decide), List.forall_mem_cons.mpr ⟨g2 0 _ rfl, List.forall_mem_cons.mpr ⟨g2 1 _ rfl, List.forall_mem_cons.mpr ⟨g2 2 _ rfl, fun _ h => absurd h List.not_mem_nil⟩⟩⟩⟩⟩⟩⟩⟩⟩⟩⟩⟩⟩
set_option maxRecDepth 100000 in
set_option maxHeartbeats 2000000 in
theorem pb3_251 {z : Sx} {u : Nat → Nat} {H : Heap} (h : va_P z.1 classes (PW_3 z (fun i => u (251 + i))) H) : ∀ k ∈ ([251, 252, 253, 254, 255, 256, 257, 258, 259, 260, 261, 262, 263, 264, 265] : List Nat), va_at z.1 classes (u k, ent kdC z.2.1 u s0C k) H := by
  unfold PW_3 at h
  have g0 := (P_l h)
  have g1 := pb2_253 (z := z) (u := u) (P_r h)
  exact List.forall_mem_cons.mpr ⟨g0 0 _ rfl, List.forall_mem_cons.mpr ⟨g0 1 _ rfl, List.forall_mem_cons.mpr ⟨g1 253 (by decide), List.forall_mem_cons.mpr ⟨g1 254 (by decide), List.forall_mem_cons.mpr ⟨g1 255 (by decide), List.forall_mem_cons.mpr ⟨g1 256 (by decide), List.forall_mem_cons.mpr ⟨g1 257 (by decide), List.forall_mem_cons.mpr ⟨g1 258 (by decide), List.forall_mem_cons.mpr ⟨g1 259 (by decide), List.forall_mem_cons.mpr ⟨g1 260 (by decide), List.forall_mem_cons.mpr ⟨g1 261 (by decide), List.forall_mem_cons.mpr ⟨g1 262 (by decide), List.forall_mem_cons.mpr ⟨g1 263 (by decide), List.forall_mem_cons.mpr ⟨g1 264 (by decide), List.forall_mem_cons.mpr ⟨g1 265 (by decide), fun _ h => absurd h List.not_mem_nil⟩⟩⟩⟩⟩⟩⟩⟩⟩⟩⟩⟩⟩⟩⟩
set_option maxRecDepth 100000 in
set_option maxHeartbeats 2000000 in
theorem pb5_266 {z : Sx} {u : Nat → Nat} {H : Heap} (h : va_P z.1 classes (PW_5 z (fun i => u (266 + i))) H) : ∀ k ∈ ([266, 267, 268, 269] : List Nat), va_at z.1 classes (u k, ent kdC z.2.1 u s0C k) H := by
  unfold PW_5 at h
  have g0 := h
  exact List.forall_mem_cons.mpr ⟨g0 0 _ rfl, List.forall_mem_cons.mpr ⟨g0 1 _ rfl, List.forall_mem_cons.mpr ⟨g0 2 _ rfl, List.forall_mem_cons.mpr ⟨g0 3 _ rfl, fun _ h => absurd h List.not_mem_nil⟩⟩⟩⟩
set_option maxRecDepth 100000 in
set_option maxHeartbeats 4000000 in
theorem pw_all {z : Sx} {u : Nat → Nat} {H : Heap} (h : va_P z.1 classes (PW_11 z u) H) : ∀ k ∈ ([0, 1, 2, 3, 4, 5, 6, 7, 8, 9, 10, 11, 12, 13, 14, 15, 16, 17, 18, 19, 20, 21, 22, 23, 24, 25, 26, 27, 28, 29, 30, 31, 32, 33, 34, 35, 36, 37, 38, 39, 40, 41, 42, 43, 44, 45, 46, 47, 48, 49, 50, 51, 52, 53, 54, 55, 56, 57, 58, 59, 60, 61, 62, 63, 64, 65, 66, 67, 68, 69, 70, 71, 72, 73, 74, 75, 76, 77, 78, 79, 80, 81, 82, 83, 84, 85, 86, 87, 88, 89, 90, 91, 92, 93, 94, 95, 96, 97, 98, 99, 100, 101, 102, 103, 104, 105, 106, 107, 108, 109, 110, 111, 112, 113, 114, 115, 116, 117, 118, 119, 120, 121, 122, 123, 124, 125, 126, 127, 128, 129, 130, 131, 132, 133, 134, 135, 136, 137, 138, 139, 140, 141, 142, 143, 144, 145, 146, 147, 148, 149, 150, 151, 152, 153, 154, 155, 156, 157, 158, 159, 160, 161, 162, 163, 164, 165, 166, 167, 168, 169, 170, 171, 172, 173, 174, 175, 176, 177, 178, 179, 180, 181, 182, 183, 184, 185, 186, 187, 188, 189, 190, 191, 192, 193, 194, 195, 196, 197, 198, 199, 200, 201, 202, 203, 204, 205, 206, 207, 208, 209, 210, 211, 212, 213, 214, 215, 216, 217, 218, 219, 220, 221, 222, 223, 224, 225, 226, 227, 228, 229, 230, 231, 232, 233, 234, 235, 236, 237, 238, 239, 240, 241, 242, 243, 244, 245, 246, 247, 248, 249, 250, 251, 252, 253, 254, 255, 256, 257, 258, 259, 260, 261, 262, 263, 264, 265, 266, 267, 268, 269] : List Nat), va_at z.1 classes (u k, ent kdC z.2.1 u s0C k) H := by
  unfold PW_11 at h
  have g99 : va_at z.1 classes _ H := h 0 _ rfl
  have g0 := pb9_1 (z := z) (u := u) (P_r (P_l (P_l (P_l (P_l (P_l (P_l (P_l (P_l (P_l (P_l (P_l (P_l (P_t h))))))))))))))
  have g1 := (P_r (P_l (P_l (P_l (P_l (P_l (P_l (P_l (P_l (P_l (P_l (P_l (P_t h)))))))))))))
  have g2 := pb9_44 (z := z) (u := u) (P_r (P_l (P_l (P_l (P_l (P_l (P_l (P_l (P_l (P_l (P_l (P_t h))))))))))))
  have g3 := pb9_86 (z := z) (u := u) (P_r (P_l (P_l (P_l (P_l (P_l (P_l (P_l (P_l (P_l (P_t h)))))))))))
  have g4 := pb9_128 (z := z) (u := u) (P_r (P_l (P_l (P_l (P_l (P_l (P_l (P_l (P_l (P_t h))))))))))
  have g5 := (P_r (P_l (P_l (P_l (P_l (P_l (P_l (P_l (P_t h)))))))))
  have g6 := pb6_171 (z := z) (u := u) (P_r (P_l (P_l (P_l (P_l (P_l (P_l (P_t h))))))))
  have g7 := pb2_192 (z := z) (u := u) (P_r (P_l (P_l (P_l (P_l (P_l (P_t h)))))))
  have g8 := pb1_205 (z := z) (u := u) (P_r (P_l (P_l (P_l (P_l (P_t h))))))
  have g9 := pb10_220 (z := z) (u := u) (P_r (P_l (P_l (P_l (P_t h)))))
  have g10 := pb7_236 (z := z) (u := u) (P_r (P_l (P_l (P_t h))))
  have g11 := pb3_251 (z := z) (u := u) (P_r (P_l (P_t h)))
  have g12 := pb5_266 (z := z) (u := u) (P_r (P_t h))
  exact List.forall_mem_cons.mpr ⟨g99, List.forall_mem_cons.mpr ⟨g0 1 (by decide), List.forall_mem_cons.mpr ⟨g0 2 (by decide), List.forall_mem_cons.mpr ⟨g0 3 (by decide), List.forall_mem_cons.mpr ⟨g0 4 (by decide), List.forall_mem_cons.mpr ⟨g0 5 (by decide), List.forall_mem_cons.mpr ⟨g0 6 (by decide), List.forall_mem_cons.mpr ⟨g0 7 (by decide), List.forall_mem_cons.mpr ⟨g0 8 (by decide), List.forall_mem_cons.mpr ⟨g0 9 (by decide), List.forall_mem_cons.mpr ⟨g0 10 (by decide), List.forall_mem_cons.mpr ⟨g0 11 (by decide), List.forall_mem_cons.mpr ⟨g0 12 (by decide), List.forall_mem_cons.mpr ⟨g0 13 (by decide), List.forall_mem_cons.mpr ⟨g0 14 (by decide), List.forall_mem_cons.mpr ⟨g0 15 (by decide), List.forall_mem_cons.mpr ⟨g0 16 (by decide), List.forall_mem_cons.mpr ⟨g0 17 (by decide), List.forall_mem_cons.mpr ⟨g0 18 (by decide), List.forall_mem_cons.mpr ⟨g0 19 (by decide), List.forall_mem_cons.mpr ⟨g0 20 (by decide), List.forall_mem_cons.mpr ⟨g0 21 (by decide), List.forall_mem_cons.mpr ⟨g0 22 (by decide), List.forall_mem_cons.mpr ⟨g0 23 (by decide), List.forall_mem_cons.mpr ⟨g0 24 (by decide), List.forall_mem_cons.mpr ⟨g0 25 (by decide), List.forall_mem_cons.mpr ⟨g0 26 (by decide), List.forall_mem_cons.mpr ⟨g0 27 (by decide), List.forall_mem_cons.mpr ⟨g0 28 (by decide), List.forall_mem_cons.mpr ⟨g0 29 (by decide), List.forall_mem_cons.mpr ⟨g0 30 (by decide), List.forall_mem_cons.mpr ⟨g0 31 (by decide), List.forall_mem_cons.mpr ⟨g0 32 (by decide), List.forall_mem_cons.mpr ⟨g0 33 (by decide), List.forall_mem_cons.mpr ⟨g0 34 (by decide), List.forall_mem_cons.mpr ⟨g0 35 (by decide), List.forall_mem_cons.mpr ⟨g0 36 (by decide), List.forall_mem_cons.mpr ⟨g0 37 (by decide), List.forall_mem_cons.mpr ⟨g0 38 (by decide), List.forall_mem_cons.mpr ⟨g0 39 (by decide), List.forall_mem_cons.mpr ⟨g0 40 (by decide), List.forall_mem_cons.mpr ⟨g0 41 (by decide), List.forall_mem_cons.mpr ⟨g0 42 (by decide), List.forall_mem_cons.mpr ⟨at_ref (n := 3) (g1 0 _ rfl) (fun j hj => by rcases (show j = 0 ∨ j = 1 ∨ j = 2 by omega) with rfl | rfl | rfl <;> rfl), List.forall_mem_cons.mpr ⟨g2 44 (by decide), List.forall_mem_cons.mpr ⟨g2 45 (by decide), List.forall_mem_cons.mpr ⟨g2 46 (by decide), List.forall_mem_cons.mpr ⟨g2 47 (by decide), List.forall_mem_cons.mpr ⟨g2 48 (by decide), List.forall_mem_cons.mpr ⟨g2 49 (by decide), List.forall_mem_cons.mpr ⟨g2 50 (by decide), List.forall_mem_cons.mpr ⟨g2 51 (by decide), List.forall_mem_cons.mpr ⟨g2 52 (by decide), List.forall_mem_cons.mpr ⟨g2 53 (by decide), List.forall_mem_cons.mpr ⟨g2 54 (by decide), List.forall_mem_cons.mpr ⟨g2 55 (by decide), List.forall_mem_cons.mpr ⟨g2 56 (by decide), List.forall_mem_cons.mpr ⟨g2 57 (by decide), List.forall_mem_cons.mpr ⟨g2 58 (by decide), List.forall_mem_cons.mpr ⟨g2 59 (by decide), List.forall_mem_cons.mpr ⟨g2 60 (by decide), List.forall_mem_cons.mpr ⟨g2 61 (by decide), List.forall_mem_cons.mpr ⟨g2 62 (by decide), List.forall_mem_cons.mpr ⟨g2 63 (by decide), List.forall_mem_cons.mpr ⟨g2 64 (by decide), List.forall_mem_cons.mpr ⟨g2 65 (by decide), List.forall_mem_cons.mpr ⟨g2 66 (by decide), List.forall_mem_cons.mpr ⟨g2 67 (by decide), List.forall_mem_cons.mpr ⟨g2 68 (by decide), List.forall_mem_cons.mpr ⟨g2 69 (by decide), List.forall_mem_cons.mpr ⟨g2 70 (by decide), List.forall_mem_cons.mpr ⟨g2 71 (by decide), List.forall_mem_cons.mpr ⟨g2 72 (by decide), List.forall_mem_cons.mpr ⟨g2 73 (by decide), List.forall_mem_cons.mpr ⟨g2 74 (by decide), List.forall_mem_cons.mpr ⟨g2 75 (by decide), List.forall_mem_cons.mpr ⟨g2 76 (by decide), List.forall_mem_cons.mpr ⟨g2 77 (by decide), List.forall_mem_cons.mpr ⟨g2 78 (by decide), List.forall_mem_cons.mpr ⟨g2 79 (by decide), List.forall_mem_cons.mpr ⟨g2 80 (by decide), List.forall_mem_cons.mpr ⟨g2 81 (by decide), List.forall_mem_cons.mpr ⟨g2 82 (by decide), List.forall_mem_cons.mpr ⟨g2 83 (by decide), List.forall_mem_cons.mpr ⟨g2 84 (by decide), List.forall_mem_cons.mpr ⟨g2 85 (by decide), List.forall_mem_cons.mpr ⟨g3 86 (by decide), List.forall_mem_cons.mpr ⟨g3 87 (by decide), List.forall_mem_cons.mpr ⟨g3 88 (by decide), List.forall_mem_cons.mpr ⟨g3 89 (by decide), List.forall_mem_cons.mpr ⟨g3 90 (by decide), List.forall_mem_cons.mpr ⟨g3 91 (by decide), List.forall_mem_cons.mpr ⟨g3 92 (by decide), List.forall_mem_cons.mpr ⟨g3 93 (by decide), List.forall_mem_cons.mpr ⟨g3 94 (by decide), List.forall_mem_cons.mpr ⟨g3 95 (by decide), List.forall_mem_cons.mpr ⟨g3 96 (by decide), List.forall_mem_cons.mpr ⟨g3 97 (by decide), List.forall_mem_cons.mpr ⟨g3 98 (by decide), List.forall_mem_cons.mpr ⟨g3 99 (by decide), List.forall_mem_cons.mpr ⟨g3 100 (by decide), List.forall_mem_cons.mpr ⟨g3 101 (by decide), List.forall_mem_cons.mpr ⟨g3 102 (by decide), List.forall_mem_cons.mpr ⟨g3 103 (by decide), List.forall_mem_cons.mpr ⟨g3 104 (by decide), List.forall_mem_cons.mpr ⟨g3 105 (by decide), List.forall_mem_cons.mpr ⟨g3 106 (by decide), List.forall_mem_cons.mpr ⟨g3 107 (by decide), List.forall_mem_cons.mpr ⟨g3 108 (by decide), List.forall_mem_cons.mpr ⟨g3 109 (by decide), List.forall_mem_cons.mpr ⟨g3 110 (by decide), List.forall_mem_cons.mpr ⟨g3 111 (by decide), List.forall_mem_cons.mpr ⟨g3 112 (by decide), List.forall_mem_cons.mpr ⟨g3 113 (by decide), List.forall_mem_cons.mpr ⟨g3 114 (by decide), List.forall_mem_cons.mpr ⟨g3 115 (by decide), List.forall_mem_cons.mpr ⟨g3 116 (by decide), List.forall_mem_cons.mpr ⟨g3 117 (by decide), List.forall_mem_cons.mpr ⟨g3 118 (by decide), List.forall_mem_cons.mpr ⟨g3 119 (by decide), List.forall_mem_cons.mpr ⟨g3 120 (by decide), List.forall_mem_cons.mpr ⟨g3 121 (by decide), List.forall_mem_cons.mpr ⟨g3 122 (by decide), List.forall_mem_cons.mpr ⟨g3 123 (by decide), List.forall_mem_cons.mpr ⟨g3 124 (by decide), List.forall_mem_cons.mpr ⟨g3 125 (by decide), List.forall_mem_cons.mpr ⟨g3 126 (by decide), List.forall_mem_cons.mpr ⟨g3 127 (by decide), List.forall_mem_cons.mpr ⟨g4 128 (by decide), List.forall_mem_cons.mpr ⟨g4 129 (by decide), List.forall_mem_cons.mpr ⟨g4 130 (by decide), List.forall_mem_cons.mpr ⟨g4 131 (by decide), List.forall_mem_cons.mpr ⟨g4 132 (by decide), List.forall_mem_cons.mpr ⟨g4 133 (by decide), List.forall_mem_cons.mpr ⟨g4 134 (by decide), List.forall_mem_cons.mpr ⟨g4 135 (by decide), List.forall_mem_cons.mpr ⟨g4 136 (by decide), List.forall_mem_cons.mpr ⟨g4 137 (by decide), List.forall_mem_cons.mpr ⟨g4 138 (by decide), List.forall_mem_cons.mpr ⟨g4 139 (by decide), List.forall_mem_cons.mpr ⟨g4 140 (by decide), List.forall_mem_cons.mpr ⟨g4 141 (by decide), List.forall_mem_cons.mpr ⟨g4 142 (by decide), List.forall_mem_cons.mpr ⟨g4 143 (by decide), List.forall_mem_cons.mpr ⟨g4 144 (by decide), List.forall_mem_cons.mpr ⟨g4 145 (by decide), List.forall_mem_cons.mpr ⟨g4 146 (by decide), List.forall_mem_cons.mpr ⟨g4 147 (by decide), List.forall_mem_cons.mpr ⟨g4 148 (by decide), List.forall_mem_cons.mpr ⟨g4 149 (by decide), List.forall_mem_cons.mpr ⟨g4 150 (by decide), List.forall_mem_cons.mpr ⟨g4 151 (by decide), List.forall_mem_cons.mpr ⟨g4 152 (by decide), List.forall_mem_cons.mpr ⟨g4 153 (by decide), List.forall_mem_cons.mpr ⟨g4 154 (by decide), List.forall_mem_cons.mpr ⟨g4 155 (by decide), List.forall_mem_cons.mpr ⟨g4 156 (by decide), List.forall_mem_cons.mpr ⟨g4 157 (by decide), List.forall_mem_cons.mpr ⟨g4 158 (by decide), List.forall_mem_cons.mpr ⟨g4 159 (by decide), List.forall_mem_cons.mpr ⟨g4 160 (by decide), List.forall_mem_cons.mpr ⟨g4 161 (by decide), List.forall_mem_cons.mpr ⟨g4 162 (by decide), List.forall_mem_cons.mpr ⟨g4 163 (by decide), List.forall_mem_cons.mpr ⟨g4 164 (by decide), List.forall_mem_cons.mpr ⟨g4 165 (by decide), List.forall_mem_cons.mpr ⟨g4 166 (by decide), List.forall_mem_cons.mpr ⟨g4 167 (by decide), List.forall_mem_cons.mpr ⟨g4 168 (by decide), List.forall_mem_cons.mpr ⟨g4 169 (by decide), List.forall_mem_cons.mpr ⟨g5 0 _ rfl, List.forall_mem_cons.mpr ⟨g6 171 (by decide), List.forall_mem_cons.mpr ⟨g6 172 (by decide), List.forall_mem_cons.mpr ⟨g6 173 (by decide), List.forall_mem_cons.mpr ⟨g6 174 (by decide), List.forall_mem_cons.mpr ⟨g6 175 (by decide), List.forall_mem_cons.mpr ⟨g6 176 (by decide), List.forall_mem_cons.mpr ⟨g6 177 (by decide), List.forall_mem_cons.mpr ⟨g6 178 (by decide), List.forall_mem_cons.mpr ⟨g6 179 (by decide), List.forall_mem_cons.mpr ⟨g6 180 (by decide), List.forall_mem_cons.mpr ⟨g6 181 (by decide), List.forall_mem_cons.mpr ⟨g6 182 (by decide), List.forall_mem_cons.mpr ⟨g6 183 (by decide), List.forall_mem_cons.mpr ⟨g6 184 (by decide), List.forall_mem_cons.mpr ⟨g6 185 (by decide), List.forall_mem_cons.mpr ⟨g6 186 (by decide), List.forall_mem_cons.mpr ⟨g6 187 (by decide), List.forall_mem_cons.mpr ⟨g6 188 (by decide), List.forall_mem_cons.mpr ⟨g6 189 (by decide), List.forall_mem_cons.mpr ⟨g6 190 (by decide), List.forall_mem_cons.mpr ⟨g6 191 (by decide), List.forall_mem_cons.mpr ⟨g7 192 (by decide), List.forall_mem_cons.mpr ⟨g7 193 (by decide), List.forall_mem_cons.mpr ⟨g7 194 (by decide), List.forall_mem_cons.mpr ⟨g7 195 (by decide), List.forall_mem_cons.mpr ⟨g7 196 (by decide), List.forall_mem_cons.mpr ⟨g7 197 (by decide), List.forall_mem_cons.mpr ⟨g7 198 (by decide), List.forall_mem_cons.mpr ⟨g7 199 (by decide), List.forall_mem_cons.mpr ⟨g7 200 (by decide), List.forall_mem_cons.mpr ⟨g7 201 (by decide), List.forall_mem_cons.mpr ⟨g7 202 (by decide), List.forall_mem_cons.mpr ⟨g7 203 (by decide), List.forall_mem_cons.mpr ⟨g7 204 (by decide), List.forall_mem_cons.mpr ⟨g8 205 (by decide), List.forall_mem_cons.mpr ⟨g8 206 (by decide), List.forall_mem_cons.mpr ⟨g8 207 (by decide), List.forall_mem_cons.mpr ⟨g8 208 (by decide), List.forall_mem_cons.mpr ⟨g8 209 (by decide), List.forall_mem_cons.mpr ⟨g8 210 (by decide), List.forall_mem_cons.mpr ⟨g8 211 (by decide), List.forall_mem_cons.mpr ⟨g8 212 (by decide), List.forall_mem_cons.mpr ⟨g8 213 (by decide), List.forall_mem_cons.mpr ⟨g8 214 (by decide), List.forall_mem_cons.mpr ⟨g8 215 (by decide), List.forall_mem_cons.mpr ⟨g8 216 (by decide), List.forall_mem_cons.mpr ⟨g8 217 (by decide), List.forall_mem_cons.mpr ⟨g8 218 (by decide), List.forall_mem_cons.mpr ⟨g8 219 (by decide), List.forall_mem_cons.mpr ⟨g9 220 (by decide), List.forall_mem_cons.mpr ⟨g9 221 (by decide), List.forall_mem_cons.mpr ⟨g9 222 (by decide), List.forall_mem_cons.mpr ⟨g9 223 (by decide), List.forall_mem_cons.mpr ⟨g9 224 (by decide), List.forall_mem_cons.mpr ⟨g9 225 (by decide), List.forall_mem_cons.mpr ⟨g9 226 (by decide), List.forall_mem_cons.mpr ⟨g9 227 (by decide), List.forall_mem_cons.mpr ⟨g9 228 (by decide), List.forall_mem_cons.mpr ⟨g9 229 (by decide), List.forall_mem_cons.mpr ⟨g9 230 (by decide), List.forall_mem_cons.mpr ⟨g9 231 (by decide), List.forall_mem_cons.mpr ⟨g9 232 (by decide), List.forall_mem_cons.mpr ⟨g9 233 (by decide), List.forall_mem_cons.mpr ⟨g9 234 (by decide), List.forall_mem_cons.mpr ⟨g9 235 (by decide), List.forall_mem_cons.mpr ⟨g10 236 (by decide), List.forall_mem_cons.mpr ⟨g10 237 (by decide), List.forall_mem_cons.mpr ⟨g10 238 (by decide), List.forall_mem_cons.mpr ⟨g10 239 (by decide), List.forall_mem_cons.mpr ⟨g10 240 (by decide), List.forall_mem_cons.mpr ⟨g10 241 (by decide), List.forall_mem_cons.mpr ⟨g10 242 (by decide), List.forall_mem_cons.mpr ⟨g10 243 (by decide), List.forall_mem_cons.mpr ⟨g10 244 (by decide), List.forall_mem_cons.mpr ⟨g10 245 (by decide), List.forall_mem_cons.mpr ⟨g10 246 (by decide), List.forall_mem_cons.mpr ⟨g10 247 (by decide), List.forall_mem_cons.mpr ⟨g10 248 (by decide), List.forall_mem_cons.mpr ⟨g10 249 (by decide), List.forall_mem_cons.mpr ⟨g10 250 (by decide), List.forall_mem_cons.mpr ⟨g11 251 (by decide), List.forall_mem_cons.mpr ⟨g11 252 (by decide), List.forall_mem_cons.mpr ⟨g11 253 (by decide), List.forall_mem_cons.mpr ⟨g11 254 (by decide), List.forall_mem_cons.mpr ⟨g11 255 (by decide), List.forall_mem_cons.mpr ⟨g11 256 (by decide), List.forall_mem_cons.mpr ⟨g11 257 (by decide), List.forall_mem_cons.mpr ⟨g11 258 (by decide), List.forall_mem_cons.mpr ⟨g11 259 (by decide), List.forall_mem_cons.mpr ⟨g11 260 (by decide), List.forall_mem_cons.mpr ⟨g11 261 (by decide), List.forall_mem_cons.mpr ⟨g11 262 (by decide), List.forall_mem_cons.mpr ⟨g11 263 (by decide), List.forall_mem_cons.mpr ⟨g11 264 (by decide), List.forall_mem_cons.mpr ⟨g11 265 (by decide), List.forall_mem_cons.mpr ⟨g12 266 (by decide), List.forall_mem_cons.mpr ⟨g12 267 (by decide), List.forall_mem_cons.mpr ⟨g12 268 (by decide), List.forall_mem_cons.mpr ⟨g12 269 (by decide), fun _ h => absurd h List.not_mem_nil⟩⟩⟩⟩⟩⟩⟩⟩⟩⟩⟩⟩⟩⟩⟩⟩⟩⟩⟩⟩⟩⟩⟩⟩⟩⟩⟩⟩⟩⟩⟩⟩⟩⟩⟩⟩⟩⟩⟩⟩⟩⟩⟩⟩⟩⟩⟩⟩⟩⟩⟩⟩⟩⟩⟩⟩⟩⟩⟩⟩⟩⟩⟩⟩⟩⟩⟩⟩⟩⟩⟩⟩⟩⟩⟩⟩⟩⟩⟩⟩⟩⟩⟩⟩⟩⟩⟩⟩⟩⟩⟩⟩⟩⟩⟩⟩⟩⟩⟩⟩⟩⟩⟩⟩⟩⟩⟩⟩⟩⟩⟩⟩⟩⟩⟩⟩⟩⟩⟩⟩⟩⟩⟩⟩⟩⟩⟩⟩⟩⟩⟩⟩⟩⟩⟩⟩⟩⟩⟩⟩⟩⟩⟩⟩⟩⟩⟩⟩⟩⟩⟩⟩⟩⟩⟩⟩⟩⟩⟩⟩⟩⟩⟩⟩⟩⟩⟩⟩⟩⟩⟩⟩⟩⟩⟩⟩⟩⟩⟩⟩⟩⟩⟩⟩⟩⟩⟩⟩⟩⟩⟩⟩⟩⟩⟩⟩⟩⟩⟩⟩⟩⟩⟩⟩⟩⟩⟩⟩⟩⟩⟩⟩⟩⟩⟩⟩⟩⟩⟩⟩⟩⟩⟩⟩⟩⟩⟩⟩⟩⟩⟩⟩⟩⟩⟩⟩⟩⟩⟩⟩⟩⟩⟩⟩⟩⟩⟩⟩⟩⟩⟩⟩⟩⟩⟩⟩⟩⟩⟩⟩⟩⟩⟩⟩⟩⟩⟩⟩⟩⟩
