theorem pm_0 (z : Sx) (f : Nat → Nat) : (PW_0 z f).map Prod.fst = ([0, 1, 2, 3, 4, 5, 6, 7, 8] : List Nat).map f := by simp only [PW_0, List.map_append, List.map_cons, List.map_nil, List.cons_append, List.nil_append, List.append_assoc, Nat.reduceAdd]
theorem pm_8 (z : Sx) (f : Nat → Nat) : (PW_8 z f).map Prod.fst = ([0, 1, 2, 3] : List Nat).map f := by simp only [PW_8, List.map_append, List.map_cons, List.map_nil, List.cons_append, List.nil_append, List.append_assoc, Nat.reduceAdd]
theorem pm_4 (z : Sx) (f : Nat → Nat) : (PW_4 z f).map Prod.fst = ([0, 1, 2, 3, 4] : List Nat).map f := by simp only [PW_4, List.map_append, List.map_cons, List.map_nil, List.cons_append, List.nil_append, List.append_assoc, Nat.reduceAdd]
theorem pm_5 (z : Sx) (f : Nat → Nat) : (PW_5 z f).map Prod.fst = ([0, 1, 2, 3] : List Nat).map f := by simp only [PW_5, List.map_append, List.map_cons, List.map_nil, List.cons_append, List.nil_append, List.append_assoc, Nat.reduceAdd]
theorem pm_2 (z : Sx) (f : Nat → Nat) : (PW_2 z f).map Prod.fst = ([0, 1, 2, 3, 4, 5, 6, 7, 8, 9, 10, 11, 12] : List Nat).map f := by simp only [PW_2, pm_0, List.map_append, List.map_cons, List.map_nil, List.cons_append, List.nil_append, List.append_assoc, Nat.reduceAdd]
theorem pm_1 (z : Sx) (f : Nat → Nat) : (PW_1 z f).map Prod.fst = ([0, 1, 2, 3, 4, 5, 6, 7, 8, 9, 10, 11, 12, 13, 14] : List Nat).map f := by simp only [PW_1, pm_2, List.map_append, List.map_cons, List.map_nil, List.cons_append, List.nil_append, List.append_assoc, Nat.reduceAdd]
theorem pm_10 (z : Sx) (f : Nat → Nat) : (PW_10 z f).map Prod.fst = ([0, 1, 2, 3, 4, 5, 6, 7, 8, 9, 10, 11, 12, 13, 14, 15] : List Nat).map f := by simp only [PW_10, pm_2, List.map_append, List.map_cons, List.map_nil, List.cons_append, List.nil_append, List.append_assoc, Nat.reduceAdd]
theorem pm_7 (z : Sx) (f : Nat → Nat) : (PW_7 z f).map Prod.fst = ([0, 1, 2, 3, 4, 5, 6, 7, 8, 9, 10, 11, 12, 13, 14] : List Nat).map f := by simp only [PW_7, pm_2, List.map_append, List.map_cons, List.map_nil, List.cons_append, List.nil_append, List.append_assoc, Nat.reduceAdd]
theorem pm_3 (z : Sx) (f : Nat → Nat) : (PW_3 z f).map Prod.fst = ([0, 1, 2, 3, 4, 5, 6, 7, 8, 9, 10, 11, 12, 13, 14] : List Nat).map f := by simp only [PW_3, pm_2, List.map_append, List.map_cons, List.map_nil, List.cons_append, List.nil_append, List.append_assoc, Nat.reduceAdd]
theorem pm_6 (z : Sx) (f : Nat → Nat) : (PW_6 z f).map Prod.fst = ([0, 1, 2, 3, 4, 5, 6, 7, 8, 9, 10, 11, 12, 13, 14, 15, 16, 17, 18, 19, 20] : List Nat).map f := by simp only [PW_6, pm_0, pm_4, pm_8, List.map_append, List.map_cons, List.map_nil, List.cons_append, List.nil_append, List.append_assoc, Nat.reduceAdd]
theorem pm_9 (z : Sx) (f : Nat → Nat) : (PW_9 z f).map Prod.fst = ([0, 1, 2, 3, 4, 5, 6, 7, 8, 9, 10, 11, 12, 13, 14, 24, 25, 26, 27, 32, 33, 34, 35, 36, 15, 16, 17, 18, 19, 20, 21, 22, 23, 28, 29, 30, 31, 37, 38, 39, 40, 41] : List Nat).map f := by simp only [PW_9, pm_0, pm_4, pm_8, List.map_append, List.map_cons, List.map_nil, List.cons_append, List.nil_append, List.append_assoc, Nat.reduceAdd]
def invL : List Nat := [0, 1, 2, 3, 4, 5, 6, 7, 8, 9, 10, 11, 12, 13, 14, 15, 25, 26, 27, 28, 33, 34, 35, 36, 37, 16, 17, 18, 19, 20, 21, 22, 23, 24, 29, 30, 31, 32, 38, 39, 40, 41, 42, 43, 44, 45, 46, 47, 48, 49, 50, 51, 52, 53, 54, 55, 56, 57, 58, 68, 69, 70, 71, 76, 77, 78, 79, 80, 59, 60, 61, 62, 63, 64, 65, 66, 67, 72, 73, 74, 75, 81, 82, 83, 84, 85, 86, 87, 88, 89, 90, 91, 92, 93, 94, 95, 96, 97, 98, 99, 100, 110, 111, 112, 113, 118, 119, 120, 121, 122, 101, 102, 103, 104, 105, 106, 107, 108, 109, 114, 115, 116, 117, 123, 124, 125, 126, 127, 128, 129, 130, 131, 132, 133, 134, 135, 136, 137, 138, 139, 140, 141, 142, 152, 153, 154, 155, 160, 161, 162, 163, 164, 143, 144, 145, 146, 147, 148, 149, 150, 151, 156, 157, 158, 159, 165, 166, 167, 168, 169, 170, 171, 172, 173, 174, 175, 176, 177, 178, 179, 180, 181, 182, 183, 184, 185, 186, 187, 188, 189, 190, 191, 192, 193, 194, 195, 196, 197, 198, 199, 200, 201, 202, 203, 204, 205, 206, 207, 208, 209, 210, 211, 212, 213, 214, 215, 216, 217, 218, 219, 220, 221, 222, 223, 224, 225, 226, 227, 228, 229, 230, 231, 232, 233, 234, 235, 236, 237, 238, 239, 240, 241, 242, 243, 244, 245, 246, 247, 248, 249, 250, 251, 252, 253, 254, 255, 256, 257, 258, 259, 260, 261, 262, 263, 264, 265, 266, 267, 268, 269]
def posL : List Nat := [0, 1, 2, 3, 4, 5, 6, 7, 8, 9, 10, 11, 12, 13, 14, 15, 25, 26, 27, 28, 29, 30, 31, 32, 33, 16, 17, 18, 19, 34, 35, 36, 37, 20, 21, 22, 23, 24, 38, 39, 40, 41, 42, 43, 44, 45, 46, 47, 48, 49, 50, 51, 52, 53, 54, 55, 56, 57, 58, 68, 69, 70, 71, 72, 73, 74, 75, 76, 59, 60, 61, 62, 77, 78, 79, 80, 63, 64, 65, 66, 67, 81, 82, 83, 84, 85, 86, 87, 88, 89, 90, 91, 92, 93, 94, 95, 96, 97, 98, 99, 100, 110, 111, 112, 113, 114, 115, 116, 117, 118, 101, 102, 103, 104, 119, 120, 121, 122, 105, 106, 107, 108, 109, 123, 124, 125, 126, 127, 128, 129, 130, 131, 132, 133, 134, 135, 136, 137, 138, 139, 140, 141, 142, 152, 153, 154, 155, 156, 157, 158, 159, 160, 143, 144, 145, 146, 161, 162, 163, 164, 147, 148, 149, 150, 151, 165, 166, 167, 168, 169, 170, 171, 172, 173, 174, 175, 176, 177, 178, 179, 180, 181, 182, 183, 184, 185, 186, 187, 188, 189, 190, 191, 192, 193, 194, 195, 196, 197, 198, 199, 200, 201, 202, 203, 204, 205, 206, 207, 208, 209, 210, 211, 212, 213, 214, 215, 216, 217, 218, 219, 220, 221, 222, 223, 224, 225, 226, 227, 228, 229, 230, 231, 232, 233, 234, 235, 236, 237, 238, 239, 240, 241, 242, 243, 244, 245, 246, 247, 248, 249, 250, 251, 252, 253, 254, 255, 256, 257, 258, 259, 260, 261, 262, 263, 264, 265, 266, 267, 268, 269]
set_option maxRecDepth 100000 in
set_option maxHeartbeats 4000000 in
theorem pm_11 (z : Sx) (u : Nat → Nat) : (PW_11 z u).map Prod.fst = invL.map u := by simp only [PW_11, invL, pm_1, pm_10, pm_2, pm_3, pm_5, pm_6, pm_7, pm_9, List.map_append, List.map_cons, List.map_nil, List.cons_append, List.nil_append, List.append_assoc, Nat.reduceAdd]
theorem pos_get : ∀ a, a < 270 → invL[posL.getD a 0]? = some a := by decide +kernel
theorem pw_inj {A : Nat → Prop} {z : Sx} {u : Nat → Nat} (hD : va_D A (PW_11 z u)) : (∀ a, a < 270 → A (u a)) ∧ ∀ a b, a < 270 → b < 270 → u a = u b → a = b := by
  have key : ∀ a, a < 270 → ∃ e, (PW_11 z u)[posL.getD a 0]? = some (u a, e) := by
    intro a ha
    have h2 : ((PW_11 z u).map Prod.fst)[posL.getD a 0]? = some (u a) := by rw [pm_11, List.getElem?_map, pos_get a ha]; rfl
    rw [List.getElem?_map] at h2
    cases h3 : (PW_11 z u)[posL.getD a 0]? with
    | none => rw [h3] at h2; cases h2
    | some q =>
      rw [h3] at h2
      have h4 : q.1 = u a := Option.some.inj h2
      exact ⟨q.2, by rw [← h4]⟩
  refine ⟨fun a ha => ?_, fun a b ha hb e => ?_⟩
  · obtain ⟨e1, h1⟩ := key a ha
    exact hD.2 _ _ h1
  · obtain ⟨e1, h1⟩ := key a ha
    obtain ⟨e2, h2⟩ := key b hb
    have h3 := hD.1 _ _ _ _ h1 h2 e
    have h4 := pos_get a ha
    rw [h3, pos_get b hb] at h4
    exact (Option.some.inj h4).symm
def zC (z : Sx) (u : Nat → Nat) : Sx := (z.1, z.2.1, u, kdC, 270)
def zM (z : Sx) (u : Nat → Nat) : Sx := (z.1, z.2.1, u, kdM, 14)
theorem zC_ok {A : Nat → Prop} {z : Sx} {u : Nat → Nat} (hD : va_D A (PW_11 z u)) : ZOk (zC z u) := ⟨(pw_inj hD).2, fun k h => kdC_lt h, by show 270 < 100000; decide⟩
theorem in270 : ∀ k, k < 270 → k ∈ ([0, 1, 2, 3, 4, 5, 6, 7, 8, 9, 10, 11, 12, 13, 14, 15, 16, 17, 18, 19, 20, 21, 22, 23, 24, 25, 26, 27, 28, 29, 30, 31, 32, 33, 34, 35, 36, 37, 38, 39, 40, 41, 42, 43, 44, 45, 46, 47, 48, 49, 50, 51, 52, 53, 54, 55, 56, 57, 58, 59, 60, 61, 62, 63, 64, 65, 66, 67, 68, 69, 70, 71, 72, 73, 74, 75, 76, 77, 78, 79, 80, 81, 82, 83, 84, 85, 86, 87, 88, 89, 90, 91, 92, 93, 94, 95, 96, 97, 98, 99, 100, 101, 102, 103, 104, 105, 106, 107, 108, 109, 110, 111, 112, 113, 114, 115, 116, 117, 118, 119, 120, 121, 122, 123, 124, 125, 126, 127, 128, 129, 130, 131, 132, 133, 134, 135, 136, 137, 138, 139, 140, 141, 142, 143, 144, 145, 146, 147, 148, 149, 150, 151, 152, 153, 154, 155, 156, 157, 158, 159, 160, 161, 162, 163, 164, 165, 166, 167, 168, 169, 170, 171, 172, 173, 174, 175, 176, 177, 178, 179, 180, 181, 182, 183, 184, 185, 186, 187, 188, 189, 190, 191, 192, 193, 194, 195, 196, 197, 198, 199, 200, 201, 202, 203, 204, 205, 206, 207, 208, 209, 210, 211, 212, 213, 214, 215, 216, 217, 218, 219, 220, 221, 222, 223, 224, 225, 226, 227, 228, 229, 230, 231, 232, 233, 234, 235, 236, 237, 238, 239, 240, 241, 242, 243, 244, 245, 246, 247, 248, 249, 250, 251, 252, 253, 254, 255, 256, 257, 258, 259, 260, 261, 262, 263, 264, 265, 266, 267, 268, 269] : List Nat) := by decide +kernel
theorem zC_P {z : Sx} {u : Nat → Nat} {H : Heap} (h : va_P z.1 classes (PW_11 z u) H) : va_P z.1 classes (mws (zC z u) s0C) H := by
  intro k q hk
  have h1 : k < 270 := by have := (List.getElem?_eq_some_iff.mp hk).1; simpa [mws, zC] using this
  rw [mws_at (z := zC z u) h1] at hk
  cases hk
  exact pw_all h k (in270 k h1)
theorem in14 : ∀ k, k < 14 → k ∈ ([0, 1, 2, 3, 4, 5, 6, 7, 8, 9, 10, 11, 12, 13] : List Nat) := by decide +kernel
set_option maxRecDepth 100000 in
set_option maxHeartbeats 4000000 in
theorem pm_all {z : Sx} {u : Nat → Nat} {H : Heap} (h : va_P z.1 classes (PW_12 z u) H) : ∀ k ∈ ([0, 1, 2, 3, 4, 5, 6, 7, 8, 9, 10, 11, 12, 13] : List Nat), va_at z.1 classes (u k, ent kdM z.2.1 u s0M k) H := List.forall_mem_cons.mpr ⟨h 0 _ rfl, List.forall_mem_cons.mpr ⟨h 1 _ rfl, List.forall_mem_cons.mpr ⟨h 2 _ rfl, List.forall_mem_cons.mpr ⟨h 3 _ rfl, List.forall_mem_cons.mpr ⟨h 4 _ rfl, List.forall_mem_cons.mpr ⟨h 5 _ rfl, List.forall_mem_cons.mpr ⟨h 6 _ rfl, List.forall_mem_cons.mpr ⟨h 7 _ rfl, List.forall_mem_cons.mpr ⟨h 8 _ rfl, List.forall_mem_cons.mpr ⟨h 9 _ rfl, List.forall_mem_cons.mpr ⟨h 10 _ rfl, List.forall_mem_cons.mpr ⟨h 11 _ rfl, List.forall_mem_cons.mpr ⟨h 12 _ rfl, List.forall_mem_cons.mpr ⟨h 13 _ rfl, fun _ h => absurd h List.not_mem_nil⟩⟩⟩⟩⟩⟩⟩⟩⟩⟩⟩⟩⟩⟩
theorem kdM_lt {k : Nat} (h : (kdM k).1 < 99) : k < 14 := by
  rcases Nat.lt_or_ge k 14 with q | q
  · exact q
  · have : kdM k = (99, 0) := by
      unfold kdM
      rw [List.getD_eq_getElem?_getD, List.getElem?_eq_none (by exact q)]; rfl
    rw [this] at h; exact absurd h (by decide)
theorem zM_P {z : Sx} {u : Nat → Nat} {H : Heap} (h : va_P z.1 classes (PW_12 z u) H) : va_P z.1 classes (mws (zM z u) s0M) H := by
  intro k q hk
  have h1 : k < 14 := by have := (List.getElem?_eq_some_iff.mp hk).1; simpa [mws, zM] using this
  rw [mws_at (z := zM z u) h1] at hk
  cases hk
  exact pm_all h k (in14 k h1)
theorem pm_get {z : Sx} {u : Nat → Nat} : ∀ k ∈ ([0, 1, 2, 3, 4, 5, 6, 7, 8, 9, 10, 11, 12, 13] : List Nat), ∃ e, (PW_12 z u)[k]? = some (u k, e) := List.forall_mem_cons.mpr ⟨⟨_, rfl⟩, List.forall_mem_cons.mpr ⟨⟨_, rfl⟩, List.forall_mem_cons.mpr ⟨⟨_, rfl⟩, List.forall_mem_cons.mpr ⟨⟨_, rfl⟩, List.forall_mem_cons.mpr ⟨⟨_, rfl⟩, List.forall_mem_cons.mpr ⟨⟨_, rfl⟩, List.forall_mem_cons.mpr ⟨⟨_, rfl⟩, List.forall_mem_cons.mpr ⟨⟨_, rfl⟩, List.forall_mem_cons.mpr ⟨⟨_, rfl⟩, List.forall_mem_cons.mpr ⟨⟨_, rfl⟩, List.forall_mem_cons.mpr ⟨⟨_, rfl⟩, List.forall_mem_cons.mpr ⟨⟨_, rfl⟩, List.forall_mem_cons.mpr ⟨⟨_, rfl⟩, List.forall_mem_cons.mpr ⟨⟨_, rfl⟩, fun _ h => absurd h List.not_mem_nil⟩⟩⟩⟩⟩⟩⟩⟩⟩⟩⟩⟩⟩⟩
theorem zM_ok {A : Nat → Prop} {z : Sx} {u : Nat → Nat} (hD : va_D A (PW_12 z u)) : ZOk (zM z u) := by
  refine ⟨fun i j hi hj e => ?_, fun k h => kdM_lt h, by show 14 < 100000; decide⟩
  obtain ⟨e1, h1⟩ := pm_get (z := z) (u := u) i (in14 i hi)
  obtain ⟨e2, h2⟩ := pm_get (z := z) (u := u) j (in14 j hj)
  exact hD.1 _ _ _ _ h1 h2 e
