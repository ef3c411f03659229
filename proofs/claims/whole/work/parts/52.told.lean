/-! THE CLASS'S Told, Morph, Shape, Name and Sizes: their cells, and what reads them. -/
/-- a Shape at a: its Name, the name's signs, its parts -/
def z_ShL (T : z_Ty) (R : z_Rs) (a : Nat) : Prop :=
  z_tk T a = 13 ∧ z_tk T (a + 1) = 7 ∧ z_tk T (a + 2) = 0 ∧ z_ln T (a + 2) = 6 ∧ z_tk T (a + 3) = 0 ∧ z_ln T (a + 3) = 6 ∧ R a 0 = a + 1 ∧ R a 1 = a + 3 ∧ R (a + 1) 0 = a + 2
/-- a Morph at a: its Name, the name's signs, the images, their four rows, their sizes -/
def z_MoL (T : z_Ty) (R : z_Rs) (a : Nat) : Prop :=
  (z_tk T a = 5 ∧ z_tk T (a + 1) = 7 ∧ z_tk T (a + 2) = 0 ∧ z_ln T (a + 2) = 6 ∧ z_tk T (a + 3) = 8 ∧ z_ln T (a + 3) = 4 ∧ z_tk T (a + 8) = 0 ∧ z_ln T (a + 8) = 4) ∧
  (∀ i, i < 4 → z_tk T (a + 4 + i) = 0 ∧ z_ln T (a + 4 + i) = 6 ∧ R (a + 3) i = a + 4 + i) ∧ R a 0 = a + 1 ∧ R a 1 = a + 3 ∧ R a 2 = a + 8 ∧ R (a + 1) 0 = a + 2
/-- a Told at a: its maps' and its shapes' rows; the k-th Morph at a + 3 + 13 k, the k-th Shape at a + 12 + 13 k -/
def z_TdL (T : z_Ty) (R : z_Rs) (a : Nat) : Prop :=
  (z_tk T a = 19 ∧ z_tk T (a + 1) = 12 ∧ z_ln T (a + 1) = 4 ∧ z_tk T (a + 2) = 14 ∧ z_ln T (a + 2) = 4 ∧ R a 0 = a + 1 ∧ R a 1 = a + 2) ∧
  (∀ k, k < 4 → R (a + 1) k = a + 3 + 13 * k ∧ R (a + 2) k = a + 12 + 13 * k ∧ z_MoL T R (a + 3 + 13 * k) ∧ z_ShL T R (a + 12 + 13 * k))
theorem z_ShX {T : z_Ty} {R : z_Rs} {a : Nat} (L : z_ShL T R a) :
    (∀ {β : Type} {c : z_C} {I : z_Is} {J : z_Js} {f : Nat → Option β}, gR_ (c, T, I, J, R) a 6 0 f = f (a + 1)) ∧
    (∀ {β : Type} {c : z_C} {I : z_Is} {J : z_Js} {f : Nat → Option β}, gR_ (c, T, I, J, R) a 6 1 f = f (a + 3)) ∧
    (∀ {β : Type} {c : z_C} {I : z_Is} {J : z_Js} {f : Nat → Option β}, gR_ (c, T, I, J, R) (a + 1) 3 0 f = f (a + 2)) := by
  obtain ⟨l1, l2, l3, l4, l5, l6, r0, r1, r2⟩ := L
  refine ⟨?_, ?_, ?_⟩
  · intro β c I J f; rw [z_gR (by omega), r0]
  · intro β c I J f; rw [z_gR (by omega), r1]
  · intro β c I J f; rw [z_gR (by omega), r2]
theorem z_MoX {T : z_Ty} {R : z_Rs} {a : Nat} (L : z_MoL T R a) :
    (∀ {β : Type} {c : z_C} {I : z_Is} {J : z_Js} {f : Nat → Option β}, gR_ (c, T, I, J, R) a 2 0 f = f (a + 1)) ∧
    (∀ {β : Type} {c : z_C} {I : z_Is} {J : z_Js} {f : Nat → Option β}, gR_ (c, T, I, J, R) a 2 1 f = f (a + 3)) ∧
    (∀ {β : Type} {c : z_C} {I : z_Is} {J : z_Js} {f : Nat → Option β}, gR_ (c, T, I, J, R) a 2 2 f = f (a + 8)) ∧
    (∀ {β : Type} {c : z_C} {I : z_Is} {J : z_Js} {f : Nat → Option β}, gR_ (c, T, I, J, R) (a + 1) 3 0 f = f (a + 2)) ∧
    (∀ {β : Type} {c : z_C} {I : z_Is} {J : z_Js} {f : Nat → Option β} {v : Int}, 0 ≤ v → v < 4 → aR_ (c, T, I, J, R) (a + 3) 4 v f = f (a + 4 + v.toNat)) := by
  obtain ⟨⟨l1, l2, l3, l4, l5, l6, l7, l8⟩, m, r0, r1, r2, r3⟩ := L
  refine ⟨?_, ?_, ?_, ?_, ?_⟩
  · intro β c I J f; rw [z_gR (by omega), r0]
  · intro β c I J f; rw [z_gR (by omega), r1]
  · intro β c I J f; rw [z_gR (by omega), r2]
  · intro β c I J f; rw [z_gR (by omega), r3]
  · intro β c I J f v h0 h1; rw [z_aR (by omega) h0 (by omega), (m _ (by omega)).2.2]
theorem z_TdX {T : z_Ty} {R : z_Rs} {a : Nat} (L : z_TdL T R a) :
    (∀ {β : Type} {c : z_C} {I : z_Is} {J : z_Js} {f : Nat → Option β}, gR_ (c, T, I, J, R) a 9 0 f = f (a + 1)) ∧
    (∀ {β : Type} {c : z_C} {I : z_Is} {J : z_Js} {f : Nat → Option β}, gR_ (c, T, I, J, R) a 9 1 f = f (a + 2)) ∧
    (∀ {β : Type} {c : z_C} {I : z_Is} {J : z_Js} {f : Nat → Option β} {v : Int}, 0 ≤ v → v < 4 → aR_ (c, T, I, J, R) (a + 1) 6 v f = f (a + 3 + 13 * v.toNat)) ∧
    (∀ {β : Type} {c : z_C} {I : z_Is} {J : z_Js} {f : Nat → Option β} {v : Int}, 0 ≤ v → v < 4 → aR_ (c, T, I, J, R) (a + 2) 7 v f = f (a + 12 + 13 * v.toNat)) := by
  obtain ⟨⟨l1, l2, l3, l4, l5, r0, r1⟩, m⟩ := L
  refine ⟨?_, ?_, ?_, ?_⟩
  · intro β c I J f; rw [z_gR (by omega), r0]
  · intro β c I J f; rw [z_gR (by omega), r1]
  · intro β c I J f v h0 h1; rw [z_aR (by omega) h0 (by omega), (m _ (by omega)).1]
  · intro β c I J f v h0 h1; rw [z_aR (by omega) h0 (by omega), (m _ (by omega)).2.1]
theorem z_SzX {T : z_Ty} {R : z_Rs} {a : Nat} (L : z_SzL T R a) :
    (∀ {β : Type} {c : z_C} {I : z_Is} {J : z_Js} {f : Nat → Option β}, gR_ (c, T, I, J, R) a 7 0 f = f (a + 1)) ∧
    (∀ {β : Type} {c : z_C} {I : z_Is} {J : z_Js} {f : Nat → Option β}, gR_ (c, T, I, J, R) a 7 1 f = f (a + 2)) := by
  obtain ⟨l1, l2, l3, l4, l5, r0, r1⟩ := L
  refine ⟨?_, ?_⟩
  · intro β c I J f; rw [z_gR (by omega), r0]
  · intro β c I J f; rw [z_gR (by omega), r1]
/-- a Shape's cells hold a pattern of q letters -/
def z_Sh (I : z_Is) (a : Nat) (P : Nat → Nat) (q : Nat) : Prop := I a 2 = (q : Int) ∧ q ≤ 6 ∧ ∀ k, k < q → P k < 3 ∧ I (a + 3) k = (P k : Int)
/-- a Morph's cells hold images: their sizes, their letters, of the first A letters -/
def z_Mo (I : z_Is) (a A : Nat) (s : Nat → Nat) (m : Nat → Nat → Nat) : Prop := A ≤ 4 ∧ ∀ l, l < A → I (a + 8) l = (s l : Int) ∧ 1 ≤ s l ∧ s l ≤ 6 ∧ ∀ k, k < s l → m l k < A ∧ I (a + 4 + l) k = (m l k : Int)
theorem z_mulb {x y X Y : Int} (h1 : 0 ≤ x) (h2 : x ≤ X) (h3 : 0 ≤ y) (h4 : y ≤ Y) : 0 ≤ x * y ∧ x * y ≤ X * Y :=
  ⟨Int.mul_nonneg h1 h3, Int.mul_le_mul h2 h4 h3 (Int.le_trans h1 h2)⟩
/-- whether so many letters with a period are beyond the limit: kind, above, below -/
def z_bey (K A B n p : Int) : Prop := (K = 1 ∧ 0 ≤ n * B - A * p) ∨ (K = 2 ∧ 0 < n * B - A * p)
section Told
variable {c : z_C} {T : z_Ty} {I : z_Is} {J : z_Js} {R : z_Rs} {a n q : Nat} {f : Nat → Int} {P : Nat → Nat}
theorem z_Shape_at (L : z_ShL T R a) (V : z_Sh I a P q) (v : Int) : k_Shape_at a v (c, T, I, J, R) = some (if 0 ≤ v ∧ v < (q : Int) then (P v.toNat : Int) else 0, (c, T, I, J, R)) := by
  have X := z_ShX L
  obtain ⟨l1, l2, l3, l4, l5, l6, r0, r1, r2⟩ := L
  obtain ⟨v1, v2, v3⟩ := V
  unfold k_Shape_at
  by_cases h0 : v < 0
  · simp (disch := omega) only [↓z_jn, ↓z_lt, ↓z_cl, ↓z_cxl, ↓z_cxr, ↓z_ob, ↓z_gI, ↓z_pI, ↓z_pZ, ↓z_pR, ↓z_aI, ↓z_aJ, ↓z_sI, ↓z_sB, ↓z_sZ, ↓z_sJ, ↓z_sR, ↓z_al, ↓z_ck, ↓z_zz, ↓z_dv, ↓z_rm, ↓z_nn0, ↓z_nnS, ↓z_if1, ↓z_if0, z_ob, z_gI, z_pI, z_pZ, z_pR, z_aI, z_aJ, z_sI, z_sB, z_sZ, z_sJ, z_sR, z_al, z_ck, z_zz, z_dv, z_rm, z_nn0, z_nnS, z_if1, z_if0]
  by_cases h1 : v < (q : Int)
  · have v4 := (v3 v.toNat (by omega)).2
    simp (disch := omega) only [↓z_jn, ↓z_lt, ↓z_cl, ↓z_cxl, ↓z_cxr, ↓z_ob, ↓z_gI, ↓z_pI, ↓z_pZ, ↓z_pR, ↓z_aI, ↓z_aJ, ↓z_sI, ↓z_sB, ↓z_sZ, ↓z_sJ, ↓z_sR, ↓z_al, ↓z_ck, ↓z_zz, ↓z_dv, ↓z_rm, ↓z_nn0, ↓z_nnS, ↓z_if1, ↓z_if0, z_ob, z_gI, z_pI, z_pZ, z_pR, z_aI, z_aJ, z_sI, z_sB, z_sZ, z_sJ, z_sR, z_al, z_ck, z_zz, z_dv, z_rm, z_nn0, z_nnS, z_if1, z_if0, ↓X, X, v1, v4]
  · simp (disch := omega) only [↓z_jn, ↓z_lt, ↓z_cl, ↓z_cxl, ↓z_cxr, ↓z_ob, ↓z_gI, ↓z_pI, ↓z_pZ, ↓z_pR, ↓z_aI, ↓z_aJ, ↓z_sI, ↓z_sB, ↓z_sZ, ↓z_sJ, ↓z_sR, ↓z_al, ↓z_ck, ↓z_zz, ↓z_dv, ↓z_rm, ↓z_nn0, ↓z_nnS, ↓z_if1, ↓z_if0, z_ob, z_gI, z_pI, z_pZ, z_pR, z_aI, z_aJ, z_sI, z_sB, z_sZ, z_sJ, z_sR, z_al, z_ck, z_zz, z_dv, z_rm, z_nn0, z_nnS, z_if1, z_if0, v1]
theorem z_Morph_sizeOf {A : Nat} {s : Nat → Nat} {m : Nat → Nat → Nat} (L : z_MoL T R a) (V : z_Mo I a A s m) {v : Int} (h0 : 0 ≤ v) (h1 : v < (A : Int)) :
    k_Morph_sizeOf a v (c, T, I, J, R) = some ((s v.toNat : Int), (c, T, I, J, R)) := by
  have X := z_MoX L
  obtain ⟨⟨l1, l2, l3, l4, l5, l6, l7, l8⟩, -⟩ := L
  obtain ⟨v1, v2⟩ := V
  have v3 := (v2 v.toNat (by omega)).1
  unfold k_Morph_sizeOf
  simp (disch := omega) only [↓z_jn, ↓z_lt, ↓z_cl, ↓z_cxl, ↓z_cxr, ↓z_ob, ↓z_gI, ↓z_pI, ↓z_pZ, ↓z_pR, ↓z_aI, ↓z_aJ, ↓z_sI, ↓z_sB, ↓z_sZ, ↓z_sJ, ↓z_sR, ↓z_al, ↓z_ck, ↓z_zz, ↓z_dv, ↓z_rm, ↓z_nn0, ↓z_nnS, ↓z_if1, ↓z_if0, z_ob, z_gI, z_pI, z_pZ, z_pR, z_aI, z_aJ, z_sI, z_sB, z_sZ, z_sJ, z_sR, z_al, z_ck, z_zz, z_dv, z_rm, z_nn0, z_nnS, z_if1, z_if0, ↓X, X, v3]
theorem z_Morph_at {A : Nat} {s : Nat → Nat} {m : Nat → Nat → Nat} (L : z_MoL T R a) (V : z_Mo I a A s m) {v : Int} (h0 : 0 ≤ v) (h1 : v < (A : Int)) (w : Int) :
    k_Morph_at a v w (c, T, I, J, R) = some (if 0 ≤ w ∧ w < (s v.toNat : Int) then (m v.toNat w.toNat : Int) else -1, (c, T, I, J, R)) := by
  have X := z_MoX L
  have S := z_Morph_sizeOf (c := c) (J := J) L V h0 h1
  obtain ⟨⟨l1, l2, l3, l4, l5, l6, l7, l8⟩, l9, -⟩ := L
  obtain ⟨v1, v2⟩ := V
  obtain ⟨v3, v4, v5, v6⟩ := v2 v.toNat (by omega)
  obtain ⟨m1, m2, m3⟩ := l9 v.toNat (by omega)
  unfold k_Morph_at
  by_cases g0 : w < 0
  · simp (disch := omega) only [↓z_jn, ↓z_lt, ↓z_cl, ↓z_cxl, ↓z_cxr, ↓z_ob, ↓z_gI, ↓z_pI, ↓z_pZ, ↓z_pR, ↓z_aI, ↓z_aJ, ↓z_sI, ↓z_sB, ↓z_sZ, ↓z_sJ, ↓z_sR, ↓z_al, ↓z_ck, ↓z_zz, ↓z_dv, ↓z_rm, ↓z_nn0, ↓z_nnS, ↓z_if1, ↓z_if0, z_ob, z_gI, z_pI, z_pZ, z_pR, z_aI, z_aJ, z_sI, z_sB, z_sZ, z_sJ, z_sR, z_al, z_ck, z_zz, z_dv, z_rm, z_nn0, z_nnS, z_if1, z_if0]
  by_cases g1 : w < (s v.toNat : Int)
  · have v7 := (v6 w.toNat (by omega)).2
    simp (disch := omega) only [↓z_jn, ↓z_lt, ↓z_cl, ↓z_cxl, ↓z_cxr, ↓z_ob, ↓z_gI, ↓z_pI, ↓z_pZ, ↓z_pR, ↓z_aI, ↓z_aJ, ↓z_sI, ↓z_sB, ↓z_sZ, ↓z_sJ, ↓z_sR, ↓z_al, ↓z_ck, ↓z_zz, ↓z_dv, ↓z_rm, ↓z_nn0, ↓z_nnS, ↓z_if1, ↓z_if0, z_ob, z_gI, z_pI, z_pZ, z_pR, z_aI, z_aJ, z_sI, z_sB, z_sZ, z_sJ, z_sR, z_al, z_ck, z_zz, z_dv, z_rm, z_nn0, z_nnS, z_if1, z_if0, ↓X, X, S, v7]
  · simp (disch := omega) only [↓z_jn, ↓z_lt, ↓z_cl, ↓z_cxl, ↓z_cxr, ↓z_ob, ↓z_gI, ↓z_pI, ↓z_pZ, ↓z_pR, ↓z_aI, ↓z_aJ, ↓z_sI, ↓z_sB, ↓z_sZ, ↓z_sJ, ↓z_sR, ↓z_al, ↓z_ck, ↓z_zz, ↓z_dv, ↓z_rm, ↓z_nn0, ↓z_nnS, ↓z_if1, ↓z_if0, z_ob, z_gI, z_pI, z_pZ, z_pR, z_aI, z_aJ, z_sI, z_sB, z_sZ, z_sJ, z_sR, z_al, z_ck, z_zz, z_dv, z_rm, z_nn0, z_nnS, z_if1, z_if0, S]
theorem z_Told_shapeAt (L : z_TdL T R a) {v : Int} (h0 : 0 ≤ v) (h1 : v < 4) : k_Told_shapeAt a v (c, T, I, J, R) = some (a + 12 + 13 * v.toNat, (c, T, I, J, R)) := by
  have X := z_TdX L
  obtain ⟨⟨l1, l2, l3, l4, l5, -⟩, -⟩ := L
  unfold k_Told_shapeAt
  simp (disch := omega) only [↓z_jn, ↓z_lt, ↓z_cl, ↓z_cxl, ↓z_cxr, ↓z_ob, ↓z_gI, ↓z_pI, ↓z_pZ, ↓z_pR, ↓z_aI, ↓z_aJ, ↓z_sI, ↓z_sB, ↓z_sZ, ↓z_sJ, ↓z_sR, ↓z_al, ↓z_ck, ↓z_zz, ↓z_dv, ↓z_rm, ↓z_nn0, ↓z_nnS, ↓z_if1, ↓z_if0, z_ob, z_gI, z_pI, z_pZ, z_pR, z_aI, z_aJ, z_sI, z_sB, z_sZ, z_sJ, z_sR, z_al, z_ck, z_zz, z_dv, z_rm, z_nn0, z_nnS, z_if1, z_if0, ↓X, X]
theorem z_Told_shapeAt_no (L : z_TdL T R a) {v : Int} (h : v < 0 ∨ 4 ≤ v) : k_Told_shapeAt a v (c, T, I, J, R) = some (0, (c, T, I, J, R)) := by
  have X := z_TdX L
  obtain ⟨⟨l1, l2, l3, l4, l5, -⟩, -⟩ := L
  unfold k_Told_shapeAt
  by_cases h0 : v < 0
  · simp (disch := omega) only [↓z_jn, ↓z_lt, ↓z_cl, ↓z_cxl, ↓z_cxr, ↓z_ob, ↓z_gI, ↓z_pI, ↓z_pZ, ↓z_pR, ↓z_aI, ↓z_aJ, ↓z_sI, ↓z_sB, ↓z_sZ, ↓z_sJ, ↓z_sR, ↓z_al, ↓z_ck, ↓z_zz, ↓z_dv, ↓z_rm, ↓z_nn0, ↓z_nnS, ↓z_if1, ↓z_if0, z_ob, z_gI, z_pI, z_pZ, z_pR, z_aI, z_aJ, z_sI, z_sB, z_sZ, z_sJ, z_sR, z_al, z_ck, z_zz, z_dv, z_rm, z_nn0, z_nnS, z_if1, z_if0]
  · simp (disch := omega) only [↓z_jn, ↓z_lt, ↓z_cl, ↓z_cxl, ↓z_cxr, ↓z_ob, ↓z_gI, ↓z_pI, ↓z_pZ, ↓z_pR, ↓z_aI, ↓z_aJ, ↓z_sI, ↓z_sB, ↓z_sZ, ↓z_sJ, ↓z_sR, ↓z_al, ↓z_ck, ↓z_zz, ↓z_dv, ↓z_rm, ↓z_nn0, ↓z_nnS, ↓z_if1, ↓z_if0, z_ob, z_gI, z_pI, z_pZ, z_pR, z_aI, z_aJ, z_sI, z_sB, z_sZ, z_sJ, z_sR, z_al, z_ck, z_zz, z_dv, z_rm, z_nn0, z_nnS, z_if1, z_if0, ↓X, X]
theorem z_Told_mapAt (L : z_TdL T R a) {v : Int} (h0 : 0 ≤ v) (h1 : v < 4) : k_Told_mapAt a v (c, T, I, J, R) = some (a + 3 + 13 * v.toNat, (c, T, I, J, R)) := by
  have X := z_TdX L
  obtain ⟨⟨l1, l2, l3, l4, l5, -⟩, -⟩ := L
  unfold k_Told_mapAt
  simp (disch := omega) only [↓z_jn, ↓z_lt, ↓z_cl, ↓z_cxl, ↓z_cxr, ↓z_ob, ↓z_gI, ↓z_pI, ↓z_pZ, ↓z_pR, ↓z_aI, ↓z_aJ, ↓z_sI, ↓z_sB, ↓z_sZ, ↓z_sJ, ↓z_sR, ↓z_al, ↓z_ck, ↓z_zz, ↓z_dv, ↓z_rm, ↓z_nn0, ↓z_nnS, ↓z_if1, ↓z_if0, z_ob, z_gI, z_pI, z_pZ, z_pR, z_aI, z_aJ, z_sI, z_sB, z_sZ, z_sJ, z_sR, z_al, z_ck, z_zz, z_dv, z_rm, z_nn0, z_nnS, z_if1, z_if0, ↓X, X]
theorem z_Told_mapAt_no (L : z_TdL T R a) {v : Int} (h : v < 0 ∨ 4 ≤ v) : k_Told_mapAt a v (c, T, I, J, R) = some (0, (c, T, I, J, R)) := by
  have X := z_TdX L
  obtain ⟨⟨l1, l2, l3, l4, l5, -⟩, -⟩ := L
  unfold k_Told_mapAt
  by_cases h0 : v < 0
  · simp (disch := omega) only [↓z_jn, ↓z_lt, ↓z_cl, ↓z_cxl, ↓z_cxr, ↓z_ob, ↓z_gI, ↓z_pI, ↓z_pZ, ↓z_pR, ↓z_aI, ↓z_aJ, ↓z_sI, ↓z_sB, ↓z_sZ, ↓z_sJ, ↓z_sR, ↓z_al, ↓z_ck, ↓z_zz, ↓z_dv, ↓z_rm, ↓z_nn0, ↓z_nnS, ↓z_if1, ↓z_if0, z_ob, z_gI, z_pI, z_pZ, z_pR, z_aI, z_aJ, z_sI, z_sB, z_sZ, z_sJ, z_sR, z_al, z_ck, z_zz, z_dv, z_rm, z_nn0, z_nnS, z_if1, z_if0]
  · simp (disch := omega) only [↓z_jn, ↓z_lt, ↓z_cl, ↓z_cxl, ↓z_cxr, ↓z_ob, ↓z_gI, ↓z_pI, ↓z_pZ, ↓z_pR, ↓z_aI, ↓z_aJ, ↓z_sI, ↓z_sB, ↓z_sZ, ↓z_sJ, ↓z_sR, ↓z_al, ↓z_ck, ↓z_zz, ↓z_dv, ↓z_rm, ↓z_nn0, ↓z_nnS, ↓z_if1, ↓z_if0, z_ob, z_gI, z_pI, z_pZ, z_pR, z_aI, z_aJ, z_sI, z_sB, z_sZ, z_sJ, z_sR, z_al, z_ck, z_zz, z_dv, z_rm, z_nn0, z_nnS, z_if1, z_if0, ↓X, X]
theorem z_Told_isBeyond (L : z_TdL T R a) {K A B n p : Int} (e1 : I a 3 = K) (e2 : I a 4 = A) (e3 : I a 5 = B) (a0 : 0 ≤ A) (a1 : A ≤ 99) (b0 : 0 ≤ B) (b1 : B ≤ 9) (n0 : 0 ≤ n) (n1 : n ≤ 1000) (p0 : 0 ≤ p) (p1 : p ≤ 1000) :
    ∃ r, k_Told_isBeyond a n p (c, T, I, J, R) = some (r, (c, T, I, J, R)) ∧ (r = 0 ∨ r = 1) ∧ (r = 1 ↔ z_bey K A B n p) := by
  obtain ⟨⟨l1, -⟩, -⟩ := L
  have w1 := z_mulb n0 n1 b0 b1
  have w2 := z_mulb a0 a1 p0 p1
  unfold k_Told_isBeyond z_bey
  simp (disch := omega) only [↓z_jn, ↓z_lt, ↓z_cl, ↓z_cxl, ↓z_cxr, ↓z_ob, ↓z_gI, ↓z_pI, ↓z_pZ, ↓z_pR, ↓z_aI, ↓z_aJ, ↓z_sI, ↓z_sB, ↓z_sZ, ↓z_sJ, ↓z_sR, ↓z_al, ↓z_ck, ↓z_zz, ↓z_dv, ↓z_rm, ↓z_nn0, ↓z_nnS, ↓z_if1, ↓z_if0, z_ob, z_gI, z_pI, z_pZ, z_pR, z_aI, z_aJ, z_sI, z_sB, z_sZ, z_sJ, z_sR, z_al, z_ck, z_zz, z_dv, z_rm, z_nn0, z_nnS, z_if1, z_if0, e1, e2, e3]
  by_cases k1 : K = 1
  · by_cases g : 0 ≤ n * B - A * p
    · exact ⟨1, by simp (disch := omega) only [↓z_jn, ↓z_lt, ↓z_cl, ↓z_cxl, ↓z_cxr, ↓z_ob, ↓z_gI, ↓z_pI, ↓z_pZ, ↓z_pR, ↓z_aI, ↓z_aJ, ↓z_sI, ↓z_sB, ↓z_sZ, ↓z_sJ, ↓z_sR, ↓z_al, ↓z_ck, ↓z_zz, ↓z_dv, ↓z_rm, ↓z_nn0, ↓z_nnS, ↓z_if1, ↓z_if0, z_ob, z_gI, z_pI, z_pZ, z_pR, z_aI, z_aJ, z_sI, z_sB, z_sZ, z_sJ, z_sR, z_al, z_ck, z_zz, z_dv, z_rm, z_nn0, z_nnS, z_if1, z_if0], by omega, by omega⟩
    · exact ⟨0, by simp (disch := omega) only [↓z_jn, ↓z_lt, ↓z_cl, ↓z_cxl, ↓z_cxr, ↓z_ob, ↓z_gI, ↓z_pI, ↓z_pZ, ↓z_pR, ↓z_aI, ↓z_aJ, ↓z_sI, ↓z_sB, ↓z_sZ, ↓z_sJ, ↓z_sR, ↓z_al, ↓z_ck, ↓z_zz, ↓z_dv, ↓z_rm, ↓z_nn0, ↓z_nnS, ↓z_if1, ↓z_if0, z_ob, z_gI, z_pI, z_pZ, z_pR, z_aI, z_aJ, z_sI, z_sB, z_sZ, z_sJ, z_sR, z_al, z_ck, z_zz, z_dv, z_rm, z_nn0, z_nnS, z_if1, z_if0], by omega, by omega⟩
  · by_cases k2 : K = 2
    · by_cases g : n * B - A * p ≤ 0
      · exact ⟨0, by simp (disch := omega) only [↓z_jn, ↓z_lt, ↓z_cl, ↓z_cxl, ↓z_cxr, ↓z_ob, ↓z_gI, ↓z_pI, ↓z_pZ, ↓z_pR, ↓z_aI, ↓z_aJ, ↓z_sI, ↓z_sB, ↓z_sZ, ↓z_sJ, ↓z_sR, ↓z_al, ↓z_ck, ↓z_zz, ↓z_dv, ↓z_rm, ↓z_nn0, ↓z_nnS, ↓z_if1, ↓z_if0, z_ob, z_gI, z_pI, z_pZ, z_pR, z_aI, z_aJ, z_sI, z_sB, z_sZ, z_sJ, z_sR, z_al, z_ck, z_zz, z_dv, z_rm, z_nn0, z_nnS, z_if1, z_if0], by omega, by omega⟩
      · exact ⟨1, by simp (disch := omega) only [↓z_jn, ↓z_lt, ↓z_cl, ↓z_cxl, ↓z_cxr, ↓z_ob, ↓z_gI, ↓z_pI, ↓z_pZ, ↓z_pR, ↓z_aI, ↓z_aJ, ↓z_sI, ↓z_sB, ↓z_sZ, ↓z_sJ, ↓z_sR, ↓z_al, ↓z_ck, ↓z_zz, ↓z_dv, ↓z_rm, ↓z_nn0, ↓z_nnS, ↓z_if1, ↓z_if0, z_ob, z_gI, z_pI, z_pZ, z_pR, z_aI, z_aJ, z_sI, z_sB, z_sZ, z_sJ, z_sR, z_al, z_ck, z_zz, z_dv, z_rm, z_nn0, z_nnS, z_if1, z_if0], by omega, by omega⟩
    · exact ⟨0, by simp (disch := omega) only [↓z_jn, ↓z_lt, ↓z_cl, ↓z_cxl, ↓z_cxr, ↓z_ob, ↓z_gI, ↓z_pI, ↓z_pZ, ↓z_pR, ↓z_aI, ↓z_aJ, ↓z_sI, ↓z_sB, ↓z_sZ, ↓z_sJ, ↓z_sR, ↓z_al, ↓z_ck, ↓z_zz, ↓z_dv, ↓z_rm, ↓z_nn0, ↓z_nnS, ↓z_if1, ↓z_if0, z_ob, z_gI, z_pI, z_pZ, z_pR, z_aI, z_aJ, z_sI, z_sB, z_sZ, z_sJ, z_sR, z_al, z_ck, z_zz, z_dv, z_rm, z_nn0, z_nnS, z_if1, z_if0], by omega, by omega⟩
end Told
