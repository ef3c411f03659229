/-! THE CLASS'S Line: its cells, and what its methods do. -/
def z_SzL (T : z_Ty) (R : z_Rs) (a : Nat) : Prop := z_tk T a = 15 ∧ z_tk T (a + 1) = 0 ∧ z_ln T (a + 1) = 3 ∧ z_tk T (a + 2) = 0 ∧ z_ln T (a + 2) = 3 ∧ R a 0 = a + 1 ∧ R a 1 = a + 2
def z_LnL (T : z_Ty) (R : z_Rs) (a : Nat) : Prop :=
  (z_tk T a = 3 ∧ z_tk T (a + 1) = 0 ∧ z_ln T (a + 1) = 64 ∧ z_tk T (a + 2) = 8 ∧ z_ln T (a + 2) = 64 ∧ z_tk T (a + 67) = 0 ∧ z_ln T (a + 67) = 64) ∧
  ((∀ i, i < 64 → z_tk T (a + 3 + i) = 0) ∧ (∀ i, i < 64 → z_ln T (a + 3 + i) = 64) ∧ (∀ i, i < 64 → R (a + 2) i = a + 3 + i)) ∧
  (R a 0 = a + 1 ∧ R a 1 = a + 2 ∧ R a 2 = a + 67 ∧ R a 3 = a + 68) ∧ z_SzL T R (a + 68)
/-- the rules of a Line's fields -/
theorem z_LnX {T : z_Ty} {R : z_Rs} {a : Nat} (L : z_LnL T R a) :
    (∀ {β : Type} {c : z_C} {I : z_Is} {J : z_Js} {f : Nat → Option β}, gR_ (c, T, I, J, R) a 1 0 f = f (a + 1)) ∧
    (∀ {β : Type} {c : z_C} {I : z_Is} {J : z_Js} {f : Nat → Option β}, gR_ (c, T, I, J, R) a 1 1 f = f (a + 2)) ∧
    (∀ {β : Type} {c : z_C} {I : z_Is} {J : z_Js} {f : Nat → Option β}, gR_ (c, T, I, J, R) a 1 2 f = f (a + 67)) ∧
    (∀ {β : Type} {c : z_C} {I : z_Is} {J : z_Js} {f : Nat → Option β}, gR_ (c, T, I, J, R) a 1 3 f = f (a + 68)) ∧
    (∀ {β : Type} {c : z_C} {I : z_Is} {J : z_Js} {f : Nat → Option β} {v : Int}, 0 ≤ v → v < 64 → aR_ (c, T, I, J, R) (a + 2) 4 v f = f (a + 3 + v.toNat)) := by
  obtain ⟨⟨l1, l2, l3, l4, l5, l6, l7⟩, ⟨m1, m2, m3⟩, ⟨r0, r1, r2, r3⟩, -⟩ := L
  refine ⟨?_, ?_, ?_, ?_, ?_⟩
  · intro β c I J f; rw [z_gR (by omega), r0]
  · intro β c I J f; rw [z_gR (by omega), r1]
  · intro β c I J f; rw [z_gR (by omega), r2]
  · intro β c I J f; rw [z_gR (by omega), r3]
  · intro β c I J f v h0 h1; rw [z_aR (by omega) h0 (by omega), m3 _ (by omega)]
def z_alk (f : Nat → Int) : Nat → Nat → Nat
  | i, 0 => if f i = f 0 then 1 else 0
  | i, j + 1 => if f i = f (j + 1) then z_alk f (i - 1) j + 1 else 0
def z_mxa (f : Nat → Int) (i : Nat) : Nat → Nat
  | 0 => 0
  | k + 1 => max (z_mxa f i k) (z_alk f i k)
def z_put (f : Nat → Int) (n : Nat) (v : Int) : Nat → Int := fun i => if i = n then v else f i
def z_at (f : Nat → Int) (n : Nat) (v : Int) : Int := if 0 ≤ v ∧ v < (n : Int) then f v.toNat else -1
theorem z_alk_congr {f g : Nat → Int} : ∀ {j i : Nat}, j ≤ i → (∀ k, k ≤ i → f k = g k) → z_alk f i j = z_alk g i j
  | 0, i, _, h => by simp only [z_alk, h i (Nat.le_refl _), h 0 (Nat.zero_le _)]
  | j + 1, i, hj, h => by
    simp only [z_alk, h i (Nat.le_refl _), h (j + 1) hj]
    rw [z_alk_congr (j := j) (i := i - 1) (by omega) (fun k hk => h k (by omega))]
theorem z_mxa_congr {f g : Nat → Int} {i : Nat} (h : ∀ k, k ≤ i → f k = g k) : ∀ {k : Nat}, k ≤ i → z_mxa f i k = z_mxa g i k
  | 0, _ => rfl
  | k + 1, hk => by simp only [z_mxa, z_mxa_congr h (k := k) (by omega), z_alk_congr (j := k) (i := i) (by omega) h]
theorem z_alk_le {f : Nat → Int} : ∀ {j i : Nat}, z_alk f i j ≤ j + 1
  | 0, i => by unfold z_alk; split <;> omega
  | j + 1, i => by
    unfold z_alk
    have := z_alk_le (f := f) (j := j) (i := i - 1)
    split <;> omega
theorem z_mxa_le {f : Nat → Int} {i : Nat} : ∀ {k : Nat}, z_mxa f i k ≤ k
  | 0 => Nat.le_refl _
  | k + 1 => by
    have h1 := z_mxa_le (f := f) (i := i) (k := k)
    have h2 := z_alk_le (f := f) (j := k) (i := i)
    simp only [z_mxa]
    omega
/-- a Line's cells hold n letters of f -/
def z_Ln (I : z_Is) (a : Nat) (f : Nat → Int) (n : Nat) : Prop :=
  I a 4 = (n : Int) ∧ n ≤ 64 ∧ (∀ i, i < n → I (a + 1) i = f i) ∧ (∀ i j, i < n → j < i → I (a + 3 + i) j = (z_alk f i j : Int)) ∧ (∀ i, i < n → I (a + 67) i = (z_mxa f i i : Int))
section Line
variable {c : z_C} {T : z_Ty} {I : z_Is} {J : z_Js} {R : z_Rs} {a n : Nat} {f : Nat → Int}
theorem z_Ln_congr {g : Nat → Int} (V : z_Ln I a f n) (h : ∀ k, k < n → f k = g k) : z_Ln I a g n := by
  obtain ⟨v1, v2, v3, v4, v5⟩ := V
  refine ⟨v1, v2, fun i hi => (v3 i hi).trans (h i hi), fun i j hi hj => (v4 i j hi hj).trans ?_, fun i hi => (v5 i hi).trans ?_⟩
  · rw [z_alk_congr (by omega) (fun k hk => h k (by omega))]
  · rw [z_mxa_congr (fun k hk => h k (by omega)) (Nat.le_refl _)]
theorem z_Ln_fr {I' : z_Is} {lo hi : Nat} (V : z_Ln I a f n) (h : z_fr lo hi I I') (h1 : a + 68 ≤ lo ∨ hi ≤ a) : z_Ln I' a f n := by
  obtain ⟨v1, v2, v3, v4, v5⟩ := V
  refine ⟨?_, v2, fun i hi => ?_, fun i j hi hj => ?_, fun i hi => ?_⟩
  · rw [h a (by omega)]; exact v1
  · rw [h (a + 1) (by omega)]; exact v3 i hi
  · rw [h (a + 3 + i) (by omega)]; exact v4 i j hi hj
  · rw [h (a + 67) (by omega)]; exact v5 i hi
theorem z_Line_at (L : z_LnL T R a) (V : z_Ln I a f n) (v : Int) : k_Line_at a v (c, T, I, J, R) = some (z_at f n v, (c, T, I, J, R)) := by
  have X := z_LnX L
  obtain ⟨⟨l1, l2, l3, l4, l5, l6, l7⟩, -, -, -⟩ := L
  obtain ⟨v1, v2, v3, -, -⟩ := V
  unfold k_Line_at z_at
  by_cases h0 : v < 0
  · simp (disch := omega) only [↓z_jn, ↓z_lt, ↓z_cl, ↓z_cxl, ↓z_cxr, ↓z_ob, ↓z_gI, ↓z_pI, ↓z_pZ, ↓z_pR, ↓z_aI, ↓z_aJ, ↓z_sI, ↓z_sB, ↓z_sZ, ↓z_sJ, ↓z_sR, ↓z_al, ↓z_ck, ↓z_zz, ↓z_dv, ↓z_rm, ↓z_nn0, ↓z_nnS, ↓z_if1, ↓z_if0, z_ob, z_gI, z_pI, z_pZ, z_pR, z_aI, z_aJ, z_sI, z_sB, z_sZ, z_sJ, z_sR, z_al, z_ck, z_zz, z_dv, z_rm, z_nn0, z_nnS, z_if1, z_if0]
  by_cases h1 : v < (n : Int)
  · simp (disch := omega) only [↓z_jn, ↓z_lt, ↓z_cl, ↓z_cxl, ↓z_cxr, ↓z_ob, ↓z_gI, ↓z_pI, ↓z_pZ, ↓z_pR, ↓z_aI, ↓z_aJ, ↓z_sI, ↓z_sB, ↓z_sZ, ↓z_sJ, ↓z_sR, ↓z_al, ↓z_ck, ↓z_zz, ↓z_dv, ↓z_rm, ↓z_nn0, ↓z_nnS, ↓z_if1, ↓z_if0, z_ob, z_gI, z_pI, z_pZ, z_pR, z_aI, z_aJ, z_sI, z_sB, z_sZ, z_sJ, z_sR, z_al, z_ck, z_zz, z_dv, z_rm, z_nn0, z_nnS, z_if1, z_if0, ↓X, v1, v3]
  · simp (disch := omega) only [↓z_jn, ↓z_lt, ↓z_cl, ↓z_cxl, ↓z_cxr, ↓z_ob, ↓z_gI, ↓z_pI, ↓z_pZ, ↓z_pR, ↓z_aI, ↓z_aJ, ↓z_sI, ↓z_sB, ↓z_sZ, ↓z_sJ, ↓z_sR, ↓z_al, ↓z_ck, ↓z_zz, ↓z_dv, ↓z_rm, ↓z_nn0, ↓z_nnS, ↓z_if1, ↓z_if0, z_ob, z_gI, z_pI, z_pZ, z_pR, z_aI, z_aJ, z_sI, z_sB, z_sZ, z_sJ, z_sR, z_al, z_ck, z_zz, z_dv, z_rm, z_nn0, z_nnS, z_if1, z_if0, v1]
theorem z_Line_twiceAt (L : z_LnL T R a) (V : z_Ln I a f n) (v : Int) : k_Line_twiceAt a v (c, T, I, J, R) = some (if 0 ≤ v ∧ v < (n : Int) then (z_mxa f v.toNat v.toNat : Int) else 0, (c, T, I, J, R)) := by
  have X := z_LnX L
  obtain ⟨⟨l1, l2, l3, l4, l5, l6, l7⟩, -, -, -⟩ := L
  obtain ⟨v1, v2, -, -, v5⟩ := V
  unfold k_Line_twiceAt
  by_cases h0 : v < 0
  · simp (disch := omega) only [↓z_jn, ↓z_lt, ↓z_cl, ↓z_cxl, ↓z_cxr, ↓z_ob, ↓z_gI, ↓z_pI, ↓z_pZ, ↓z_pR, ↓z_aI, ↓z_aJ, ↓z_sI, ↓z_sB, ↓z_sZ, ↓z_sJ, ↓z_sR, ↓z_al, ↓z_ck, ↓z_zz, ↓z_dv, ↓z_rm, ↓z_nn0, ↓z_nnS, ↓z_if1, ↓z_if0, z_ob, z_gI, z_pI, z_pZ, z_pR, z_aI, z_aJ, z_sI, z_sB, z_sZ, z_sJ, z_sR, z_al, z_ck, z_zz, z_dv, z_rm, z_nn0, z_nnS, z_if1, z_if0]
  by_cases h1 : v < (n : Int)
  · simp (disch := omega) only [↓z_jn, ↓z_lt, ↓z_cl, ↓z_cxl, ↓z_cxr, ↓z_ob, ↓z_gI, ↓z_pI, ↓z_pZ, ↓z_pR, ↓z_aI, ↓z_aJ, ↓z_sI, ↓z_sB, ↓z_sZ, ↓z_sJ, ↓z_sR, ↓z_al, ↓z_ck, ↓z_zz, ↓z_dv, ↓z_rm, ↓z_nn0, ↓z_nnS, ↓z_if1, ↓z_if0, z_ob, z_gI, z_pI, z_pZ, z_pR, z_aI, z_aJ, z_sI, z_sB, z_sZ, z_sJ, z_sR, z_al, z_ck, z_zz, z_dv, z_rm, z_nn0, z_nnS, z_if1, z_if0, ↓X, v1, v5]
  · simp (disch := omega) only [↓z_jn, ↓z_lt, ↓z_cl, ↓z_cxl, ↓z_cxr, ↓z_ob, ↓z_gI, ↓z_pI, ↓z_pZ, ↓z_pR, ↓z_aI, ↓z_aJ, ↓z_sI, ↓z_sB, ↓z_sZ, ↓z_sJ, ↓z_sR, ↓z_al, ↓z_ck, ↓z_zz, ↓z_dv, ↓z_rm, ↓z_nn0, ↓z_nnS, ↓z_if1, ↓z_if0, z_ob, z_gI, z_pI, z_pZ, z_pR, z_aI, z_aJ, z_sI, z_sB, z_sZ, z_sJ, z_sR, z_al, z_ck, z_zz, z_dv, z_rm, z_nn0, z_nnS, z_if1, z_if0, v1]
theorem z_Line_clear (L : z_LnL T R a) : k_Line_clear a (c, T, I, J, R) = some ((), (c, T, mm_up I a 4 0, J, R)) := by
  obtain ⟨⟨l1, -⟩, -⟩ := L
  unfold k_Line_clear
  simp (disch := omega) only [↓z_jn, ↓z_lt, ↓z_cl, ↓z_cxl, ↓z_cxr, ↓z_ob, ↓z_gI, ↓z_pI, ↓z_pZ, ↓z_pR, ↓z_aI, ↓z_aJ, ↓z_sI, ↓z_sB, ↓z_sZ, ↓z_sJ, ↓z_sR, ↓z_al, ↓z_ck, ↓z_zz, ↓z_dv, ↓z_rm, ↓z_nn0, ↓z_nnS, ↓z_if1, ↓z_if0, z_ob, z_gI, z_pI, z_pZ, z_pR, z_aI, z_aJ, z_sI, z_sB, z_sZ, z_sJ, z_sR, z_al, z_ck, z_zz, z_dv, z_rm, z_nn0, z_nnS, z_if1, z_if0]
theorem z_Ln_nil : z_Ln (mm_up I a 4 0) a f 0 :=
  ⟨z_uq, by omega, fun i hi => absurd hi (by omega), fun i j hi => absurd hi (by omega), fun i hi => absurd hi (by omega)⟩
theorem z_Ln_cut {m : Nat} (V : z_Ln I a f n) (h : m ≤ n) : z_Ln (mm_up I a 4 (m : Int)) a f m := by
  obtain ⟨v1, v2, v3, v4, v5⟩ := V
  refine ⟨z_uq, by omega, fun i hi => ?_, fun i j hi hj => ?_, fun i hi => ?_⟩
  · rw [z_un (by omega)]; exact v3 i (by omega)
  · rw [z_un (by omega)]; exact v4 i j (by omega) hj
  · rw [z_un (by omega)]; exact v5 i (by omega)
theorem z_Line_cutTo (L : z_LnL T R a) (V : z_Ln I a f n) (v : Int) :
    k_Line_cutTo a v (c, T, I, J, R) = some ((), (c, T, mm_up I a 4 ((min n v.toNat : Nat) : Int), J, R)) := by
  obtain ⟨⟨l1, -⟩, -⟩ := L
  obtain ⟨v1, v2, -⟩ := V
  unfold k_Line_cutTo
  simp (disch := omega) only [↓z_jn, ↓z_lt, ↓z_cl, ↓z_cxl, ↓z_cxr, ↓z_ob, ↓z_gI, ↓z_pI, ↓z_pZ, ↓z_pR, ↓z_aI, ↓z_aJ, ↓z_sI, ↓z_sB, ↓z_sZ, ↓z_sJ, ↓z_sR, ↓z_al, ↓z_ck, ↓z_zz, ↓z_dv, ↓z_rm, ↓z_nn0, ↓z_nnS, ↓z_if1, ↓z_if0, z_ob, z_gI, z_pI, z_pZ, z_pR, z_aI, z_aJ, z_sI, z_sB, z_sZ, z_sJ, z_sR, z_al, z_ck, z_zz, z_dv, z_rm, z_nn0, z_nnS, z_if1, z_if0, v1]
  have : mx_ 0 (mn_ (n : Int) v) = ((min n v.toNat : Nat) : Int) := by
    unfold mx_ mn_
    split <;> split <;> omega
  rw [this]
/-- how many letters that end at two places are alike -/
def z_lk (f : Nat → Int) (n : Nat) (x y : Int) : Int :=
  if 0 ≤ min x y ∧ min x y < max x y ∧ max x y < (n : Int) then (z_alk f (max x y).toNat (min x y).toNat : Int) else 0
theorem z_Line_alike (L : z_LnL T R a) (V : z_Ln I a f n) (x y : Int) : k_Line_alike a x y (c, T, I, J, R) = some (z_lk f n x y, (c, T, I, J, R)) := by
  have X := z_LnX L
  obtain ⟨⟨l1, l2, l3, l4, l5, l6, l7⟩, ⟨m1, m2, m3⟩, -, -⟩ := L
  obtain ⟨v1, v2, v3, v4, v5⟩ := V
  unfold k_Line_alike z_lk
  by_cases h : x ≤ y
  · have e1 : min x y = x := by omega
    have e2 : max x y = y := by omega
    simp (disch := omega) only [↓z_jn, ↓z_lt, ↓z_cl, ↓z_cxl, ↓z_cxr, ↓z_ob, ↓z_gI, ↓z_pI, ↓z_pZ, ↓z_pR, ↓z_aI, ↓z_aJ, ↓z_sI, ↓z_sB, ↓z_sZ, ↓z_sJ, ↓z_sR, ↓z_al, ↓z_ck, ↓z_zz, ↓z_dv, ↓z_rm, ↓z_nn0, ↓z_nnS, ↓z_if1, ↓z_if0, z_ob, z_gI, z_pI, z_pZ, z_pR, z_aI, z_aJ, z_sI, z_sB, z_sZ, z_sJ, z_sR, z_al, z_ck, z_zz, z_dv, z_rm, z_nn0, z_nnS, z_if1, z_if0, e1, e2]
    by_cases h0 : x < 0
    · simp (disch := omega) only [↓z_jn, ↓z_lt, ↓z_cl, ↓z_cxl, ↓z_cxr, ↓z_ob, ↓z_gI, ↓z_pI, ↓z_pZ, ↓z_pR, ↓z_aI, ↓z_aJ, ↓z_sI, ↓z_sB, ↓z_sZ, ↓z_sJ, ↓z_sR, ↓z_al, ↓z_ck, ↓z_zz, ↓z_dv, ↓z_rm, ↓z_nn0, ↓z_nnS, ↓z_if1, ↓z_if0, z_ob, z_gI, z_pI, z_pZ, z_pR, z_aI, z_aJ, z_sI, z_sB, z_sZ, z_sJ, z_sR, z_al, z_ck, z_zz, z_dv, z_rm, z_nn0, z_nnS, z_if1, z_if0]
    by_cases h1 : x < y
    · by_cases h2 : y < (n : Int)
      · have t1 := m1 y.toNat (by omega)
        have t2 := m2 y.toNat (by omega)
        simp (disch := omega) only [↓z_jn, ↓z_lt, ↓z_cl, ↓z_cxl, ↓z_cxr, ↓z_ob, ↓z_gI, ↓z_pI, ↓z_pZ, ↓z_pR, ↓z_aI, ↓z_aJ, ↓z_sI, ↓z_sB, ↓z_sZ, ↓z_sJ, ↓z_sR, ↓z_al, ↓z_ck, ↓z_zz, ↓z_dv, ↓z_rm, ↓z_nn0, ↓z_nnS, ↓z_if1, ↓z_if0, z_ob, z_gI, z_pI, z_pZ, z_pR, z_aI, z_aJ, z_sI, z_sB, z_sZ, z_sJ, z_sR, z_al, z_ck, z_zz, z_dv, z_rm, z_nn0, z_nnS, z_if1, z_if0, ↓X, v1, v4]
      · simp (disch := omega) only [↓z_jn, ↓z_lt, ↓z_cl, ↓z_cxl, ↓z_cxr, ↓z_ob, ↓z_gI, ↓z_pI, ↓z_pZ, ↓z_pR, ↓z_aI, ↓z_aJ, ↓z_sI, ↓z_sB, ↓z_sZ, ↓z_sJ, ↓z_sR, ↓z_al, ↓z_ck, ↓z_zz, ↓z_dv, ↓z_rm, ↓z_nn0, ↓z_nnS, ↓z_if1, ↓z_if0, z_ob, z_gI, z_pI, z_pZ, z_pR, z_aI, z_aJ, z_sI, z_sB, z_sZ, z_sJ, z_sR, z_al, z_ck, z_zz, z_dv, z_rm, z_nn0, z_nnS, z_if1, z_if0, v1]
    · simp (disch := omega) only [↓z_jn, ↓z_lt, ↓z_cl, ↓z_cxl, ↓z_cxr, ↓z_ob, ↓z_gI, ↓z_pI, ↓z_pZ, ↓z_pR, ↓z_aI, ↓z_aJ, ↓z_sI, ↓z_sB, ↓z_sZ, ↓z_sJ, ↓z_sR, ↓z_al, ↓z_ck, ↓z_zz, ↓z_dv, ↓z_rm, ↓z_nn0, ↓z_nnS, ↓z_if1, ↓z_if0, z_ob, z_gI, z_pI, z_pZ, z_pR, z_aI, z_aJ, z_sI, z_sB, z_sZ, z_sJ, z_sR, z_al, z_ck, z_zz, z_dv, z_rm, z_nn0, z_nnS, z_if1, z_if0]
  · have e1 : min x y = y := by omega
    have e2 : max x y = x := by omega
    simp (disch := omega) only [↓z_jn, ↓z_lt, ↓z_cl, ↓z_cxl, ↓z_cxr, ↓z_ob, ↓z_gI, ↓z_pI, ↓z_pZ, ↓z_pR, ↓z_aI, ↓z_aJ, ↓z_sI, ↓z_sB, ↓z_sZ, ↓z_sJ, ↓z_sR, ↓z_al, ↓z_ck, ↓z_zz, ↓z_dv, ↓z_rm, ↓z_nn0, ↓z_nnS, ↓z_if1, ↓z_if0, z_ob, z_gI, z_pI, z_pZ, z_pR, z_aI, z_aJ, z_sI, z_sB, z_sZ, z_sJ, z_sR, z_al, z_ck, z_zz, z_dv, z_rm, z_nn0, z_nnS, z_if1, z_if0, e1, e2]
    by_cases h0 : y < 0
    · simp (disch := omega) only [↓z_jn, ↓z_lt, ↓z_cl, ↓z_cxl, ↓z_cxr, ↓z_ob, ↓z_gI, ↓z_pI, ↓z_pZ, ↓z_pR, ↓z_aI, ↓z_aJ, ↓z_sI, ↓z_sB, ↓z_sZ, ↓z_sJ, ↓z_sR, ↓z_al, ↓z_ck, ↓z_zz, ↓z_dv, ↓z_rm, ↓z_nn0, ↓z_nnS, ↓z_if1, ↓z_if0, z_ob, z_gI, z_pI, z_pZ, z_pR, z_aI, z_aJ, z_sI, z_sB, z_sZ, z_sJ, z_sR, z_al, z_ck, z_zz, z_dv, z_rm, z_nn0, z_nnS, z_if1, z_if0]
    by_cases h2 : x < (n : Int)
    · have t1 := m1 x.toNat (by omega)
      have t2 := m2 x.toNat (by omega)
      simp (disch := omega) only [↓z_jn, ↓z_lt, ↓z_cl, ↓z_cxl, ↓z_cxr, ↓z_ob, ↓z_gI, ↓z_pI, ↓z_pZ, ↓z_pR, ↓z_aI, ↓z_aJ, ↓z_sI, ↓z_sB, ↓z_sZ, ↓z_sJ, ↓z_sR, ↓z_al, ↓z_ck, ↓z_zz, ↓z_dv, ↓z_rm, ↓z_nn0, ↓z_nnS, ↓z_if1, ↓z_if0, z_ob, z_gI, z_pI, z_pZ, z_pR, z_aI, z_aJ, z_sI, z_sB, z_sZ, z_sJ, z_sR, z_al, z_ck, z_zz, z_dv, z_rm, z_nn0, z_nnS, z_if1, z_if0, ↓X, v1, v4]
    · simp (disch := omega) only [↓z_jn, ↓z_lt, ↓z_cl, ↓z_cxl, ↓z_cxr, ↓z_ob, ↓z_gI, ↓z_pI, ↓z_pZ, ↓z_pR, ↓z_aI, ↓z_aJ, ↓z_sI, ↓z_sB, ↓z_sZ, ↓z_sJ, ↓z_sR, ↓z_al, ↓z_ck, ↓z_zz, ↓z_dv, ↓z_rm, ↓z_nn0, ↓z_nnS, ↓z_if1, ↓z_if0, z_ob, z_gI, z_pI, z_pZ, z_pR, z_aI, z_aJ, z_sI, z_sB, z_sZ, z_sJ, z_sR, z_al, z_ck, z_zz, z_dv, z_rm, z_nn0, z_nnS, z_if1, z_if0, v1]
end Line
section Line2
variable {c : z_C} {T : z_Ty} {J : z_Js} {R : z_Rs} {a n : Nat}
theorem z_Line_add_lp {kx : Int → mm_T → Option (Unit × mm_T)} {P : Unit → z_Is → Prop} (L : z_LnL T R a) (hn : n < 64) {g : Nat → Int} {v : Int} (hg : g n = v) (I0 : z_Is)
    (hk : ∀ I', (∀ b, b ≠ a + 3 + n → I' b = I0 b) → (∀ k, k < n → I' (a + 3 + n) k = (z_alk g n k : Int)) → z_W c T J R (kx (z_mxa g n n : Int) (c, T, I', J, R)) P) :
    ∀ (d fu j : Nat) (I : z_Is) (y z : Int), n - j = d → d < fu → j ≤ n → y = (z_mxa g n j : Int) → z = (j : Int) → (∀ b, b ≠ a + 3 + n → I b = I0 b) → (∀ i, i < n → I (a + 1) i = g i) →
      (∀ k, k < n - 1 → I (a + 3 + (n - 1)) k = (z_alk g (n - 1) k : Int)) → (∀ k, k < j → I (a + 3 + n) k = (z_alk g n k : Int)) →
      z_W c T J R (lp_Line_add_50 kx a v n (a + 3 + n) (a + 3 + (n - 1)) fu y z (c, T, I, J, R)) P := by
  have X := z_LnX L
  obtain ⟨⟨l1, l2, l3, l4, l5, l6, l7⟩, ⟨m1, m2, m3⟩, -, -⟩ := L
  intro d
  induction d with
  | zero =>
    intro fu j I y z hd hf hj hy hz q0 q1 q2 q3
    obtain ⟨fu, rfl⟩ : ∃ k, fu = k + 1 := ⟨fu - 1, by omega⟩
    have hjn : j = n := by omega
    subst hjn
    subst hy
    rw [lp_Line_add_50]
    simp (disch := omega) only [↓z_jn, ↓z_lt, ↓z_cl, ↓z_cxl, ↓z_cxr, ↓z_ob, ↓z_gI, ↓z_pI, ↓z_pZ, ↓z_pR, ↓z_aI, ↓z_aJ, ↓z_sI, ↓z_sB, ↓z_sZ, ↓z_sJ, ↓z_sR, ↓z_al, ↓z_ck, ↓z_zz, ↓z_dv, ↓z_rm, ↓z_nn0, ↓z_nnS, ↓z_if1, ↓z_if0, z_ob, z_gI, z_pI, z_pZ, z_pR, z_aI, z_aJ, z_sI, z_sB, z_sZ, z_sJ, z_sR, z_al, z_ck, z_zz, z_dv, z_rm, z_nn0, z_nnS, z_if1, z_if0]
    exact hk I q0 q3
  | succ d ih =>
    intro fu j I y z hd hf hj hy hz q0 q1 q2 q3
    obtain ⟨fu, rfl⟩ : ∃ k, fu = k + 1 := ⟨fu - 1, by omega⟩
    have t1 := m1 n (by omega)
    have t2 := m2 n (by omega)
    have t3 := m1 (n - 1) (by omega)
    have t4 := m2 (n - 1) (by omega)
    have b1 := z_alk_le (f := g) (j := j) (i := n)
    have b2 := z_mxa_le (f := g) (i := n) (k := j)
    have b3 := z_alk_le (f := g) (j := j - 1) (i := n - 1)
    have hj1 := q1 j (by omega)
    have hzj : z.toNat = j := by omega
    have ih' : ∀ x w u : Int, x = (z_alk g n j : Int) → w = (z_mxa g n (j + 1) : Int) → u = ((j + 1 : Nat) : Int) → z_W c T J R (lp_Line_add_50 kx a v n (a + 3 + n) (a + 3 + (n - 1)) fu w u (c, T, mm_up I (a + 3 + n) j x, J, R)) P := fun x w u hx hw hu =>
      ih fu (j + 1) _ w u (by omega) (by omega) (by omega) hw hu (fun b hb => (z_ur hb).trans (q0 b hb))
        (fun i hi => by rw [z_un (by omega)]; exact q1 i hi) (fun k hk => by rw [z_un (by omega)]; exact q2 k hk)
        (fun k hk => by
          by_cases hkj : k = j
          · subst hkj; rw [z_uq, hx]
          · rw [z_un (by omega)]; exact q3 k (by omega))
    have mx : (z_mxa g n (j + 1) : Int) = if (z_alk g n j : Int) ≤ (z_mxa g n j : Int) then (z_mxa g n j : Int) else (z_alk g n j : Int) := by
      simp only [z_mxa]
      split <;> omega
    have ee : ∀ x : Int, x = (z_alk g n j : Int) → z_W c T J R (if x ≤ y then lp_Line_add_50 kx a v n (a + 3 + n) (a + 3 + (n - 1)) fu y (z + 1) (c, T, mm_up I (a + 3 + n) j x, J, R)
        else lp_Line_add_50 kx a v n (a + 3 + n) (a + 3 + (n - 1)) fu x (z + 1) (c, T, mm_up I (a + 3 + n) j x, J, R)) P := by
      intro x hx
      split
      · next h => exact ih' x y (z + 1) hx (by rw [mx, if_pos (by omega)]; omega) (by omega)
      · next h => exact ih' x x (z + 1) hx (by rw [mx, if_neg (by omega)]; omega) (by omega)
    rw [lp_Line_add_50]
    by_cases e : g j = v
    · by_cases e0 : j = 0
      · subst e0
        simp (disch := omega) only [↓z_jn, ↓z_lt, ↓z_cl, ↓z_cxl, ↓z_cxr, ↓z_ob, ↓z_gI, ↓z_pI, ↓z_pZ, ↓z_pR, ↓z_aI, ↓z_aJ, ↓z_sI, ↓z_sB, ↓z_sZ, ↓z_sJ, ↓z_sR, ↓z_al, ↓z_ck, ↓z_zz, ↓z_dv, ↓z_rm, ↓z_nn0, ↓z_nnS, ↓z_if1, ↓z_if0, z_ob, z_gI, z_pI, z_pZ, z_pR, z_aI, z_aJ, z_sI, z_sB, z_sZ, z_sJ, z_sR, z_al, z_ck, z_zz, z_dv, z_rm, z_nn0, z_nnS, z_if1, z_if0, ↓X, X, hj1, hzj]
        have ha : (z_alk g n 0 : Int) = 1 := by simp only [z_alk, hg, e, if_true]; rfl
        exact ih' 1 1 (z + 1) ha.symm (by rw [mx, if_neg (by omega)]; exact ha.symm) (by omega)
      · have hq := q2 (j - 1) (by omega)
        have hc : (z - 1).toNat = j - 1 := by omega
        simp (disch := omega) only [↓z_jn, ↓z_lt, ↓z_cl, ↓z_cxl, ↓z_cxr, ↓z_ob, ↓z_gI, ↓z_pI, ↓z_pZ, ↓z_pR, ↓z_aI, ↓z_aJ, ↓z_sI, ↓z_sB, ↓z_sZ, ↓z_sJ, ↓z_sR, ↓z_al, ↓z_ck, ↓z_zz, ↓z_dv, ↓z_rm, ↓z_nn0, ↓z_nnS, ↓z_if1, ↓z_if0, z_ob, z_gI, z_pI, z_pZ, z_pR, z_aI, z_aJ, z_sI, z_sB, z_sZ, z_sJ, z_sR, z_al, z_ck, z_zz, z_dv, z_rm, z_nn0, z_nnS, z_if1, z_if0, ↓X, X, hj1, hzj, hc, hq]
        refine ee _ ?_
        obtain ⟨k, rfl⟩ : ∃ k, j = k + 1 := ⟨j - 1, by omega⟩
        simp only [z_alk, hg, e, if_true, Nat.add_sub_cancel]
        omega
    · simp (disch := omega) only [↓z_jn, ↓z_lt, ↓z_cl, ↓z_cxl, ↓z_cxr, ↓z_ob, ↓z_gI, ↓z_pI, ↓z_pZ, ↓z_pR, ↓z_aI, ↓z_aJ, ↓z_sI, ↓z_sB, ↓z_sZ, ↓z_sJ, ↓z_sR, ↓z_al, ↓z_ck, ↓z_zz, ↓z_dv, ↓z_rm, ↓z_nn0, ↓z_nnS, ↓z_if1, ↓z_if0, z_ob, z_gI, z_pI, z_pZ, z_pR, z_aI, z_aJ, z_sI, z_sB, z_sZ, z_sJ, z_sR, z_al, z_ck, z_zz, z_dv, z_rm, z_nn0, z_nnS, z_if1, z_if0, ↓X, X, hj1, hzj]
      have e' : ¬ v = g j := fun h => e h.symm
      have ha : (z_alk g n j : Int) = 0 := by
        cases j with
        | zero => simp only [z_alk, hg, e', if_false]; rfl
        | succ k => simp only [z_alk, hg, e', if_false]; rfl
      exact ih' 0 y (z + 1) ha.symm (by rw [mx, if_pos (by omega)]; exact hy) (by omega)
theorem z_Line_add {I : z_Is} {f : Nat → Int} (L : z_LnL T R a) (V : z_Ln I a f n) (hn : n < 64) (v : Int) :
    z_W c T J R (k_Line_add a v (c, T, I, J, R)) (fun _ I' => z_Ln I' a (z_put f n v) (n + 1) ∧ z_fr a (a + 68) I I') := by
  have X := z_LnX L
  have L' := L
  obtain ⟨⟨l1, l2, l3, l4, l5, l6, l7⟩, ⟨m1, m2, m3⟩, -, -⟩ := L
  obtain ⟨v1, v2, v3, v4, v5⟩ := V
  have gk : ∀ k, k < n → f k = z_put f n v k := fun k hk => by simp only [z_put]; rw [if_neg (by omega)]
  have gn : z_put f n v n = v := by simp only [z_put, if_true]
  have t1 := m1 n (by omega)
  have t2 := m2 n (by omega)
  have em : mx_ 0 ((n : Int) - 1) = ((n - 1 : Nat) : Int) := by unfold mx_; split <;> omega
  unfold k_Line_add
  simp (disch := omega) only [↓z_jn, ↓z_lt, ↓z_cl, ↓z_cxl, ↓z_cxr, ↓z_ob, ↓z_gI, ↓z_pI, ↓z_pZ, ↓z_pR, ↓z_aI, ↓z_aJ, ↓z_sI, ↓z_sB, ↓z_sZ, ↓z_sJ, ↓z_sR, ↓z_al, ↓z_ck, ↓z_zz, ↓z_dv, ↓z_rm, ↓z_nn0, ↓z_nnS, ↓z_if1, ↓z_if0, z_ob, z_gI, z_pI, z_pZ, z_pR, z_aI, z_aJ, z_sI, z_sB, z_sZ, z_sJ, z_sR, z_al, z_ck, z_zz, z_dv, z_rm, z_nn0, z_nnS, z_if1, z_if0, ↓X, X, v1, em, Int.toNat_natCast]
  refine z_Line_add_lp L' hn gn (mm_up I (a + 1) n v) (fun I1 f1 f2 => ?_) n FU_ 0 _ _ _ (by omega) (by unfold FU_; omega) (by omega) rfl rfl (fun b hb => rfl)
    (fun i hi => by rw [z_un (by omega), v3 i hi]; exact gk i hi)
    (fun k hk => by rw [z_un (by omega), v4 (n - 1) k (by omega) hk, z_alk_congr (by omega) (fun q hq => gk q (by omega))])
    (fun k hk => absurd hk (by omega))
  simp (disch := omega) only [↓z_jn, ↓z_lt, ↓z_cl, ↓z_cxl, ↓z_cxr, ↓z_ob, ↓z_gI, ↓z_pI, ↓z_pZ, ↓z_pR, ↓z_aI, ↓z_aJ, ↓z_sI, ↓z_sB, ↓z_sZ, ↓z_sJ, ↓z_sR, ↓z_al, ↓z_ck, ↓z_zz, ↓z_dv, ↓z_rm, ↓z_nn0, ↓z_nnS, ↓z_if1, ↓z_if0, z_ob, z_gI, z_pI, z_pZ, z_pR, z_aI, z_aJ, z_sI, z_sB, z_sZ, z_sJ, z_sR, z_al, z_ck, z_zz, z_dv, z_rm, z_nn0, z_nnS, z_if1, z_if0, ↓X, X, Int.toNat_natCast]
  refine z_Wr ⟨⟨?_, by omega, ?_, ?_, ?_⟩, ?_⟩
  · rw [z_uq]; omega
  · intro i hi
    rw [z_un (by omega), z_un (by omega), f1 _ (by omega)]
    by_cases hin : i = n
    · subst hin; rw [z_uq, gn]
    · rw [z_un (by omega), v3 i (by omega)]; exact gk i (by omega)
  · intro i j hi hj
    rw [z_un (by omega), z_un (by omega)]
    by_cases hin : i = n
    · subst hin; exact f2 j hj
    · rw [f1 _ (by omega), z_un (by omega), v4 i j (by omega) hj, z_alk_congr (by omega) (fun q hq => gk q (by omega))]
  · intro i hi
    rw [z_un (by omega)]
    by_cases hin : i = n
    · subst hin; exact z_uq
    · rw [z_un (by omega), f1 _ (by omega), z_un (by omega), v5 i (by omega), z_mxa_congr (fun q hq => gk q (by omega)) (Nat.le_refl _)]
  · intro b hb
    rw [z_ur (by omega), z_ur (by omega), f1 b (by omega), z_ur (by omega)]
/-- nothing comes behind the last place -/
theorem z_Line_add_full {I : z_Is} {f : Nat → Int} (L : z_LnL T R a) (V : z_Ln I a f 64) (v : Int) : k_Line_add a v (c, T, I, J, R) = some ((), (c, T, I, J, R)) := by
  obtain ⟨⟨l1, l2, l3, l4, l5, l6, l7⟩, -, -, -⟩ := L
  obtain ⟨v1, -⟩ := V
  unfold k_Line_add
  simp (disch := omega) only [↓z_jn, ↓z_lt, ↓z_cl, ↓z_cxl, ↓z_cxr, ↓z_ob, ↓z_gI, ↓z_pI, ↓z_pZ, ↓z_pR, ↓z_aI, ↓z_aJ, ↓z_sI, ↓z_sB, ↓z_sZ, ↓z_sJ, ↓z_sR, ↓z_al, ↓z_ck, ↓z_zz, ↓z_dv, ↓z_rm, ↓z_nn0, ↓z_nnS, ↓z_if1, ↓z_if0, z_ob, z_gI, z_pI, z_pZ, z_pR, z_aI, z_aJ, z_sI, z_sB, z_sZ, z_sJ, z_sR, z_al, z_ck, z_zz, z_dv, z_rm, z_nn0, z_nnS, z_if1, z_if0, v1]
theorem z_Line_dropLast {I : z_Is} {f : Nat → Int} (L : z_LnL T R a) (V : z_Ln I a f (n + 1)) :
    k_Line_dropLast a (c, T, I, J, R) = some (f n, (c, T, mm_up I a 4 (n : Int), J, R)) := by
  have L' := L
  have V' := V
  obtain ⟨⟨l1, -⟩, -⟩ := L
  obtain ⟨v1, v2, -⟩ := V
  unfold k_Line_dropLast
  have e0 : ((n + 1 : Nat) : Int) = (n : Int) + 1 := by omega
  have e1 : z_at f (n + 1) ((n : Int) + 1 - 1) = f n := by
    unfold z_at
    rw [if_pos (by omega)]
    congr 1
    omega
  have e2 : min (n + 1) ((n : Int) + 1 - 1).toNat = n := by omega
  simp (disch := omega) only [↓z_jn, ↓z_lt, ↓z_cl, ↓z_cxl, ↓z_cxr, ↓z_ob, ↓z_gI, ↓z_pI, ↓z_pZ, ↓z_pR, ↓z_aI, ↓z_aJ, ↓z_sI, ↓z_sB, ↓z_sZ, ↓z_sJ, ↓z_sR, ↓z_al, ↓z_ck, ↓z_zz, ↓z_dv, ↓z_rm, ↓z_nn0, ↓z_nnS, ↓z_if1, ↓z_if0, z_ob, z_gI, z_pI, z_pZ, z_pR, z_aI, z_aJ, z_sI, z_sB, z_sZ, z_sJ, z_sR, z_al, z_ck, z_zz, z_dv, z_rm, z_nn0, z_nnS, z_if1, z_if0, v1, e0, z_Line_at L' V', z_Line_cutTo L' V', e1, e2]
theorem z_Line_copy_lp {kx : mm_T → Option (Unit × mm_T)} {P : Unit → z_Is → Prop} {a' m : Nat} {f : Nat → Int} (L : z_LnL T R a) (L' : z_LnL T R a') (ha : a + 71 ≤ a' ∨ a' + 71 ≤ a) (hm : m ≤ 64) (I0 : z_Is)
    (hk : ∀ I', z_Ln I' a f m → z_fr a (a + 68) I0 I' → z_W c T J R (kx (c, T, I', J, R)) P) :
    ∀ (d fu j : Nat) (I : z_Is) (g : Nat → Int) (z : Int), m - j = d → d < fu → j ≤ m → z = (j : Int) → z_Ln I a' f n → z_Ln I a g j → z_fr a (a + 68) I0 I → m ≤ n → (∀ k, k < j → g k = f k) →
      z_W c T J R (lp_Line_copy_6 kx a a' m fu z (c, T, I, J, R)) P := by
  obtain ⟨⟨l1, -⟩, -⟩ := id L
  obtain ⟨⟨l1', -⟩, -⟩ := id L'
  intro d
  induction d with
  | zero =>
    intro fu j I g z hd hf hj hz V' V fr hmn hg
    obtain ⟨fu, rfl⟩ : ∃ k, fu = k + 1 := ⟨fu - 1, by omega⟩
    have hjm : j = m := by omega
    subst hjm
    rw [lp_Line_copy_6]
    simp (disch := omega) only [↓z_jn, ↓z_lt, ↓z_cl, ↓z_cxl, ↓z_cxr, ↓z_ob, ↓z_gI, ↓z_pI, ↓z_pZ, ↓z_pR, ↓z_aI, ↓z_aJ, ↓z_sI, ↓z_sB, ↓z_sZ, ↓z_sJ, ↓z_sR, ↓z_al, ↓z_ck, ↓z_zz, ↓z_dv, ↓z_rm, ↓z_nn0, ↓z_nnS, ↓z_if1, ↓z_if0, z_ob, z_gI, z_pI, z_pZ, z_pR, z_aI, z_aJ, z_sI, z_sB, z_sZ, z_sJ, z_sR, z_al, z_ck, z_zz, z_dv, z_rm, z_nn0, z_nnS, z_if1, z_if0]
    exact hk I (z_Ln_congr V hg) fr
  | succ d ih =>
    intro fu j I g z hd hf hj hz V' V fr hmn hg
    obtain ⟨fu, rfl⟩ : ∃ k, fu = k + 1 := ⟨fu - 1, by omega⟩
    have e1 : z_at f n z = f j := by
      unfold z_at
      rw [if_pos (by omega)]
      congr 1
      omega
    rw [lp_Line_copy_6]
    simp (disch := omega) only [↓z_jn, ↓z_lt, ↓z_cl, ↓z_cxl, ↓z_cxr, ↓z_ob, ↓z_gI, ↓z_pI, ↓z_pZ, ↓z_pR, ↓z_aI, ↓z_aJ, ↓z_sI, ↓z_sB, ↓z_sZ, ↓z_sJ, ↓z_sR, ↓z_al, ↓z_ck, ↓z_zz, ↓z_dv, ↓z_rm, ↓z_nn0, ↓z_nnS, ↓z_if1, ↓z_if0, z_ob, z_gI, z_pI, z_pZ, z_pR, z_aI, z_aJ, z_sI, z_sB, z_sZ, z_sJ, z_sR, z_al, z_ck, z_zz, z_dv, z_rm, z_nn0, z_nnS, z_if1, z_if0, z_Line_at L' V', e1]
    refine z_Wc (z_Line_add L V (by omega) (f j)) (fun _ I1 h1 => ?_)
    obtain ⟨V1, fr1⟩ := h1
    (try simp (disch := omega) only [↓z_jn, ↓z_lt, ↓z_cl, ↓z_cxl, ↓z_cxr, ↓z_ob, ↓z_gI, ↓z_pI, ↓z_pZ, ↓z_pR, ↓z_aI, ↓z_aJ, ↓z_sI, ↓z_sB, ↓z_sZ, ↓z_sJ, ↓z_sR, ↓z_al, ↓z_ck, ↓z_zz, ↓z_dv, ↓z_rm, ↓z_nn0, ↓z_nnS, ↓z_if1, ↓z_if0, z_ob, z_gI, z_pI, z_pZ, z_pR, z_aI, z_aJ, z_sI, z_sB, z_sZ, z_sJ, z_sR, z_al, z_ck, z_zz, z_dv, z_rm, z_nn0, z_nnS, z_if1, z_if0])
    exact ih fu (j + 1) I1 (z_put g j (f j)) _ (by omega) (by omega) (by omega) (by omega) (z_Ln_fr V' fr1 (by omega)) V1 (z_frT fr fr1) hmn
      (fun k hk => by
        simp only [z_put]
        split
        · next h => rw [h]
        · exact hg k (by omega))
/-- a Line becomes another's first m letters -/
theorem z_Line_copy {I : z_Is} {f : Nat → Int} {a' m : Nat} (L : z_LnL T R a) (L' : z_LnL T R a') (ha : a + 71 ≤ a' ∨ a' + 71 ≤ a) (V' : z_Ln I a' f n) (hm : m ≤ n) :
    z_W c T J R (k_Line_copy a a' (m : Int) (c, T, I, J, R)) (fun _ I' => z_Ln I' a f m ∧ z_fr a (a + 68) I I') := by
  obtain ⟨⟨l1, -⟩, -⟩ := id L
  have hn : n ≤ 64 := V'.2.1
  have fr0 : z_fr a (a + 68) I (mm_up I a 4 0) := z_frU z_fr0 (Nat.le_refl _) (by omega)
  unfold k_Line_copy
  simp (disch := omega) only [↓z_jn, ↓z_lt, ↓z_cl, ↓z_cxl, ↓z_cxr, ↓z_ob, ↓z_gI, ↓z_pI, ↓z_pZ, ↓z_pR, ↓z_aI, ↓z_aJ, ↓z_sI, ↓z_sB, ↓z_sZ, ↓z_sJ, ↓z_sR, ↓z_al, ↓z_ck, ↓z_zz, ↓z_dv, ↓z_rm, ↓z_nn0, ↓z_nnS, ↓z_if1, ↓z_if0, z_ob, z_gI, z_pI, z_pZ, z_pR, z_aI, z_aJ, z_sI, z_sB, z_sZ, z_sJ, z_sR, z_al, z_ck, z_zz, z_dv, z_rm, z_nn0, z_nnS, z_if1, z_if0, z_Line_clear L]
  exact z_Line_copy_lp L L' ha (by omega) I (fun I' V fr => z_Wr ⟨V, fr⟩) m FU_ 0 (mm_up I a 4 0) f _ (by omega) (by unfold FU_; omega) (by omega) rfl
    (z_Ln_fr V' fr0 (by omega)) z_Ln_nil fr0 hm (fun _ h => absurd h (by omega))
end Line2
