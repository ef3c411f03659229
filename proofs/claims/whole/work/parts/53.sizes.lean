/-! THE CLASS'S Sizes: what it holds, and when a word laid stands again. -/
def z_Sz (I : z_Is) (a : Nat) (ch : Nat → Nat) (e : Nat → Int) : Prop := ∀ v, v < 3 → I (a + 1) v = (ch v : Int) ∧ I (a + 2) v = e v
def z_upd {β : Type} (f : Nat → β) (v : Nat) (x : β) : Nat → β := fun i => if i = v then x else f i
theorem z_alk_iff {f : Nat → Int} : ∀ {j i s : Nat}, j ≤ i → (s ≤ z_alk f i j ↔ s ≤ j + 1 ∧ ∀ t, t < s → f (i - t) = f (j - t))
  | 0, i, s, _ => by
    unfold z_alk
    by_cases h : f i = f 0
    · rw [if_pos h]
      refine ⟨fun hs => ⟨by omega, fun t ht => ?_⟩, fun hs => by omega⟩
      have : t = 0 := by omega
      subst this
      exact h
    · rw [if_neg h]
      refine ⟨fun hs => ⟨by omega, fun t ht => absurd ht (by omega)⟩, fun hs => ?_⟩
      cases s with
      | zero => exact Nat.le_refl _
      | succ s => exact absurd (hs.2 0 (by omega)) h
  | j + 1, i, 0, _ => ⟨fun _ => ⟨by omega, fun t ht => absurd ht (by omega)⟩, fun _ => Nat.zero_le _⟩
  | j + 1, i, s + 1, hj => by
    have ih := z_alk_iff (f := f) (j := j) (i := i - 1) (s := s) (by omega)
    unfold z_alk
    by_cases h : f i = f (j + 1)
    · rw [if_pos h]
      refine ⟨fun hs => ?_, fun hs => ?_⟩
      · obtain ⟨h1, h2⟩ := ih.mp (by omega)
        refine ⟨by omega, fun t ht => ?_⟩
        cases t with
        | zero => exact h
        | succ t =>
          have := h2 t (by omega)
          rw [show i - (t + 1) = i - 1 - t from by omega, show j + 1 - (t + 1) = j - t from by omega]
          exact this
      · have : s ≤ z_alk f (i - 1) j := ih.mpr ⟨by omega, fun t ht => by
          have := hs.2 (t + 1) (by omega)
          rw [show i - (t + 1) = i - 1 - t from by omega, show j + 1 - (t + 1) = j - t from by omega] at this
          exact this⟩
        omega
    · rw [if_neg h]
      exact ⟨fun hs => absurd hs (by omega), fun hs => absurd (hs.2 0 (by omega)) h⟩
/-- letters that end at two places are alike, so many -/
theorem z_lk_iff {f : Nat → Int} {n s : Nat} {x y : Int} (h0 : 0 ≤ x) (h1 : 0 ≤ y) (h2 : x < n) (h3 : y < n) (h4 : x ≠ y) :
    ((s : Int) ≤ z_lk f n x y ↔ (s : Int) ≤ x + 1 ∧ (s : Int) ≤ y + 1 ∧ ∀ t : Nat, t < s → f (x - t).toNat = f (y - t).toNat) := by
  unfold z_lk
  rw [if_pos (by omega)]
  by_cases h : x < y
  · have e1 : min x y = x := by omega
    have e2 : max x y = y := by omega
    rw [e1, e2]
    have k := z_alk_iff (f := f) (j := x.toNat) (i := y.toNat) (s := s) (by omega)
    refine ⟨fun hs => ?_, fun hs => ?_⟩
    · obtain ⟨k1, k2⟩ := k.mp (by omega)
      refine ⟨by omega, by omega, fun t ht => ?_⟩
      have := k2 t ht
      rw [show (x - (t : Int)).toNat = x.toNat - t from by omega, show (y - (t : Int)).toNat = y.toNat - t from by omega]
      exact this.symm
    · have := k.mpr ⟨by omega, fun t ht => by
        have := hs.2.2 t ht
        rw [show (x - (t : Int)).toNat = x.toNat - t from by omega, show (y - (t : Int)).toNat = y.toNat - t from by omega] at this
        exact this.symm⟩
      omega
  · have e1 : min x y = y := by omega
    have e2 : max x y = x := by omega
    rw [e1, e2]
    have k := z_alk_iff (f := f) (j := y.toNat) (i := x.toNat) (s := s) (by omega)
    refine ⟨fun hs => ?_, fun hs => ?_⟩
    · obtain ⟨k1, k2⟩ := k.mp (by omega)
      refine ⟨by omega, by omega, fun t ht => ?_⟩
      have := k2 t ht
      rw [show (x - (t : Int)).toNat = x.toNat - t from by omega, show (y - (t : Int)).toNat = y.toNat - t from by omega]
      exact this
    · have := k.mpr ⟨by omega, fun t ht => by
        have := hs.2.2 t ht
        rw [show (x - (t : Int)).toNat = x.toNat - t from by omega, show (y - (t : Int)).toNat = y.toNat - t from by omega] at this
        exact this⟩
      omega
section Sizes
variable {c : z_C} {T : z_Ty} {I : z_Is} {J : z_Js} {R : z_Rs} {a n : Nat} {f : Nat → Int} {ch : Nat → Nat} {e : Nat → Int}
theorem z_Sizes_of (L : z_SzL T R a) (V : z_Sz I a ch e) {v : Int} (h0 : 0 ≤ v) (h1 : v < 3) : k_Sizes_of a v (c, T, I, J, R) = some ((ch v.toNat : Int), (c, T, I, J, R)) := by
  have X := z_SzX L
  obtain ⟨l1, l2, l3, l4, l5, -⟩ := L
  have v3 := (V v.toNat (by omega)).1
  unfold k_Sizes_of
  simp (disch := omega) only [↓z_jn, ↓z_lt, ↓z_cl, ↓z_cxl, ↓z_cxr, ↓z_ob, ↓z_gI, ↓z_pI, ↓z_pZ, ↓z_pR, ↓z_aI, ↓z_aJ, ↓z_sI, ↓z_sB, ↓z_sZ, ↓z_sJ, ↓z_sR, ↓z_al, ↓z_ck, ↓z_zz, ↓z_dv, ↓z_rm, ↓z_nn0, ↓z_nnS, ↓z_if1, ↓z_if0, z_ob, z_gI, z_pI, z_pZ, z_pR, z_aI, z_aJ, z_sI, z_sB, z_sZ, z_sJ, z_sR, z_al, z_ck, z_zz, z_dv, z_rm, z_nn0, z_nnS, z_if1, z_if0, ↓X, X, v3]
theorem z_Sizes_edge (L : z_SzL T R a) (V : z_Sz I a ch e) {v : Int} (h0 : 0 ≤ v) (h1 : v < 3) : k_Sizes_edge a v (c, T, I, J, R) = some (e v.toNat, (c, T, I, J, R)) := by
  have X := z_SzX L
  obtain ⟨l1, l2, l3, l4, l5, -⟩ := L
  have v3 := (V v.toNat (by omega)).2
  unfold k_Sizes_edge
  simp (disch := omega) only [↓z_jn, ↓z_lt, ↓z_cl, ↓z_cxl, ↓z_cxr, ↓z_ob, ↓z_gI, ↓z_pI, ↓z_pZ, ↓z_pR, ↓z_aI, ↓z_aJ, ↓z_sI, ↓z_sB, ↓z_sZ, ↓z_sJ, ↓z_sR, ↓z_al, ↓z_ck, ↓z_zz, ↓z_dv, ↓z_rm, ↓z_nn0, ↓z_nnS, ↓z_if1, ↓z_if0, z_ob, z_gI, z_pI, z_pZ, z_pR, z_aI, z_aJ, z_sI, z_sB, z_sZ, z_sJ, z_sR, z_al, z_ck, z_zz, z_dv, z_rm, z_nn0, z_nnS, z_if1, z_if0, ↓X, X, v3]
theorem z_Sizes_set (L : z_SzL T R a) {v : Int} (h0 : 0 ≤ v) (h1 : v < 3) (x y : Int) :
    k_Sizes_set a v x y (c, T, I, J, R) = some ((), (c, T, mm_up (mm_up I (a + 1) v.toNat x) (a + 2) v.toNat y, J, R)) := by
  have X := z_SzX L
  obtain ⟨l1, l2, l3, l4, l5, -⟩ := L
  unfold k_Sizes_set
  simp (disch := omega) only [↓z_jn, ↓z_lt, ↓z_cl, ↓z_cxl, ↓z_cxr, ↓z_ob, ↓z_gI, ↓z_pI, ↓z_pZ, ↓z_pR, ↓z_aI, ↓z_aJ, ↓z_sI, ↓z_sB, ↓z_sZ, ↓z_sJ, ↓z_sR, ↓z_al, ↓z_ck, ↓z_zz, ↓z_dv, ↓z_rm, ↓z_nn0, ↓z_nnS, ↓z_if1, ↓z_if0, z_ob, z_gI, z_pI, z_pZ, z_pR, z_aI, z_aJ, z_sI, z_sB, z_sZ, z_sJ, z_sR, z_al, z_ck, z_zz, z_dv, z_rm, z_nn0, z_nnS, z_if1, z_if0, ↓X, X]
theorem z_Sz_set (V : z_Sz I a ch e) {v x : Nat} {xi : Int} (hx : xi = (x : Int)) (y : Int) : z_Sz (mm_up (mm_up I (a + 1) v xi) (a + 2) v y) a (z_upd ch v x) (z_upd e v y) := by
  intro w hw
  obtain ⟨h1, h2⟩ := V w hw
  unfold z_upd
  by_cases h : w = v
  · subst h
    refine ⟨?_, ?_⟩
    · rw [z_un (by omega), z_uq, if_pos rfl, hx]
    · rw [z_uq, if_pos rfl]
  · refine ⟨?_, ?_⟩
    · rw [z_un (by omega), z_un (by omega), if_neg h, h1]
    · rw [z_un (by omega), z_un (by omega), if_neg h, h2]
theorem z_Sizes_clear (L : z_SzL T R a) : z_W c T J R (k_Sizes_clear a (c, T, I, J, R)) (fun _ I' => z_Sz I' a (fun _ => 0) (fun _ => -1) ∧ z_fr (a + 1) (a + 3) I I') := by
  have S := fun (v : Int) (h0 : 0 ≤ v) (h1 : v < 3) (I : z_Is) => z_Sizes_set (c := c) (J := J) (I := I) L h0 h1 0 (-1)
  obtain ⟨l1, -⟩ := L
  unfold k_Sizes_clear
  have lp : ∀ (d fu : Nat) (I1 : z_Is) (z : Int), z = 3 - (d : Int) → d ≤ 3 → d < fu → z_fr (a + 1) (a + 3) I I1 → (∀ v, v < 3 - d → I1 (a + 1) v = 0 ∧ I1 (a + 2) v = -1) →
      z_W c T J R (lp_Sizes_clear_2 (fun (M : mm_T) => some ((), M)) a fu z (c, T, I1, J, R)) (fun _ I' => z_Sz I' a (fun _ => 0) (fun _ => -1) ∧ z_fr (a + 1) (a + 3) I I') := by
    intro d
    induction d with
    | zero =>
      intro fu I1 z hz hd hf fr hv
      obtain ⟨fu, rfl⟩ : ∃ k, fu = k + 1 := ⟨fu - 1, by omega⟩
      rw [lp_Sizes_clear_2]
      simp (disch := omega) only [↓z_jn, ↓z_lt, ↓z_cl, ↓z_cxl, ↓z_cxr, ↓z_ob, ↓z_gI, ↓z_pI, ↓z_pZ, ↓z_pR, ↓z_aI, ↓z_aJ, ↓z_sI, ↓z_sB, ↓z_sZ, ↓z_sJ, ↓z_sR, ↓z_al, ↓z_ck, ↓z_zz, ↓z_dv, ↓z_rm, ↓z_nn0, ↓z_nnS, ↓z_if1, ↓z_if0, z_ob, z_gI, z_pI, z_pZ, z_pR, z_aI, z_aJ, z_sI, z_sB, z_sZ, z_sJ, z_sR, z_al, z_ck, z_zz, z_dv, z_rm, z_nn0, z_nnS, z_if1, z_if0]
      exact z_Wr ⟨fun v h => hv v (by omega), fr⟩
    | succ d ih =>
      intro fu I1 z hz hd hf fr hv
      obtain ⟨fu, rfl⟩ : ∃ k, fu = k + 1 := ⟨fu - 1, by omega⟩
      have S1 := S z (by omega) (by omega) I1
      rw [lp_Sizes_clear_2]
      simp (disch := omega) only [↓z_jn, ↓z_lt, ↓z_cl, ↓z_cxl, ↓z_cxr, ↓z_ob, ↓z_gI, ↓z_pI, ↓z_pZ, ↓z_pR, ↓z_aI, ↓z_aJ, ↓z_sI, ↓z_sB, ↓z_sZ, ↓z_sJ, ↓z_sR, ↓z_al, ↓z_ck, ↓z_zz, ↓z_dv, ↓z_rm, ↓z_nn0, ↓z_nnS, ↓z_if1, ↓z_if0, z_ob, z_gI, z_pI, z_pZ, z_pR, z_aI, z_aJ, z_sI, z_sB, z_sZ, z_sJ, z_sR, z_al, z_ck, z_zz, z_dv, z_rm, z_nn0, z_nnS, z_if1, z_if0, S1]
      refine ih fu _ _ (by omega) (by omega) (by omega) (z_frU (z_frU fr (by omega) (by omega)) (by omega) (by omega)) (fun v hv' => ?_)
      by_cases h : v = z.toNat
      · subst h
        refine ⟨?_, z_uq⟩
        rw [z_un (by omega), z_uq]
      · obtain ⟨g1, g2⟩ := hv v (by omega)
        refine ⟨?_, ?_⟩
        · rw [z_un (by omega), z_un (by omega), g1]
        · rw [z_un (by omega), z_un (by omega), g2]
  simp (disch := omega) only [↓z_jn, ↓z_lt, ↓z_cl, ↓z_cxl, ↓z_cxr, ↓z_ob, ↓z_gI, ↓z_pI, ↓z_pZ, ↓z_pR, ↓z_aI, ↓z_aJ, ↓z_sI, ↓z_sB, ↓z_sZ, ↓z_sJ, ↓z_sR, ↓z_al, ↓z_ck, ↓z_zz, ↓z_dv, ↓z_rm, ↓z_nn0, ↓z_nnS, ↓z_if1, ↓z_if0, z_ob, z_gI, z_pI, z_pZ, z_pR, z_aI, z_aJ, z_sI, z_sB, z_sZ, z_sJ, z_sR, z_al, z_ck, z_zz, z_dv, z_rm, z_nn0, z_nnS, z_if1, z_if0]
  exact lp 3 FU_ I 0 (by omega) (by omega) (by unfold FU_; omega) z_fr0 (fun v h => absurd h (by omega))
theorem z_Sizes_isAgainAt {b : Nat} (L : z_SzL T R a) (V : z_Sz I a ch e) (L2 : z_LnL T R b) (V2 : z_Ln I b f n) {v y st : Int} (h0 : 0 ≤ v) (h1 : v < 3) (hs : st = 1 ∨ st = -1) (hc : ch v.toNat ≤ 64)
    (he0 : -1 ≤ e v.toNat) (he1 : e v.toNat ≤ 64) (hy0 : -64 ≤ y) (hy1 : y ≤ 64) :
    ∃ r, k_Sizes_isAgainAt a b v y st (c, T, I, J, R) = some (r, (c, T, I, J, R)) ∧ (r = 0 ∨ r = 1) ∧
      (r = 1 ↔ (ch v.toNat : Int) ≤ z_lk f n (e v.toNat + (if st = 1 then (ch v.toNat : Int) - 1 else 0)) (y + (if st = 1 then (ch v.toNat : Int) - 1 else 0))) := by
  have S1 := z_Sizes_of (c := c) (J := J) L V h0 h1
  have S2 := z_Sizes_edge (c := c) (J := J) L V h0 h1
  have S3 := fun x y => z_Line_alike (c := c) (J := J) L2 V2 x y
  obtain ⟨l1, -⟩ := L
  obtain ⟨⟨m1, -⟩, -⟩ := L2
  unfold k_Sizes_isAgainAt
  rcases hs with rfl | rfl
  · simp (disch := omega) only [↓z_jn, ↓z_lt, ↓z_cl, ↓z_cxl, ↓z_cxr, ↓z_ob, ↓z_gI, ↓z_pI, ↓z_pZ, ↓z_pR, ↓z_aI, ↓z_aJ, ↓z_sI, ↓z_sB, ↓z_sZ, ↓z_sJ, ↓z_sR, ↓z_al, ↓z_ck, ↓z_zz, ↓z_dv, ↓z_rm, ↓z_nn0, ↓z_nnS, ↓z_if1, ↓z_if0, z_ob, z_gI, z_pI, z_pZ, z_pR, z_aI, z_aJ, z_sI, z_sB, z_sZ, z_sJ, z_sR, z_al, z_ck, z_zz, z_dv, z_rm, z_nn0, z_nnS, z_if1, z_if0, S1, S2, S3]
    by_cases h : (ch v.toNat : Int) ≤ z_lk f n (e v.toNat + ((ch v.toNat : Int) - 1)) (y + ((ch v.toNat : Int) - 1))
    · exact ⟨1, by simp (disch := omega) only [↓z_jn, ↓z_lt, ↓z_cl, ↓z_cxl, ↓z_cxr, ↓z_ob, ↓z_gI, ↓z_pI, ↓z_pZ, ↓z_pR, ↓z_aI, ↓z_aJ, ↓z_sI, ↓z_sB, ↓z_sZ, ↓z_sJ, ↓z_sR, ↓z_al, ↓z_ck, ↓z_zz, ↓z_dv, ↓z_rm, ↓z_nn0, ↓z_nnS, ↓z_if1, ↓z_if0, z_ob, z_gI, z_pI, z_pZ, z_pR, z_aI, z_aJ, z_sI, z_sB, z_sZ, z_sJ, z_sR, z_al, z_ck, z_zz, z_dv, z_rm, z_nn0, z_nnS, z_if1, z_if0], by omega, by omega⟩
    · exact ⟨0, by simp (disch := omega) only [↓z_jn, ↓z_lt, ↓z_cl, ↓z_cxl, ↓z_cxr, ↓z_ob, ↓z_gI, ↓z_pI, ↓z_pZ, ↓z_pR, ↓z_aI, ↓z_aJ, ↓z_sI, ↓z_sB, ↓z_sZ, ↓z_sJ, ↓z_sR, ↓z_al, ↓z_ck, ↓z_zz, ↓z_dv, ↓z_rm, ↓z_nn0, ↓z_nnS, ↓z_if1, ↓z_if0, z_ob, z_gI, z_pI, z_pZ, z_pR, z_aI, z_aJ, z_sI, z_sB, z_sZ, z_sJ, z_sR, z_al, z_ck, z_zz, z_dv, z_rm, z_nn0, z_nnS, z_if1, z_if0], by omega, by omega⟩
  · simp (disch := omega) only [↓z_jn, ↓z_lt, ↓z_cl, ↓z_cxl, ↓z_cxr, ↓z_ob, ↓z_gI, ↓z_pI, ↓z_pZ, ↓z_pR, ↓z_aI, ↓z_aJ, ↓z_sI, ↓z_sB, ↓z_sZ, ↓z_sJ, ↓z_sR, ↓z_al, ↓z_ck, ↓z_zz, ↓z_dv, ↓z_rm, ↓z_nn0, ↓z_nnS, ↓z_if1, ↓z_if0, z_ob, z_gI, z_pI, z_pZ, z_pR, z_aI, z_aJ, z_sI, z_sB, z_sZ, z_sJ, z_sR, z_al, z_ck, z_zz, z_dv, z_rm, z_nn0, z_nnS, z_if1, z_if0, S1, S2, S3]
    by_cases h : (ch v.toNat : Int) ≤ z_lk f n (e v.toNat + 0) (y + 0)
    · exact ⟨1, by simp (disch := omega) only [↓z_jn, ↓z_lt, ↓z_cl, ↓z_cxl, ↓z_cxr, ↓z_ob, ↓z_gI, ↓z_pI, ↓z_pZ, ↓z_pR, ↓z_aI, ↓z_aJ, ↓z_sI, ↓z_sB, ↓z_sZ, ↓z_sJ, ↓z_sR, ↓z_al, ↓z_ck, ↓z_zz, ↓z_dv, ↓z_rm, ↓z_nn0, ↓z_nnS, ↓z_if1, ↓z_if0, z_ob, z_gI, z_pI, z_pZ, z_pR, z_aI, z_aJ, z_sI, z_sB, z_sZ, z_sJ, z_sR, z_al, z_ck, z_zz, z_dv, z_rm, z_nn0, z_nnS, z_if1, z_if0], by omega, by omega⟩
    · exact ⟨0, by simp (disch := omega) only [↓z_jn, ↓z_lt, ↓z_cl, ↓z_cxl, ↓z_cxr, ↓z_ob, ↓z_gI, ↓z_pI, ↓z_pZ, ↓z_pR, ↓z_aI, ↓z_aJ, ↓z_sI, ↓z_sB, ↓z_sZ, ↓z_sJ, ↓z_sR, ↓z_al, ↓z_ck, ↓z_zz, ↓z_dv, ↓z_rm, ↓z_nn0, ↓z_nnS, ↓z_if1, ↓z_if0, z_ob, z_gI, z_pI, z_pZ, z_pR, z_aI, z_aJ, z_sI, z_sB, z_sZ, z_sJ, z_sR, z_al, z_ck, z_zz, z_dv, z_rm, z_nn0, z_nnS, z_if1, z_if0], by omega, by omega⟩
end Sizes
