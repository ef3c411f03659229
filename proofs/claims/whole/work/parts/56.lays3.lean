/-! the loop over the sizes of one letter -/
/-! what lays answers, and what it leaves -/
def z_LP (f : Nat → Int) (n : Nat) (st : Int) (Q : Nat → Nat) (sh : Nat → Prop) (z r k : Nat) (y : Int) (ch : Nat → Nat) (e : Nat → Int) (I : z_Is) (x : Int) (I' : z_Is) : Prop :=
  (x = 0 ∨ x = 1) ∧ (x = 1 ↔ z_lys f n st Q sh r k y ch e) ∧ z_fr (z + 1) (z + 3) I I' ∧ (x = 0 → z_Sz I' z ch e)
section Lays
variable {c : z_C} {T : z_Ty} {J : z_Js} {R : z_Rs} {b s z n q : Nat} {f : Nat → Int} {P Q : Nat → Nat} {st : Int} {sh : Nat → Prop}
theorem z_lays_lp2 {ch : Nat → Nat} {e : Nat → Int} {kx : mm_T → Option (Int × mm_T)} {Pf : Int → z_Is → Prop} {rec : Nat → Nat → Nat → Int → Int → Int → mm_T → Option (Int × mm_T)}
    (Z : z_SzL T R z) (hst : st = 1 ∨ st = -1) {v r k tm room : Nat} {y most : Int} (hv : v < 3) (htm : 1 ≤ tm) (htm6 : tm ≤ 6) (hroom : room ≤ 65) (hk : k ≤ 6) (hy0 : -1 ≤ y) (hy1 : y ≤ 64) (I0 : z_Is)
    (H : ∀ (s' : Nat) (I : z_Is), 1 ≤ s' → s' * tm ≤ room → z_Sz I z (z_upd ch v s') (z_upd e v y) → z_fr (z + 1) (z + 3) I0 I → z_W c T J R (rec b s z ((k : Int) + 1) (y + st * (s' : Int)) st (c, T, I, J, R)) (z_LP f n st Q sh z r (k + 1) (y + st * (s' : Int)) (z_upd ch v s') (z_upd e v y) I))
    (K : ∀ (I1 : z_Is) (x : Nat) (y' : Int), z_Sz I1 z (z_upd ch v x) (z_upd e v y') → z_fr (z + 1) (z + 3) I0 I1 → (∀ s' : Nat, 1 ≤ s' → s' * tm ≤ room → (s' : Int) ≤ most → ¬ z_lys f n st Q sh r (k + 1) (y + st * (s' : Int)) (z_upd ch v s') (z_upd e v y)) → z_W c T J R (kx (c, T, I1, J, R)) Pf)
    (G : ∀ (I1 : z_Is) (s' : Nat), z_fr (z + 1) (z + 3) I0 I1 → 1 ≤ s' → z_lys f n st Q sh r (k + 1) (y + st * (s' : Int)) (z_upd ch v s') (z_upd e v y) → s' * tm ≤ room → (s' : Int) ≤ most → Pf 1 I1) :
    ∀ (d fu sz : Nat) (I : z_Is) (x : Nat) (y' w8 w9 w11 w3 : Int), 66 - sz = d → d < fu → 1 ≤ sz → sz ≤ 66 → (w8 = (room : Int) ∨ (w8 < 0 ∧ room = 0)) → w9 = (tm : Int) → w11 = (sz : Int) → w3 = (k : Int) → z_Sz I z (z_upd ch v x) (z_upd e v y') → z_fr (z + 1) (z + 3) I0 I →
      (∀ s' : Nat, 1 ≤ s' → s' < sz → s' * tm ≤ room → (s' : Int) ≤ most → ¬ z_lys f n st Q sh r (k + 1) (y + st * (s' : Int)) (z_upd ch v s') (z_upd e v y)) →
      z_W c T J R (lp_Sizes_lays_249 kx rec b s z w3 y st (v : Int) w8 w9 most fu w11 (c, T, I, J, R)) Pf := by
  have Sset := fun (I : z_Is) (x y : Int) => z_Sizes_set (c := c) (J := J) (I := I) (v := (v : Int)) Z (by omega) (by omega) x y
  obtain ⟨z1, -⟩ := id Z
  intro d
  induction d with
  | zero =>
    intro fu sz I x y' w8 w9 w11 w3 hd hf h1 h66 e8 e9 e11 e3 V fr hno
    obtain ⟨fu, rfl⟩ : ∃ k, fu = k + 1 := ⟨fu - 1, by omega⟩
    have hs : sz = 66 := by omega
    have m1 : (66 : Nat) * 1 ≤ 66 * tm := Nat.mul_le_mul_left _ htm
    have p1 : w11 * w9 = ((sz * tm : Nat) : Int) := by rw [e11, e9, Int.natCast_mul]
    have p2 : sz * tm ≤ 66 * 6 := Nat.mul_le_mul (by omega) htm6
    have p3 : 1 ≤ sz * tm := Nat.mul_pos h1 htm
    rw [lp_Sizes_lays_249]
    subst hs
    simp (disch := omega) only [↓z_jn, ↓z_lt, ↓z_cl, ↓z_cxl, ↓z_cxr, ↓z_ob, ↓z_gI, ↓z_pI, ↓z_pZ, ↓z_pR, ↓z_aI, ↓z_aJ, ↓z_sI, ↓z_sB, ↓z_sZ, ↓z_sJ, ↓z_sR, ↓z_al, ↓z_ck, ↓z_zz, ↓z_dv, ↓z_rm, ↓z_nn0, ↓z_nnS, ↓z_if1, ↓z_if0, z_ob, z_gI, z_pI, z_pZ, z_pR, z_aI, z_aJ, z_sI, z_sB, z_sZ, z_sJ, z_sR, z_al, z_ck, z_zz, z_dv, z_rm, z_nn0, z_nnS, z_if1, z_if0, p1]
    exact K I x y' V fr (fun s' a1 a2 a3 => hno s' a1 (by have := Nat.mul_le_mul_left s' htm; omega) a2 a3)
  | succ d ih =>
    intro fu sz I x y' w8 w9 w11 w3 hd hf h1 h66 e8 e9 e11 e3 V fr hno
    obtain ⟨fu, rfl⟩ : ∃ k, fu = k + 1 := ⟨fu - 1, by omega⟩
    have p1 : w11 * w9 = ((sz * tm : Nat) : Int) := by rw [e11, e9, Int.natCast_mul]
    have p2 : sz * tm ≤ 66 * 6 := Nat.mul_le_mul (by omega) htm6
    have p3 : 1 ≤ sz * tm := Nat.mul_pos h1 htm
    rw [lp_Sizes_lays_249]
    by_cases c1 : room < sz * tm
    · simp (disch := omega) only [↓z_jn, ↓z_lt, ↓z_cl, ↓z_cxl, ↓z_cxr, ↓z_ob, ↓z_gI, ↓z_pI, ↓z_pZ, ↓z_pR, ↓z_aI, ↓z_aJ, ↓z_sI, ↓z_sB, ↓z_sZ, ↓z_sJ, ↓z_sR, ↓z_al, ↓z_ck, ↓z_zz, ↓z_dv, ↓z_rm, ↓z_nn0, ↓z_nnS, ↓z_if1, ↓z_if0, z_ob, z_gI, z_pI, z_pZ, z_pR, z_aI, z_aJ, z_sI, z_sB, z_sZ, z_sJ, z_sR, z_al, z_ck, z_zz, z_dv, z_rm, z_nn0, z_nnS, z_if1, z_if0, p1]
      refine K I x y' V fr (fun s' a1 a2 a3 => hno s' a1 ?_ a2 a3)
      refine Nat.lt_of_not_le (fun hle => ?_)
      have := Nat.mul_le_mul_right tm hle
      omega
    by_cases c2 : most < (sz : Int)
    · simp (disch := omega) only [↓z_jn, ↓z_lt, ↓z_cl, ↓z_cxl, ↓z_cxr, ↓z_ob, ↓z_gI, ↓z_pI, ↓z_pZ, ↓z_pR, ↓z_aI, ↓z_aJ, ↓z_sI, ↓z_sB, ↓z_sZ, ↓z_sJ, ↓z_sR, ↓z_al, ↓z_ck, ↓z_zz, ↓z_dv, ↓z_rm, ↓z_nn0, ↓z_nnS, ↓z_if1, ↓z_if0, z_ob, z_gI, z_pI, z_pZ, z_pR, z_aI, z_aJ, z_sI, z_sB, z_sZ, z_sJ, z_sR, z_al, z_ck, z_zz, z_dv, z_rm, z_nn0, z_nnS, z_if1, z_if0, p1]
      exact K I x y' V fr (fun s' a1 a2 a3 => hno s' a1 (by omega) a2 a3)
    have q1 : st * w11 = st * (sz : Int) := by rw [e11]
    have q2 : -66 ≤ st * (sz : Int) ∧ st * (sz : Int) ≤ 66 := by
      rcases hst with rfl | rfl <;> omega
    have V2 : z_Sz (mm_up (mm_up I (z + 1) v w11) (z + 2) v y) z (z_upd ch v sz) (z_upd e v y) := by
      intro w hw
      have := z_Sz_set V (v := v) (x := sz) e11 y w hw
      unfold z_upd at this ⊢
      by_cases hwv : w = v
      · simpa only [hwv, if_true] using this
      · simpa only [hwv, if_false] using this
    have fr2 : z_fr (z + 1) (z + 3) I0 (mm_up (mm_up I (z + 1) v w11) (z + 2) v y) := z_frU (z_frU fr (by omega) (by omega)) (by omega) (by omega)
    have tn : ((v : Int)).toNat = v := by omega
    simp (disch := omega) only [↓z_jn, ↓z_lt, ↓z_cl, ↓z_cxl, ↓z_cxr, ↓z_ob, ↓z_gI, ↓z_pI, ↓z_pZ, ↓z_pR, ↓z_aI, ↓z_aJ, ↓z_sI, ↓z_sB, ↓z_sZ, ↓z_sJ, ↓z_sR, ↓z_al, ↓z_ck, ↓z_zz, ↓z_dv, ↓z_rm, ↓z_nn0, ↓z_nnS, ↓z_if1, ↓z_if0, z_ob, z_gI, z_pI, z_pZ, z_pR, z_aI, z_aJ, z_sI, z_sB, z_sZ, z_sJ, z_sR, z_al, z_ck, z_zz, z_dv, z_rm, z_nn0, z_nnS, z_if1, z_if0, p1, Sset, tn, q1]
    subst e3
    refine z_Wc (H sz _ h1 (by omega) V2 fr2) (fun r' I' hr => ?_)
    obtain ⟨r1, r2, r3, r4⟩ := hr
    have fr3 := z_frT fr2 r3
    by_cases hr0 : r' = 0
    · subst hr0
      simp (disch := omega) only [↓z_jn, ↓z_lt, ↓z_cl, ↓z_cxl, ↓z_cxr, ↓z_ob, ↓z_gI, ↓z_pI, ↓z_pZ, ↓z_pR, ↓z_aI, ↓z_aJ, ↓z_sI, ↓z_sB, ↓z_sZ, ↓z_sJ, ↓z_sR, ↓z_al, ↓z_ck, ↓z_zz, ↓z_dv, ↓z_rm, ↓z_nn0, ↓z_nnS, ↓z_if1, ↓z_if0, z_ob, z_gI, z_pI, z_pZ, z_pR, z_aI, z_aJ, z_sI, z_sB, z_sZ, z_sJ, z_sR, z_al, z_ck, z_zz, z_dv, z_rm, z_nn0, z_nnS, z_if1, z_if0]
      refine ih fu (sz + 1) I' sz y _ _ _ _ (by omega) (by omega) (by omega) (by omega) e8 e9 (by omega) rfl (r4 rfl) fr3 (fun s' a1 a2 a3 a4 => ?_)
      by_cases hs : s' = sz
      · subst hs
        exact fun hl => absurd (r2.mpr hl) (by decide)
      · exact hno s' a1 (by omega) a3 a4
    · simp (disch := omega) only [↓z_jn, ↓z_lt, ↓z_cl, ↓z_cxl, ↓z_cxr, ↓z_ob, ↓z_gI, ↓z_pI, ↓z_pZ, ↓z_pR, ↓z_aI, ↓z_aJ, ↓z_sI, ↓z_sB, ↓z_sZ, ↓z_sJ, ↓z_sR, ↓z_al, ↓z_ck, ↓z_zz, ↓z_dv, ↓z_rm, ↓z_nn0, ↓z_nnS, ↓z_if1, ↓z_if0, z_ob, z_gI, z_pI, z_pZ, z_pR, z_aI, z_aJ, z_sI, z_sB, z_sZ, z_sJ, z_sR, z_al, z_ck, z_zz, z_dv, z_rm, z_nn0, z_nnS, z_if1, z_if0]
      exact z_Wr (G I' sz fr3 h1 (r2.mp (by omega)) (by omega) (by omega))
end Lays
