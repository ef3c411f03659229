/-! Sizes.lays says whether words can be laid. -/
theorem z_Wj {α F : Type} {c : z_C} {T : z_Ty} {J : z_Js} {R : z_Rs} {P : α → z_Is → Prop} {b : F} {u : F → Option (α × mm_T)} (S : F → Prop) (h1 : S b) (h2 : ∀ b', S b' → z_W c T J R (u b') P) :
    z_W c T J R (jn_ b u) P := h2 b h1
section Lays
variable {c : z_C} {T : z_Ty} {J : z_Js} {R : z_Rs} {b s z n q : Nat} {f : Nat → Int} {P Q : Nat → Nat} {st : Int}
theorem z_lays_lp1 {I : z_Is} {ch : Nat → Nat} {e : Nat → Int} {kx : Int → Int → mm_T → Option (Int × mm_T)} (S : z_ShL T R s) (VS : z_Sh I s P q) (Z : z_SzL T R z) (VZ : z_Sz I z ch e) (hst : st = 1 ∨ st = -1)
    (hQ : ∀ k, k < q → Q k = if st = 1 then P k else P (q - 1 - k)) (hch : ∀ v, ch v ≤ 64) {v : Nat} : ∀ (r fu k : Nat) (v8 v9 kz : Int), k + r = q → r < fu → kz = (k : Int) → -1000 + 64 * (r : Int) ≤ v8 → v8 ≤ 1000 → 0 ≤ v9 → v9 + (r : Int) ≤ 100 →
      lp_Sizes_lays_131 kx s z st (v : Int) fu v8 v9 kz (c, T, I, J, R) = kx (v8 - (z_oth Q ch v r k : Int)) (v9 + (z_cnt Q v r k : Int)) (c, T, I, J, R) := by
  obtain ⟨s1, -⟩ := id S
  obtain ⟨z1, -⟩ := id Z
  obtain ⟨w1, w2, w3⟩ := id VS
  intro r
  induction r with
  | zero =>
    intro fu k v8 v9 kz hk hf hz _ _ _ _
    obtain ⟨fu, rfl⟩ : ∃ k, fu = k + 1 := ⟨fu - 1, by omega⟩
    rw [lp_Sizes_lays_131]
    simp (disch := omega) only [↓z_jn, ↓z_lt, ↓z_cl, ↓z_cxl, ↓z_cxr, ↓z_ob, ↓z_gI, ↓z_pI, ↓z_pZ, ↓z_pR, ↓z_aI, ↓z_aJ, ↓z_sI, ↓z_sB, ↓z_sZ, ↓z_sJ, ↓z_sR, ↓z_al, ↓z_ck, ↓z_zz, ↓z_dv, ↓z_rm, ↓z_nn0, ↓z_nnS, ↓z_if1, ↓z_if0, z_ob, z_gI, z_pI, z_pZ, z_pR, z_aI, z_aJ, z_sI, z_sB, z_sZ, z_sJ, z_sR, z_al, z_ck, z_zz, z_dv, z_rm, z_nn0, z_nnS, z_if1, z_if0, w1]
    simp only [z_oth, z_cnt]
    congr 1 <;> omega
  | succ r ih =>
    intro fu k v8 v9 kz hk hf hz g1 g2 g3 g4
    obtain ⟨fu, rfl⟩ : ∃ k, fu = k + 1 := ⟨fu - 1, by omega⟩
    have hq3 : Q k < 3 := by
      rw [hQ k (by omega)]
      split
      · exact (w3 _ (by omega)).1
      · exact (w3 _ (by omega)).1
    have A : ∀ w : Int, w = (if st = 1 then (k : Int) else (q : Int) - 1 - (k : Int)) → k_Shape_at s w (c, T, I, J, R) = some ((Q k : Int), (c, T, I, J, R)) := by
      intro w hw
      have hQk := hQ k (by omega)
      rcases hst with rfl | rfl
      · rw [if_pos rfl] at hw hQk
        rw [z_Shape_at S VS, hQk, hw, if_pos (by omega)]
        rfl
      · rw [if_neg (by decide)] at hw hQk
        rw [z_Shape_at S VS, hQk, hw, if_pos (by omega), show ((q : Int) - 1 - (k : Int)).toNat = q - 1 - k from by omega]
    have B : k_Sizes_of z (Q k : Int) (c, T, I, J, R) = some ((ch (Q k) : Int), (c, T, I, J, R)) := by
      rw [z_Sizes_of Z VZ (by omega) (by omega)]
      rfl
    have hc := hch (Q k)
    have mxe : mx_ 1 (ch (Q k) : Int) = ((max 1 (ch (Q k)) : Nat) : Int) := by unfold mx_; split <;> omega
    have ih1 := ih fu (k + 1) (v8 - ((max 1 (ch (Q k)) : Nat) : Int)) v9 (kz + 1) (by omega) (by omega) (by omega) (by omega) (by omega) g3 (by omega)
    have ih2 := ih fu (k + 1) v8 (v9 + 1) (kz + 1) (by omega) (by omega) (by omega) (by omega) (by omega) (by omega) (by omega)
    rw [lp_Sizes_lays_131]
    have fin : (if ¬ (Q k : Int) = (v : Int) then lp_Sizes_lays_131 kx s z st (v : Int) fu (v8 - ((max 1 (ch (Q k)) : Nat) : Int)) v9 (kz + 1) (c, T, I, J, R) else lp_Sizes_lays_131 kx s z st (v : Int) fu v8 (v9 + 1) (kz + 1) (c, T, I, J, R)) =
        kx (v8 - (z_oth Q ch v (r + 1) k : Int)) (v9 + (z_cnt Q v (r + 1) k : Int)) (c, T, I, J, R) := by
      simp only [z_oth, z_cnt]
      by_cases h : Q k = v
      · rw [if_neg (by omega), ih2, if_pos h, if_pos h]
        congr 1 <;> omega
      · rw [if_pos (by omega), ih1, if_neg h, if_neg h]
        congr 1 <;> omega
    rcases hst with rfl | rfl
    · have A1 := A kz (by rw [if_pos rfl]; exact hz)
      simp (disch := omega) only [↓z_jn, ↓z_lt, ↓z_cl, ↓z_cxl, ↓z_cxr, ↓z_ob, ↓z_gI, ↓z_pI, ↓z_pZ, ↓z_pR, ↓z_aI, ↓z_aJ, ↓z_sI, ↓z_sB, ↓z_sZ, ↓z_sJ, ↓z_sR, ↓z_al, ↓z_ck, ↓z_zz, ↓z_dv, ↓z_rm, ↓z_nn0, ↓z_nnS, ↓z_if1, ↓z_if0, z_ob, z_gI, z_pI, z_pZ, z_pR, z_aI, z_aJ, z_sI, z_sB, z_sZ, z_sJ, z_sR, z_al, z_ck, z_zz, z_dv, z_rm, z_nn0, z_nnS, z_if1, z_if0, w1, A1, B, mxe]
      exact fin
    · have A1 := A ((q : Int) - 1 - kz) (by rw [if_neg (by decide)]; omega)
      simp (disch := omega) only [↓z_jn, ↓z_lt, ↓z_cl, ↓z_cxl, ↓z_cxr, ↓z_ob, ↓z_gI, ↓z_pI, ↓z_pZ, ↓z_pR, ↓z_aI, ↓z_aJ, ↓z_sI, ↓z_sB, ↓z_sZ, ↓z_sJ, ↓z_sR, ↓z_al, ↓z_ck, ↓z_zz, ↓z_dv, ↓z_rm, ↓z_nn0, ↓z_nnS, ↓z_if1, ↓z_if0, z_ob, z_gI, z_pI, z_pZ, z_pR, z_aI, z_aJ, z_sI, z_sB, z_sZ, z_sJ, z_sR, z_al, z_ck, z_zz, z_dv, z_rm, z_nn0, z_nnS, z_if1, z_if0, w1, A1, B, mxe]
      exact fin
end Lays
