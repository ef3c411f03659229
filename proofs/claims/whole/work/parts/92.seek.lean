/-! SEARCHES: the class's seek. -/
def z_SS (I : z_Is) (lo hi : Nat) (s : z_S) : Prop :=
  z_Ln I 280 s.1 s.2.1 ∧ I 279 2 = (lo : Int) ∧ I 279 3 = (hi : Int) ∧ I 279 4 = (s.2.2.1 : Int) ∧ I 279 5 = (s.2.2.2.1 : Int) ∧ I 279 6 = (s.2.2.2.2 : Int) ∧ (∀ i, i < s.2.1 → 0 ≤ s.1 i ∧ s.1 i < 4) ∧ s.2.2.1 ≤ 4 ∧ s.2.2.2.2 ≤ 64
/-! how a seek from s ends: by n steps -/
def z_SE (D : Nat → Int) (lo hi : Nat) (s : z_S) (n : Nat) (r : Int) : Prop :=
  (∀ j, j < n → ¬ z_sed D lo hi (z_sit D lo hi s j)) ∧ (∀ j, 0 < j → j < n → ¬ z_sfd hi (z_sit D lo hi s j)) ∧
  ((r = 1 ∧ 0 < n ∧ z_sfd hi (z_sit D lo hi s n)) ∨ (z_sed D lo hi (z_sit D lo hi s n) ∧ r = if z_dA D ≤ (z_sit D lo hi s n).2.2.1 then -1 else -2))
section Seek
variable {c : z_C} {T : z_Ty} {I : z_Is} {J : z_Js} {R : z_Rs} {t s : Nat} {D : Nat → Int} {lo hi : Nat}
set_option maxRecDepth 20000 in
theorem z_seek (LX : z_XL T R t s) (h279 : R 279 1 = t) (wD : z_Dw D) (VT : z_Td I t D) {S : z_S} (V : z_SS I lo hi S) (hl : lo < hi) (h64 : hi ≤ 64) (hlo : lo ≤ S.2.1) (hhi : S.2.1 ≤ hi) (ht : S.2.2.2.1 ≤ 5000) (hF : ∀ i, i < S.2.1 → ¬ z_bad D S.1 i) :
    z_W c T J R (k_Search_seek 279 (c, T, I, J, R)) (fun r I' => z_fr 279 351 I I' ∧ ∃ n, z_SS I' lo hi (z_sit D lo hi S n) ∧ z_SE D lo hi S n r) := by
  have LN := z_xL280 LX
  have kS := z_xk279 LX
  have kL := z_xk280 LX
  have rS := z_xrs LX
  have LT := z_xLt LX
  have t1 : z_tk T t = 19 := LT.1.1
  have xts := z_xts LX
  obtain ⟨d1, d2, d3⟩ := z_dA_eq wD
  have t0 : t ≠ 0 := by omega
  -- the loop, from a state that is no find
  have loop : ∀ (S : z_S) (I1 : z_Is), z_SS I1 lo hi S → z_fr 279 351 I I1 → S.2.1 ≠ hi → lo ≤ S.2.1 → S.2.1 ≤ hi → S.2.2.2.1 ≤ 5000 → (∀ i, i < S.2.1 → ¬ z_bad D S.1 i) →
      z_U (lp_Search_seek_52 (fun (M : mm_T) => some ((-2), M)) 279 FU_ (0 : Int) (c, T, I1, J, R)) (fun r M' => ∃ I', M' = (c, T, I', J, R) ∧ z_fr 279 351 I I' ∧ ∃ n, z_SS I' lo hi (z_sit D lo hi S n) ∧ z_SE D lo hi S n r) := by
    intro S I1 V1 fr1 hne hlo hhi ht hF
    refine z_f1 (fun d w I' => z_fr 279 351 I I' ∧ ∃ m : Nat, w = (m : Int) ∧ m + d = 10100 ∧ z_SS I' lo hi (z_sit D lo hi S m) ∧ (∀ j, j < m → ¬ z_sed D lo hi (z_sit D lo hi S j)) ∧ (∀ i, i < (z_sit D lo hi S m).2.1 → ¬ z_bad D (z_sit D lo hi S m).1 i) ∧ ∀ j, j ≤ m → ¬ z_sfd hi (z_sit D lo hi S j)) ?_ 10100 (by omega)
      ⟨fr1, 0, rfl, by omega, V1, fun j h => absurd h (by omega), hF, fun j h => by rw [show j = 0 from by omega]; exact hne⟩
    rintro d fu w I2 ⟨fr2, m, rfl, hmd, V2, nr, hFm, nf⟩ ih
    obtain ⟨⟨i1, i2, i3⟩, i4⟩ := z_sit_inv (D := D) hlo hhi hl ht (m := m) nr
    have nf0 := nf m (Nat.le_refl _)
    have st : z_sit D lo hi S (m + 1) = z_sst D lo hi (z_sit D lo hi S m) := rfl
    revert V2 i1 i2 i3 i4 nf0 st hFm
    generalize hX : z_sit D lo hi S m = X
    obtain ⟨g, k, x, tt, h⟩ := X
    dsimp only
    intro V2 hFm i1 i2 i3 i4 nf0 st
    have SE := fun (r : Int) (hs : z_sed D lo hi (g, k, x, tt, h)) (hr : r = if z_dA D ≤ x then -1 else -2) => (⟨nr, fun j _ hj => nf j (by omega), Or.inr (by rw [hX]; exact ⟨hs, hr⟩)⟩ : z_SE D lo hi S m r)
    have nr1 : ¬ z_sed D lo hi (g, k, x, tt, h) → ∀ j, j < m + 1 → ¬ z_sed D lo hi (z_sit D lo hi S j) := fun hn j hj => by
      by_cases hjm : j = m
      · rw [hjm, hX]; exact hn
      · exact nr j (by omega)
    have nf1 : ∀ X' : z_S, z_sit D lo hi S (m + 1) = X' → X'.2.1 ≠ hi → ∀ j, j ≤ m + 1 → ¬ z_sfd hi (z_sit D lo hi S j) := fun X' e hn j hj => by
      by_cases hjm : j = m + 1
      · rw [hjm, e]; exact hn
      · exact nf j (by omega)
    have VV := V2
    obtain ⟨VL, v2, v3, v4, v5, v6, vg, vx, vh⟩ := V2
    dsimp only at VL v4 v5 v6 vg vx vh
    have VT2 := z_Td_fr wD VT fr2 (by omega)
    have t2 : I2 t 2 = (z_dA D : Int) := by rw [VT2.1.1]; exact d1
    have v14 := VL.1
    have hk : k ≠ hi := nf0
    rw [lp_Search_seek_52]
    by_cases hx : x < z_dA D
    · by_cases h5 : tt = 5000
      · repeat' (first | ((with_reducible refine z_u_lt ?_)) | ((with_reducible refine z_u_ck ?_ ?_ ?_); omega; omega) | ((with_reducible refine z_u_ib (fun _ => ?_) (fun _ => ?_))) | ((with_reducible refine z_u_in (fun _ => ?_) (fun _ => ?_))) | ((with_reducible refine z_u_t ?_ ?_); omega) | ((with_reducible refine z_u_f ?_ ?_); omega) | ((with_reducible refine z_u_ni (fun _ => ?_) (fun _ => ?_))) | ((with_reducible refine z_u_if (fun _ => ?_) (fun _ => ?_))) | ((with_reducible refine z_u_zb ?_)) | ((with_reducible refine z_u_zz ?_ ?_); omega) | ((with_reducible refine z_u_jn ?_)) | ((with_reducible refine z_u_n0 ?_)) | ((with_reducible refine z_u_nS ?_ ?_); omega) | ((with_reducible refine z_u_dv ?_ ?_ ?_); omega; omega) | ((with_reducible refine z_u_rm ?_ ?_ ?_); omega; omega) | ((with_reducible refine z_u_ob ?_ ?_); (first | (with_reducible assumption) | omega)) | ((with_reducible apply z_u_gI); (first | (with_reducible assumption) | omega); (first | (with_reducible assumption) | exact z_uq | ((repeat ((apply Eq.trans); (exact z_un (by omega)))); first | (with_reducible assumption) | exact z_uq | exact rfl))) | ((with_reducible apply z_u_gR); (first | (with_reducible assumption) | omega); (first | (with_reducible assumption) | exact z_uq | ((repeat ((apply Eq.trans); (exact z_un (by omega)))); first | (with_reducible assumption) | exact z_uq | exact rfl))) | ((with_reducible refine z_u_pI ?_ ?_); (first | (with_reducible assumption) | omega)) | ((with_reducible refine z_u_pZ ?_ ?_ ?_); (first | (with_reducible assumption) | omega); omega) | ((with_reducible apply z_u_aI); (first | (with_reducible assumption) | omega); omega; omega; (first | (with_reducible assumption) | exact z_uq | ((repeat ((apply Eq.trans); (exact z_un (by omega)))); first | (with_reducible assumption) | exact z_uq | exact rfl))) | ((with_reducible apply z_u_aR); (first | (with_reducible assumption) | omega); omega; omega; (first | (with_reducible assumption) | exact z_uq | ((repeat ((apply Eq.trans); (exact z_un (by omega)))); first | (with_reducible assumption) | exact z_uq | exact rfl))) | ((with_reducible refine z_u_sI ?_ ?_ ?_ ?_); (first | (with_reducible assumption) | omega); omega; omega) | ((with_reducible apply z_u_al); (first | (with_reducible assumption) | omega); omega; (first | (with_reducible assumption) | exact z_uq | ((repeat ((apply Eq.trans); (exact z_un (by omega)))); first | (with_reducible assumption) | exact z_uq | exact rfl))))
        exact z_u_r ⟨_, rfl, fr2, m, by rw [hX]; exact VV, SE (-2) ⟨hk, Or.inr ⟨hx, h5⟩⟩ (if_neg (by omega)).symm⟩
      · have hns : ¬ z_sed D lo hi (g, k, x, tt, h) := fun hs => by
          obtain ⟨-, hs | hs⟩ := hs <;> dsimp only at hs <;> omega
        have frA : z_fr 279 280 I2 (mm_up I2 279 5 ((tt : Int) + 1)) := z_frU z_fr0 (by omega) (by omega)
        have VA := z_Ln_fr VL frA (by omega)
        repeat' (first | ((with_reducible refine z_u_lt ?_)) | ((with_reducible refine z_u_ck ?_ ?_ ?_); omega; omega) | ((with_reducible refine z_u_ib (fun _ => ?_) (fun _ => ?_))) | ((with_reducible refine z_u_in (fun _ => ?_) (fun _ => ?_))) | ((with_reducible refine z_u_t ?_ ?_); omega) | ((with_reducible refine z_u_f ?_ ?_); omega) | ((with_reducible refine z_u_ni (fun _ => ?_) (fun _ => ?_))) | ((with_reducible refine z_u_if (fun _ => ?_) (fun _ => ?_))) | ((with_reducible refine z_u_zb ?_)) | ((with_reducible refine z_u_zz ?_ ?_); omega) | ((with_reducible refine z_u_jn ?_)) | ((with_reducible refine z_u_n0 ?_)) | ((with_reducible refine z_u_nS ?_ ?_); omega) | ((with_reducible refine z_u_dv ?_ ?_ ?_); omega; omega) | ((with_reducible refine z_u_rm ?_ ?_ ?_); omega; omega) | ((with_reducible refine z_u_ob ?_ ?_); (first | (with_reducible assumption) | omega)) | ((with_reducible apply z_u_gI); (first | (with_reducible assumption) | omega); (first | (with_reducible assumption) | exact z_uq | ((repeat ((apply Eq.trans); (exact z_un (by omega)))); first | (with_reducible assumption) | exact z_uq | exact rfl))) | ((with_reducible apply z_u_gR); (first | (with_reducible assumption) | omega); (first | (with_reducible assumption) | exact z_uq | ((repeat ((apply Eq.trans); (exact z_un (by omega)))); first | (with_reducible assumption) | exact z_uq | exact rfl))) | ((with_reducible refine z_u_pI ?_ ?_); (first | (with_reducible assumption) | omega)) | ((with_reducible refine z_u_pZ ?_ ?_ ?_); (first | (with_reducible assumption) | omega); omega) | ((with_reducible apply z_u_aI); (first | (with_reducible assumption) | omega); omega; omega; (first | (with_reducible assumption) | exact z_uq | ((repeat ((apply Eq.trans); (exact z_un (by omega)))); first | (with_reducible assumption) | exact z_uq | exact rfl))) | ((with_reducible apply z_u_aR); (first | (with_reducible assumption) | omega); omega; omega; (first | (with_reducible assumption) | exact z_uq | ((repeat ((apply Eq.trans); (exact z_un (by omega)))); first | (with_reducible assumption) | exact z_uq | exact rfl))) | ((with_reducible refine z_u_sI ?_ ?_ ?_ ?_); (first | (with_reducible assumption) | omega); omega; omega) | ((with_reducible apply z_u_al); (first | (with_reducible assumption) | omega); omega; (first | (with_reducible assumption) | exact z_uq | ((repeat ((apply Eq.trans); (exact z_un (by omega)))); first | (with_reducible assumption) | exact z_uq | exact rfl))))
        refine z_u_w (z_Line_add LN VA (by omega) (x : Int)) (fun _ I3 h3 => ?_)
        obtain ⟨V3, fr3⟩ := h3
        have frB : z_fr 279 351 I I3 := z_frT fr2 (z_frT (z_frW frA (by omega) (by omega)) (z_frW fr3 (by omega) (by omega)))
        have VT3 := z_Td_fr wD VT frB (by omega)
        have a5 : I3 279 5 = ((tt + 1 : Nat) : Int) := by rw [fr3 279 (by omega)]; exact z_uq
        have a2 : I3 279 2 = (lo : Int) := by rw [fr3 279 (by omega), z_un (by omega)]; exact v2
        have a3 : I3 279 3 = (hi : Int) := by rw [fr3 279 (by omega), z_un (by omega)]; exact v3
        have a6 : I3 279 6 = (h : Int) := by rw [fr3 279 (by omega), z_un (by omega)]; exact v6
        have v34 := V3.1
        have vg3 : ∀ i, i < k + 1 → 0 ≤ z_put g k (x : Int) i ∧ z_put g k (x : Int) i < 4 := fun i hi => by
          unfold z_put
          by_cases hik : i = k
          · rw [if_pos hik]; omega
          · rw [if_neg hik]; exact vg i (by omega)
        have BA := z_isBadAt (c := c) (J := J) LN V3 LT VT3 wD (by omega) (i := k) (by omega) (fun j hj b => hFm j hj (z_bad_co wD (fun x hx => z_put_ne (by omega)) b))
        repeat' (first | ((with_reducible refine z_u_lt ?_)) | ((with_reducible refine z_u_ck ?_ ?_ ?_); omega; omega) | ((with_reducible refine z_u_ib (fun _ => ?_) (fun _ => ?_))) | ((with_reducible refine z_u_in (fun _ => ?_) (fun _ => ?_))) | ((with_reducible refine z_u_t ?_ ?_); omega) | ((with_reducible refine z_u_f ?_ ?_); omega) | ((with_reducible refine z_u_ni (fun _ => ?_) (fun _ => ?_))) | ((with_reducible refine z_u_if (fun _ => ?_) (fun _ => ?_))) | ((with_reducible refine z_u_zb ?_)) | ((with_reducible refine z_u_zz ?_ ?_); omega) | ((with_reducible refine z_u_jn ?_)) | ((with_reducible refine z_u_n0 ?_)) | ((with_reducible refine z_u_nS ?_ ?_); omega) | ((with_reducible refine z_u_dv ?_ ?_ ?_); omega; omega) | ((with_reducible refine z_u_rm ?_ ?_ ?_); omega; omega) | ((with_reducible refine z_u_ob ?_ ?_); (first | (with_reducible assumption) | omega)) | ((with_reducible apply z_u_gI); (first | (with_reducible assumption) | omega); (first | (with_reducible assumption) | exact z_uq | ((repeat ((apply Eq.trans); (exact z_un (by omega)))); first | (with_reducible assumption) | exact z_uq | exact rfl))) | ((with_reducible apply z_u_gR); (first | (with_reducible assumption) | omega); (first | (with_reducible assumption) | exact z_uq | ((repeat ((apply Eq.trans); (exact z_un (by omega)))); first | (with_reducible assumption) | exact z_uq | exact rfl))) | ((with_reducible refine z_u_pI ?_ ?_); (first | (with_reducible assumption) | omega)) | ((with_reducible refine z_u_pZ ?_ ?_ ?_); (first | (with_reducible assumption) | omega); omega) | ((with_reducible apply z_u_aI); (first | (with_reducible assumption) | omega); omega; omega; (first | (with_reducible assumption) | exact z_uq | ((repeat ((apply Eq.trans); (exact z_un (by omega)))); first | (with_reducible assumption) | exact z_uq | exact rfl))) | ((with_reducible apply z_u_aR); (first | (with_reducible assumption) | omega); omega; omega; (first | (with_reducible assumption) | exact z_uq | ((repeat ((apply Eq.trans); (exact z_un (by omega)))); first | (with_reducible assumption) | exact z_uq | exact rfl))) | ((with_reducible refine z_u_sI ?_ ?_ ?_ ?_); (first | (with_reducible assumption) | omega); omega; omega) | ((with_reducible apply z_u_al); (first | (with_reducible assumption) | omega); omega; (first | (with_reducible assumption) | exact z_uq | ((repeat ((apply Eq.trans); (exact z_un (by omega)))); first | (with_reducible assumption) | exact z_uq | exact rfl))))
        rw [show ((k + 1 : Nat) : Int) - 1 = (k : Int) from by omega]
        refine z_u_w BA (fun r I4 h4 => ?_)
        obtain ⟨rfl, fr4⟩ := h4
        have frC : z_fr 279 351 I I4 := z_frT frB (z_frW fr4 (by omega) (by omega))
        have V4 := z_Ln_fr V3 fr4 (by omega)
        have v44 := V4.1
        have b2 : I4 279 2 = (lo : Int) := by rw [fr4 279 (by omega)]; exact a2
        have b3 : I4 279 3 = (hi : Int) := by rw [fr4 279 (by omega)]; exact a3
        have b5 : I4 279 5 = ((tt + 1 : Nat) : Int) := by rw [fr4 279 (by omega)]; exact a5
        have b6 : I4 279 6 = (h : Int) := by rw [fr4 279 (by omega)]; exact a6
        by_cases b : z_bad D (z_put g k (x : Int)) k
        · rw [z_bt b]
          have DL := z_Line_dropLast (c := c) (J := J) LN V4
          rw [show z_put g k (x : Int) k = (x : Int) from if_pos rfl] at DL
          have e := z_sst_bad (D := D) (lo := lo) (hi := hi) (h := h) hk hx h5 b
          rw [e] at st
          repeat' (first | ((with_reducible apply z_u_e); (with_reducible refine DL)) | ((with_reducible refine z_u_lt ?_)) | ((with_reducible refine z_u_ck ?_ ?_ ?_); omega; omega) | ((with_reducible refine z_u_ib (fun _ => ?_) (fun _ => ?_))) | ((with_reducible refine z_u_in (fun _ => ?_) (fun _ => ?_))) | ((with_reducible refine z_u_t ?_ ?_); omega) | ((with_reducible refine z_u_f ?_ ?_); omega) | ((with_reducible refine z_u_ni (fun _ => ?_) (fun _ => ?_))) | ((with_reducible refine z_u_if (fun _ => ?_) (fun _ => ?_))) | ((with_reducible refine z_u_zb ?_)) | ((with_reducible refine z_u_zz ?_ ?_); omega) | ((with_reducible refine z_u_jn ?_)) | ((with_reducible refine z_u_n0 ?_)) | ((with_reducible refine z_u_nS ?_ ?_); omega) | ((with_reducible refine z_u_dv ?_ ?_ ?_); omega; omega) | ((with_reducible refine z_u_rm ?_ ?_ ?_); omega; omega) | ((with_reducible refine z_u_ob ?_ ?_); (first | (with_reducible assumption) | omega)) | ((with_reducible apply z_u_gI); (first | (with_reducible assumption) | omega); (first | (with_reducible assumption) | exact z_uq | ((repeat ((apply Eq.trans); (exact z_un (by omega)))); first | (with_reducible assumption) | exact z_uq | exact rfl))) | ((with_reducible apply z_u_gR); (first | (with_reducible assumption) | omega); (first | (with_reducible assumption) | exact z_uq | ((repeat ((apply Eq.trans); (exact z_un (by omega)))); first | (with_reducible assumption) | exact z_uq | exact rfl))) | ((with_reducible refine z_u_pI ?_ ?_); (first | (with_reducible assumption) | omega)) | ((with_reducible refine z_u_pZ ?_ ?_ ?_); (first | (with_reducible assumption) | omega); omega) | ((with_reducible apply z_u_aI); (first | (with_reducible assumption) | omega); omega; omega; (first | (with_reducible assumption) | exact z_uq | ((repeat ((apply Eq.trans); (exact z_un (by omega)))); first | (with_reducible assumption) | exact z_uq | exact rfl))) | ((with_reducible apply z_u_aR); (first | (with_reducible assumption) | omega); omega; omega; (first | (with_reducible assumption) | exact z_uq | ((repeat ((apply Eq.trans); (exact z_un (by omega)))); first | (with_reducible assumption) | exact z_uq | exact rfl))) | ((with_reducible refine z_u_sI ?_ ?_ ?_ ?_); (first | (with_reducible assumption) | omega); omega; omega) | ((with_reducible apply z_u_al); (first | (with_reducible assumption) | omega); omega; (first | (with_reducible assumption) | exact z_uq | ((repeat ((apply Eq.trans); (exact z_un (by omega)))); first | (with_reducible assumption) | exact z_uq | exact rfl))))
          have cut := z_Ln_cut V4 (show k ≤ k + 1 from by omega)
          exact ih (d - 1) _ _ (by omega) ⟨z_frU (z_frU frC (by omega) (by omega)) (by omega) (by omega), m + 1, by omega, by omega, by
            rw [st]
            refine ⟨z_Ln_fr (lo := 279) (hi := 280) cut (z_frU z_fr0 (by omega) (by omega)) (by omega), ?_, ?_, ?_, ?_, ?_, fun i hi => vg3 i (by dsimp only at hi; omega), by dsimp only; omega, vh⟩
            · rw [z_un (by omega), z_un (by omega)]; exact b2
            · rw [z_un (by omega), z_un (by omega)]; exact b3
            · rw [z_uq]; dsimp only; omega
            · rw [z_un (by omega), z_un (by omega)]; exact b5
            · rw [z_un (by omega), z_un (by omega)]; exact b6, nr1 hns, by
            rw [st]
            exact fun i hi b => hFm i hi (z_bad_co wD (fun x hx => z_put_ne (by dsimp only at hi; omega)) b), nf1 _ st hk⟩
        · rw [z_bf b]
          have e := z_sst_good (D := D) (lo := lo) (hi := hi) (h := h) hk hx h5 b
          rw [e] at st
          have emx : mx_ (h : Int) ((k + 1 : Nat) : Int) = ((max h (k + 1) : Nat) : Int) := by unfold mx_; omega
          have SSn : z_SS (mm_up (mm_up I4 279 4 0) 279 6 (mx_ (h : Int) ((k + 1 : Nat) : Int))) lo hi (z_sit D lo hi S (m + 1)) := by
            rw [st]
            refine ⟨z_Ln_fr (lo := 279) (hi := 280) V4 (z_frU (z_frU z_fr0 (by omega) (by omega)) (by omega) (by omega)) (by omega), ?_, ?_, ?_, ?_, ?_, vg3, by dsimp only; omega, by dsimp only; omega⟩
            · rw [z_un (by omega), z_un (by omega)]; exact b2
            · rw [z_un (by omega), z_un (by omega)]; exact b3
            · rw [z_un (by omega), z_uq]; rfl
            · rw [z_un (by omega), z_un (by omega)]; exact b5
            · rw [z_uq]; exact emx
          have frE : z_fr 279 351 I (mm_up (mm_up I4 279 4 0) 279 6 (mx_ (h : Int) ((k + 1 : Nat) : Int))) := z_frU (z_frU frC (by omega) (by omega)) (by omega) (by omega)
          by_cases hf : k + 1 = hi
          · repeat' (first | ((with_reducible refine z_u_lt ?_)) | ((with_reducible refine z_u_ck ?_ ?_ ?_); omega; omega) | ((with_reducible refine z_u_ib (fun _ => ?_) (fun _ => ?_))) | ((with_reducible refine z_u_in (fun _ => ?_) (fun _ => ?_))) | ((with_reducible refine z_u_t ?_ ?_); omega) | ((with_reducible refine z_u_f ?_ ?_); omega) | ((with_reducible refine z_u_ni (fun _ => ?_) (fun _ => ?_))) | ((with_reducible refine z_u_if (fun _ => ?_) (fun _ => ?_))) | ((with_reducible refine z_u_zb ?_)) | ((with_reducible refine z_u_zz ?_ ?_); omega) | ((with_reducible refine z_u_jn ?_)) | ((with_reducible refine z_u_n0 ?_)) | ((with_reducible refine z_u_nS ?_ ?_); omega) | ((with_reducible refine z_u_dv ?_ ?_ ?_); omega; omega) | ((with_reducible refine z_u_rm ?_ ?_ ?_); omega; omega) | ((with_reducible refine z_u_ob ?_ ?_); (first | (with_reducible assumption) | omega)) | ((with_reducible apply z_u_gI); (first | (with_reducible assumption) | omega); (first | (with_reducible assumption) | exact z_uq | ((repeat ((apply Eq.trans); (exact z_un (by omega)))); first | (with_reducible assumption) | exact z_uq | exact rfl))) | ((with_reducible apply z_u_gR); (first | (with_reducible assumption) | omega); (first | (with_reducible assumption) | exact z_uq | ((repeat ((apply Eq.trans); (exact z_un (by omega)))); first | (with_reducible assumption) | exact z_uq | exact rfl))) | ((with_reducible refine z_u_pI ?_ ?_); (first | (with_reducible assumption) | omega)) | ((with_reducible refine z_u_pZ ?_ ?_ ?_); (first | (with_reducible assumption) | omega); omega) | ((with_reducible apply z_u_aI); (first | (with_reducible assumption) | omega); omega; omega; (first | (with_reducible assumption) | exact z_uq | ((repeat ((apply Eq.trans); (exact z_un (by omega)))); first | (with_reducible assumption) | exact z_uq | exact rfl))) | ((with_reducible apply z_u_aR); (first | (with_reducible assumption) | omega); omega; omega; (first | (with_reducible assumption) | exact z_uq | ((repeat ((apply Eq.trans); (exact z_un (by omega)))); first | (with_reducible assumption) | exact z_uq | exact rfl))) | ((with_reducible refine z_u_sI ?_ ?_ ?_ ?_); (first | (with_reducible assumption) | omega); omega; omega) | ((with_reducible apply z_u_al); (first | (with_reducible assumption) | omega); omega; (first | (with_reducible assumption) | exact z_uq | ((repeat ((apply Eq.trans); (exact z_un (by omega)))); first | (with_reducible assumption) | exact z_uq | exact rfl))))
            exact z_u_r ⟨_, rfl, frE, m + 1, SSn, nr1 hns, fun j h1 h2 => nf j (by omega), Or.inl ⟨rfl, by omega, by rw [st]; exact hf⟩⟩
          · repeat' (first | ((with_reducible refine z_u_lt ?_)) | ((with_reducible refine z_u_ck ?_ ?_ ?_); omega; omega) | ((with_reducible refine z_u_ib (fun _ => ?_) (fun _ => ?_))) | ((with_reducible refine z_u_in (fun _ => ?_) (fun _ => ?_))) | ((with_reducible refine z_u_t ?_ ?_); omega) | ((with_reducible refine z_u_f ?_ ?_); omega) | ((with_reducible refine z_u_ni (fun _ => ?_) (fun _ => ?_))) | ((with_reducible refine z_u_if (fun _ => ?_) (fun _ => ?_))) | ((with_reducible refine z_u_zb ?_)) | ((with_reducible refine z_u_zz ?_ ?_); omega) | ((with_reducible refine z_u_jn ?_)) | ((with_reducible refine z_u_n0 ?_)) | ((with_reducible refine z_u_nS ?_ ?_); omega) | ((with_reducible refine z_u_dv ?_ ?_ ?_); omega; omega) | ((with_reducible refine z_u_rm ?_ ?_ ?_); omega; omega) | ((with_reducible refine z_u_ob ?_ ?_); (first | (with_reducible assumption) | omega)) | ((with_reducible apply z_u_gI); (first | (with_reducible assumption) | omega); (first | (with_reducible assumption) | exact z_uq | ((repeat ((apply Eq.trans); (exact z_un (by omega)))); first | (with_reducible assumption) | exact z_uq | exact rfl))) | ((with_reducible apply z_u_gR); (first | (with_reducible assumption) | omega); (first | (with_reducible assumption) | exact z_uq | ((repeat ((apply Eq.trans); (exact z_un (by omega)))); first | (with_reducible assumption) | exact z_uq | exact rfl))) | ((with_reducible refine z_u_pI ?_ ?_); (first | (with_reducible assumption) | omega)) | ((with_reducible refine z_u_pZ ?_ ?_ ?_); (first | (with_reducible assumption) | omega); omega) | ((with_reducible apply z_u_aI); (first | (with_reducible assumption) | omega); omega; omega; (first | (with_reducible assumption) | exact z_uq | ((repeat ((apply Eq.trans); (exact z_un (by omega)))); first | (with_reducible assumption) | exact z_uq | exact rfl))) | ((with_reducible apply z_u_aR); (first | (with_reducible assumption) | omega); omega; omega; (first | (with_reducible assumption) | exact z_uq | ((repeat ((apply Eq.trans); (exact z_un (by omega)))); first | (with_reducible assumption) | exact z_uq | exact rfl))) | ((with_reducible refine z_u_sI ?_ ?_ ?_ ?_); (first | (with_reducible assumption) | omega); omega; omega) | ((with_reducible apply z_u_al); (first | (with_reducible assumption) | omega); omega; (first | (with_reducible assumption) | exact z_uq | ((repeat ((apply Eq.trans); (exact z_un (by omega)))); first | (with_reducible assumption) | exact z_uq | exact rfl))))
            exact ih (d - 1) _ _ (by omega) ⟨frE, m + 1, by omega, by omega, SSn, nr1 hns, by
              rw [st]
              intro i hi b'
              dsimp only at hi b'
              by_cases e : i = k
              · rw [e] at b'; exact b b'
              · exact hFm i (by omega) (z_bad_co wD (fun x hx => z_put_ne (by omega)) b'), nf1 _ st hf⟩
    · by_cases hkl : lo < k
      · obtain ⟨k, rfl⟩ : ∃ y, k = y + 1 := ⟨k - 1, by omega⟩
        have hns : ¬ z_sed D lo hi (g, k + 1, x, tt, h) := fun hs => by
          obtain ⟨-, hs | hs⟩ := hs <;> dsimp only at hs <;> omega
        have DL := z_Line_dropLast (c := c) (J := J) LN VL
        have gk := vg k (by omega)
        have e := z_sst_drop (D := D) (lo := lo) (hi := hi) (g := g) (k := k + 1) (x := x) (t := tt) (h := h) (Or.inr ⟨by omega, hkl⟩)
        rw [e] at st
        repeat' (first | ((with_reducible apply z_u_e); (with_reducible refine DL)) | ((with_reducible refine z_u_lt ?_)) | ((with_reducible refine z_u_ck ?_ ?_ ?_); omega; omega) | ((with_reducible refine z_u_ib (fun _ => ?_) (fun _ => ?_))) | ((with_reducible refine z_u_in (fun _ => ?_) (fun _ => ?_))) | ((with_reducible refine z_u_t ?_ ?_); omega) | ((with_reducible refine z_u_f ?_ ?_); omega) | ((with_reducible refine z_u_ni (fun _ => ?_) (fun _ => ?_))) | ((with_reducible refine z_u_if (fun _ => ?_) (fun _ => ?_))) | ((with_reducible refine z_u_zb ?_)) | ((with_reducible refine z_u_zz ?_ ?_); omega) | ((with_reducible refine z_u_jn ?_)) | ((with_reducible refine z_u_n0 ?_)) | ((with_reducible refine z_u_nS ?_ ?_); omega) | ((with_reducible refine z_u_dv ?_ ?_ ?_); omega; omega) | ((with_reducible refine z_u_rm ?_ ?_ ?_); omega; omega) | ((with_reducible refine z_u_ob ?_ ?_); (first | (with_reducible assumption) | omega)) | ((with_reducible apply z_u_gI); (first | (with_reducible assumption) | omega); (first | (with_reducible assumption) | exact z_uq | ((repeat ((apply Eq.trans); (exact z_un (by omega)))); first | (with_reducible assumption) | exact z_uq | exact rfl))) | ((with_reducible apply z_u_gR); (first | (with_reducible assumption) | omega); (first | (with_reducible assumption) | exact z_uq | ((repeat ((apply Eq.trans); (exact z_un (by omega)))); first | (with_reducible assumption) | exact z_uq | exact rfl))) | ((with_reducible refine z_u_pI ?_ ?_); (first | (with_reducible assumption) | omega)) | ((with_reducible refine z_u_pZ ?_ ?_ ?_); (first | (with_reducible assumption) | omega); omega) | ((with_reducible apply z_u_aI); (first | (with_reducible assumption) | omega); omega; omega; (first | (with_reducible assumption) | exact z_uq | ((repeat ((apply Eq.trans); (exact z_un (by omega)))); first | (with_reducible assumption) | exact z_uq | exact rfl))) | ((with_reducible apply z_u_aR); (first | (with_reducible assumption) | omega); omega; omega; (first | (with_reducible assumption) | exact z_uq | ((repeat ((apply Eq.trans); (exact z_un (by omega)))); first | (with_reducible assumption) | exact z_uq | exact rfl))) | ((with_reducible refine z_u_sI ?_ ?_ ?_ ?_); (first | (with_reducible assumption) | omega); omega; omega) | ((with_reducible apply z_u_al); (first | (with_reducible assumption) | omega); omega; (first | (with_reducible assumption) | exact z_uq | ((repeat ((apply Eq.trans); (exact z_un (by omega)))); first | (with_reducible assumption) | exact z_uq | exact rfl))))
        have cut := z_Ln_cut VL (show k ≤ k + 1 from by omega)
        exact ih (d - 1) _ _ (by omega) ⟨z_frU (z_frU fr2 (by omega) (by omega)) (by omega) (by omega), m + 1, by omega, by omega, by
            rw [st]
            refine ⟨z_Ln_fr (lo := 279) (hi := 280) cut (z_frU z_fr0 (by omega) (by omega)) (by omega), ?_, ?_, ?_, ?_, ?_, fun i hi => vg i (by dsimp only at hi; omega), by dsimp only; rw [show k + 1 - 1 = k from rfl]; omega, vh⟩
            · rw [z_un (by omega), z_un (by omega)]; exact v2
            · rw [z_un (by omega), z_un (by omega)]; exact v3
            · rw [z_uq]; dsimp only; rw [show k + 1 - 1 = k from rfl]; omega
            · rw [z_un (by omega), z_un (by omega)]; exact v5
            · rw [z_un (by omega), z_un (by omega)]; exact v6, nr1 hns, by
            rw [st]
            exact fun i hi => hFm i (by dsimp only at hi; omega), nf1 _ st (by dsimp only; omega)⟩
      · repeat' (first | ((with_reducible refine z_u_lt ?_)) | ((with_reducible refine z_u_ck ?_ ?_ ?_); omega; omega) | ((with_reducible refine z_u_ib (fun _ => ?_) (fun _ => ?_))) | ((with_reducible refine z_u_in (fun _ => ?_) (fun _ => ?_))) | ((with_reducible refine z_u_t ?_ ?_); omega) | ((with_reducible refine z_u_f ?_ ?_); omega) | ((with_reducible refine z_u_ni (fun _ => ?_) (fun _ => ?_))) | ((with_reducible refine z_u_if (fun _ => ?_) (fun _ => ?_))) | ((with_reducible refine z_u_zb ?_)) | ((with_reducible refine z_u_zz ?_ ?_); omega) | ((with_reducible refine z_u_jn ?_)) | ((with_reducible refine z_u_n0 ?_)) | ((with_reducible refine z_u_nS ?_ ?_); omega) | ((with_reducible refine z_u_dv ?_ ?_ ?_); omega; omega) | ((with_reducible refine z_u_rm ?_ ?_ ?_); omega; omega) | ((with_reducible refine z_u_ob ?_ ?_); (first | (with_reducible assumption) | omega)) | ((with_reducible apply z_u_gI); (first | (with_reducible assumption) | omega); (first | (with_reducible assumption) | exact z_uq | ((repeat ((apply Eq.trans); (exact z_un (by omega)))); first | (with_reducible assumption) | exact z_uq | exact rfl))) | ((with_reducible apply z_u_gR); (first | (with_reducible assumption) | omega); (first | (with_reducible assumption) | exact z_uq | ((repeat ((apply Eq.trans); (exact z_un (by omega)))); first | (with_reducible assumption) | exact z_uq | exact rfl))) | ((with_reducible refine z_u_pI ?_ ?_); (first | (with_reducible assumption) | omega)) | ((with_reducible refine z_u_pZ ?_ ?_ ?_); (first | (with_reducible assumption) | omega); omega) | ((with_reducible apply z_u_aI); (first | (with_reducible assumption) | omega); omega; omega; (first | (with_reducible assumption) | exact z_uq | ((repeat ((apply Eq.trans); (exact z_un (by omega)))); first | (with_reducible assumption) | exact z_uq | exact rfl))) | ((with_reducible apply z_u_aR); (first | (with_reducible assumption) | omega); omega; omega; (first | (with_reducible assumption) | exact z_uq | ((repeat ((apply Eq.trans); (exact z_un (by omega)))); first | (with_reducible assumption) | exact z_uq | exact rfl))) | ((with_reducible refine z_u_sI ?_ ?_ ?_ ?_); (first | (with_reducible assumption) | omega); omega; omega) | ((with_reducible apply z_u_al); (first | (with_reducible assumption) | omega); omega; (first | (with_reducible assumption) | exact z_uq | ((repeat ((apply Eq.trans); (exact z_un (by omega)))); first | (with_reducible assumption) | exact z_uq | exact rfl))))
        exact z_u_r ⟨_, rfl, fr2, m, by rw [hX]; exact VV, SE (-1) ⟨hk, Or.inl ⟨by dsimp only; omega, by dsimp only; omega⟩⟩ (if_pos (by omega)).symm⟩
  obtain ⟨g, k, x, tt, h⟩ := S
  have VV := V
  obtain ⟨VL, v2, v3, v4, v5, v6, vg, vx, vh⟩ := V
  dsimp only at VL v4 v5 v6 vg vx vh hlo hhi ht
  have v14 := VL.1
  refine z_WU ?_
  unfold k_Search_seek
  by_cases hf : k = hi
  · obtain ⟨k, rfl⟩ : ∃ y, k = y + 1 := ⟨k - 1, by omega⟩
    have DL := z_Line_dropLast (c := c) (J := J) LN VL
    have gk := vg k (by omega)
    have e := z_sst_drop (D := D) (lo := lo) (hi := hi) (g := g) (k := k + 1) (x := x) (t := tt) (h := h) (Or.inl hf)
    rw [show k + 1 - 1 = k from rfl] at e
    have cut := z_Ln_cut VL (show k ≤ k + 1 from by omega)
    have S1 : z_SS (mm_up (mm_up I 280 4 (k : Int)) 279 4 (g k + 1)) lo hi (g, k, (g k).toNat + 1, tt, h) := by
      refine ⟨z_Ln_fr (lo := 279) (hi := 280) cut (z_frU z_fr0 (by omega) (by omega)) (by omega), ?_, ?_, ?_, ?_, ?_, fun i hi => vg i (by dsimp only at hi; omega), by dsimp only; omega, vh⟩
      · rw [z_un (by omega), z_un (by omega)]; exact v2
      · rw [z_un (by omega), z_un (by omega)]; exact v3
      · rw [z_uq]; dsimp only; omega
      · rw [z_un (by omega), z_un (by omega)]; exact v5
      · rw [z_un (by omega), z_un (by omega)]; exact v6
    have LP := loop _ _ S1 (z_frU (z_frU z_fr0 (by omega) (by omega)) (by omega) (by omega)) (by dsimp only; omega) (by dsimp only; omega) (by dsimp only; omega) ht (fun i hi => hF i (by dsimp only at hi ⊢; omega))
    have sh : ∀ n, z_sit D lo hi (g, k + 1, x, tt, h) (n + 1) = z_sit D lo hi (g, k, (g k).toNat + 1, tt, h) n := fun n => by
      rw [Nat.add_comm n 1, z_sit_add (m := 1)]
      exact congrArg (fun X => z_sit D lo hi X n) e
    obtain ⟨r, M', o, I', hM, fr', n, ss, se1, se2, se3⟩ := LP
    have fin : ∃ n, z_SS I' lo hi (z_sit D lo hi (g, k + 1, x, tt, h) n) ∧ z_SE D lo hi (g, k + 1, x, tt, h) n r := by
      refine ⟨n + 1, by rw [sh]; exact ss, fun j hj => ?_, fun j h1 h2 => ?_, by rw [sh]; rcases se3 with ⟨a1, a2, a3⟩ | a; exact Or.inl ⟨a1, by omega, a3⟩; exact Or.inr a⟩
      · cases j with
        | zero => exact fun hs => hs.1 hf
        | succ j => rw [sh]; exact se1 j (by omega)
      · cases j with
        | zero => exact absurd h1 (by omega)
        | succ j =>
          rw [sh]
          by_cases hj : j = 0
          · rw [hj]; exact fun (hs : k = hi) => by omega
          · exact se2 j (by omega) (by omega)
    repeat' (first | ((with_reducible apply z_u_e); (with_reducible refine DL)) | ((with_reducible refine z_u_lt ?_)) | ((with_reducible refine z_u_ck ?_ ?_ ?_); omega; omega) | ((with_reducible refine z_u_ib (fun _ => ?_) (fun _ => ?_))) | ((with_reducible refine z_u_in (fun _ => ?_) (fun _ => ?_))) | ((with_reducible refine z_u_t ?_ ?_); omega) | ((with_reducible refine z_u_f ?_ ?_); omega) | ((with_reducible refine z_u_ni (fun _ => ?_) (fun _ => ?_))) | ((with_reducible refine z_u_if (fun _ => ?_) (fun _ => ?_))) | ((with_reducible refine z_u_zb ?_)) | ((with_reducible refine z_u_zz ?_ ?_); omega) | ((with_reducible refine z_u_jn ?_)) | ((with_reducible refine z_u_n0 ?_)) | ((with_reducible refine z_u_nS ?_ ?_); omega) | ((with_reducible refine z_u_dv ?_ ?_ ?_); omega; omega) | ((with_reducible refine z_u_rm ?_ ?_ ?_); omega; omega) | ((with_reducible refine z_u_ob ?_ ?_); (first | (with_reducible assumption) | omega)) | ((with_reducible apply z_u_gI); (first | (with_reducible assumption) | omega); (first | (with_reducible assumption) | exact z_uq | ((repeat ((apply Eq.trans); (exact z_un (by omega)))); first | (with_reducible assumption) | exact z_uq | exact rfl))) | ((with_reducible apply z_u_gR); (first | (with_reducible assumption) | omega); (first | (with_reducible assumption) | exact z_uq | ((repeat ((apply Eq.trans); (exact z_un (by omega)))); first | (with_reducible assumption) | exact z_uq | exact rfl))) | ((with_reducible refine z_u_pI ?_ ?_); (first | (with_reducible assumption) | omega)) | ((with_reducible refine z_u_pZ ?_ ?_ ?_); (first | (with_reducible assumption) | omega); omega) | ((with_reducible apply z_u_aI); (first | (with_reducible assumption) | omega); omega; omega; (first | (with_reducible assumption) | exact z_uq | ((repeat ((apply Eq.trans); (exact z_un (by omega)))); first | (with_reducible assumption) | exact z_uq | exact rfl))) | ((with_reducible apply z_u_aR); (first | (with_reducible assumption) | omega); omega; omega; (first | (with_reducible assumption) | exact z_uq | ((repeat ((apply Eq.trans); (exact z_un (by omega)))); first | (with_reducible assumption) | exact z_uq | exact rfl))) | ((with_reducible refine z_u_sI ?_ ?_ ?_ ?_); (first | (with_reducible assumption) | omega); omega; omega) | ((with_reducible apply z_u_al); (first | (with_reducible assumption) | omega); omega; (first | (with_reducible assumption) | exact z_uq | ((repeat ((apply Eq.trans); (exact z_un (by omega)))); first | (with_reducible assumption) | exact z_uq | exact rfl))))
    exact ⟨r, M', o, I', hM, fr', fin⟩
  · have LP := loop _ _ VV z_fr0 hf hlo hhi ht hF
    repeat' (first | ((with_reducible refine z_u_lt ?_)) | ((with_reducible refine z_u_ck ?_ ?_ ?_); omega; omega) | ((with_reducible refine z_u_ib (fun _ => ?_) (fun _ => ?_))) | ((with_reducible refine z_u_in (fun _ => ?_) (fun _ => ?_))) | ((with_reducible refine z_u_t ?_ ?_); omega) | ((with_reducible refine z_u_f ?_ ?_); omega) | ((with_reducible refine z_u_ni (fun _ => ?_) (fun _ => ?_))) | ((with_reducible refine z_u_if (fun _ => ?_) (fun _ => ?_))) | ((with_reducible refine z_u_zb ?_)) | ((with_reducible refine z_u_zz ?_ ?_); omega) | ((with_reducible refine z_u_jn ?_)) | ((with_reducible refine z_u_n0 ?_)) | ((with_reducible refine z_u_nS ?_ ?_); omega) | ((with_reducible refine z_u_dv ?_ ?_ ?_); omega; omega) | ((with_reducible refine z_u_rm ?_ ?_ ?_); omega; omega) | ((with_reducible refine z_u_ob ?_ ?_); (first | (with_reducible assumption) | omega)) | ((with_reducible apply z_u_gI); (first | (with_reducible assumption) | omega); (first | (with_reducible assumption) | exact z_uq | ((repeat ((apply Eq.trans); (exact z_un (by omega)))); first | (with_reducible assumption) | exact z_uq | exact rfl))) | ((with_reducible apply z_u_gR); (first | (with_reducible assumption) | omega); (first | (with_reducible assumption) | exact z_uq | ((repeat ((apply Eq.trans); (exact z_un (by omega)))); first | (with_reducible assumption) | exact z_uq | exact rfl))) | ((with_reducible refine z_u_pI ?_ ?_); (first | (with_reducible assumption) | omega)) | ((with_reducible refine z_u_pZ ?_ ?_ ?_); (first | (with_reducible assumption) | omega); omega) | ((with_reducible apply z_u_aI); (first | (with_reducible assumption) | omega); omega; omega; (first | (with_reducible assumption) | exact z_uq | ((repeat ((apply Eq.trans); (exact z_un (by omega)))); first | (with_reducible assumption) | exact z_uq | exact rfl))) | ((with_reducible apply z_u_aR); (first | (with_reducible assumption) | omega); omega; omega; (first | (with_reducible assumption) | exact z_uq | ((repeat ((apply Eq.trans); (exact z_un (by omega)))); first | (with_reducible assumption) | exact z_uq | exact rfl))) | ((with_reducible refine z_u_sI ?_ ?_ ?_ ?_); (first | (with_reducible assumption) | omega); omega; omega) | ((with_reducible apply z_u_al); (first | (with_reducible assumption) | omega); omega; (first | (with_reducible assumption) | exact z_uq | ((repeat ((apply Eq.trans); (exact z_un (by omega)))); first | (with_reducible assumption) | exact z_uq | exact rfl))))
    exact LP
end Seek
