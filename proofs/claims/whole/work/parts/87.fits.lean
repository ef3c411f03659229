/-! SIZES IN ORDER: codes; the class's fits. -/
def z_tm (P : Nat → Nat) (v : Nat) : Nat → Nat
  | 0 => 0
  | q + 1 => z_tm P v q + (if P q = v then 1 else 0)
theorem z_tm_pos {P : Nat → Nat} {v : Nat} : ∀ {q : Nat}, 0 < z_tm P v q ↔ z_hs P q v
  | 0 => ⟨fun h => absurd h (by simp only [z_tm]; omega), fun ⟨k, h, _⟩ => absurd h (by omega)⟩
  | q + 1 => by
    have ih := z_tm_pos (P := P) (v := v) (q := q)
    simp only [z_tm]
    by_cases h : P q = v
    · rw [if_pos h]
      exact ⟨fun _ => ⟨q, by omega, h⟩, fun _ => by omega⟩
    · rw [if_neg h, Nat.add_zero, ih]
      constructor
      · rintro ⟨k, h1, h2⟩; exact ⟨k, by omega, h2⟩
      · rintro ⟨k, h1, h2⟩
        by_cases hk : k = q
        · rw [hk] at h2; exact absurd h2 h
        · exact ⟨k, by omega, h2⟩
theorem z_tm_le {P : Nat → Nat} {v : Nat} : ∀ {q : Nat}, z_tm P v q ≤ q
  | 0 => Nat.le_refl _
  | q + 1 => by
    have := z_tm_le (P := P) (v := v) (q := q)
    simp only [z_tm]
    split <;> omega
theorem z_lng_tm {P s : Nat → Nat} : ∀ {q : Nat}, (∀ k, k < q → P k < 3) → z_lng P s q = s 0 * z_tm P 0 q + s 1 * z_tm P 1 q + s 2 * z_tm P 2 q
  | 0, _ => by simp only [z_lng, z_tm, Nat.mul_zero]
  | q + 1, h => by
    have ih := z_lng_tm (P := P) (s := s) (q := q) (fun k hk => h k (by omega))
    have h3 := h q (by omega)
    simp only [z_lng, z_tm, Nat.mul_add]
    rw [ih]
    rcases (show P q = 0 ∨ P q = 1 ∨ P q = 2 from by omega) with e | e | e <;> rw [e] <;> simp <;> omega
/-! three sizes as one number -/
def z_t3 (x y w : Nat) : Nat → Nat := fun v => if v = 0 then x else if v = 1 then y else if v = 2 then w else 0
def z_dc (cc : Nat) : Nat → Nat := z_t3 (cc / 4225) (cc / 65 % 65) (cc % 65)
def z_cd (s : Nat → Nat) : Nat := s 0 * 4225 + s 1 * 65 + s 2
theorem z_t30 {x y w : Nat} : z_t3 x y w 0 = x := rfl
theorem z_t31 {x y w : Nat} : z_t3 x y w 1 = y := rfl
theorem z_t32 {x y w : Nat} : z_t3 x y w 2 = w := rfl
theorem z_dc_at {x y w cc : Nat} (hy : y < 65) (hw : w < 65) (h : cc = x * 4225 + y * 65 + w) : z_dc cc = z_t3 x y w := by
  unfold z_dc
  rw [show cc / 4225 = x from by omega, show cc / 65 % 65 = y from by omega, show cc % 65 = w from by omega]
/-! sizes that fit: by them the pattern stands at a place (all: and is all of the room) -/
def z_ok (D f : Nat → Int) (p at_ room : Nat) (all : Prop) (s : Nat → Nat) : Prop :=
  z_vs (z_dP D p) (z_dq D p) s room ∧ (all → z_lng (z_dP D p) s (z_dq D p) = room) ∧ ∃ W, z_mt f s W (z_dP D p) (z_dq D p) at_
section Fits
variable {α : Type} {c : z_C} {T : z_Ty} {I : z_Is} {J : z_Js} {R : z_Rs} {t s n q a : Nat} {f D : Nat → Int} {P : Nat → Nat}
set_option maxRecDepth 20000 in
theorem z_times (LS : z_ShL T R a) (V : z_Sh I a P q) {v : Nat} (hv : v < 3) : k_Shape_times a (v : Int) (c, T, I, J, R) = some ((z_tm P v q : Int), (c, T, I, J, R)) := by
  obtain ⟨v1, v2, v3⟩ := id V
  have k1 := LS.1
  refine z_Uq ?_
  unfold k_Shape_times
  repeat' (first | ((with_reducible refine z_u_lt ?_)) | ((with_reducible refine z_u_ck ?_ ?_ ?_); omega; omega) | ((with_reducible refine z_u_ib (fun _ => ?_) (fun _ => ?_))) | ((with_reducible refine z_u_in (fun _ => ?_) (fun _ => ?_))) | ((with_reducible refine z_u_t ?_ ?_); omega) | ((with_reducible refine z_u_f ?_ ?_); omega) | ((with_reducible refine z_u_ni (fun _ => ?_) (fun _ => ?_))) | ((with_reducible refine z_u_if (fun _ => ?_) (fun _ => ?_))) | ((with_reducible refine z_u_zb ?_)) | ((with_reducible refine z_u_zz ?_ ?_); omega) | ((with_reducible refine z_u_jn ?_)) | ((with_reducible refine z_u_n0 ?_)) | ((with_reducible refine z_u_nS ?_ ?_); omega) | ((with_reducible refine z_u_dv ?_ ?_ ?_); omega; omega) | ((with_reducible refine z_u_rm ?_ ?_ ?_); omega; omega) | ((with_reducible refine z_u_ob ?_ ?_); (first | (with_reducible assumption) | omega)) | ((with_reducible apply z_u_gI); (first | (with_reducible assumption) | omega); (first | (with_reducible assumption) | exact z_uq | ((repeat ((apply Eq.trans); (exact z_un (by omega)))); first | (with_reducible assumption) | exact z_uq | exact rfl))) | ((with_reducible apply z_u_gR); (first | (with_reducible assumption) | omega); (first | (with_reducible assumption) | exact z_uq | ((repeat ((apply Eq.trans); (exact z_un (by omega)))); first | (with_reducible assumption) | exact z_uq | exact rfl))) | ((with_reducible refine z_u_pI ?_ ?_); (first | (with_reducible assumption) | omega)) | ((with_reducible refine z_u_pZ ?_ ?_ ?_); (first | (with_reducible assumption) | omega); omega) | ((with_reducible apply z_u_aI); (first | (with_reducible assumption) | omega); omega; omega; (first | (with_reducible assumption) | exact z_uq | ((repeat ((apply Eq.trans); (exact z_un (by omega)))); first | (with_reducible assumption) | exact z_uq | exact rfl))) | ((with_reducible apply z_u_aR); (first | (with_reducible assumption) | omega); omega; omega; (first | (with_reducible assumption) | exact z_uq | ((repeat ((apply Eq.trans); (exact z_un (by omega)))); first | (with_reducible assumption) | exact z_uq | exact rfl))) | ((with_reducible refine z_u_sI ?_ ?_ ?_ ?_); (first | (with_reducible assumption) | omega); omega; omega) | ((with_reducible apply z_u_al); (first | (with_reducible assumption) | omega); omega; (first | (with_reducible assumption) | exact z_uq | ((repeat ((apply Eq.trans); (exact z_un (by omega)))); first | (with_reducible assumption) | exact z_uq | exact rfl))))
  refine z_f2 (fun d u w I' => I' = I ∧ ∃ k : Nat, w = (k : Int) ∧ k + d = q ∧ u = (z_tm P v k : Int)) ?_ q (by omega) ⟨rfl, 0, rfl, by omega, rfl⟩
  rintro d fu u w I' ⟨rfl, k, rfl, hkd, rfl⟩ ih
  have tl := z_tm_le (P := P) (v := v) (q := k)
  rw [lp_Shape_times_4]
  by_cases hk : k < q
  · have AT := z_Shape_at (c := c) (J := J) LS V (k : Int)
    rw [if_pos ⟨by omega, by omega⟩, show ((k : Int)).toNat = k from rfl] at AT
    repeat' (first | ((with_reducible apply z_u_e); (with_reducible refine AT)) | ((with_reducible refine z_u_lt ?_)) | ((with_reducible refine z_u_ck ?_ ?_ ?_); omega; omega) | ((with_reducible refine z_u_ib (fun _ => ?_) (fun _ => ?_))) | ((with_reducible refine z_u_in (fun _ => ?_) (fun _ => ?_))) | ((with_reducible refine z_u_t ?_ ?_); omega) | ((with_reducible refine z_u_f ?_ ?_); omega) | ((with_reducible refine z_u_ni (fun _ => ?_) (fun _ => ?_))) | ((with_reducible refine z_u_if (fun _ => ?_) (fun _ => ?_))) | ((with_reducible refine z_u_zb ?_)) | ((with_reducible refine z_u_zz ?_ ?_); omega) | ((with_reducible refine z_u_jn ?_)) | ((with_reducible refine z_u_n0 ?_)) | ((with_reducible refine z_u_nS ?_ ?_); omega) | ((with_reducible refine z_u_dv ?_ ?_ ?_); omega; omega) | ((with_reducible refine z_u_rm ?_ ?_ ?_); omega; omega) | ((with_reducible refine z_u_ob ?_ ?_); (first | (with_reducible assumption) | omega)) | ((with_reducible apply z_u_gI); (first | (with_reducible assumption) | omega); (first | (with_reducible assumption) | exact z_uq | ((repeat ((apply Eq.trans); (exact z_un (by omega)))); first | (with_reducible assumption) | exact z_uq | exact rfl))) | ((with_reducible apply z_u_gR); (first | (with_reducible assumption) | omega); (first | (with_reducible assumption) | exact z_uq | ((repeat ((apply Eq.trans); (exact z_un (by omega)))); first | (with_reducible assumption) | exact z_uq | exact rfl))) | ((with_reducible refine z_u_pI ?_ ?_); (first | (with_reducible assumption) | omega)) | ((with_reducible refine z_u_pZ ?_ ?_ ?_); (first | (with_reducible assumption) | omega); omega) | ((with_reducible apply z_u_aI); (first | (with_reducible assumption) | omega); omega; omega; (first | (with_reducible assumption) | exact z_uq | ((repeat ((apply Eq.trans); (exact z_un (by omega)))); first | (with_reducible assumption) | exact z_uq | exact rfl))) | ((with_reducible apply z_u_aR); (first | (with_reducible assumption) | omega); omega; omega; (first | (with_reducible assumption) | exact z_uq | ((repeat ((apply Eq.trans); (exact z_un (by omega)))); first | (with_reducible assumption) | exact z_uq | exact rfl))) | ((with_reducible refine z_u_sI ?_ ?_ ?_ ?_); (first | (with_reducible assumption) | omega); omega; omega) | ((with_reducible apply z_u_al); (first | (with_reducible assumption) | omega); omega; (first | (with_reducible assumption) | exact z_uq | ((repeat ((apply Eq.trans); (exact z_un (by omega)))); first | (with_reducible assumption) | exact z_uq | exact rfl))))
    · exact ih (d - 1) _ _ _ (by omega) ⟨rfl, k + 1, by omega, by omega, by simp only [z_tm]; rw [if_neg (by omega)]; rfl⟩
    · exact ih (d - 1) _ _ _ (by omega) ⟨rfl, k + 1, by omega, by omega, by simp only [z_tm]; rw [if_pos (by omega)]; rfl⟩
  · repeat' (first | ((with_reducible refine z_u_lt ?_)) | ((with_reducible refine z_u_ck ?_ ?_ ?_); omega; omega) | ((with_reducible refine z_u_ib (fun _ => ?_) (fun _ => ?_))) | ((with_reducible refine z_u_in (fun _ => ?_) (fun _ => ?_))) | ((with_reducible refine z_u_t ?_ ?_); omega) | ((with_reducible refine z_u_f ?_ ?_); omega) | ((with_reducible refine z_u_ni (fun _ => ?_) (fun _ => ?_))) | ((with_reducible refine z_u_if (fun _ => ?_) (fun _ => ?_))) | ((with_reducible refine z_u_zb ?_)) | ((with_reducible refine z_u_zz ?_ ?_); omega) | ((with_reducible refine z_u_jn ?_)) | ((with_reducible refine z_u_n0 ?_)) | ((with_reducible refine z_u_nS ?_ ?_); omega) | ((with_reducible refine z_u_dv ?_ ?_ ?_); omega; omega) | ((with_reducible refine z_u_rm ?_ ?_ ?_); omega; omega) | ((with_reducible refine z_u_ob ?_ ?_); (first | (with_reducible assumption) | omega)) | ((with_reducible apply z_u_gI); (first | (with_reducible assumption) | omega); (first | (with_reducible assumption) | exact z_uq | ((repeat ((apply Eq.trans); (exact z_un (by omega)))); first | (with_reducible assumption) | exact z_uq | exact rfl))) | ((with_reducible apply z_u_gR); (first | (with_reducible assumption) | omega); (first | (with_reducible assumption) | exact z_uq | ((repeat ((apply Eq.trans); (exact z_un (by omega)))); first | (with_reducible assumption) | exact z_uq | exact rfl))) | ((with_reducible refine z_u_pI ?_ ?_); (first | (with_reducible assumption) | omega)) | ((with_reducible refine z_u_pZ ?_ ?_ ?_); (first | (with_reducible assumption) | omega); omega) | ((with_reducible apply z_u_aI); (first | (with_reducible assumption) | omega); omega; omega; (first | (with_reducible assumption) | exact z_uq | ((repeat ((apply Eq.trans); (exact z_un (by omega)))); first | (with_reducible assumption) | exact z_uq | exact rfl))) | ((with_reducible apply z_u_aR); (first | (with_reducible assumption) | omega); omega; omega; (first | (with_reducible assumption) | exact z_uq | ((repeat ((apply Eq.trans); (exact z_un (by omega)))); first | (with_reducible assumption) | exact z_uq | exact rfl))) | ((with_reducible refine z_u_sI ?_ ?_ ?_ ?_); (first | (with_reducible assumption) | omega); omega; omega) | ((with_reducible apply z_u_al); (first | (with_reducible assumption) | omega); omega; (first | (with_reducible assumption) | exact z_uq | ((repeat ((apply Eq.trans); (exact z_un (by omega)))); first | (with_reducible assumption) | exact z_uq | exact rfl))))
    exact z_u_r ⟨by rw [show q = k from by omega], rfl⟩
/-! fits: sizes at z, the Line at b -/
set_option maxRecDepth 20000 in
theorem z_fits {z b : Nat} {σ : Nat → Nat} (LZ : z_SzL T R z) (LN : z_LnL T R b) (V : z_Ln I b f n) (LS : z_ShL T R a) (VS : z_Sh I a P q) (hb : b + 68 ≤ z + 1 ∨ z + 3 ≤ b) (ha : a + 4 ≤ z + 1 ∨ z + 3 ≤ a)
    (h1 : ∀ k, k < q → 1 ≤ σ (P k)) (h64 : ∀ v, v < 3 → σ v ≤ 64) {x : Nat} (hx : x + z_lng P σ q ≤ n) {v0 v1 v2 : Int} (e0 : v0 = (σ 0 : Int)) (e1 : v1 = (σ 1 : Int)) (e2 : v2 = (σ 2 : Int)) :
    z_W c T J R (k_Sizes_fits z b a (x : Int) v0 v1 v2 (c, T, I, J, R)) (fun r I' => r = z_b (∃ W, z_mt f σ W P q x) ∧ z_fr (z + 1) (z + 3) I I' ∧ ∀ v, v < 3 → I' (z + 1) v = (σ v : Int)) := by
  obtain ⟨s1, s2, s3⟩ := id VS
  have k1 := LS.1
  have kz := LZ.1
  have kb := LN.1.1
  have n64 := V.2.1
  have S0 := z_Sizes_set (c := c) (J := J) (I := I) (v := 0) LZ (by omega) (by omega) v0 (-1)
  have S1 := fun I => z_Sizes_set (c := c) (J := J) (I := I) (v := 1) LZ (by omega) (by omega) v1 (-1)
  have S2 := fun I => z_Sizes_set (c := c) (J := J) (I := I) (v := 2) LZ (by omega) (by omega) v2 (-1)
  refine z_WU ?_
  unfold k_Sizes_fits
  repeat' (first | ((with_reducible apply z_u_e); (with_reducible refine S0)) | ((with_reducible apply z_u_e); (with_reducible refine S1 _)) | ((with_reducible apply z_u_e); (with_reducible refine S2 _)) | ((with_reducible refine z_u_lt ?_)) | ((with_reducible refine z_u_ck ?_ ?_ ?_); omega; omega) | ((with_reducible refine z_u_ib (fun _ => ?_) (fun _ => ?_))) | ((with_reducible refine z_u_in (fun _ => ?_) (fun _ => ?_))) | ((with_reducible refine z_u_t ?_ ?_); omega) | ((with_reducible refine z_u_f ?_ ?_); omega) | ((with_reducible refine z_u_ni (fun _ => ?_) (fun _ => ?_))) | ((with_reducible refine z_u_if (fun _ => ?_) (fun _ => ?_))) | ((with_reducible refine z_u_zb ?_)) | ((with_reducible refine z_u_zz ?_ ?_); omega) | ((with_reducible refine z_u_jn ?_)) | ((with_reducible refine z_u_n0 ?_)) | ((with_reducible refine z_u_nS ?_ ?_); omega) | ((with_reducible refine z_u_dv ?_ ?_ ?_); omega; omega) | ((with_reducible refine z_u_rm ?_ ?_ ?_); omega; omega) | ((with_reducible refine z_u_ob ?_ ?_); (first | (with_reducible assumption) | omega)) | ((with_reducible apply z_u_gI); (first | (with_reducible assumption) | omega); (first | (with_reducible assumption) | exact z_uq | ((repeat ((apply Eq.trans); (exact z_un (by omega)))); first | (with_reducible assumption) | exact z_uq | exact rfl))) | ((with_reducible apply z_u_gR); (first | (with_reducible assumption) | omega); (first | (with_reducible assumption) | exact z_uq | ((repeat ((apply Eq.trans); (exact z_un (by omega)))); first | (with_reducible assumption) | exact z_uq | exact rfl))) | ((with_reducible refine z_u_pI ?_ ?_); (first | (with_reducible assumption) | omega)) | ((with_reducible refine z_u_pZ ?_ ?_ ?_); (first | (with_reducible assumption) | omega); omega) | ((with_reducible apply z_u_aI); (first | (with_reducible assumption) | omega); omega; omega; (first | (with_reducible assumption) | exact z_uq | ((repeat ((apply Eq.trans); (exact z_un (by omega)))); first | (with_reducible assumption) | exact z_uq | exact rfl))) | ((with_reducible apply z_u_aR); (first | (with_reducible assumption) | omega); omega; omega; (first | (with_reducible assumption) | exact z_uq | ((repeat ((apply Eq.trans); (exact z_un (by omega)))); first | (with_reducible assumption) | exact z_uq | exact rfl))) | ((with_reducible refine z_u_sI ?_ ?_ ?_ ?_); (first | (with_reducible assumption) | omega); omega; omega) | ((with_reducible apply z_u_al); (first | (with_reducible assumption) | omega); omega; (first | (with_reducible assumption) | exact z_uq | ((repeat ((apply Eq.trans); (exact z_un (by omega)))); first | (with_reducible assumption) | exact z_uq | exact rfl))))
  rw [show (Int.toNat 0) = 0 from rfl, show (Int.toNat 1) = 1 from rfl, show (Int.toNat 2) = 2 from rfl]
  refine z_f2 (fun d u w I' => z_fr (z + 1) (z + 3) I I' ∧ (∀ v, v < 3 → I' (z + 1) v = (σ v : Int)) ∧ ∃ k : Nat, w = (k : Int) ∧ k + d = q ∧ u = ((x + z_lng P σ k : Nat) : Int) ∧
      (∀ v, v < 3 → I' (z + 2) v = -1 ∨ ∃ k0, k0 < k ∧ P k0 = v ∧ I' (z + 2) v = ((x + z_lng P σ k0 : Nat) : Int)) ∧
      (∀ k0, k0 < k → ∃ y : Nat, I' (z + 2) (P k0) = (y : Int) ∧ ∀ t, t < σ (P k0) → f (x + z_lng P σ k0 + t) = f (y + t))) ?_ q (by omega)
    ⟨z_frU (z_frU (z_frU (z_frU (z_frU (z_frU z_fr0 (by omega) (by omega)) (by omega) (by omega)) (by omega) (by omega)) (by omega) (by omega)) (by omega) (by omega)) (by omega) (by omega),
      fun v hv => by
        rcases (show v = 0 ∨ v = 1 ∨ v = 2 from by omega) with rfl | rfl | rfl
        · rw [z_un (by omega), z_un (by omega), z_un (by omega), z_un (by omega), z_un (by omega), z_uq]; exact e0
        · rw [z_un (by omega), z_un (by omega), z_un (by omega), z_uq]; exact e1
        · rw [z_un (by omega), z_uq]; exact e2,
      0, rfl, by omega, by simp only [z_lng]; omega, fun v hv => Or.inl (by
        rcases (show v = 0 ∨ v = 1 ∨ v = 2 from by omega) with rfl | rfl | rfl
        · rw [z_un (by omega), z_un (by omega), z_un (by omega), z_un (by omega), z_uq]
        · rw [z_un (by omega), z_un (by omega), z_uq]
        · rw [z_uq]), fun k0 h => absurd h (by omega)⟩
  rintro d fu u w I1 ⟨fr1, hs1, k, rfl, hkd, rfl, hb1, hb2⟩ ih
  have V1 := z_Ln_fr V fr1 (by omega)
  have VS1 := z_Sh_fr VS fr1 (by omega)
  obtain ⟨u1, -, -⟩ := id VS1
  have v14 := V1.1
  have VZ1 : z_Sz I1 z σ (I1 (z + 2)) := fun v hv => ⟨hs1 v hv, rfl⟩
  rw [lp_Sizes_fits_30]
  by_cases hk : k < q
  · have P3 := (s3 k hk).1
    have sp := h1 k hk
    have s64 := h64 _ P3
    have le1 := z_lng_le (P := P) (s := σ) hk
    have AT := z_Shape_at (c := c) (J := J) LS VS1 (k : Int)
    rw [if_pos ⟨by omega, by omega⟩, show ((k : Int)).toNat = k from rfl] at AT
    have OF := z_Sizes_of (c := c) (J := J) LZ VZ1 (v := (P k : Int)) (by omega) (by omega)
    have ED := z_Sizes_edge (c := c) (J := J) LZ VZ1 (v := (P k : Int)) (by omega) (by omega)
    rw [show ((P k : Int)).toNat = P k from rfl] at OF ED
    have SE := fun x y => z_Sizes_set (c := c) (J := J) (I := I1) (v := (P k : Int)) LZ (by omega) (by omega) x y
    by_cases hbeg : I1 (z + 2) (P k) = -1
    · have hno : ∀ k0, k0 < k → P k0 ≠ P k := fun k0 hk0 h => by
        obtain ⟨y, hy, -⟩ := hb2 k0 hk0
        rw [h] at hy
        omega
      rw [hbeg] at ED
      repeat' (first | ((with_reducible apply z_u_e); (with_reducible refine AT)) | ((with_reducible apply z_u_e); (with_reducible refine OF)) | ((with_reducible apply z_u_e); (with_reducible refine ED)) | ((with_reducible apply z_u_e); (with_reducible refine SE _ _)) | ((with_reducible refine z_u_lt ?_)) | ((with_reducible refine z_u_ck ?_ ?_ ?_); omega; omega) | ((with_reducible refine z_u_ib (fun _ => ?_) (fun _ => ?_))) | ((with_reducible refine z_u_in (fun _ => ?_) (fun _ => ?_))) | ((with_reducible refine z_u_t ?_ ?_); omega) | ((with_reducible refine z_u_f ?_ ?_); omega) | ((with_reducible refine z_u_ni (fun _ => ?_) (fun _ => ?_))) | ((with_reducible refine z_u_if (fun _ => ?_) (fun _ => ?_))) | ((with_reducible refine z_u_zb ?_)) | ((with_reducible refine z_u_zz ?_ ?_); omega) | ((with_reducible refine z_u_jn ?_)) | ((with_reducible refine z_u_n0 ?_)) | ((with_reducible refine z_u_nS ?_ ?_); omega) | ((with_reducible refine z_u_dv ?_ ?_ ?_); omega; omega) | ((with_reducible refine z_u_rm ?_ ?_ ?_); omega; omega) | ((with_reducible refine z_u_ob ?_ ?_); (first | (with_reducible assumption) | omega)) | ((with_reducible apply z_u_gI); (first | (with_reducible assumption) | omega); (first | (with_reducible assumption) | exact z_uq | ((repeat ((apply Eq.trans); (exact z_un (by omega)))); first | (with_reducible assumption) | exact z_uq | exact rfl))) | ((with_reducible apply z_u_gR); (first | (with_reducible assumption) | omega); (first | (with_reducible assumption) | exact z_uq | ((repeat ((apply Eq.trans); (exact z_un (by omega)))); first | (with_reducible assumption) | exact z_uq | exact rfl))) | ((with_reducible refine z_u_pI ?_ ?_); (first | (with_reducible assumption) | omega)) | ((with_reducible refine z_u_pZ ?_ ?_ ?_); (first | (with_reducible assumption) | omega); omega) | ((with_reducible apply z_u_aI); (first | (with_reducible assumption) | omega); omega; omega; (first | (with_reducible assumption) | exact z_uq | ((repeat ((apply Eq.trans); (exact z_un (by omega)))); first | (with_reducible assumption) | exact z_uq | exact rfl))) | ((with_reducible apply z_u_aR); (first | (with_reducible assumption) | omega); omega; omega; (first | (with_reducible assumption) | exact z_uq | ((repeat ((apply Eq.trans); (exact z_un (by omega)))); first | (with_reducible assumption) | exact z_uq | exact rfl))) | ((with_reducible refine z_u_sI ?_ ?_ ?_ ?_); (first | (with_reducible assumption) | omega); omega; omega) | ((with_reducible apply z_u_al); (first | (with_reducible assumption) | omega); omega; (first | (with_reducible assumption) | exact z_uq | ((repeat ((apply Eq.trans); (exact z_un (by omega)))); first | (with_reducible assumption) | exact z_uq | exact rfl))))
      rw [show ((P k : Int)).toNat = P k from rfl]
      refine ih (d - 1) _ _ _ (by omega) ⟨z_frU (z_frU fr1 (by omega) (by omega)) (by omega) (by omega), fun v hv => ?_, k + 1, by omega, by omega, by simp only [z_lng]; omega, fun v hv => ?_, fun k0 hk0 => ?_⟩
      · rw [z_un (by omega)]
        by_cases hvp : v = P k
        · rw [hvp, z_uq]
        · rw [z_un (by omega)]; exact hs1 v hv
      · by_cases hvp : v = P k
        · exact Or.inr ⟨k, by omega, hvp.symm, by rw [hvp, z_uq]⟩
        · rw [z_un (by omega), z_un (by omega)]
          rcases hb1 v hv with h | ⟨k0, h2, h3⟩
          · exact Or.inl h
          · exact Or.inr ⟨k0, by omega, h3⟩
      · by_cases hkk : k0 = k
        · subst hkk
          exact ⟨x + z_lng P σ k0, by rw [z_uq], fun t ht => rfl⟩
        · have := hno k0 (by omega)
          rw [z_un (by omega), z_un (by omega)]
          exact hb2 k0 (by omega)
    · rcases hb1 (P k) P3 with h | ⟨k0, hk0, hPk, hy⟩
      · exact absurd h hbeg
      · have le0 : z_lng P σ k0 + σ (P k0) ≤ z_lng P σ k := z_lng_le hk0
        rw [hPk] at le0
        obtain ⟨r, a1, a2, a3⟩ := z_Sizes_isAgainAt (c := c) (J := J) (v := (P k : Int)) (y := ((x + z_lng P σ k : Nat) : Int)) (st := 1) LZ VZ1 LN V1 (by omega) (by omega) (Or.inl rfl) (by rw [show ((P k : Int)).toNat = P k from rfl]; exact s64) (by rw [show ((P k : Int)).toNat = P k from rfl, hy]; omega) (by rw [show ((P k : Int)).toNat = P k from rfl, hy]; omega) (by omega) (by omega)
        rw [show ((P k : Int)).toNat = P k from rfl, hy, if_pos rfl, z_lk_iff (by omega) (by omega) (by omega) (by omega) (by omega)] at a3
        have a4 : r = 1 ↔ ∀ t, t < σ (P k) → f (x + z_lng P σ k + t) = f (x + z_lng P σ k0 + t) := by
          rw [a3]
          constructor
          · rintro ⟨-, -, h⟩ t ht
            have := h (σ (P k) - 1 - t) (by omega)
            rw [show (((x + z_lng P σ k0 : Nat) : Int) + ((σ (P k) : Int) - 1) - ((σ (P k) - 1 - t : Nat) : Int)).toNat = x + z_lng P σ k0 + t from by omega, show (((x + z_lng P σ k : Nat) : Int) + ((σ (P k) : Int) - 1) - ((σ (P k) - 1 - t : Nat) : Int)).toNat = x + z_lng P σ k + t from by omega] at this
            exact this.symm
          · intro h
            refine ⟨by omega, by omega, fun t ht => ?_⟩
            have := h (σ (P k) - 1 - t) (by omega)
            rw [show (((x + z_lng P σ k0 : Nat) : Int) + ((σ (P k) : Int) - 1) - (t : Int)).toNat = x + z_lng P σ k0 + (σ (P k) - 1 - t) from by omega, show (((x + z_lng P σ k : Nat) : Int) + ((σ (P k) : Int) - 1) - (t : Int)).toNat = x + z_lng P σ k + (σ (P k) - 1 - t) from by omega]
            exact this.symm
        rw [hy] at ED
        repeat' (first | ((with_reducible apply z_u_e); (with_reducible refine AT)) | ((with_reducible apply z_u_e); (with_reducible refine OF)) | ((with_reducible apply z_u_e); (with_reducible refine ED)) | ((with_reducible apply z_u_e); (with_reducible refine a1)) | ((with_reducible refine z_u_lt ?_)) | ((with_reducible refine z_u_ck ?_ ?_ ?_); omega; omega) | ((with_reducible refine z_u_ib (fun _ => ?_) (fun _ => ?_))) | ((with_reducible refine z_u_in (fun _ => ?_) (fun _ => ?_))) | ((with_reducible refine z_u_t ?_ ?_); omega) | ((with_reducible refine z_u_f ?_ ?_); omega) | ((with_reducible refine z_u_ni (fun _ => ?_) (fun _ => ?_))) | ((with_reducible refine z_u_if (fun _ => ?_) (fun _ => ?_))) | ((with_reducible refine z_u_zb ?_)) | ((with_reducible refine z_u_zz ?_ ?_); omega) | ((with_reducible refine z_u_jn ?_)) | ((with_reducible refine z_u_n0 ?_)) | ((with_reducible refine z_u_nS ?_ ?_); omega) | ((with_reducible refine z_u_dv ?_ ?_ ?_); omega; omega) | ((with_reducible refine z_u_rm ?_ ?_ ?_); omega; omega) | ((with_reducible refine z_u_ob ?_ ?_); (first | (with_reducible assumption) | omega)) | ((with_reducible apply z_u_gI); (first | (with_reducible assumption) | omega); (first | (with_reducible assumption) | exact z_uq | ((repeat ((apply Eq.trans); (exact z_un (by omega)))); first | (with_reducible assumption) | exact z_uq | exact rfl))) | ((with_reducible apply z_u_gR); (first | (with_reducible assumption) | omega); (first | (with_reducible assumption) | exact z_uq | ((repeat ((apply Eq.trans); (exact z_un (by omega)))); first | (with_reducible assumption) | exact z_uq | exact rfl))) | ((with_reducible refine z_u_pI ?_ ?_); (first | (with_reducible assumption) | omega)) | ((with_reducible refine z_u_pZ ?_ ?_ ?_); (first | (with_reducible assumption) | omega); omega) | ((with_reducible apply z_u_aI); (first | (with_reducible assumption) | omega); omega; omega; (first | (with_reducible assumption) | exact z_uq | ((repeat ((apply Eq.trans); (exact z_un (by omega)))); first | (with_reducible assumption) | exact z_uq | exact rfl))) | ((with_reducible apply z_u_aR); (first | (with_reducible assumption) | omega); omega; omega; (first | (with_reducible assumption) | exact z_uq | ((repeat ((apply Eq.trans); (exact z_un (by omega)))); first | (with_reducible assumption) | exact z_uq | exact rfl))) | ((with_reducible refine z_u_sI ?_ ?_ ?_ ?_); (first | (with_reducible assumption) | omega); omega; omega) | ((with_reducible apply z_u_al); (first | (with_reducible assumption) | omega); omega; (first | (with_reducible assumption) | exact z_uq | ((repeat ((apply Eq.trans); (exact z_un (by omega)))); first | (with_reducible assumption) | exact z_uq | exact rfl))))
        · refine ih (d - 1) _ _ _ (by omega) ⟨fr1, hs1, k + 1, by omega, by omega, by simp only [z_lng]; omega, fun v hv => ?_, fun k1' hk1' => ?_⟩
          · rcases hb1 v hv with h | ⟨k0', h2, h3⟩
            · exact Or.inl h
            · exact Or.inr ⟨k0', by omega, h3⟩
          · by_cases hkk : k1' = k
            · subst hkk
              exact ⟨x + z_lng P σ k0, hy, a4.mp (by omega)⟩
            · exact hb2 k1' (by omega)
        · refine z_u_r ⟨_, rfl, (z_bf (fun ⟨W, hW⟩ => ?_)).symm, fr1, hs1⟩
          have : r = 1 := a4.mpr (fun t ht => by rw [hW k hk t ht]; have := hW k0 (by omega) t (by rw [hPk]; exact ht); rw [this, hPk])
          omega
  · have hkq : k = q := by omega
    subst hkq
    repeat' (first | ((with_reducible refine z_u_lt ?_)) | ((with_reducible refine z_u_ck ?_ ?_ ?_); omega; omega) | ((with_reducible refine z_u_ib (fun _ => ?_) (fun _ => ?_))) | ((with_reducible refine z_u_in (fun _ => ?_) (fun _ => ?_))) | ((with_reducible refine z_u_t ?_ ?_); omega) | ((with_reducible refine z_u_f ?_ ?_); omega) | ((with_reducible refine z_u_ni (fun _ => ?_) (fun _ => ?_))) | ((with_reducible refine z_u_if (fun _ => ?_) (fun _ => ?_))) | ((with_reducible refine z_u_zb ?_)) | ((with_reducible refine z_u_zz ?_ ?_); omega) | ((with_reducible refine z_u_jn ?_)) | ((with_reducible refine z_u_n0 ?_)) | ((with_reducible refine z_u_nS ?_ ?_); omega) | ((with_reducible refine z_u_dv ?_ ?_ ?_); omega; omega) | ((with_reducible refine z_u_rm ?_ ?_ ?_); omega; omega) | ((with_reducible refine z_u_ob ?_ ?_); (first | (with_reducible assumption) | omega)) | ((with_reducible apply z_u_gI); (first | (with_reducible assumption) | omega); (first | (with_reducible assumption) | exact z_uq | ((repeat ((apply Eq.trans); (exact z_un (by omega)))); first | (with_reducible assumption) | exact z_uq | exact rfl))) | ((with_reducible apply z_u_gR); (first | (with_reducible assumption) | omega); (first | (with_reducible assumption) | exact z_uq | ((repeat ((apply Eq.trans); (exact z_un (by omega)))); first | (with_reducible assumption) | exact z_uq | exact rfl))) | ((with_reducible refine z_u_pI ?_ ?_); (first | (with_reducible assumption) | omega)) | ((with_reducible refine z_u_pZ ?_ ?_ ?_); (first | (with_reducible assumption) | omega); omega) | ((with_reducible apply z_u_aI); (first | (with_reducible assumption) | omega); omega; omega; (first | (with_reducible assumption) | exact z_uq | ((repeat ((apply Eq.trans); (exact z_un (by omega)))); first | (with_reducible assumption) | exact z_uq | exact rfl))) | ((with_reducible apply z_u_aR); (first | (with_reducible assumption) | omega); omega; omega; (first | (with_reducible assumption) | exact z_uq | ((repeat ((apply Eq.trans); (exact z_un (by omega)))); first | (with_reducible assumption) | exact z_uq | exact rfl))) | ((with_reducible refine z_u_sI ?_ ?_ ?_ ?_); (first | (with_reducible assumption) | omega); omega; omega) | ((with_reducible apply z_u_al); (first | (with_reducible assumption) | omega); omega; (first | (with_reducible assumption) | exact z_uq | ((repeat ((apply Eq.trans); (exact z_un (by omega)))); first | (with_reducible assumption) | exact z_uq | exact rfl))))
    refine z_u_r ⟨_, rfl, (z_bt ⟨fun v t => f ((I1 (z + 2) v).toNat + t), fun k0 hk0 t ht => ?_⟩).symm, fr1, hs1⟩
    obtain ⟨y, h1', h2⟩ := hb2 k0 (by omega)
    try dsimp only
    rw [h1', h2 t ht]
    rfl
end Fits
