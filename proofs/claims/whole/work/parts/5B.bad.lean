/-! WHAT IS TOLD, by the numbers D of the reference's own row; when a place is bad. -/
def z_dA (D : Nat → Int) : Nat := (D 0).toNat
def z_dq (D : Nat → Int) (p : Nat) : Nat := (D (166 + p)).toNat
def z_dP (D : Nat → Int) (p k : Nat) : Nat := (D (170 + 6 * p + k)).toNat
def z_ds (D : Nat → Int) (m l : Nat) : Nat := (D (54 + 4 * m + l)).toNat
def z_dm (D : Nat → Int) (m l k : Nat) : Nat := (D (70 + 6 * (4 * m + l) + k)).toNat
def z_Dw (D : Nat → Int) : Prop :=
  (2 ≤ D 0 ∧ D 0 ≤ 4) ∧ (0 ≤ D 1 ∧ D 1 ≤ 2) ∧ (0 ≤ D 2 ∧ D 2 ≤ 99) ∧ (0 ≤ D 3 ∧ D 3 ≤ 9) ∧ (0 ≤ D 4 ∧ D 4 ≤ 4) ∧ (0 ≤ D 5 ∧ D 5 ≤ 4) ∧
  (∀ m l : Nat, (m : Int) < D 4 → (l : Int) < D 0 → 1 ≤ D (54 + 4 * m + l) ∧ D (54 + 4 * m + l) ≤ 6 ∧ ∀ k : Nat, (k : Int) < D (54 + 4 * m + l) → 0 ≤ D (70 + 6 * (4 * m + l) + k) ∧ D (70 + 6 * (4 * m + l) + k) < D 0) ∧
  (∀ p : Nat, (p : Int) < D 5 → (1 ≤ D (166 + p) ∧ D (166 + p) ≤ 6) ∧ (D (194 + p) = 0 ∨ D (194 + p) = 1) ∧ ∀ k : Nat, (k : Int) < D (166 + p) → 0 ≤ D (170 + 6 * p + k) ∧ D (170 + 6 * p + k) < 3)
/-! the class's Told at a -/
def z_Td (I : z_Is) (a : Nat) (D : Nat → Int) : Prop :=
  (I a 2 = D 0 ∧ I a 3 = D 1 ∧ I a 4 = D 2 ∧ I a 5 = D 3 ∧ I a 6 = D 4 ∧ I a 7 = D 5) ∧
  (∀ m : Nat, (m : Int) < D 4 → z_Mo I (a + 3 + 13 * m) (z_dA D) (z_ds D m) (z_dm D m)) ∧
  (∀ p : Nat, (p : Int) < D 5 → z_Sh I (a + 12 + 13 * p) (z_dP D p) (z_dq D p) ∧ I (a + 12 + 13 * p) 4 = D (194 + p) ∧ z_Ss I (a + 12 + 13 * p) (z_dP D p) (z_dq D p))
theorem z_Mo_fr {I I' : z_Is} {lo hi a A : Nat} {s : Nat → Nat} {m : Nat → Nat → Nat} (V : z_Mo I a A s m) (h : z_fr lo hi I I') (h1 : a + 9 ≤ lo ∨ hi ≤ a) : z_Mo I' a A s m := by
  obtain ⟨v1, v2⟩ := V
  refine ⟨v1, fun l hl => ?_⟩
  obtain ⟨u1, u2, u3, u4⟩ := v2 l hl
  refine ⟨?_, u2, u3, fun k hk => ⟨(u4 k hk).1, ?_⟩⟩
  · rw [h (a + 8) (by omega)]; exact u1
  · rw [h (a + 4 + l) (by omega)]; exact (u4 k hk).2
theorem z_Td_fr {I I' : z_Is} {lo hi a : Nat} {D : Nat → Int} (wD : z_Dw D) (V : z_Td I a D) (h : z_fr lo hi I I') (h1 : a + 55 ≤ lo ∨ hi ≤ a) : z_Td I' a D := by
  obtain ⟨⟨v1, v2, v3, v4, v5, v6⟩, v7, v8⟩ := V
  obtain ⟨w1, w2, w3, w4, w5, w6, w7, w8⟩ := wD
  have e := h a (by omega)
  refine ⟨?_, fun m hm => z_Mo_fr (v7 m hm) h (by omega), fun p hp => ⟨z_Sh_fr (v8 p hp).1 h (by omega), ?_⟩⟩
  · rw [e]; exact ⟨v1, v2, v3, v4, v5, v6⟩
  · unfold z_Ss
    rw [h _ (by omega)]; exact (v8 p hp).2
def z_pat (D : Nat → Int) (f : Nat → Int) (k i : Nat) : Prop :=
  z_lay f (i + 1) (-1) (fun j => z_dP D k (z_dq D k - 1 - j)) (z_dq D k) 0 (i : Int) (fun _ => 0) (fun _ => -1)
def z_rpt (D : Nat → Int) (f : Nat → Int) (i p : Nat) : Prop := 0 < z_alk f i (i - p) ∧ z_bey (D 1) (D 2) (D 3) ((z_alk f i (i - p) : Int) + (p : Int)) (p : Int)
/-! some end of the letters up to the place i is beyond the limit, or is met by a pattern that is avoided -/
def z_bad (D : Nat → Int) (f : Nat → Int) (i : Nat) : Prop :=
  z_bey (D 1) (D 2) (D 3) 1 1 ∨ (∃ p, 1 ≤ p ∧ p ≤ i ∧ z_rpt D f i p) ∨ (∃ k : Nat, (k : Int) < D 5 ∧ D (194 + k) = 1 ∧ z_pat D f k i)
theorem z_lay_n {f : Nat → Int} {n n' : Nat} {Q : Nat → Nat} : ∀ {r k : Nat} {y : Int} {ch : Nat → Nat} {e : Nat → Int}, z_lay f n (-1) Q r k y ch e ↔ z_lay f n' (-1) Q r k y ch e
  | 0, _, _, _, _ => Iff.rfl
  | r + 1, k, y, ch, e => by
    have rr : ∀ y, z_rom (-1) n y = z_rom (-1) n' y := fun y => by simp only [z_rom]; rw [if_neg (by decide), if_neg (by decide)]
    unfold z_lay
    rw [rr]
    refine and_congr (forall_congr' fun _ => exists_congr fun s => and_congr Iff.rfl (and_congr Iff.rfl z_lay_n)) (forall_congr' fun _ => and_congr Iff.rfl (and_congr Iff.rfl z_lay_n))
section Bad
variable {c : z_C} {T : z_Ty} {I : z_Is} {J : z_Js} {R : z_Rs} {a t n : Nat} {f : Nat → Int} {D : Nat → Int}
theorem z_Told_bey (LT : z_TdL T R t) (VT : z_Td I t D) (wD : z_Dw D) {x p : Int} (n0 : 0 ≤ x) (n1 : x ≤ 1000) (p0 : 0 ≤ p) (p1 : p ≤ 1000) :
    k_Told_isBeyond t x p (c, T, I, J, R) = some (z_b (z_bey (D 1) (D 2) (D 3) x p), (c, T, I, J, R)) := by
  obtain ⟨⟨v1, v2, v3, v4, v5, v6⟩, -⟩ := VT
  obtain ⟨w1, w2, w3, w4, -⟩ := wD
  obtain ⟨r, h1, h2, h3⟩ := z_Told_isBeyond (c := c) (J := J) LT v2 v3 v4 w3.1 w3.2 w4.1 w4.2 n0 n1 p0 p1
  rw [h1]
  congr 2
  rcases h2 with rfl | rfl
  · exact (z_bf (fun h => absurd (h3.mpr h) (by decide))).symm
  · exact (z_bt (h3.mp rfl)).symm
set_option maxRecDepth 20000 in
theorem z_isBadAt (L : z_LnL T R a) (V : z_Ln I a f n) (LT : z_TdL T R t) (VT : z_Td I t D) (wD : z_Dw D) (ht : t + 55 ≤ a ∨ a + 71 ≤ t) {i : Nat} (hi : i < n) (hF : ∀ j, j < i → ¬ z_bad D f j) :
    z_W c T J R (k_Line_isBadAt a t (i : Int) (c, T, I, J, R)) (fun r I' => r = z_b (z_bad D f i) ∧ z_fr (a + 69) (a + 71) I I') := by
  obtain ⟨⟨l1, l2, l3, l4, l5, l6, l7⟩, ⟨m1, m2, m3⟩, ⟨r0, r1, r2, r3⟩, LZ⟩ := id L
  obtain ⟨v1, v2, v3, v4, v5⟩ := id V
  obtain ⟨⟨g1, g2, g3, g4, g5, gr1, gr2⟩, g6⟩ := id LT
  obtain ⟨w1, w2, w3, w4, w5, w6, w7, w8⟩ := id wD
  have hk := m1 i (by omega)
  have hl := m2 i (by omega)
  have hR : R (a + 2) ((i : Int)).toNat = a + 3 + i := by rw [show ((i : Int)).toNat = i from by omega]; exact m3 i (by omega)
  refine z_WU ?_
  unfold k_Line_isBadAt
  repeat' (first | ((with_reducible apply z_u_e); (with_reducible refine z_Told_bey LT VT wD ?_ ?_ ?_ ?_); (first | assumption | omega); (first | assumption | omega); (first | assumption | omega); (first | assumption | omega)) | ((with_reducible refine z_u_lt ?_)) | ((with_reducible refine z_u_ck ?_ ?_ ?_); omega; omega) | ((with_reducible refine z_u_ib (fun _ => ?_) (fun _ => ?_))) | ((with_reducible refine z_u_in (fun _ => ?_) (fun _ => ?_))) | ((with_reducible refine z_u_t ?_ ?_); omega) | ((with_reducible refine z_u_f ?_ ?_); omega) | ((with_reducible refine z_u_if (fun _ => ?_) (fun _ => ?_))) | ((with_reducible refine z_u_zb ?_)) | ((with_reducible refine z_u_zz ?_ ?_); omega) | ((with_reducible refine z_u_jn ?_)) | ((with_reducible refine z_u_n0 ?_)) | ((with_reducible refine z_u_nS ?_ ?_); omega) | ((with_reducible refine z_u_dv ?_ ?_ ?_); omega; omega) | ((with_reducible refine z_u_rm ?_ ?_ ?_); omega; omega) | ((with_reducible refine z_u_ob ?_ ?_); (first | assumption | omega)) | ((with_reducible apply z_u_gI); (first | assumption | omega); (first | assumption | exact z_uq | ((repeat (refine (z_un (by omega)).trans ?_)); first | assumption | exact z_uq | exact rfl))) | ((with_reducible apply z_u_gR); (first | assumption | omega); (first | assumption | exact z_uq | ((repeat (refine (z_un (by omega)).trans ?_)); first | assumption | exact z_uq | exact rfl))) | ((with_reducible refine z_u_pI ?_ ?_); (first | assumption | omega)) | ((with_reducible refine z_u_pZ ?_ ?_ ?_); (first | assumption | omega); omega) | ((with_reducible apply z_u_aI); (first | assumption | omega); omega; omega; (first | assumption | exact z_uq | ((repeat (refine (z_un (by omega)).trans ?_)); first | assumption | exact z_uq | exact rfl))) | ((with_reducible apply z_u_aR); (first | assumption | omega); omega; omega; (first | assumption | exact z_uq | ((repeat (refine (z_un (by omega)).trans ?_)); first | assumption | exact z_uq | exact rfl))) | ((with_reducible refine z_u_sI ?_ ?_ ?_ ?_); (first | assumption | omega); omega; omega) | ((with_reducible apply z_u_al); (first | assumption | omega); omega; (first | assumption | exact z_uq | ((repeat (refine (z_un (by omega)).trans ?_)); first | assumption | exact z_uq | exact rfl))))
  · -- the places ahead
    refine z_f1 (fun d v I' => I' = I ∧ ∃ j : Nat, v = (j : Int) ∧ 1 ≤ j ∧ j + d = i + 1 ∧ ∀ p, 1 ≤ p → p < j → ¬ z_rpt D f i p) ?_ i (by omega) ⟨rfl, 1, rfl, by omega, by omega, fun p h1 h2 => absurd h1 (by omega)⟩
    rintro d fu v I' ⟨rfl, j, rfl, hj1, hjd, hno⟩ ih
    rw [lp_Line_isBadAt_33]
    have hv : j ≤ i → I' (a + 3 + i) ((i : Int) - (j : Int)).toNat = (z_alk f i (i - j) : Int) := fun h => by
      rw [show ((i : Int) - (j : Int)).toNat = i - j from by omega]
      exact v4 i (i - j) hi (by omega)
    have ab := z_alk_le (f := f) (j := i - j) (i := i)
    by_cases hji : (i : Int) < (j : Int)
    · rw [z_if1 hji]
      repeat' (first | ((with_reducible refine z_u_lt ?_)) | ((with_reducible refine z_u_ck ?_ ?_ ?_); omega; omega) | ((with_reducible refine z_u_ib (fun _ => ?_) (fun _ => ?_))) | ((with_reducible refine z_u_in (fun _ => ?_) (fun _ => ?_))) | ((with_reducible refine z_u_t ?_ ?_); omega) | ((with_reducible refine z_u_f ?_ ?_); omega) | ((with_reducible refine z_u_if (fun _ => ?_) (fun _ => ?_))) | ((with_reducible refine z_u_zb ?_)) | ((with_reducible refine z_u_zz ?_ ?_); omega) | ((with_reducible refine z_u_jn ?_)) | ((with_reducible refine z_u_n0 ?_)) | ((with_reducible refine z_u_nS ?_ ?_); omega) | ((with_reducible refine z_u_dv ?_ ?_ ?_); omega; omega) | ((with_reducible refine z_u_rm ?_ ?_ ?_); omega; omega) | ((with_reducible refine z_u_ob ?_ ?_); (first | assumption | omega)) | ((with_reducible apply z_u_gI); (first | assumption | omega); (first | assumption | exact z_uq | ((repeat (refine (z_un (by omega)).trans ?_)); first | assumption | exact z_uq | exact rfl))) | ((with_reducible apply z_u_gR); (first | assumption | omega); (first | assumption | exact z_uq | ((repeat (refine (z_un (by omega)).trans ?_)); first | assumption | exact z_uq | exact rfl))) | ((with_reducible refine z_u_pI ?_ ?_); (first | assumption | omega)) | ((with_reducible refine z_u_pZ ?_ ?_ ?_); (first | assumption | omega); omega) | ((with_reducible apply z_u_aI); (first | assumption | omega); omega; omega; (first | assumption | exact z_uq | ((repeat (refine (z_un (by omega)).trans ?_)); first | assumption | exact z_uq | exact rfl))) | ((with_reducible apply z_u_aR); (first | assumption | omega); omega; omega; (first | assumption | exact z_uq | ((repeat (refine (z_un (by omega)).trans ?_)); first | assumption | exact z_uq | exact rfl))) | ((with_reducible refine z_u_sI ?_ ?_ ?_ ?_); (first | assumption | omega); omega; omega) | ((with_reducible apply z_u_al); (first | assumption | omega); omega; (first | assumption | exact z_uq | ((repeat (refine (z_un (by omega)).trans ?_)); first | assumption | exact z_uq | exact rfl))))
      refine z_f1 (fun d v I2 => z_fr (a + 69) (a + 71) I' I2 ∧ ∃ j : Nat, v = (j : Int) ∧ j + d = (D 5).toNat ∧ ∀ k, k < j → ¬ (D (194 + k) = 1 ∧ z_pat D f k i)) ?_ (D 5).toNat (by omega) ⟨z_fr0, 0, rfl, by omega, fun p h1 => absurd h1 (by omega)⟩
      rintro d2 fu2 v I2 ⟨fr, j2, rfl, hjd2, hno2⟩ ih2
      have V' := z_Ln_fr V fr (by omega)
      have VT' := z_Td_fr wD VT fr (by omega)
      obtain ⟨⟨u1, u2, u3, u4, u5, u6⟩, u7, u8⟩ := id VT'
      rw [lp_Line_isBadAt_77]
      by_cases hj5 : D 5 ≤ (j2 : Int)
      · repeat' (first | ((with_reducible refine z_u_lt ?_)) | ((with_reducible refine z_u_ck ?_ ?_ ?_); omega; omega) | ((with_reducible refine z_u_ib (fun _ => ?_) (fun _ => ?_))) | ((with_reducible refine z_u_in (fun _ => ?_) (fun _ => ?_))) | ((with_reducible refine z_u_t ?_ ?_); omega) | ((with_reducible refine z_u_f ?_ ?_); omega) | ((with_reducible refine z_u_if (fun _ => ?_) (fun _ => ?_))) | ((with_reducible refine z_u_zb ?_)) | ((with_reducible refine z_u_zz ?_ ?_); omega) | ((with_reducible refine z_u_jn ?_)) | ((with_reducible refine z_u_n0 ?_)) | ((with_reducible refine z_u_nS ?_ ?_); omega) | ((with_reducible refine z_u_dv ?_ ?_ ?_); omega; omega) | ((with_reducible refine z_u_rm ?_ ?_ ?_); omega; omega) | ((with_reducible refine z_u_ob ?_ ?_); (first | assumption | omega)) | ((with_reducible apply z_u_gI); (first | assumption | omega); (first | assumption | exact z_uq | ((repeat (refine (z_un (by omega)).trans ?_)); first | assumption | exact z_uq | exact rfl))) | ((with_reducible apply z_u_gR); (first | assumption | omega); (first | assumption | exact z_uq | ((repeat (refine (z_un (by omega)).trans ?_)); first | assumption | exact z_uq | exact rfl))) | ((with_reducible refine z_u_pI ?_ ?_); (first | assumption | omega)) | ((with_reducible refine z_u_pZ ?_ ?_ ?_); (first | assumption | omega); omega) | ((with_reducible apply z_u_aI); (first | assumption | omega); omega; omega; (first | assumption | exact z_uq | ((repeat (refine (z_un (by omega)).trans ?_)); first | assumption | exact z_uq | exact rfl))) | ((with_reducible apply z_u_aR); (first | assumption | omega); omega; omega; (first | assumption | exact z_uq | ((repeat (refine (z_un (by omega)).trans ?_)); first | assumption | exact z_uq | exact rfl))) | ((with_reducible refine z_u_sI ?_ ?_ ?_ ?_); (first | assumption | omega); omega; omega) | ((with_reducible apply z_u_al); (first | assumption | omega); omega; (first | assumption | exact z_uq | ((repeat (refine (z_un (by omega)).trans ?_)); first | assumption | exact z_uq | exact rfl))))
        refine z_u_r ⟨_, rfl, (z_bf ?_).symm, fr⟩
        rintro (h | ⟨p, h1, h2, h3⟩ | ⟨k, h1, h2, h3⟩)
        · contradiction
        · exact hno p h1 (by omega) h3
        · exact hno2 k (by omega) ⟨h2, h3⟩
      · obtain ⟨u9, u10, N, uN, hN64, hNb⟩ := u8 j2 (by omega)
        obtain ⟨-, -, -, gS⟩ := g6 j2 (by omega)
        have gS1 := gS.1
        have SA := z_Told_shapeAt (c := c) (I := I2) (J := J) LT (v := (j2 : Int)) (by omega) (by omega)
        rw [show ((j2 : Int)).toNat = j2 from rfl] at SA
        obtain ⟨x1, x2, x3⟩ := w8 j2 (by omega)
        have hq : (z_dq D j2 : Int) = D (166 + j2) := by unfold z_dq; omega
        have LY := z_lays (c := c) (J := J) (f := f) (n := n) (q := z_dq D j2) (P := z_dP D j2) (Q := fun j => z_dP D j2 (z_dq D j2 - 1 - j)) gS LZ L (Or.inr rfl) (fun k _ => by rw [if_neg (by decide)]) (by omega) (by omega)
          (sh := fun j => z_shp (z_dP D j2) (z_dq D j2) (z_dq D j2 - 1 - j)) (N := N) (fun k r hkr h => ⟨rfl, z_cnt_one h.1 (by omega) (by omega) (by omega)⟩) hN64 (fun _ k hk => hNb _ (by omega)) (z_dq D j2) 10 0 (i : Int) (fun _ => 0) (fun _ => -1) I2 (by omega) (by omega) V' u9 (fun _ => uN) (fun _ => ⟨rfl, rfl⟩) (fun h => absurd rfl h)
          (by unfold z_rom; rw [if_neg (by decide)]; omega) (by unfold z_rom; rw [if_neg (by decide)]; omega) (fun h => absurd rfl h) (fun v => by omega) (fun v _ => ⟨fun _ => rfl, fun h => absurd h (by omega)⟩)
        rw [show (((0 : Nat) : Int)) = 0 from rfl] at LY
        have pe : D (194 + j2) ≠ 0 → (z_lys f n (-1) (fun j => z_dP D j2 (z_dq D j2 - 1 - j)) (fun j => z_shp (z_dP D j2) (z_dq D j2) (z_dq D j2 - 1 - j)) (z_dq D j2) 0 (i : Int) (fun _ => 0) (fun _ => -1) ↔ z_pat D f j2 i) := fun h0 =>
          z_lys_iff (fun i' hi' h => hF i' hi' (Or.inr (Or.inr ⟨j2, by omega, by omega, h⟩)))
        by_cases hav : D (194 + j2) = 0
        · repeat' (first | ((with_reducible apply z_u_e); (with_reducible refine SA)) | ((with_reducible refine z_u_lt ?_)) | ((with_reducible refine z_u_ck ?_ ?_ ?_); omega; omega) | ((with_reducible refine z_u_ib (fun _ => ?_) (fun _ => ?_))) | ((with_reducible refine z_u_in (fun _ => ?_) (fun _ => ?_))) | ((with_reducible refine z_u_t ?_ ?_); omega) | ((with_reducible refine z_u_f ?_ ?_); omega) | ((with_reducible refine z_u_if (fun _ => ?_) (fun _ => ?_))) | ((with_reducible refine z_u_zb ?_)) | ((with_reducible refine z_u_zz ?_ ?_); omega) | ((with_reducible refine z_u_jn ?_)) | ((with_reducible refine z_u_n0 ?_)) | ((with_reducible refine z_u_nS ?_ ?_); omega) | ((with_reducible refine z_u_dv ?_ ?_ ?_); omega; omega) | ((with_reducible refine z_u_rm ?_ ?_ ?_); omega; omega) | ((with_reducible refine z_u_ob ?_ ?_); (first | assumption | omega)) | ((with_reducible apply z_u_gI); (first | assumption | omega); (first | assumption | exact z_uq | ((repeat (refine (z_un (by omega)).trans ?_)); first | assumption | exact z_uq | exact rfl))) | ((with_reducible apply z_u_gR); (first | assumption | omega); (first | assumption | exact z_uq | ((repeat (refine (z_un (by omega)).trans ?_)); first | assumption | exact z_uq | exact rfl))) | ((with_reducible refine z_u_pI ?_ ?_); (first | assumption | omega)) | ((with_reducible refine z_u_pZ ?_ ?_ ?_); (first | assumption | omega); omega) | ((with_reducible apply z_u_aI); (first | assumption | omega); omega; omega; (first | assumption | exact z_uq | ((repeat (refine (z_un (by omega)).trans ?_)); first | assumption | exact z_uq | exact rfl))) | ((with_reducible apply z_u_aR); (first | assumption | omega); omega; omega; (first | assumption | exact z_uq | ((repeat (refine (z_un (by omega)).trans ?_)); first | assumption | exact z_uq | exact rfl))) | ((with_reducible refine z_u_sI ?_ ?_ ?_ ?_); (first | assumption | omega); omega; omega) | ((with_reducible apply z_u_al); (first | assumption | omega); omega; (first | assumption | exact z_uq | ((repeat (refine (z_un (by omega)).trans ?_)); first | assumption | exact z_uq | exact rfl))))
          exact ih2 (d2 - 1) _ _ (by omega) ⟨fr, j2 + 1, by omega, by omega, fun k hk => by
            by_cases hkj : k = j2
            · subst hkj; omega
            · exact hno2 k (by omega)⟩
        · repeat' (first | ((with_reducible apply z_u_e); (with_reducible refine SA)) | ((with_reducible refine z_u_lt ?_)) | ((with_reducible refine z_u_ck ?_ ?_ ?_); omega; omega) | ((with_reducible refine z_u_ib (fun _ => ?_) (fun _ => ?_))) | ((with_reducible refine z_u_in (fun _ => ?_) (fun _ => ?_))) | ((with_reducible refine z_u_t ?_ ?_); omega) | ((with_reducible refine z_u_f ?_ ?_); omega) | ((with_reducible refine z_u_if (fun _ => ?_) (fun _ => ?_))) | ((with_reducible refine z_u_zb ?_)) | ((with_reducible refine z_u_zz ?_ ?_); omega) | ((with_reducible refine z_u_jn ?_)) | ((with_reducible refine z_u_n0 ?_)) | ((with_reducible refine z_u_nS ?_ ?_); omega) | ((with_reducible refine z_u_dv ?_ ?_ ?_); omega; omega) | ((with_reducible refine z_u_rm ?_ ?_ ?_); omega; omega) | ((with_reducible refine z_u_ob ?_ ?_); (first | assumption | omega)) | ((with_reducible apply z_u_gI); (first | assumption | omega); (first | assumption | exact z_uq | ((repeat (refine (z_un (by omega)).trans ?_)); first | assumption | exact z_uq | exact rfl))) | ((with_reducible apply z_u_gR); (first | assumption | omega); (first | assumption | exact z_uq | ((repeat (refine (z_un (by omega)).trans ?_)); first | assumption | exact z_uq | exact rfl))) | ((with_reducible refine z_u_pI ?_ ?_); (first | assumption | omega)) | ((with_reducible refine z_u_pZ ?_ ?_ ?_); (first | assumption | omega); omega) | ((with_reducible apply z_u_aI); (first | assumption | omega); omega; omega; (first | assumption | exact z_uq | ((repeat (refine (z_un (by omega)).trans ?_)); first | assumption | exact z_uq | exact rfl))) | ((with_reducible apply z_u_aR); (first | assumption | omega); omega; omega; (first | assumption | exact z_uq | ((repeat (refine (z_un (by omega)).trans ?_)); first | assumption | exact z_uq | exact rfl))) | ((with_reducible refine z_u_sI ?_ ?_ ?_ ?_); (first | assumption | omega); omega; omega) | ((with_reducible apply z_u_al); (first | assumption | omega); omega; (first | assumption | exact z_uq | ((repeat (refine (z_un (by omega)).trans ?_)); first | assumption | exact z_uq | exact rfl))))
          refine z_u_w LY (fun r I3 hr => ?_)
          obtain ⟨e1, e2, e3, e4⟩ := hr
          have fr3 := z_frT fr e3
          repeat' (first | ((with_reducible refine z_u_lt ?_)) | ((with_reducible refine z_u_ck ?_ ?_ ?_); omega; omega) | ((with_reducible refine z_u_ib (fun _ => ?_) (fun _ => ?_))) | ((with_reducible refine z_u_in (fun _ => ?_) (fun _ => ?_))) | ((with_reducible refine z_u_t ?_ ?_); omega) | ((with_reducible refine z_u_f ?_ ?_); omega) | ((with_reducible refine z_u_if (fun _ => ?_) (fun _ => ?_))) | ((with_reducible refine z_u_zb ?_)) | ((with_reducible refine z_u_zz ?_ ?_); omega) | ((with_reducible refine z_u_jn ?_)) | ((with_reducible refine z_u_n0 ?_)) | ((with_reducible refine z_u_nS ?_ ?_); omega) | ((with_reducible refine z_u_dv ?_ ?_ ?_); omega; omega) | ((with_reducible refine z_u_rm ?_ ?_ ?_); omega; omega) | ((with_reducible refine z_u_ob ?_ ?_); (first | assumption | omega)) | ((with_reducible apply z_u_gI); (first | assumption | omega); (first | assumption | exact z_uq | ((repeat (refine (z_un (by omega)).trans ?_)); first | assumption | exact z_uq | exact rfl))) | ((with_reducible apply z_u_gR); (first | assumption | omega); (first | assumption | exact z_uq | ((repeat (refine (z_un (by omega)).trans ?_)); first | assumption | exact z_uq | exact rfl))) | ((with_reducible refine z_u_pI ?_ ?_); (first | assumption | omega)) | ((with_reducible refine z_u_pZ ?_ ?_ ?_); (first | assumption | omega); omega) | ((with_reducible apply z_u_aI); (first | assumption | omega); omega; omega; (first | assumption | exact z_uq | ((repeat (refine (z_un (by omega)).trans ?_)); first | assumption | exact z_uq | exact rfl))) | ((with_reducible apply z_u_aR); (first | assumption | omega); omega; omega; (first | assumption | exact z_uq | ((repeat (refine (z_un (by omega)).trans ?_)); first | assumption | exact z_uq | exact rfl))) | ((with_reducible refine z_u_sI ?_ ?_ ?_ ?_); (first | assumption | omega); omega; omega) | ((with_reducible apply z_u_al); (first | assumption | omega); omega; (first | assumption | exact z_uq | ((repeat (refine (z_un (by omega)).trans ?_)); first | assumption | exact z_uq | exact rfl))))
          · exact ih2 (d2 - 1) _ _ (by omega) ⟨fr3, j2 + 1, by omega, by omega, fun k hk => by
              by_cases hkj : k = j2
              · subst hkj
                rintro ⟨-, h⟩
                have := e2.mpr ((pe hav).mpr h)
                omega
              · exact hno2 k (by omega)⟩
          · exact z_u_r ⟨_, rfl, (z_bt (Or.inr (Or.inr ⟨j2, by omega, by omega, (pe hav).mp (e2.mp (by omega))⟩))).symm, fr3⟩
    · rw [z_if0 hji]
      have hv' := hv (by omega)
      repeat' (first | ((with_reducible apply z_u_e); (with_reducible refine z_Told_bey LT VT wD ?_ ?_ ?_ ?_); (first | assumption | omega); (first | assumption | omega); (first | assumption | omega); (first | assumption | omega)) | ((with_reducible refine z_u_lt ?_)) | ((with_reducible refine z_u_ck ?_ ?_ ?_); omega; omega) | ((with_reducible refine z_u_ib (fun _ => ?_) (fun _ => ?_))) | ((with_reducible refine z_u_in (fun _ => ?_) (fun _ => ?_))) | ((with_reducible refine z_u_t ?_ ?_); omega) | ((with_reducible refine z_u_f ?_ ?_); omega) | ((with_reducible refine z_u_if (fun _ => ?_) (fun _ => ?_))) | ((with_reducible refine z_u_zb ?_)) | ((with_reducible refine z_u_zz ?_ ?_); omega) | ((with_reducible refine z_u_jn ?_)) | ((with_reducible refine z_u_n0 ?_)) | ((with_reducible refine z_u_nS ?_ ?_); omega) | ((with_reducible refine z_u_dv ?_ ?_ ?_); omega; omega) | ((with_reducible refine z_u_rm ?_ ?_ ?_); omega; omega) | ((with_reducible refine z_u_ob ?_ ?_); (first | assumption | omega)) | ((with_reducible apply z_u_gI); (first | assumption | omega); (first | assumption | exact z_uq | ((repeat (refine (z_un (by omega)).trans ?_)); first | assumption | exact z_uq | exact rfl))) | ((with_reducible apply z_u_gR); (first | assumption | omega); (first | assumption | exact z_uq | ((repeat (refine (z_un (by omega)).trans ?_)); first | assumption | exact z_uq | exact rfl))) | ((with_reducible refine z_u_pI ?_ ?_); (first | assumption | omega)) | ((with_reducible refine z_u_pZ ?_ ?_ ?_); (first | assumption | omega); omega) | ((with_reducible apply z_u_aI); (first | assumption | omega); omega; omega; (first | assumption | exact z_uq | ((repeat (refine (z_un (by omega)).trans ?_)); first | assumption | exact z_uq | exact rfl))) | ((with_reducible apply z_u_aR); (first | assumption | omega); omega; omega; (first | assumption | exact z_uq | ((repeat (refine (z_un (by omega)).trans ?_)); first | assumption | exact z_uq | exact rfl))) | ((with_reducible refine z_u_sI ?_ ?_ ?_ ?_); (first | assumption | omega); omega; omega) | ((with_reducible apply z_u_al); (first | assumption | omega); omega; (first | assumption | exact z_uq | ((repeat (refine (z_un (by omega)).trans ?_)); first | assumption | exact z_uq | exact rfl))))
      · exact ih (d - 1) _ _ (by omega) ⟨rfl, j + 1, by omega, by omega, by omega, fun p h1 h2 => by
          by_cases hpj : p = j
          · subst hpj
            rintro ⟨h3, h4⟩
            omega
          · exact hno p h1 (by omega)⟩
      · exact ih (d - 1) _ _ (by omega) ⟨rfl, j + 1, by omega, by omega, by omega, fun p h1 h2 => by
          by_cases hpj : p = j
          · subst hpj
            rintro ⟨h3, h4⟩
            contradiction
          · exact hno p h1 (by omega)⟩
      · exact z_u_r ⟨_, rfl, (z_bt (Or.inr (Or.inl ⟨j, hj1, by omega, by omega, by assumption⟩))).symm, z_fr0⟩
  · exact z_u_r ⟨_, rfl, (z_bt (Or.inl (by assumption))).symm, z_fr0⟩
end Bad
