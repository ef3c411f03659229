/-! SEARCHES: the class's machine. -/
/-! references: nothing but what a search is told is new -/
def z_qr (R R' : z_Rs) : Prop := (∀ a, a ≠ 279 → R' a = R a) ∧ R' 279 0 = R 279 0
theorem z_qr0 {R : z_Rs} : z_qr R R := ⟨fun _ _ => rfl, rfl⟩
theorem z_qrT {R R1 R2 : z_Rs} (h1 : z_qr R R1) (h2 : z_qr R1 R2) : z_qr R R2 := ⟨fun a ha => (h2.1 a ha).trans (h1.1 a ha), h2.2.trans h1.2⟩
theorem z_qrU {R : z_Rs} {x : Nat} : z_qr R (mm_up R 279 1 x) := ⟨fun a ha => z_ur ha, z_un (by omega)⟩
theorem z_ShL_q {T : z_Ty} {R R' : z_Rs} {a : Nat} (h : z_ShL T R a) (q : z_qr R R') (ha : a + 2 < 279) : z_ShL T R' a := by
  obtain ⟨a1, a2, a3, a4, a5, a6, a7, a8, a9⟩ := h
  exact ⟨a1, a2, a3, a4, a5, a6, by rw [q.1 a (by omega)]; exact a7, by rw [q.1 a (by omega)]; exact a8, by rw [q.1 (a + 1) (by omega)]; exact a9⟩
theorem z_MoL_q {T : z_Ty} {R R' : z_Rs} {a : Nat} (h : z_MoL T R a) (q : z_qr R R') (ha : a + 3 < 279) : z_MoL T R' a := by
  obtain ⟨a1, a2, a3, a4, a5, a6⟩ := h
  exact ⟨a1, fun i hi => by rw [q.1 (a + 3) (by omega)]; exact a2 i hi, by rw [q.1 a (by omega)]; exact a3, by rw [q.1 a (by omega)]; exact a4, by rw [q.1 a (by omega)]; exact a5, by rw [q.1 (a + 1) (by omega)]; exact a6⟩
theorem z_SzL_q {T : z_Ty} {R R' : z_Rs} {a : Nat} (h : z_SzL T R a) (q : z_qr R R') (ha : a ≠ 279) : z_SzL T R' a := by
  obtain ⟨a1, a2, a3, a4, a5, a6, a7⟩ := h
  exact ⟨a1, a2, a3, a4, a5, by rw [q.1 a ha]; exact a6, by rw [q.1 a ha]; exact a7⟩
theorem z_LnL_q {T : z_Ty} {R R' : z_Rs} {a : Nat} (h : z_LnL T R a) (q : z_qr R R') (ha : a + 68 < 279 ∨ 280 ≤ a) : z_LnL T R' a := by
  obtain ⟨a1, ⟨a2, a3, a4⟩, ⟨a5, a6, a7, a8⟩, a9⟩ := h
  exact ⟨a1, ⟨a2, a3, fun i hi => by rw [q.1 (a + 2) (by omega)]; exact a4 i hi⟩, ⟨by rw [q.1 a (by omega)]; exact a5, by rw [q.1 a (by omega)]; exact a6, by rw [q.1 a (by omega)]; exact a7, by rw [q.1 a (by omega)]; exact a8⟩, z_SzL_q a9 q (by omega)⟩
theorem z_TdL_q {T : z_Ty} {R R' : z_Rs} {a : Nat} (h : z_TdL T R a) (q : z_qr R R') (ha : a + 55 ≤ 279) : z_TdL T R' a := by
  obtain ⟨⟨a1, a2, a3, a4, a5, a6, a7⟩, a8⟩ := h
  refine ⟨⟨a1, a2, a3, a4, a5, by rw [q.1 a (by omega)]; exact a6, by rw [q.1 a (by omega)]; exact a7⟩, fun k hk => ?_⟩
  obtain ⟨b1, b2, b3, b4⟩ := a8 k hk
  exact ⟨by rw [q.1 (a + 1) (by omega)]; exact b1, by rw [q.1 (a + 2) (by omega)]; exact b2, z_MoL_q b3 q (by omega), z_ShL_q b4 q (by omega)⟩
theorem z_XL_q {T : z_Ty} {R R' : z_Rs} {t s : Nat} (LX : z_XL T R t s) (q : z_qr R R') : z_XL T R' t s := by
  have ts := z_xts LX
  refine ⟨z_xk20 LX, z_xk21 LX, z_xk22 LX, z_xk23 LX, z_xk279 LX, z_xk351 LX, z_xk352 LX, z_xk363 LX, z_xk364 LX, z_xk378 LX, z_xl23 LX, z_xl352 LX, z_xl363 LX, z_xl364 LX, z_xl378 LX, ?_, ?_, ?_, ?_, ?_, ?_, ?_, ?_, ?_, ?_, ?_, ?_, q.2.trans (z_xrs LX), ?_, ?_, ts,
    z_TdL_q (z_xLt LX) q (by omega), z_TdL_q (z_xLs LX) q (by omega), z_SzL_q (z_xLz LX) q (by omega), z_LnL_q (z_xL137 LX) q (by omega), z_LnL_q (z_xL208 LX) q (by omega), z_LnL_q (z_xL280 LX) q (by omega), fun i hi => by rw [q.1 352 (by omega)]; exact z_xA LX i hi, fun i hi => by rw [q.1 364 (by omega)]; exact z_xW LX i hi⟩
  · rw [q.1 20 (by omega)]; exact z_xr0 LX
  · rw [q.1 20 (by omega)]; exact z_xr1 LX
  · rw [q.1 20 (by omega)]; exact z_xr2 LX
  · rw [q.1 20 (by omega)]; exact z_xr3 LX
  · rw [q.1 20 (by omega)]; exact z_xr4 LX
  · rw [q.1 20 (by omega)]; exact z_xr5 LX
  · rw [q.1 20 (by omega)]; exact z_xr6 LX
  · rw [q.1 20 (by omega)]; exact z_xr7 LX
  · rw [q.1 20 (by omega)]; exact z_xr8 LX
  · rw [q.1 20 (by omega)]; exact z_xr9 LX
  · rw [q.1 21 (by omega)]; exact z_xrt LX
  · rw [q.1 22 (by omega)]; exact z_xrb LX
  · rw [q.1 351 (by omega)]; exact z_xra LX
  · rw [q.1 351 (by omega)]; exact z_xrw LX
/-! where a search stops, where it ends -/
noncomputable def z_sq (D f : Nat → Int) (act : Nat) (w : Int) (mp lo hi : Nat) (S : z_S) : Nat := z_fo (z_sp D f act w mp lo hi S) (z_sen D lo hi S)
section SeaQ
variable {D f : Nat → Int} {act mp lo hi m : Nat} {w : Int} {S : z_S}
theorem z_q_bd (W : z_sw D lo hi S) (g : ∀ j, j < m → ¬ z_sed D lo hi (z_sit D lo hi S j)) : m ≤ 10064 := by
  obtain ⟨w1, w2, w3, w4, -, -, -⟩ := W
  have i4 := (z_sit_inv (D := D) w1 (Nat.le_of_lt w2) (by omega) w4 g)
  omega
theorem z_q_at (W : z_sw D lo hi S) (g : z_go D f act w mp lo hi S m) (p : z_sp D f act w mp lo hi S m) : z_sq D f act w mp lo hi S = m ∧ m < z_sen D lo hi S := by
  obtain ⟨w1, w2, w3, w4, -, -, -⟩ := id W
  obtain ⟨e1, e2, e3⟩ := z_sen_spec (D := D) w1 (Nat.le_of_lt w2) (by omega) w3 w4
  have h : m < z_sen D lo hi S := by
    rcases Nat.lt_trichotomy m (z_sen D lo hi S) with h | h | h
    · exact h
    · rw [← h] at e1
      exact absurd p.1 e1.1
    · exact absurd e1 (g _ h).1
  exact ⟨z_fo_eq (Nat.le_of_lt h) (fun i hi => (g i hi).2) (fun _ => p), h⟩
theorem z_q_end (W : z_sw D lo hi S) (g : z_go D f act w mp lo hi S m) (e : z_sed D lo hi (z_sit D lo hi S m)) : z_sq D f act w mp lo hi S = m ∧ z_sen D lo hi S = m := by
  have b := z_q_bd W (m := m) (fun j hj => (g j hj).1)
  have h : z_sen D lo hi S = m := z_sen_eq e (fun j hj => (g j hj).1) (by omega)
  refine ⟨?_, h⟩
  unfold z_sq
  rw [h]
  exact z_fo_eq (Nat.le_refl m) (fun i hi => (g i hi).2) (fun h => absurd h (by omega))
theorem z_cn_F {b : Nat → Prop} (ha : ∀ j, z_sfd hi (z_sit D lo hi S j) ∧ z_cnp D act hi (z_sit D lo hi S j).1 ↔ b j) : z_cn D act lo hi S m = z_ct b m := z_ct_congr (fun i _ => ha i)
/-! each counted is a find -/
theorem z_cn_le (W : z_sw D lo hi S) (g : ∀ j, j < m → ¬ z_sed D lo hi (z_sit D lo hi S j)) : z_cn D act lo hi S m ≤ 5000 := by
  obtain ⟨w1, w2, w3, w4, -, -, -⟩ := id W
  have a1 := z_sit_ct W g
  have a2 := (z_sit_inv (D := D) w1 (Nat.le_of_lt w2) (by omega) w4 g).1.2.2
  have a3 : z_ct (fun j => z_sfd hi (z_sit D lo hi S j)) m ≤ z_ct (fun j => z_sfd hi (z_sit D lo hi S j)) (m + 1) := z_ct_mono (by omega)
  have a4 : ∀ m, z_cn D act lo hi S m ≤ z_ct (fun j => z_sfd hi (z_sit D lo hi S j)) m := fun m => by
    induction m with
    | zero => exact Nat.le_refl _
    | succ m ih =>
      by_cases c1 : z_sfd hi (z_sit D lo hi S m) ∧ z_cnp D act hi (z_sit D lo hi S m).1
      · have e1 : z_cn D act lo hi S (m + 1) = z_cn D act lo hi S m + 1 := z_ctS c1
        have e2 := z_ctS (b := fun j => z_sfd hi (z_sit D lo hi S j)) (n := m) c1.1
        omega
      · have e1 : z_cn D act lo hi S (m + 1) = z_cn D act lo hi S m := z_ctN c1
        have e2 := z_ct_mono (b := fun j => z_sfd hi (z_sit D lo hi S j)) (m := m) (n := m + 1) (by omega)
        omega
  have a5 := a4 m
  omega
end SeaQ
/-! the class's search stands at a find, or at its rest -/
def z_AT (D : Nat → Int) (I : z_Is) (lo hi : Nat) (S : z_S) (m : Nat) (r : Int) : Prop :=
  z_SS I lo hi (z_sit D lo hi S m) ∧ (∀ j, j < m → ¬ z_sed D lo hi (z_sit D lo hi S j)) ∧ ((r = 1 ∧ z_sfd hi (z_sit D lo hi S m)) ∨ (z_sed D lo hi (z_sit D lo hi S m) ∧ r = if z_dA D ≤ (z_sit D lo hi S m).2.2.1 then -1 else -2))
section XSea
variable {c : z_C} {T : z_Ty} {I : z_Is} {J : z_Js} {R : z_Rs} {t s n : Nat} {f D : Nat → Int} {lo hi : Nat}
set_option maxRecDepth 20000 in
theorem z_reset (LX : z_XL T R t s) {x : Nat} : k_Search_reset 279 x (c, T, I, J, R) = some ((), (c, T, mm_up I 279 5 0, J, mm_up R 279 1 x)) := by
  have kS := z_xk279 LX
  refine z_Uq ?_
  unfold k_Search_reset
  repeat' (first | ((with_reducible refine z_u_lt ?_)) | ((with_reducible refine z_u_ck ?_ ?_ ?_); omega; omega) | ((with_reducible refine z_u_ib (fun _ => ?_) (fun _ => ?_))) | ((with_reducible refine z_u_in (fun _ => ?_) (fun _ => ?_))) | ((with_reducible refine z_u_t ?_ ?_); omega) | ((with_reducible refine z_u_f ?_ ?_); omega) | ((with_reducible refine z_u_ni (fun _ => ?_) (fun _ => ?_))) | ((with_reducible refine z_u_if (fun _ => ?_) (fun _ => ?_))) | ((with_reducible refine z_u_zb ?_)) | ((with_reducible refine z_u_zz ?_ ?_); omega) | ((with_reducible refine z_u_jn ?_)) | ((with_reducible refine z_u_n0 ?_)) | ((with_reducible refine z_u_nS ?_ ?_); omega) | ((with_reducible refine z_u_dv ?_ ?_ ?_); omega; omega) | ((with_reducible refine z_u_rm ?_ ?_ ?_); omega; omega) | ((with_reducible refine z_u_ob ?_ ?_); (first | (with_reducible assumption) | exact z_xk20 LX | exact z_xk137 LX | exact z_xkt LX | exact z_xk208 LX | exact z_xk279 LX | exact z_xk280 LX | exact z_xk351 LX | exact z_xk21 LX | exact z_xk22 LX | exact z_xk23 LX | exact z_xk352 LX | exact z_xk363 LX | exact z_xk364 LX | exact z_xk378 LX | exact z_xk134 LX | exact z_xks LX | omega)) | ((with_reducible apply z_u_gI); (first | (with_reducible assumption) | exact z_xk20 LX | exact z_xk137 LX | exact z_xkt LX | exact z_xk208 LX | exact z_xk279 LX | exact z_xk280 LX | exact z_xk351 LX | exact z_xk21 LX | exact z_xk22 LX | exact z_xk23 LX | exact z_xk352 LX | exact z_xk363 LX | exact z_xk364 LX | exact z_xk378 LX | exact z_xk134 LX | exact z_xks LX | omega); (first | (with_reducible assumption) | exact z_uq | ((repeat ((apply Eq.trans); (exact z_un (by omega)))); first | (with_reducible assumption) | exact z_uq | exact rfl))) | ((with_reducible apply z_u_gR); (first | (with_reducible assumption) | exact z_xk20 LX | exact z_xk137 LX | exact z_xkt LX | exact z_xk208 LX | exact z_xk279 LX | exact z_xk280 LX | exact z_xk351 LX | exact z_xk21 LX | exact z_xk22 LX | exact z_xk23 LX | exact z_xk352 LX | exact z_xk363 LX | exact z_xk364 LX | exact z_xk378 LX | exact z_xk134 LX | exact z_xks LX | omega); (first | (with_reducible assumption) | exact z_xr3 LX | exact z_xr1 LX | exact z_xr4 LX | exact z_xr5 LX | exact z_xr7 LX | exact z_xr0 LX | exact z_xr6 LX | exact z_xr2 LX | exact z_xr8 LX | exact z_xr9 LX | exact z_xrt LX | exact z_xrb LX | exact z_xrs LX | exact z_xra LX | exact z_xrw LX | exact rfl)) | ((with_reducible refine z_u_pI ?_ ?_); (first | (with_reducible assumption) | exact z_xk20 LX | exact z_xk137 LX | exact z_xkt LX | exact z_xk208 LX | exact z_xk279 LX | exact z_xk280 LX | exact z_xk351 LX | exact z_xk21 LX | exact z_xk22 LX | exact z_xk23 LX | exact z_xk352 LX | exact z_xk363 LX | exact z_xk364 LX | exact z_xk378 LX | exact z_xk134 LX | exact z_xks LX | omega)) | ((with_reducible refine z_u_pZ ?_ ?_ ?_); (first | (with_reducible assumption) | exact z_xk20 LX | exact z_xk137 LX | exact z_xkt LX | exact z_xk208 LX | exact z_xk279 LX | exact z_xk280 LX | exact z_xk351 LX | exact z_xk21 LX | exact z_xk22 LX | exact z_xk23 LX | exact z_xk352 LX | exact z_xk363 LX | exact z_xk364 LX | exact z_xk378 LX | exact z_xk134 LX | exact z_xks LX | omega); omega) | ((with_reducible refine z_u_pR ?_ ?_); (first | (with_reducible assumption) | exact z_xk20 LX | exact z_xk137 LX | exact z_xkt LX | exact z_xk208 LX | exact z_xk279 LX | exact z_xk280 LX | exact z_xk351 LX | exact z_xk21 LX | exact z_xk22 LX | exact z_xk23 LX | exact z_xk352 LX | exact z_xk363 LX | exact z_xk364 LX | exact z_xk378 LX | exact z_xk134 LX | exact z_xks LX | omega)) | ((with_reducible apply z_u_aI); (first | (with_reducible assumption) | exact z_xk20 LX | exact z_xk137 LX | exact z_xkt LX | exact z_xk208 LX | exact z_xk279 LX | exact z_xk280 LX | exact z_xk351 LX | exact z_xk21 LX | exact z_xk22 LX | exact z_xk23 LX | exact z_xk352 LX | exact z_xk363 LX | exact z_xk364 LX | exact z_xk378 LX | exact z_xk134 LX | exact z_xks LX | omega); omega; omega; (first | (with_reducible assumption) | exact z_uq | ((repeat ((apply Eq.trans); (exact z_un (by omega)))); first | (with_reducible assumption) | exact z_uq | exact rfl))) | ((with_reducible apply z_u_aR); (first | (with_reducible assumption) | exact z_xk20 LX | exact z_xk137 LX | exact z_xkt LX | exact z_xk208 LX | exact z_xk279 LX | exact z_xk280 LX | exact z_xk351 LX | exact z_xk21 LX | exact z_xk22 LX | exact z_xk23 LX | exact z_xk352 LX | exact z_xk363 LX | exact z_xk364 LX | exact z_xk378 LX | exact z_xk134 LX | exact z_xks LX | omega); omega; omega; (first | (with_reducible assumption) | exact z_uq | ((repeat ((apply Eq.trans); (exact z_un (by omega)))); first | (with_reducible assumption) | exact z_uq | exact rfl))) | ((with_reducible refine z_u_sI ?_ ?_ ?_ ?_); (first | (with_reducible assumption) | exact z_xk20 LX | exact z_xk137 LX | exact z_xkt LX | exact z_xk208 LX | exact z_xk279 LX | exact z_xk280 LX | exact z_xk351 LX | exact z_xk21 LX | exact z_xk22 LX | exact z_xk23 LX | exact z_xk352 LX | exact z_xk363 LX | exact z_xk364 LX | exact z_xk378 LX | exact z_xk134 LX | exact z_xks LX | omega); omega; omega) | ((with_reducible apply z_u_aJv); (first | (with_reducible assumption) | exact z_xk20 LX | exact z_xk137 LX | exact z_xkt LX | exact z_xk208 LX | exact z_xk279 LX | exact z_xk280 LX | exact z_xk351 LX | exact z_xk21 LX | exact z_xk22 LX | exact z_xk23 LX | exact z_xk352 LX | exact z_xk363 LX | exact z_xk364 LX | exact z_xk378 LX | exact z_xk134 LX | exact z_xks LX | omega); omega; omega; (first | (with_reducible assumption) | exact z_uq | ((repeat ((apply Eq.trans); (exact z_un (by omega)))); first | (with_reducible assumption) | exact z_uq | exact rfl))) | ((with_reducible refine z_u_sJ ?_ ?_ ?_ ?_); (first | (with_reducible assumption) | exact z_xk20 LX | exact z_xk137 LX | exact z_xkt LX | exact z_xk208 LX | exact z_xk279 LX | exact z_xk280 LX | exact z_xk351 LX | exact z_xk21 LX | exact z_xk22 LX | exact z_xk23 LX | exact z_xk352 LX | exact z_xk363 LX | exact z_xk364 LX | exact z_xk378 LX | exact z_xk134 LX | exact z_xks LX | omega); omega; omega) | ((with_reducible apply z_u_al); (first | (with_reducible assumption) | exact z_xk20 LX | exact z_xk137 LX | exact z_xkt LX | exact z_xk208 LX | exact z_xk279 LX | exact z_xk280 LX | exact z_xk351 LX | exact z_xk21 LX | exact z_xk22 LX | exact z_xk23 LX | exact z_xk352 LX | exact z_xk363 LX | exact z_xk364 LX | exact z_xk378 LX | exact z_xk134 LX | exact z_xks LX | omega); omega; (first | (with_reducible assumption) | exact z_uq | ((repeat ((apply Eq.trans); (exact z_un (by omega)))); first | (with_reducible assumption) | exact z_uq | exact rfl))))
  exact z_u_r ⟨rfl, rfl⟩
set_option maxRecDepth 20000 in
theorem z_begin (LX : z_XL T R t s) (V : z_Ln I 137 f n) {m : Nat} (hm : m ≤ n) (a b : Int) :
    z_W c T J R (k_Search_begin 279 137 (m : Int) a b (c, T, I, J, R)) (fun _ I' => z_fr 279 351 I I' ∧ z_Ln I' 280 f m ∧ I' 279 2 = a ∧ I' 279 3 = b ∧ I' 279 4 = 0 ∧ I' 279 5 = I 279 5 ∧ I' 279 6 = (m : Int)) := by
  have kS := z_xk279 LX
  have LN := z_xL280 LX
  have kL := z_xk280 LX
  have rS := z_xrs LX
  refine z_WU ?_
  unfold k_Search_begin
  repeat' (first | ((with_reducible refine z_u_lt ?_)) | ((with_reducible refine z_u_ck ?_ ?_ ?_); omega; omega) | ((with_reducible refine z_u_ib (fun _ => ?_) (fun _ => ?_))) | ((with_reducible refine z_u_in (fun _ => ?_) (fun _ => ?_))) | ((with_reducible refine z_u_t ?_ ?_); omega) | ((with_reducible refine z_u_f ?_ ?_); omega) | ((with_reducible refine z_u_ni (fun _ => ?_) (fun _ => ?_))) | ((with_reducible refine z_u_if (fun _ => ?_) (fun _ => ?_))) | ((with_reducible refine z_u_zb ?_)) | ((with_reducible refine z_u_zz ?_ ?_); omega) | ((with_reducible refine z_u_jn ?_)) | ((with_reducible refine z_u_n0 ?_)) | ((with_reducible refine z_u_nS ?_ ?_); omega) | ((with_reducible refine z_u_dv ?_ ?_ ?_); omega; omega) | ((with_reducible refine z_u_rm ?_ ?_ ?_); omega; omega) | ((with_reducible refine z_u_ob ?_ ?_); (first | (with_reducible assumption) | omega)) | ((with_reducible apply z_u_gI); (first | (with_reducible assumption) | omega); (first | (with_reducible assumption) | exact z_uq | ((repeat ((apply Eq.trans); (exact z_un (by omega)))); first | (with_reducible assumption) | exact z_uq | exact rfl))) | ((with_reducible apply z_u_gR); (first | (with_reducible assumption) | omega); (first | (with_reducible assumption) | exact z_uq | ((repeat ((apply Eq.trans); (exact z_un (by omega)))); first | (with_reducible assumption) | exact z_uq | exact rfl))) | ((with_reducible refine z_u_pI ?_ ?_); (first | (with_reducible assumption) | omega)) | ((with_reducible refine z_u_pZ ?_ ?_ ?_); (first | (with_reducible assumption) | omega); omega) | ((with_reducible apply z_u_aI); (first | (with_reducible assumption) | omega); omega; omega; (first | (with_reducible assumption) | exact z_uq | ((repeat ((apply Eq.trans); (exact z_un (by omega)))); first | (with_reducible assumption) | exact z_uq | exact rfl))) | ((with_reducible apply z_u_aR); (first | (with_reducible assumption) | omega); omega; omega; (first | (with_reducible assumption) | exact z_uq | ((repeat ((apply Eq.trans); (exact z_un (by omega)))); first | (with_reducible assumption) | exact z_uq | exact rfl))) | ((with_reducible refine z_u_sI ?_ ?_ ?_ ?_); (first | (with_reducible assumption) | omega); omega; omega) | ((with_reducible apply z_u_al); (first | (with_reducible assumption) | omega); omega; (first | (with_reducible assumption) | exact z_uq | ((repeat ((apply Eq.trans); (exact z_un (by omega)))); first | (with_reducible assumption) | exact z_uq | exact rfl))))
  refine z_u_w (z_Line_copy LN (z_xL137 LX) (by omega) V hm) (fun _ I1 h1 => ?_)
  obtain ⟨V1, fr1⟩ := h1
  repeat' (first | ((with_reducible refine z_u_lt ?_)) | ((with_reducible refine z_u_ck ?_ ?_ ?_); omega; omega) | ((with_reducible refine z_u_ib (fun _ => ?_) (fun _ => ?_))) | ((with_reducible refine z_u_in (fun _ => ?_) (fun _ => ?_))) | ((with_reducible refine z_u_t ?_ ?_); omega) | ((with_reducible refine z_u_f ?_ ?_); omega) | ((with_reducible refine z_u_ni (fun _ => ?_) (fun _ => ?_))) | ((with_reducible refine z_u_if (fun _ => ?_) (fun _ => ?_))) | ((with_reducible refine z_u_zb ?_)) | ((with_reducible refine z_u_zz ?_ ?_); omega) | ((with_reducible refine z_u_jn ?_)) | ((with_reducible refine z_u_n0 ?_)) | ((with_reducible refine z_u_nS ?_ ?_); omega) | ((with_reducible refine z_u_dv ?_ ?_ ?_); omega; omega) | ((with_reducible refine z_u_rm ?_ ?_ ?_); omega; omega) | ((with_reducible refine z_u_ob ?_ ?_); (first | (with_reducible assumption) | omega)) | ((with_reducible apply z_u_gI); (first | (with_reducible assumption) | omega); (first | (with_reducible assumption) | exact z_uq | ((repeat ((apply Eq.trans); (exact z_un (by omega)))); first | (with_reducible assumption) | exact z_uq | exact rfl))) | ((with_reducible apply z_u_gR); (first | (with_reducible assumption) | omega); (first | (with_reducible assumption) | exact z_uq | ((repeat ((apply Eq.trans); (exact z_un (by omega)))); first | (with_reducible assumption) | exact z_uq | exact rfl))) | ((with_reducible refine z_u_pI ?_ ?_); (first | (with_reducible assumption) | omega)) | ((with_reducible refine z_u_pZ ?_ ?_ ?_); (first | (with_reducible assumption) | omega); omega) | ((with_reducible apply z_u_aI); (first | (with_reducible assumption) | omega); omega; omega; (first | (with_reducible assumption) | exact z_uq | ((repeat ((apply Eq.trans); (exact z_un (by omega)))); first | (with_reducible assumption) | exact z_uq | exact rfl))) | ((with_reducible apply z_u_aR); (first | (with_reducible assumption) | omega); omega; omega; (first | (with_reducible assumption) | exact z_uq | ((repeat ((apply Eq.trans); (exact z_un (by omega)))); first | (with_reducible assumption) | exact z_uq | exact rfl))) | ((with_reducible refine z_u_sI ?_ ?_ ?_ ?_); (first | (with_reducible assumption) | omega); omega; omega) | ((with_reducible apply z_u_al); (first | (with_reducible assumption) | omega); omega; (first | (with_reducible assumption) | exact z_uq | ((repeat ((apply Eq.trans); (exact z_un (by omega)))); first | (with_reducible assumption) | exact z_uq | exact rfl))))
  refine z_u_r ⟨_, rfl, z_frU (z_frU (z_frU (z_frU (z_frW fr1 (by omega) (by omega)) (by omega) (by omega)) (by omega) (by omega)) (by omega) (by omega)) (by omega) (by omega), z_Ln_fr (lo := 279) (hi := 280) V1 (z_frU (z_frU (z_frU (z_frU z_fr0 (by omega) (by omega)) (by omega) (by omega)) (by omega) (by omega)) (by omega) (by omega)) (by omega), ?_, ?_, ?_, ?_, z_uq⟩
  · rw [z_un (by omega), z_un (by omega), z_un (by omega)]; exact z_uq
  · rw [z_un (by omega), z_un (by omega)]; exact z_uq
  · rw [z_un (by omega)]; exact z_uq
  · rw [z_un (by omega), z_un (by omega), z_un (by omega), z_un (by omega), fr1 279 (by omega)]
/-! the next find -/
theorem z_seek2 (LX : z_XL T R t s) (h279 : R 279 1 = t) (wD : z_Dw D) (VT : z_Td I t D) {S : z_S} (W : z_sw D lo hi S) {m : Nat} (V : z_SS I lo hi (z_sit D lo hi S m)) (nr : ∀ j, j < m → ¬ z_sed D lo hi (z_sit D lo hi S j)) (hF : ∀ i, i < S.2.1 → ¬ z_bad D S.1 i) :
    z_W c T J R (k_Search_seek 279 (c, T, I, J, R)) (fun r I' => z_fr 279 351 I I' ∧ ∃ m', m ≤ m' ∧ (r = 1 → m < m') ∧ z_AT D I' lo hi S m' r ∧ ∀ j, m < j → j < m' → ¬ z_sfd hi (z_sit D lo hi S j)) := by
  obtain ⟨w1, w2, w3, w4, -, -, -⟩ := id W
  obtain ⟨⟨i1, i2, i3⟩, -⟩ := z_sit_inv (D := D) w1 (Nat.le_of_lt w2) (by omega) w4 (m := m) nr
  refine z_Wi (z_seek LX h279 wD VT V (by omega) w3 i1 i2 i3 (z_sit_free wD W hF nr)) (fun r I' h => ?_)
  obtain ⟨fr, k, ss, se1, se2, se3⟩ := h
  have ad : ∀ j, z_sit D lo hi (z_sit D lo hi S m) j = z_sit D lo hi S (m + j) := fun j => z_sit_add.symm
  rw [ad] at ss
  refine ⟨fr, m + k, by omega, fun hr => ?_, ⟨ss, fun j hj => ?_, ?_⟩, fun j h1 h2 => ?_⟩
  · rcases se3 with ⟨-, g2, -⟩ | ⟨-, g2⟩
    · omega
    · rw [hr] at g2
      split at g2 <;> omega
  · by_cases h : j < m
    · exact nr j h
    · obtain ⟨j, rfl⟩ : ∃ x, j = m + x := ⟨j - m, by omega⟩
      rw [← ad]
      exact se1 j (by omega)
  · rcases se3 with ⟨g1, -, g3⟩ | ⟨g1, g2⟩
    · rw [ad] at g3
      exact Or.inl ⟨g1, g3⟩
    · rw [ad] at g1 g2
      exact Or.inr ⟨g1, g2⟩
  · obtain ⟨j, rfl⟩ : ∃ x, j = m + x := ⟨j - m, by omega⟩
    rw [← ad]
    exact se2 j (by omega) (by omega)
/-! a search of the class begins: told what is told now, no tries yet -/
theorem z_begun {hn : Nat} (LX : z_XL T R t s) (V : z_Ln I 137 f n) (hf : z_lt4 D f n) (wD : z_Dw D) {m : Nat} (hm : m ≤ n) (t0 : Nat) (e5 : I 279 5 = (t0 : Int)) :
    z_W c T J R (k_Search_begin 279 137 (m : Int) (lo : Int) (hn : Int) (c, T, I, J, R)) (fun _ I' => z_fr 279 351 I I' ∧ ∀ g : Nat → Int, (∀ i, i < m → g i = f i) → z_SS I' lo hn (g, m, 0, t0, m)) := by
  obtain ⟨d1, d2, d3⟩ := z_dA_eq wD
  have n64 := V.2.1
  refine z_Wi (z_begin LX V hm _ _) (fun _ I' h => ?_)
  obtain ⟨fr, V1, g2, g3, g4, g5, g6⟩ := h
  exact ⟨fr, fun g hg => ⟨z_Ln_congr V1 (fun k hk => (hg k hk).symm), g2, g3, g4, by rw [g5]; exact e5, g6, fun i hi => by
    have := hf i (by dsimp only at hi; omega)
    dsimp only
    rw [hg i hi]
    omega, by dsimp only; omega, by dsimp only; omega⟩⟩
set_option maxRecDepth 20000 in
theorem z_firstUnlike {a b n1 n2 : Nat} {g : Nat → Int} (La : z_LnL T R a) (Lb : z_LnL T R b) (Va : z_Ln I a f n1) (Vb : z_Ln I b g n2) (hn : n1 ≤ n2) :
    k_Line_firstUnlike a b (c, T, I, J, R) = some (if z_fo (fun i => f i ≠ g i) n1 = n1 then -1 else (z_fo (fun i => f i ≠ g i) n1 : Int), (c, T, I, J, R)) := by
  have v1 := Va.1
  have ka := La.1.1
  have kb := Lb.1.1
  have n64 := Va.2.1
  refine z_Uq ?_
  unfold k_Line_firstUnlike
  repeat' (first | ((with_reducible refine z_u_lt ?_)) | ((with_reducible refine z_u_ck ?_ ?_ ?_); omega; omega) | ((with_reducible refine z_u_ib (fun _ => ?_) (fun _ => ?_))) | ((with_reducible refine z_u_in (fun _ => ?_) (fun _ => ?_))) | ((with_reducible refine z_u_t ?_ ?_); omega) | ((with_reducible refine z_u_f ?_ ?_); omega) | ((with_reducible refine z_u_ni (fun _ => ?_) (fun _ => ?_))) | ((with_reducible refine z_u_if (fun _ => ?_) (fun _ => ?_))) | ((with_reducible refine z_u_zb ?_)) | ((with_reducible refine z_u_zz ?_ ?_); omega) | ((with_reducible refine z_u_jn ?_)) | ((with_reducible refine z_u_n0 ?_)) | ((with_reducible refine z_u_nS ?_ ?_); omega) | ((with_reducible refine z_u_dv ?_ ?_ ?_); omega; omega) | ((with_reducible refine z_u_rm ?_ ?_ ?_); omega; omega) | ((with_reducible refine z_u_ob ?_ ?_); (first | (with_reducible assumption) | omega)) | ((with_reducible apply z_u_gI); (first | (with_reducible assumption) | omega); (first | (with_reducible assumption) | exact z_uq | ((repeat ((apply Eq.trans); (exact z_un (by omega)))); first | (with_reducible assumption) | exact z_uq | exact rfl))) | ((with_reducible apply z_u_gR); (first | (with_reducible assumption) | omega); (first | (with_reducible assumption) | exact z_uq | ((repeat ((apply Eq.trans); (exact z_un (by omega)))); first | (with_reducible assumption) | exact z_uq | exact rfl))) | ((with_reducible refine z_u_pI ?_ ?_); (first | (with_reducible assumption) | omega)) | ((with_reducible refine z_u_pZ ?_ ?_ ?_); (first | (with_reducible assumption) | omega); omega) | ((with_reducible apply z_u_aI); (first | (with_reducible assumption) | omega); omega; omega; (first | (with_reducible assumption) | exact z_uq | ((repeat ((apply Eq.trans); (exact z_un (by omega)))); first | (with_reducible assumption) | exact z_uq | exact rfl))) | ((with_reducible apply z_u_aR); (first | (with_reducible assumption) | omega); omega; omega; (first | (with_reducible assumption) | exact z_uq | ((repeat ((apply Eq.trans); (exact z_un (by omega)))); first | (with_reducible assumption) | exact z_uq | exact rfl))) | ((with_reducible refine z_u_sI ?_ ?_ ?_ ?_); (first | (with_reducible assumption) | omega); omega; omega) | ((with_reducible apply z_u_al); (first | (with_reducible assumption) | omega); omega; (first | (with_reducible assumption) | exact z_uq | ((repeat ((apply Eq.trans); (exact z_un (by omega)))); first | (with_reducible assumption) | exact z_uq | exact rfl))))
  refine z_f1 (fun d w I' => I' = I ∧ ∃ k : Nat, w = (k : Int) ∧ k + d = n1 ∧ ∀ j, j < k → f j = g j) ?_ n1 (by omega) ⟨rfl, 0, rfl, by omega, fun j h => absurd h (by omega)⟩
  rintro d fu w I' ⟨rfl, k, rfl, hkd, hal⟩ ih
  rw [lp_Line_firstUnlike_2]
  by_cases hk : k < n1
  · have A1 := z_Line_at (c := c) (J := J) La Va (k : Int)
    have A2 := z_Line_at (c := c) (J := J) Lb Vb (k : Int)
    rw [z_at_in (k := k) rfl hk] at A1
    rw [z_at_in (k := k) rfl (by omega)] at A2
    by_cases e : f k = g k
    · repeat' (first | ((with_reducible apply z_u_e); (with_reducible refine A1)) | ((with_reducible apply z_u_e); (with_reducible refine A2)) | ((with_reducible refine z_u_lt ?_)) | ((with_reducible refine z_u_ck ?_ ?_ ?_); omega; omega) | ((with_reducible refine z_u_ib (fun _ => ?_) (fun _ => ?_))) | ((with_reducible refine z_u_in (fun _ => ?_) (fun _ => ?_))) | ((with_reducible refine z_u_t ?_ ?_); omega) | ((with_reducible refine z_u_f ?_ ?_); omega) | ((with_reducible refine z_u_ni (fun _ => ?_) (fun _ => ?_))) | ((with_reducible refine z_u_if (fun _ => ?_) (fun _ => ?_))) | ((with_reducible refine z_u_zb ?_)) | ((with_reducible refine z_u_zz ?_ ?_); omega) | ((with_reducible refine z_u_jn ?_)) | ((with_reducible refine z_u_n0 ?_)) | ((with_reducible refine z_u_nS ?_ ?_); omega) | ((with_reducible refine z_u_dv ?_ ?_ ?_); omega; omega) | ((with_reducible refine z_u_rm ?_ ?_ ?_); omega; omega) | ((with_reducible refine z_u_ob ?_ ?_); (first | (with_reducible assumption) | omega)) | ((with_reducible apply z_u_gI); (first | (with_reducible assumption) | omega); (first | (with_reducible assumption) | exact z_uq | ((repeat ((apply Eq.trans); (exact z_un (by omega)))); first | (with_reducible assumption) | exact z_uq | exact rfl))) | ((with_reducible apply z_u_gR); (first | (with_reducible assumption) | omega); (first | (with_reducible assumption) | exact z_uq | ((repeat ((apply Eq.trans); (exact z_un (by omega)))); first | (with_reducible assumption) | exact z_uq | exact rfl))) | ((with_reducible refine z_u_pI ?_ ?_); (first | (with_reducible assumption) | omega)) | ((with_reducible refine z_u_pZ ?_ ?_ ?_); (first | (with_reducible assumption) | omega); omega) | ((with_reducible apply z_u_aI); (first | (with_reducible assumption) | omega); omega; omega; (first | (with_reducible assumption) | exact z_uq | ((repeat ((apply Eq.trans); (exact z_un (by omega)))); first | (with_reducible assumption) | exact z_uq | exact rfl))) | ((with_reducible apply z_u_aR); (first | (with_reducible assumption) | omega); omega; omega; (first | (with_reducible assumption) | exact z_uq | ((repeat ((apply Eq.trans); (exact z_un (by omega)))); first | (with_reducible assumption) | exact z_uq | exact rfl))) | ((with_reducible refine z_u_sI ?_ ?_ ?_ ?_); (first | (with_reducible assumption) | omega); omega; omega) | ((with_reducible apply z_u_al); (first | (with_reducible assumption) | omega); omega; (first | (with_reducible assumption) | exact z_uq | ((repeat ((apply Eq.trans); (exact z_un (by omega)))); first | (with_reducible assumption) | exact z_uq | exact rfl))))
      exact ih (d - 1) _ _ (by omega) ⟨rfl, k + 1, by omega, by omega, fun j hj => by
        by_cases hjk : j = k
        · rw [hjk]; exact e
        · exact hal j (by omega)⟩
    · have fo : z_fo (fun i => f i ≠ g i) n1 = k := z_fo_eq (by omega) (fun i hi h => h (hal i hi)) (fun _ => e)
      repeat' (first | ((with_reducible apply z_u_e); (with_reducible refine A1)) | ((with_reducible apply z_u_e); (with_reducible refine A2)) | ((with_reducible refine z_u_lt ?_)) | ((with_reducible refine z_u_ck ?_ ?_ ?_); omega; omega) | ((with_reducible refine z_u_ib (fun _ => ?_) (fun _ => ?_))) | ((with_reducible refine z_u_in (fun _ => ?_) (fun _ => ?_))) | ((with_reducible refine z_u_t ?_ ?_); omega) | ((with_reducible refine z_u_f ?_ ?_); omega) | ((with_reducible refine z_u_ni (fun _ => ?_) (fun _ => ?_))) | ((with_reducible refine z_u_if (fun _ => ?_) (fun _ => ?_))) | ((with_reducible refine z_u_zb ?_)) | ((with_reducible refine z_u_zz ?_ ?_); omega) | ((with_reducible refine z_u_jn ?_)) | ((with_reducible refine z_u_n0 ?_)) | ((with_reducible refine z_u_nS ?_ ?_); omega) | ((with_reducible refine z_u_dv ?_ ?_ ?_); omega; omega) | ((with_reducible refine z_u_rm ?_ ?_ ?_); omega; omega) | ((with_reducible refine z_u_ob ?_ ?_); (first | (with_reducible assumption) | omega)) | ((with_reducible apply z_u_gI); (first | (with_reducible assumption) | omega); (first | (with_reducible assumption) | exact z_uq | ((repeat ((apply Eq.trans); (exact z_un (by omega)))); first | (with_reducible assumption) | exact z_uq | exact rfl))) | ((with_reducible apply z_u_gR); (first | (with_reducible assumption) | omega); (first | (with_reducible assumption) | exact z_uq | ((repeat ((apply Eq.trans); (exact z_un (by omega)))); first | (with_reducible assumption) | exact z_uq | exact rfl))) | ((with_reducible refine z_u_pI ?_ ?_); (first | (with_reducible assumption) | omega)) | ((with_reducible refine z_u_pZ ?_ ?_ ?_); (first | (with_reducible assumption) | omega); omega) | ((with_reducible apply z_u_aI); (first | (with_reducible assumption) | omega); omega; omega; (first | (with_reducible assumption) | exact z_uq | ((repeat ((apply Eq.trans); (exact z_un (by omega)))); first | (with_reducible assumption) | exact z_uq | exact rfl))) | ((with_reducible apply z_u_aR); (first | (with_reducible assumption) | omega); omega; omega; (first | (with_reducible assumption) | exact z_uq | ((repeat ((apply Eq.trans); (exact z_un (by omega)))); first | (with_reducible assumption) | exact z_uq | exact rfl))) | ((with_reducible refine z_u_sI ?_ ?_ ?_ ?_); (first | (with_reducible assumption) | omega); omega; omega) | ((with_reducible apply z_u_al); (first | (with_reducible assumption) | omega); omega; (first | (with_reducible assumption) | exact z_uq | ((repeat ((apply Eq.trans); (exact z_un (by omega)))); first | (with_reducible assumption) | exact z_uq | exact rfl))))
      exact z_u_r ⟨by rw [fo, if_neg (by omega)], rfl⟩
  · have fo : z_fo (fun i => f i ≠ g i) n1 = n1 := z_fo_eq (Nat.le_refl _) (fun i hi h => h (hal i (by omega))) (fun h => absurd h (by omega))
    repeat' (first | ((with_reducible refine z_u_lt ?_)) | ((with_reducible refine z_u_ck ?_ ?_ ?_); omega; omega) | ((with_reducible refine z_u_ib (fun _ => ?_) (fun _ => ?_))) | ((with_reducible refine z_u_in (fun _ => ?_) (fun _ => ?_))) | ((with_reducible refine z_u_t ?_ ?_); omega) | ((with_reducible refine z_u_f ?_ ?_); omega) | ((with_reducible refine z_u_ni (fun _ => ?_) (fun _ => ?_))) | ((with_reducible refine z_u_if (fun _ => ?_) (fun _ => ?_))) | ((with_reducible refine z_u_zb ?_)) | ((with_reducible refine z_u_zz ?_ ?_); omega) | ((with_reducible refine z_u_jn ?_)) | ((with_reducible refine z_u_n0 ?_)) | ((with_reducible refine z_u_nS ?_ ?_); omega) | ((with_reducible refine z_u_dv ?_ ?_ ?_); omega; omega) | ((with_reducible refine z_u_rm ?_ ?_ ?_); omega; omega) | ((with_reducible refine z_u_ob ?_ ?_); (first | (with_reducible assumption) | omega)) | ((with_reducible apply z_u_gI); (first | (with_reducible assumption) | omega); (first | (with_reducible assumption) | exact z_uq | ((repeat ((apply Eq.trans); (exact z_un (by omega)))); first | (with_reducible assumption) | exact z_uq | exact rfl))) | ((with_reducible apply z_u_gR); (first | (with_reducible assumption) | omega); (first | (with_reducible assumption) | exact z_uq | ((repeat ((apply Eq.trans); (exact z_un (by omega)))); first | (with_reducible assumption) | exact z_uq | exact rfl))) | ((with_reducible refine z_u_pI ?_ ?_); (first | (with_reducible assumption) | omega)) | ((with_reducible refine z_u_pZ ?_ ?_ ?_); (first | (with_reducible assumption) | omega); omega) | ((with_reducible apply z_u_aI); (first | (with_reducible assumption) | omega); omega; omega; (first | (with_reducible assumption) | exact z_uq | ((repeat ((apply Eq.trans); (exact z_un (by omega)))); first | (with_reducible assumption) | exact z_uq | exact rfl))) | ((with_reducible apply z_u_aR); (first | (with_reducible assumption) | omega); omega; omega; (first | (with_reducible assumption) | exact z_uq | ((repeat ((apply Eq.trans); (exact z_un (by omega)))); first | (with_reducible assumption) | exact z_uq | exact rfl))) | ((with_reducible refine z_u_sI ?_ ?_ ?_ ?_); (first | (with_reducible assumption) | omega); omega; omega) | ((with_reducible apply z_u_al); (first | (with_reducible assumption) | omega); omega; (first | (with_reducible assumption) | exact z_uq | ((repeat ((apply Eq.trans); (exact z_un (by omega)))); first | (with_reducible assumption) | exact z_uq | exact rfl))))
    exact z_u_r ⟨by rw [fo, if_pos rfl], rfl⟩
/-! whether the trial is ahead of the word -/
set_option maxRecDepth 20000 in
theorem z_isAheadOf (LX : z_XL T R t s) {g : Nat → Int} (Va : z_Ln I 280 g n) (Vb : z_Ln I 137 f n) : k_Line_isAheadOf 280 137 (c, T, I, J, R) = some (z_b (z_ah f g n), (c, T, I, J, R)) := by
  have La := z_xL280 LX
  have Lb := z_xL137 LX
  have k280 := z_xk280 LX
  have k137 := z_xk137 LX
  have FU := z_firstUnlike (c := c) (J := J) La Lb Va Vb (Nat.le_refl n)
  obtain ⟨o1, o2, o3⟩ := z_fo_spec (b := fun i => g i ≠ f i) (n := n)
  revert FU o1 o2 o3
  generalize z_fo (fun i => g i ≠ f i) n = k
  intro FU o1 o2 o3
  refine z_Uq ?_
  unfold k_Line_isAheadOf
  by_cases hk : k = n
  · rw [if_pos hk] at FU
    repeat' (first | ((with_reducible apply z_u_e); (with_reducible refine FU)) | ((with_reducible refine z_u_lt ?_)) | ((with_reducible refine z_u_ck ?_ ?_ ?_); omega; omega) | ((with_reducible refine z_u_ib (fun _ => ?_) (fun _ => ?_))) | ((with_reducible refine z_u_in (fun _ => ?_) (fun _ => ?_))) | ((with_reducible refine z_u_t ?_ ?_); omega) | ((with_reducible refine z_u_f ?_ ?_); omega) | ((with_reducible refine z_u_ni (fun _ => ?_) (fun _ => ?_))) | ((with_reducible refine z_u_if (fun _ => ?_) (fun _ => ?_))) | ((with_reducible refine z_u_zb ?_)) | ((with_reducible refine z_u_zz ?_ ?_); omega) | ((with_reducible refine z_u_jn ?_)) | ((with_reducible refine z_u_n0 ?_)) | ((with_reducible refine z_u_nS ?_ ?_); omega) | ((with_reducible refine z_u_dv ?_ ?_ ?_); omega; omega) | ((with_reducible refine z_u_rm ?_ ?_ ?_); omega; omega) | ((with_reducible refine z_u_ob ?_ ?_); (first | (with_reducible assumption) | omega)) | ((with_reducible apply z_u_gI); (first | (with_reducible assumption) | omega); (first | (with_reducible assumption) | exact z_uq | ((repeat ((apply Eq.trans); (exact z_un (by omega)))); first | (with_reducible assumption) | exact z_uq | exact rfl))) | ((with_reducible apply z_u_gR); (first | (with_reducible assumption) | omega); (first | (with_reducible assumption) | exact z_uq | ((repeat ((apply Eq.trans); (exact z_un (by omega)))); first | (with_reducible assumption) | exact z_uq | exact rfl))) | ((with_reducible refine z_u_pI ?_ ?_); (first | (with_reducible assumption) | omega)) | ((with_reducible refine z_u_pZ ?_ ?_ ?_); (first | (with_reducible assumption) | omega); omega) | ((with_reducible apply z_u_aI); (first | (with_reducible assumption) | omega); omega; omega; (first | (with_reducible assumption) | exact z_uq | ((repeat ((apply Eq.trans); (exact z_un (by omega)))); first | (with_reducible assumption) | exact z_uq | exact rfl))) | ((with_reducible apply z_u_aR); (first | (with_reducible assumption) | omega); omega; omega; (first | (with_reducible assumption) | exact z_uq | ((repeat ((apply Eq.trans); (exact z_un (by omega)))); first | (with_reducible assumption) | exact z_uq | exact rfl))) | ((with_reducible refine z_u_sI ?_ ?_ ?_ ?_); (first | (with_reducible assumption) | omega); omega; omega) | ((with_reducible apply z_u_al); (first | (with_reducible assumption) | omega); omega; (first | (with_reducible assumption) | exact z_uq | ((repeat ((apply Eq.trans); (exact z_un (by omega)))); first | (with_reducible assumption) | exact z_uq | exact rfl))))
    refine z_u_r ⟨(z_bf ?_).symm, rfl⟩
    rintro ⟨i, i1, i2, i3⟩
    have := o2 i (by omega)
    omega
  · rw [if_neg hk] at FU
    have A1 := z_Line_at (c := c) (J := J) La Va (k : Int)
    have A2 := z_Line_at (c := c) (J := J) Lb Vb (k : Int)
    rw [z_at_in (k := k) rfl (by omega)] at A1
    rw [z_at_in (k := k) rfl (by omega)] at A2
    have ne := o3 (by omega)
    have al : ∀ j, j < k → g j = f j := fun j hj => Classical.byContradiction (o2 j hj)
    by_cases hlt : g k < f k
    · repeat' (first | ((with_reducible apply z_u_e); (with_reducible refine FU)) | ((with_reducible apply z_u_e); (with_reducible refine A1)) | ((with_reducible apply z_u_e); (with_reducible refine A2)) | ((with_reducible refine z_u_lt ?_)) | ((with_reducible refine z_u_ck ?_ ?_ ?_); omega; omega) | ((with_reducible refine z_u_ib (fun _ => ?_) (fun _ => ?_))) | ((with_reducible refine z_u_in (fun _ => ?_) (fun _ => ?_))) | ((with_reducible refine z_u_t ?_ ?_); omega) | ((with_reducible refine z_u_f ?_ ?_); omega) | ((with_reducible refine z_u_ni (fun _ => ?_) (fun _ => ?_))) | ((with_reducible refine z_u_if (fun _ => ?_) (fun _ => ?_))) | ((with_reducible refine z_u_zb ?_)) | ((with_reducible refine z_u_zz ?_ ?_); omega) | ((with_reducible refine z_u_jn ?_)) | ((with_reducible refine z_u_n0 ?_)) | ((with_reducible refine z_u_nS ?_ ?_); omega) | ((with_reducible refine z_u_dv ?_ ?_ ?_); omega; omega) | ((with_reducible refine z_u_rm ?_ ?_ ?_); omega; omega) | ((with_reducible refine z_u_ob ?_ ?_); (first | (with_reducible assumption) | omega)) | ((with_reducible apply z_u_gI); (first | (with_reducible assumption) | omega); (first | (with_reducible assumption) | exact z_uq | ((repeat ((apply Eq.trans); (exact z_un (by omega)))); first | (with_reducible assumption) | exact z_uq | exact rfl))) | ((with_reducible apply z_u_gR); (first | (with_reducible assumption) | omega); (first | (with_reducible assumption) | exact z_uq | ((repeat ((apply Eq.trans); (exact z_un (by omega)))); first | (with_reducible assumption) | exact z_uq | exact rfl))) | ((with_reducible refine z_u_pI ?_ ?_); (first | (with_reducible assumption) | omega)) | ((with_reducible refine z_u_pZ ?_ ?_ ?_); (first | (with_reducible assumption) | omega); omega) | ((with_reducible apply z_u_aI); (first | (with_reducible assumption) | omega); omega; omega; (first | (with_reducible assumption) | exact z_uq | ((repeat ((apply Eq.trans); (exact z_un (by omega)))); first | (with_reducible assumption) | exact z_uq | exact rfl))) | ((with_reducible apply z_u_aR); (first | (with_reducible assumption) | omega); omega; omega; (first | (with_reducible assumption) | exact z_uq | ((repeat ((apply Eq.trans); (exact z_un (by omega)))); first | (with_reducible assumption) | exact z_uq | exact rfl))) | ((with_reducible refine z_u_sI ?_ ?_ ?_ ?_); (first | (with_reducible assumption) | omega); omega; omega) | ((with_reducible apply z_u_al); (first | (with_reducible assumption) | omega); omega; (first | (with_reducible assumption) | exact z_uq | ((repeat ((apply Eq.trans); (exact z_un (by omega)))); first | (with_reducible assumption) | exact z_uq | exact rfl))))
      exact z_u_r ⟨(z_bt ⟨k, by omega, al, hlt⟩).symm, rfl⟩
    · repeat' (first | ((with_reducible apply z_u_e); (with_reducible refine FU)) | ((with_reducible apply z_u_e); (with_reducible refine A1)) | ((with_reducible apply z_u_e); (with_reducible refine A2)) | ((with_reducible refine z_u_lt ?_)) | ((with_reducible refine z_u_ck ?_ ?_ ?_); omega; omega) | ((with_reducible refine z_u_ib (fun _ => ?_) (fun _ => ?_))) | ((with_reducible refine z_u_in (fun _ => ?_) (fun _ => ?_))) | ((with_reducible refine z_u_t ?_ ?_); omega) | ((with_reducible refine z_u_f ?_ ?_); omega) | ((with_reducible refine z_u_ni (fun _ => ?_) (fun _ => ?_))) | ((with_reducible refine z_u_if (fun _ => ?_) (fun _ => ?_))) | ((with_reducible refine z_u_zb ?_)) | ((with_reducible refine z_u_zz ?_ ?_); omega) | ((with_reducible refine z_u_jn ?_)) | ((with_reducible refine z_u_n0 ?_)) | ((with_reducible refine z_u_nS ?_ ?_); omega) | ((with_reducible refine z_u_dv ?_ ?_ ?_); omega; omega) | ((with_reducible refine z_u_rm ?_ ?_ ?_); omega; omega) | ((with_reducible refine z_u_ob ?_ ?_); (first | (with_reducible assumption) | omega)) | ((with_reducible apply z_u_gI); (first | (with_reducible assumption) | omega); (first | (with_reducible assumption) | exact z_uq | ((repeat ((apply Eq.trans); (exact z_un (by omega)))); first | (with_reducible assumption) | exact z_uq | exact rfl))) | ((with_reducible apply z_u_gR); (first | (with_reducible assumption) | omega); (first | (with_reducible assumption) | exact z_uq | ((repeat ((apply Eq.trans); (exact z_un (by omega)))); first | (with_reducible assumption) | exact z_uq | exact rfl))) | ((with_reducible refine z_u_pI ?_ ?_); (first | (with_reducible assumption) | omega)) | ((with_reducible refine z_u_pZ ?_ ?_ ?_); (first | (with_reducible assumption) | omega); omega) | ((with_reducible apply z_u_aI); (first | (with_reducible assumption) | omega); omega; omega; (first | (with_reducible assumption) | exact z_uq | ((repeat ((apply Eq.trans); (exact z_un (by omega)))); first | (with_reducible assumption) | exact z_uq | exact rfl))) | ((with_reducible apply z_u_aR); (first | (with_reducible assumption) | omega); omega; omega; (first | (with_reducible assumption) | exact z_uq | ((repeat ((apply Eq.trans); (exact z_un (by omega)))); first | (with_reducible assumption) | exact z_uq | exact rfl))) | ((with_reducible refine z_u_sI ?_ ?_ ?_ ?_); (first | (with_reducible assumption) | omega); omega; omega) | ((with_reducible apply z_u_al); (first | (with_reducible assumption) | omega); omega; (first | (with_reducible assumption) | exact z_uq | ((repeat ((apply Eq.trans); (exact z_un (by omega)))); first | (with_reducible assumption) | exact z_uq | exact rfl))))
      refine z_u_r ⟨(z_bf ?_).symm, rfl⟩
      rintro ⟨i, i1, i2, i3⟩
      rcases Nat.lt_trichotomy i k with h | h | h
      · have := al i h; omega
      · subst h; exact hlt i3
      · exact ne (i2 k h)
end XSea
