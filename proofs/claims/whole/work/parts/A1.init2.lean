/-! THE CONSTRUCTORS: the whole class, the whole model. -/
section Init2
variable {T : z_Ty} {I : z_Is} {J : z_Js} {R : z_Rs} {N se a : Nat}
theorem z_i_Reader {se : Nat} (hT : z_tk T 21 = 9) : z_U (k_Reader_init 21 ((2, 2, se), T, I, J, R)) (fun _ M' => ∃ T' I' J' R', M' = ((4, 4, se + 402), T', I', J', R') ∧ z_low 21 T T' I I' J J' R R' ∧ T' 21 = T 21 ∧ (z_tk T' 22 = 17 ∧ z_tk T' 23 = 0 ∧ z_ln T' 23 = 400 ∧ R' 21 0 = 22 ∧ R' 22 0 = 23) ∧ I' 22 1 = 0 ∧ I' 21 2 = -1) := by
  unfold k_Reader_init
  refine z_u_ob hT ?_
  refine z_u_nw (a1 := 22) (by omega) ?_
  refine z_u_ob (by rw [z_tk_l]) ?_
  have TI : ∀ (T1 : z_Ty) (I1 : z_Is) (J1 : z_Js) (R1 : z_Rs) (se1 : Nat), z_tk T1 22 = 17 → k_Tape_init 22 ((3, 3, se1), T1, I1, J1, R1) = some ((), ((4, 4, se1 + 400), mm_row T1 23 (.inr (0, 400)), mm_up (mm_row I1 23 (fun _ => 0)) 22 1 0, mm_row J1 23 (fun _ => 0), mm_up (mm_row R1 23 (fun _ => 0)) 22 0 23)) := fun T1 I1 J1 R1 se1 h => by
    refine z_Uq ?_
    unfold k_Tape_init
    refine z_u_ob h ?_
    refine z_u_na (a1 := 23) (n := 400) (by omega) rfl (by omega) ?_
    refine z_u_pR (by rw [z_tk_r (by omega)]; exact h) ?_
    refine z_u_pI (by rw [z_tk_r (by omega)]; exact h) ?_
    exact z_u_r ⟨rfl, rfl⟩
  refine z_u_e (TI _ _ _ _ _ (by rw [z_tk_l])) ?_
  have ta : z_tk (mm_row (mm_row T 22 (.inl 8)) 23 (.inr (0, 400))) 21 = 9 := by rw [z_tk_r (by omega), z_tk_r (by omega)]; exact hT
  refine z_u_pR ta ?_
  refine z_u_pI ta ?_
  refine z_u_pI ta ?_
  refine z_u_pI ta ?_
  refine z_u_pI ta ?_
  refine z_u_r ⟨_, _, _, _, rfl, fun b hb => ⟨?_, ?_, ?_, ?_⟩, ?_, ⟨?_, ?_, ?_, ?_, ?_⟩, ?_, ?_⟩
  all_goals (simp (disch := omega) only [z_tk_r, z_tk_l, z_tk_a, z_ln_r, z_ln_a, z_un, z_uq, z_ur, mm_row_n, mm_row_e])
theorem z_i_Search (ha : 20 + N = 280) (hT : z_tk T 279 = 11) : z_U (k_Search_init 279 ((N, N, se), T, I, J, R)) (fun _ M' => ∃ T' I' J' R', M' = ((N + 71, N + 71, se + 4301), T', I', J', R') ∧ z_low 279 T T' I I' J J' R R' ∧ T' 279 = T 279 ∧ R' 279 0 = 280 ∧ z_LnL T' R' 280) := by
  unfold k_Search_init
  refine z_u_ob hT ?_
  refine z_u_nw (a1 := 280) (by omega) ?_
  refine z_u_ob (by rw [z_tk_l]) ?_
  refine z_u_c (z_i_Line (by omega) (by rw [z_tk_l])) (fun _ M1 h1 => ?_)
  obtain ⟨T1, I1, J1, R1, rfl, lo1, t1, S1, -⟩ := h1
  have ta : z_tk T1 279 = 11 := by rw [z_tk_c (lo1 279 (by omega)).1, z_tk_r (by omega)]; exact hT
  refine z_u_pR ta ?_
  refine z_u_pR ta ?_
  refine z_u_pI ta ?_
  refine z_u_pI ta ?_
  refine z_u_pI ta ?_
  refine z_u_pI ta ?_
  refine z_u_pI ta ?_
  refine z_u_r ⟨T1, _, J1, mm_up (mm_up R1 279 0 280) 279 1 0, z_c3e (by omega) (by omega) (by omega), fun b hb => ⟨?_, ?_, ?_, ?_⟩, ?_, ?_, z_LnL_c S1 (fun b h1 h2 => ⟨rfl, by rw [z_ur (by omega), z_ur (by omega)]⟩)⟩
  · rw [(lo1 b (by omega)).1, mm_row_n (by omega)]
  · rw [z_ur (by omega), z_ur (by omega), z_ur (by omega), z_ur (by omega), z_ur (by omega), (lo1 b (by omega)).2.1, mm_row_n (by omega)]
  · rw [(lo1 b (by omega)).2.2.1, mm_row_n (by omega)]
  · rw [z_ur (by omega), z_ur (by omega), (lo1 b (by omega)).2.2.2, mm_row_n (by omega)]
  · rw [(lo1 279 (by omega)).1, mm_row_n (by omega)]
  · rw [z_un (by omega)]; exact z_uq
theorem z_i_Acts (ha : 20 + N = 352) (hT : z_tk T 351 = 1) : z_U (k_Acts_init 351 ((N, N, se), T, I, J, R)) (fun _ M' => ∃ T' I' J' R', M' = ((N + 12, N + 12, se + 660), T', I', J', R') ∧ z_low 351 T T' I I' J J' R R' ∧ T' 351 = T 351 ∧ (z_tk T' 352 = 8 ∧ z_ln T' 352 = 10 ∧ z_tk T' 363 = 0 ∧ z_ln T' 363 = 10 ∧ R' 351 0 = 352 ∧ R' 351 1 = 363 ∧ ∀ i, i < 10 → R' 352 i = 353 + i ∧ z_tk T' (353 + i) = 0 ∧ z_ln T' (353 + i) = 64) ∧ I' 351 2 = 0 ∧ I' 351 3 = 0) := by
  unfold k_Acts_init
  refine z_u_ob hT ?_
  refine z_u_nm (a1 := 352) (n := 10) (k := 64) (by omega) rfl rfl (by omega) (by omega) ?_
  refine z_u_pR (by rw [z_tk_c (z_tyMn (by omega))]; exact hT) ?_
  refine z_u_na (a1 := 363) (n := 10) (by omega) rfl (by omega) ?_
  have ta : z_tk (mm_row (z_tyM T 352 4 0 10 64) 363 (.inr (0, 10))) 351 = 1 := by rw [z_tk_r (by omega), z_tk_c (z_tyMn (by omega))]; exact hT
  refine z_u_pR ta ?_
  refine z_u_pI ta ?_
  refine z_u_pI ta ?_
  refine z_u_r ⟨_, _, _, _, rfl, fun b hb => ⟨?_, ?_, ?_, ?_⟩, ?_, ⟨?_, ?_, ?_, ?_, ?_, ?_, fun i hi => ⟨?_, ?_, ?_⟩⟩, ?_, ?_⟩
  · rw [mm_row_n (by omega), z_tyMn (by omega)]
  · rw [z_ur (by omega), z_ur (by omega), mm_row_n (by omega), z_zmn (by omega)]
  · rw [mm_row_n (by omega), z_zmn (by omega)]
  · rw [z_ur (by omega), mm_row_n (by omega), z_ur (by omega), z_rmn (by omega)]
  · rw [mm_row_n (by omega), z_tyMn (by omega)]
  · rw [z_tk_r (by omega)]; exact z_tyM0.1
  · rw [z_ln_r (by omega)]; exact z_tyM0.2
  · rw [z_tk_a]
  · rw [z_ln_a]
  · rw [z_un (by omega), mm_row_n (by omega)]; exact z_uq
  · exact z_uq
  · rw [z_ur (by omega), mm_row_n (by omega), z_ur (by omega), z_rm0 hi]
  · rw [z_tk_r (by omega)]; exact (z_tyM1 (by omega)).1
  · rw [z_ln_r (by omega)]; exact (z_tyM1 (by omega)).2
  · rw [z_un (by omega)]; exact z_uq
  · exact z_uq
theorem z_i_X (hT : z_tk T 20 = 21) : z_U (k_X_init 20 ((1, 1, se), T, I, J, R)) (fun _ M' => ∃ T' I' J' R', M' = ((359, 359, se + 14647), T', I', J', R') ∧ (z_low 20 T T' I I' J J' R R' ∧ T' 20 = T 20) ∧ z_XL T' R' 24 79 ∧ z_RX I' 24 (z_set (fun _ => 0) 0 2) (fun _ => 0) 0 (fun _ => 0) 0 (-1) (fun _ => (fun _ => 0, 0)) 0) := by
  have q0 : z_tk T 20 = 21 := hT
  unfold k_X_init
  refine z_u_ob hT ?_
  refine z_u_nw (a1 := 21) (by omega) ?_
  refine z_u_ob (by rw [z_tk_l]) ?_
  refine z_u_c (z_i_Reader (by rw [z_tk_l])) (fun _ M1 h1 => ?_)
  obtain ⟨T1, I1, J1, S1, rfl, lo1, t1, g1⟩ := h1
  have q1 : z_tk T1 20 = 21 := by rw [z_tk_c (lo1 20 (by omega)).1, z_tk_r (by omega)]; exact q0
  refine z_u_pR q1 ?_
  obtain ⟨R1, hR1⟩ : ∃ R1, R1 = mm_up S1 20 0 21 := ⟨_, rfl⟩
  rw [← hR1]
  have F1 : ∀ b, b ≠ 20 → b < 21 → T1 b = T b ∧ I1 b = I b ∧ R1 b = R b := fun b h1 h2 => ⟨(lo1 b h2).1.trans (mm_row_n (by omega)), (lo1 b h2).2.1.trans (mm_row_n (by omega)), by rw [hR1, z_ur h1]; exact (lo1 b h2).2.2.2.trans (mm_row_n (by omega))⟩
  have B1 : ∀ b, b < 20 → T1 b = T b ∧ I1 b = I b ∧ J1 b = J b ∧ R1 b = R b := fun b h2 => ⟨(lo1 b (by omega)).1.trans (mm_row_n (by omega)), (lo1 b (by omega)).2.1.trans (mm_row_n (by omega)), (lo1 b (by omega)).2.2.1.trans (mm_row_n (by omega)), by rw [hR1, z_ur (by omega)]; exact (lo1 b (by omega)).2.2.2.trans (mm_row_n (by omega))⟩
  have E1 : T1 20 = T 20 ∧ ∀ j, j ≠ 0 → R1 20 j = R 20 j := ⟨(lo1 20 (by omega)).1.trans (mm_row_n (by omega)), fun j hj => by rw [hR1, z_un (by omega), (lo1 20 (by omega)).2.2.2, mm_row_n (by omega)]⟩
  have U1 : R1 20 0 = 21 := by rw [hR1]; exact z_uq
  refine z_u_nw (a1 := 24) (by omega) ?_
  refine z_u_ob (by rw [z_tk_l]) ?_
  refine z_u_c (z_i_Told (by omega) (by rw [z_tk_l])) (fun _ M2 h2 => ?_)
  obtain ⟨T2, I2, J2, S2, rfl, lo2, t2, g2⟩ := h2
  have q2 : z_tk T2 20 = 21 := by rw [z_tk_c (lo2 20 (by omega)).1, z_tk_r (by omega)]; exact q1
  refine z_u_pR q2 ?_
  obtain ⟨R2, hR2⟩ : ∃ R2, R2 = mm_up S2 20 1 24 := ⟨_, rfl⟩
  rw [← hR2]
  have F2 : ∀ b, b ≠ 20 → b < 24 → T2 b = T1 b ∧ I2 b = I1 b ∧ R2 b = R1 b := fun b h1 h2 => ⟨(lo2 b h2).1.trans (mm_row_n (by omega)), (lo2 b h2).2.1.trans (mm_row_n (by omega)), by rw [hR2, z_ur h1]; exact (lo2 b h2).2.2.2.trans (mm_row_n (by omega))⟩
  have B2 : ∀ b, b < 20 → T2 b = T1 b ∧ I2 b = I1 b ∧ J2 b = J1 b ∧ R2 b = R1 b := fun b h2 => ⟨(lo2 b (by omega)).1.trans (mm_row_n (by omega)), (lo2 b (by omega)).2.1.trans (mm_row_n (by omega)), (lo2 b (by omega)).2.2.1.trans (mm_row_n (by omega)), by rw [hR2, z_ur (by omega)]; exact (lo2 b (by omega)).2.2.2.trans (mm_row_n (by omega))⟩
  have E2 : T2 20 = T1 20 ∧ ∀ j, j ≠ 1 → R2 20 j = R1 20 j := ⟨(lo2 20 (by omega)).1.trans (mm_row_n (by omega)), fun j hj => by rw [hR2, z_un (by omega), (lo2 20 (by omega)).2.2.2, mm_row_n (by omega)]⟩
  have U2 : R2 20 1 = 24 := by rw [hR2]; exact z_uq
  refine z_u_nw (a1 := 79) (by omega) ?_
  refine z_u_ob (by rw [z_tk_l]) ?_
  refine z_u_c (z_i_Told (by omega) (by rw [z_tk_l])) (fun _ M3 h3 => ?_)
  obtain ⟨T3, I3, J3, S3, rfl, lo3, t3, g3⟩ := h3
  have q3 : z_tk T3 20 = 21 := by rw [z_tk_c (lo3 20 (by omega)).1, z_tk_r (by omega)]; exact q2
  refine z_u_pR q3 ?_
  obtain ⟨R3, hR3⟩ : ∃ R3, R3 = mm_up S3 20 2 79 := ⟨_, rfl⟩
  rw [← hR3]
  have F3 : ∀ b, b ≠ 20 → b < 79 → T3 b = T2 b ∧ I3 b = I2 b ∧ R3 b = R2 b := fun b h1 h2 => ⟨(lo3 b h2).1.trans (mm_row_n (by omega)), (lo3 b h2).2.1.trans (mm_row_n (by omega)), by rw [hR3, z_ur h1]; exact (lo3 b h2).2.2.2.trans (mm_row_n (by omega))⟩
  have B3 : ∀ b, b < 20 → T3 b = T2 b ∧ I3 b = I2 b ∧ J3 b = J2 b ∧ R3 b = R2 b := fun b h2 => ⟨(lo3 b (by omega)).1.trans (mm_row_n (by omega)), (lo3 b (by omega)).2.1.trans (mm_row_n (by omega)), (lo3 b (by omega)).2.2.1.trans (mm_row_n (by omega)), by rw [hR3, z_ur (by omega)]; exact (lo3 b (by omega)).2.2.2.trans (mm_row_n (by omega))⟩
  have E3 : T3 20 = T2 20 ∧ ∀ j, j ≠ 2 → R3 20 j = R2 20 j := ⟨(lo3 20 (by omega)).1.trans (mm_row_n (by omega)), fun j hj => by rw [hR3, z_un (by omega), (lo3 20 (by omega)).2.2.2, mm_row_n (by omega)]⟩
  have U3 : R3 20 2 = 79 := by rw [hR3]; exact z_uq
  refine z_u_nw (a1 := 134) (by omega) ?_
  refine z_u_ob (by rw [z_tk_l]) ?_
  refine z_u_c (z_i_Sizes (by omega) (by rw [z_tk_l])) (fun _ M4 h4 => ?_)
  obtain ⟨T4, I4, J4, S4, rfl, lo4, t4, g4⟩ := h4
  have q4 : z_tk T4 20 = 21 := by rw [z_tk_c (lo4 20 (by omega)).1, z_tk_r (by omega)]; exact q3
  refine z_u_pR q4 ?_
  obtain ⟨R4, hR4⟩ : ∃ R4, R4 = mm_up S4 20 6 134 := ⟨_, rfl⟩
  rw [← hR4]
  have F4 : ∀ b, b ≠ 20 → b < 134 → T4 b = T3 b ∧ I4 b = I3 b ∧ R4 b = R3 b := fun b h1 h2 => ⟨(lo4 b h2).1.trans (mm_row_n (by omega)), (lo4 b h2).2.1.trans (mm_row_n (by omega)), by rw [hR4, z_ur h1]; exact (lo4 b h2).2.2.2.trans (mm_row_n (by omega))⟩
  have B4 : ∀ b, b < 20 → T4 b = T3 b ∧ I4 b = I3 b ∧ J4 b = J3 b ∧ R4 b = R3 b := fun b h2 => ⟨(lo4 b (by omega)).1.trans (mm_row_n (by omega)), (lo4 b (by omega)).2.1.trans (mm_row_n (by omega)), (lo4 b (by omega)).2.2.1.trans (mm_row_n (by omega)), by rw [hR4, z_ur (by omega)]; exact (lo4 b (by omega)).2.2.2.trans (mm_row_n (by omega))⟩
  have E4 : T4 20 = T3 20 ∧ ∀ j, j ≠ 6 → R4 20 j = R3 20 j := ⟨(lo4 20 (by omega)).1.trans (mm_row_n (by omega)), fun j hj => by rw [hR4, z_un (by omega), (lo4 20 (by omega)).2.2.2, mm_row_n (by omega)]⟩
  have U4 : R4 20 6 = 134 := by rw [hR4]; exact z_uq
  refine z_u_nw (a1 := 137) (by omega) ?_
  refine z_u_ob (by rw [z_tk_l]) ?_
  refine z_u_c (z_i_Line (by omega) (by rw [z_tk_l])) (fun _ M5 h5 => ?_)
  obtain ⟨T5, I5, J5, S5, rfl, lo5, t5, g5⟩ := h5
  have q5 : z_tk T5 20 = 21 := by rw [z_tk_c (lo5 20 (by omega)).1, z_tk_r (by omega)]; exact q4
  refine z_u_pR q5 ?_
  obtain ⟨R5, hR5⟩ : ∃ R5, R5 = mm_up S5 20 3 137 := ⟨_, rfl⟩
  rw [← hR5]
  have F5 : ∀ b, b ≠ 20 → b < 137 → T5 b = T4 b ∧ I5 b = I4 b ∧ R5 b = R4 b := fun b h1 h2 => ⟨(lo5 b h2).1.trans (mm_row_n (by omega)), (lo5 b h2).2.1.trans (mm_row_n (by omega)), by rw [hR5, z_ur h1]; exact (lo5 b h2).2.2.2.trans (mm_row_n (by omega))⟩
  have B5 : ∀ b, b < 20 → T5 b = T4 b ∧ I5 b = I4 b ∧ J5 b = J4 b ∧ R5 b = R4 b := fun b h2 => ⟨(lo5 b (by omega)).1.trans (mm_row_n (by omega)), (lo5 b (by omega)).2.1.trans (mm_row_n (by omega)), (lo5 b (by omega)).2.2.1.trans (mm_row_n (by omega)), by rw [hR5, z_ur (by omega)]; exact (lo5 b (by omega)).2.2.2.trans (mm_row_n (by omega))⟩
  have E5 : T5 20 = T4 20 ∧ ∀ j, j ≠ 3 → R5 20 j = R4 20 j := ⟨(lo5 20 (by omega)).1.trans (mm_row_n (by omega)), fun j hj => by rw [hR5, z_un (by omega), (lo5 20 (by omega)).2.2.2, mm_row_n (by omega)]⟩
  have U5 : R5 20 3 = 137 := by rw [hR5]; exact z_uq
  refine z_u_nw (a1 := 208) (by omega) ?_
  refine z_u_ob (by rw [z_tk_l]) ?_
  refine z_u_c (z_i_Line (by omega) (by rw [z_tk_l])) (fun _ M6 h6 => ?_)
  obtain ⟨T6, I6, J6, S6, rfl, lo6, t6, g6⟩ := h6
  have q6 : z_tk T6 20 = 21 := by rw [z_tk_c (lo6 20 (by omega)).1, z_tk_r (by omega)]; exact q5
  refine z_u_pR q6 ?_
  obtain ⟨R6, hR6⟩ : ∃ R6, R6 = mm_up S6 20 4 208 := ⟨_, rfl⟩
  rw [← hR6]
  have F6 : ∀ b, b ≠ 20 → b < 208 → T6 b = T5 b ∧ I6 b = I5 b ∧ R6 b = R5 b := fun b h1 h2 => ⟨(lo6 b h2).1.trans (mm_row_n (by omega)), (lo6 b h2).2.1.trans (mm_row_n (by omega)), by rw [hR6, z_ur h1]; exact (lo6 b h2).2.2.2.trans (mm_row_n (by omega))⟩
  have B6 : ∀ b, b < 20 → T6 b = T5 b ∧ I6 b = I5 b ∧ J6 b = J5 b ∧ R6 b = R5 b := fun b h2 => ⟨(lo6 b (by omega)).1.trans (mm_row_n (by omega)), (lo6 b (by omega)).2.1.trans (mm_row_n (by omega)), (lo6 b (by omega)).2.2.1.trans (mm_row_n (by omega)), by rw [hR6, z_ur (by omega)]; exact (lo6 b (by omega)).2.2.2.trans (mm_row_n (by omega))⟩
  have E6 : T6 20 = T5 20 ∧ ∀ j, j ≠ 4 → R6 20 j = R5 20 j := ⟨(lo6 20 (by omega)).1.trans (mm_row_n (by omega)), fun j hj => by rw [hR6, z_un (by omega), (lo6 20 (by omega)).2.2.2, mm_row_n (by omega)]⟩
  have U6 : R6 20 4 = 208 := by rw [hR6]; exact z_uq
  refine z_u_nw (a1 := 279) (by omega) ?_
  refine z_u_ob (by rw [z_tk_l]) ?_
  refine z_u_c (z_i_Search (by omega) (by rw [z_tk_l])) (fun _ M7 h7 => ?_)
  obtain ⟨T7, I7, J7, S7, rfl, lo7, t7, g7⟩ := h7
  have q7 : z_tk T7 20 = 21 := by rw [z_tk_c (lo7 20 (by omega)).1, z_tk_r (by omega)]; exact q6
  refine z_u_pR q7 ?_
  obtain ⟨R7, hR7⟩ : ∃ R7, R7 = mm_up S7 20 5 279 := ⟨_, rfl⟩
  rw [← hR7]
  have F7 : ∀ b, b ≠ 20 → b < 279 → T7 b = T6 b ∧ I7 b = I6 b ∧ R7 b = R6 b := fun b h1 h2 => ⟨(lo7 b h2).1.trans (mm_row_n (by omega)), (lo7 b h2).2.1.trans (mm_row_n (by omega)), by rw [hR7, z_ur h1]; exact (lo7 b h2).2.2.2.trans (mm_row_n (by omega))⟩
  have B7 : ∀ b, b < 20 → T7 b = T6 b ∧ I7 b = I6 b ∧ J7 b = J6 b ∧ R7 b = R6 b := fun b h2 => ⟨(lo7 b (by omega)).1.trans (mm_row_n (by omega)), (lo7 b (by omega)).2.1.trans (mm_row_n (by omega)), (lo7 b (by omega)).2.2.1.trans (mm_row_n (by omega)), by rw [hR7, z_ur (by omega)]; exact (lo7 b (by omega)).2.2.2.trans (mm_row_n (by omega))⟩
  have E7 : T7 20 = T6 20 ∧ ∀ j, j ≠ 5 → R7 20 j = R6 20 j := ⟨(lo7 20 (by omega)).1.trans (mm_row_n (by omega)), fun j hj => by rw [hR7, z_un (by omega), (lo7 20 (by omega)).2.2.2, mm_row_n (by omega)]⟩
  have U7 : R7 20 5 = 279 := by rw [hR7]; exact z_uq
  refine z_u_nw (a1 := 351) (by omega) ?_
  refine z_u_ob (by rw [z_tk_l]) ?_
  refine z_u_c (z_i_Acts (by omega) (by rw [z_tk_l])) (fun _ M8 h8 => ?_)
  obtain ⟨T8, I8, J8, S8, rfl, lo8, t8, g8⟩ := h8
  have q8 : z_tk T8 20 = 21 := by rw [z_tk_c (lo8 20 (by omega)).1, z_tk_r (by omega)]; exact q7
  refine z_u_pR q8 ?_
  obtain ⟨R8, hR8⟩ : ∃ R8, R8 = mm_up S8 20 7 351 := ⟨_, rfl⟩
  rw [← hR8]
  have F8 : ∀ b, b ≠ 20 → b < 351 → T8 b = T7 b ∧ I8 b = I7 b ∧ R8 b = R7 b := fun b h1 h2 => ⟨(lo8 b h2).1.trans (mm_row_n (by omega)), (lo8 b h2).2.1.trans (mm_row_n (by omega)), by rw [hR8, z_ur h1]; exact (lo8 b h2).2.2.2.trans (mm_row_n (by omega))⟩
  have B8 : ∀ b, b < 20 → T8 b = T7 b ∧ I8 b = I7 b ∧ J8 b = J7 b ∧ R8 b = R7 b := fun b h2 => ⟨(lo8 b (by omega)).1.trans (mm_row_n (by omega)), (lo8 b (by omega)).2.1.trans (mm_row_n (by omega)), (lo8 b (by omega)).2.2.1.trans (mm_row_n (by omega)), by rw [hR8, z_ur (by omega)]; exact (lo8 b (by omega)).2.2.2.trans (mm_row_n (by omega))⟩
  have E8 : T8 20 = T7 20 ∧ ∀ j, j ≠ 7 → R8 20 j = R7 20 j := ⟨(lo8 20 (by omega)).1.trans (mm_row_n (by omega)), fun j hj => by rw [hR8, z_un (by omega), (lo8 20 (by omega)).2.2.2, mm_row_n (by omega)]⟩
  have U8 : R8 20 7 = 351 := by rw [hR8]; exact z_uq
  refine z_u_nm (a1 := 364) (n := 13) (k := 4) (by omega) rfl rfl (by omega) (by omega) ?_
  have q9 : z_tk (z_tyM T8 364 5 3 13 4) 20 = 21 := by rw [z_tk_c (z_tyMn (by omega))]; exact q8
  refine z_u_pR q9 ?_
  refine z_u_na (a1 := 378) (n := 65) (by omega) rfl (by omega) ?_
  refine z_u_pR (by rw [z_tk_r (by omega)]; exact q9) ?_
  obtain ⟨T9, hT9⟩ : ∃ T9, T9 = mm_row (z_tyM T8 364 5 3 13 4) 378 (.inr (3, 65)) := ⟨_, rfl⟩
  obtain ⟨R9, hR9⟩ : ∃ R9, R9 = mm_up (mm_row (mm_up (z_rm2 R8 364 13) 20 8 364) 378 (fun _ => 0)) 20 9 378 := ⟨_, rfl⟩
  obtain ⟨I9, hI9⟩ : ∃ I9, I9 = mm_row (z_zm I8 364 13) 378 (fun _ => 0) := ⟨_, rfl⟩
  rw [← hT9, ← hR9, ← hI9]
  have F9 : ∀ b, b ≠ 20 → b < 364 → T9 b = T8 b ∧ I9 b = I8 b ∧ R9 b = R8 b := fun b h1 h2 => ⟨by rw [hT9, mm_row_n (by omega), z_tyMn (by omega)], by rw [hI9, mm_row_n (by omega), z_zmn (by omega)], by rw [hR9, z_ur h1, mm_row_n (by omega), z_ur h1, z_rmn (by omega)]⟩
  have E9 : T9 20 = T8 20 ∧ ∀ j, j ≠ 8 → j ≠ 9 → R9 20 j = R8 20 j := ⟨by rw [hT9, mm_row_n (by omega), z_tyMn (by omega)], fun j h1 h2 => by rw [hR9, z_un (by omega), mm_row_n (by omega), z_un (by omega), z_rmn (by omega)]⟩
  have U9 : R9 20 8 = 364 ∧ R9 20 9 = 378 := ⟨by rw [hR9, z_un (by omega), mm_row_n (by omega)]; exact z_uq, by rw [hR9]; exact z_uq⟩
  have G8 : ∀ b, b ≠ 20 → b < 364 → T9 b = T8 b ∧ I9 b = I8 b ∧ R9 b = R8 b := F9
  have G7 : ∀ b, b ≠ 20 → b < 351 → T9 b = T7 b ∧ I9 b = I7 b ∧ R9 b = R7 b := fun b h1 h2 => ⟨(G8 b h1 (by omega)).1.trans (F8 b h1 h2).1, (G8 b h1 (by omega)).2.1.trans (F8 b h1 h2).2.1, (G8 b h1 (by omega)).2.2.trans (F8 b h1 h2).2.2⟩
  have G6 : ∀ b, b ≠ 20 → b < 279 → T9 b = T6 b ∧ I9 b = I6 b ∧ R9 b = R6 b := fun b h1 h2 => ⟨(G7 b h1 (by omega)).1.trans (F7 b h1 h2).1, (G7 b h1 (by omega)).2.1.trans (F7 b h1 h2).2.1, (G7 b h1 (by omega)).2.2.trans (F7 b h1 h2).2.2⟩
  have G5 : ∀ b, b ≠ 20 → b < 208 → T9 b = T5 b ∧ I9 b = I5 b ∧ R9 b = R5 b := fun b h1 h2 => ⟨(G6 b h1 (by omega)).1.trans (F6 b h1 h2).1, (G6 b h1 (by omega)).2.1.trans (F6 b h1 h2).2.1, (G6 b h1 (by omega)).2.2.trans (F6 b h1 h2).2.2⟩
  have G4 : ∀ b, b ≠ 20 → b < 137 → T9 b = T4 b ∧ I9 b = I4 b ∧ R9 b = R4 b := fun b h1 h2 => ⟨(G5 b h1 (by omega)).1.trans (F5 b h1 h2).1, (G5 b h1 (by omega)).2.1.trans (F5 b h1 h2).2.1, (G5 b h1 (by omega)).2.2.trans (F5 b h1 h2).2.2⟩
  have G3 : ∀ b, b ≠ 20 → b < 134 → T9 b = T3 b ∧ I9 b = I3 b ∧ R9 b = R3 b := fun b h1 h2 => ⟨(G4 b h1 (by omega)).1.trans (F4 b h1 h2).1, (G4 b h1 (by omega)).2.1.trans (F4 b h1 h2).2.1, (G4 b h1 (by omega)).2.2.trans (F4 b h1 h2).2.2⟩
  have G2 : ∀ b, b ≠ 20 → b < 79 → T9 b = T2 b ∧ I9 b = I2 b ∧ R9 b = R2 b := fun b h1 h2 => ⟨(G3 b h1 (by omega)).1.trans (F3 b h1 h2).1, (G3 b h1 (by omega)).2.1.trans (F3 b h1 h2).2.1, (G3 b h1 (by omega)).2.2.trans (F3 b h1 h2).2.2⟩
  have G1 : ∀ b, b ≠ 20 → b < 24 → T9 b = T1 b ∧ I9 b = I1 b ∧ R9 b = R1 b := fun b h1 h2 => ⟨(G2 b h1 (by omega)).1.trans (F2 b h1 h2).1, (G2 b h1 (by omega)).2.1.trans (F2 b h1 h2).2.1, (G2 b h1 (by omega)).2.2.trans (F2 b h1 h2).2.2⟩
  obtain ⟨⟨x22, x23, x23l, y21, y22⟩, w22, w21⟩ := g1
  obtain ⟨TD2, v2⟩ := g2
  obtain ⟨TD3, -⟩ := g3
  obtain ⟨LN5, v5⟩ := g5
  obtain ⟨LN6, v6⟩ := g6
  obtain ⟨y279, LN7⟩ := g7
  obtain ⟨⟨z1, z2, z3, z4, z5, z6, z7⟩, v8, v9⟩ := g8
  have k20 : z_tk T9 20 = 21 := by rw [z_tk_c E9.1]; exact q8
  have c2 : ∀ b, 24 ≤ b → b < 79 → T9 b = T2 b ∧ R9 b = R2 b := fun b h1 h2 => ⟨(G2 b (by omega) h2).1, (G2 b (by omega) h2).2.2⟩
  have s2 : ∀ b, b ≠ 20 → R2 b = S2 b := fun b h => by rw [hR2, z_ur h]
  have s3 : ∀ b, b ≠ 20 → R3 b = S3 b := fun b h => by rw [hR3, z_ur h]
  have s4 : ∀ b, b ≠ 20 → R4 b = S4 b := fun b h => by rw [hR4, z_ur h]
  have s5 : ∀ b, b ≠ 20 → R5 b = S5 b := fun b h => by rw [hR5, z_ur h]
  have s6 : ∀ b, b ≠ 20 → R6 b = S6 b := fun b h => by rw [hR6, z_ur h]
  have s7 : ∀ b, b ≠ 20 → R7 b = S7 b := fun b h => by rw [hR7, z_ur h]
  have s8 : ∀ b, b ≠ 20 → R8 b = S8 b := fun b h => by rw [hR8, z_ur h]
  have s1 : ∀ b, b ≠ 20 → R1 b = S1 b := fun b h => by rw [hR1, z_ur h]
  refine z_u_r ⟨T9, I9, _, R9, z_c3e (by omega) (by omega) (by omega), ⟨fun b hb => ⟨?_, ?_, ?_, ?_⟩, ?_⟩, ?_, ?_⟩
  · rw [hT9, mm_row_n (by omega), z_tyMn (by omega), (B8 b hb).1, (B7 b hb).1, (B6 b hb).1, (B5 b hb).1, (B4 b hb).1, (B3 b hb).1, (B2 b hb).1, (B1 b hb).1]
  · rw [hI9, mm_row_n (by omega), z_zmn (by omega), (B8 b hb).2.1, (B7 b hb).2.1, (B6 b hb).2.1, (B5 b hb).2.1, (B4 b hb).2.1, (B3 b hb).2.1, (B2 b hb).2.1, (B1 b hb).2.1]
  · rw [mm_row_n (by omega), z_zmn (by omega), (B8 b hb).2.2.1, (B7 b hb).2.2.1, (B6 b hb).2.2.1, (B5 b hb).2.2.1, (B4 b hb).2.2.1, (B3 b hb).2.2.1, (B2 b hb).2.2.1, (B1 b hb).2.2.1]
  · rw [hR9, z_ur (by omega), mm_row_n (by omega), z_ur (by omega), z_rmn (by omega), (B8 b hb).2.2.2, (B7 b hb).2.2.2, (B6 b hb).2.2.2, (B5 b hb).2.2.2, (B4 b hb).2.2.2, (B3 b hb).2.2.2, (B2 b hb).2.2.2, (B1 b hb).2.2.2]
  · rw [E9.1, E8.1, E7.1, E6.1, E5.1, E4.1, E3.1, E2.1, E1.1]
  · refine ⟨k20, ?_, ?_, ?_, ?_, ?_, ?_, ?_, ?_, ?_, ?_, ?_, ?_, ?_, ?_, ?_, ?_, ?_, ?_, ?_, ?_, ?_, ?_, U9.1, U9.2, ?_, ?_, ?_, ?_, ?_, by omega, ?_, ?_, ?_, ?_, ?_, ?_, fun i hi => ⟨?_, ?_, ?_⟩, fun i hi => ⟨?_, ?_, ?_⟩⟩
    · rw [z_tk_c (G1 21 (by omega) (by omega)).1, z_tk_c t1, z_tk_l]
    · rw [z_tk_c (G1 22 (by omega) (by omega)).1]; exact x22
    · rw [z_tk_c (G1 23 (by omega) (by omega)).1]; exact x23
    · rw [z_tk_c (G7 279 (by omega) (by omega)).1, z_tk_c t7, z_tk_l]
    · rw [z_tk_c (G8 351 (by omega) (by omega)).1, z_tk_c t8, z_tk_l]
    · rw [z_tk_c (G8 352 (by omega) (by omega)).1]; exact z1
    · rw [z_tk_c (G8 363 (by omega) (by omega)).1]; exact z3
    · rw [hT9, z_tk_r (by omega)]; exact z_tyM0.1
    · rw [hT9, z_tk_a]
    · rw [z_ln_c (G1 23 (by omega) (by omega)).1]; exact x23l
    · rw [z_ln_c (G8 352 (by omega) (by omega)).1]; exact z2
    · rw [z_ln_c (G8 363 (by omega) (by omega)).1]; exact z4
    · rw [hT9, z_ln_r (by omega)]; exact z_tyM0.2
    · rw [hT9, z_ln_a]
    · rw [E9.2 0 (by omega) (by omega), E8.2 0 (by omega), E7.2 0 (by omega), E6.2 0 (by omega), E5.2 0 (by omega), E4.2 0 (by omega), E3.2 0 (by omega), E2.2 0 (by omega)]; exact U1
    · rw [E9.2 1 (by omega) (by omega), E8.2 1 (by omega), E7.2 1 (by omega), E6.2 1 (by omega), E5.2 1 (by omega), E4.2 1 (by omega), E3.2 1 (by omega)]; exact U2
    · rw [E9.2 2 (by omega) (by omega), E8.2 2 (by omega), E7.2 2 (by omega), E6.2 2 (by omega), E5.2 2 (by omega), E4.2 2 (by omega)]; exact U3
    · rw [E9.2 3 (by omega) (by omega), E8.2 3 (by omega), E7.2 3 (by omega), E6.2 3 (by omega)]; exact U5
    · rw [E9.2 4 (by omega) (by omega), E8.2 4 (by omega), E7.2 4 (by omega)]; exact U6
    · rw [E9.2 5 (by omega) (by omega), E8.2 5 (by omega)]; exact U7
    · rw [E9.2 6 (by omega) (by omega), E8.2 6 (by omega), E7.2 6 (by omega), E6.2 6 (by omega), E5.2 6 (by omega)]; exact U4
    · rw [E9.2 7 (by omega) (by omega)]; exact U8
    · rw [(G1 21 (by omega) (by omega)).2.2, s1 _ (by omega)]; exact y21
    · rw [(G1 22 (by omega) (by omega)).2.2, s1 _ (by omega)]; exact y22
    · rw [(G7 279 (by omega) (by omega)).2.2, s7 _ (by omega)]; exact y279
    · rw [(G8 351 (by omega) (by omega)).2.2, s8 _ (by omega)]; exact z5
    · rw [(G8 351 (by omega) (by omega)).2.2, s8 _ (by omega)]; exact z6
    · exact z_TdL_c TD2 (fun b h1 h2 => ⟨(G2 b (by omega) (by omega)).1, ((G2 b (by omega) (by omega)).2.2).trans (s2 b (by omega))⟩)
    · exact z_TdL_c TD3 (fun b h1 h2 => ⟨(G3 b (by omega) (by omega)).1, ((G3 b (by omega) (by omega)).2.2).trans (s3 b (by omega))⟩)
    · exact z_SzL_c g4 (fun b h1 h2 => ⟨(G4 b (by omega) (by omega)).1, ((G4 b (by omega) (by omega)).2.2).trans (s4 b (by omega))⟩)
    · exact z_LnL_c LN5 (fun b h1 h2 => ⟨(G5 b (by omega) (by omega)).1, ((G5 b (by omega) (by omega)).2.2).trans (s5 b (by omega))⟩)
    · exact z_LnL_c LN6 (fun b h1 h2 => ⟨(G6 b (by omega) (by omega)).1, ((G6 b (by omega) (by omega)).2.2).trans (s6 b (by omega))⟩)
    · exact z_LnL_c LN7 (fun b h1 h2 => ⟨(G7 b (by omega) (by omega)).1, ((G7 b (by omega) (by omega)).2.2).trans (s7 b (by omega))⟩)
    · rw [(G8 352 (by omega) (by omega)).2.2, s8 _ (by omega)]; exact (z7 i hi).1
    · rw [z_tk_c (G8 _ (by omega) (by omega)).1]; exact (z7 i hi).2.1
    · rw [z_ln_c (G8 _ (by omega) (by omega)).1]; exact (z7 i hi).2.2
    · rw [hR9, z_ur (by omega), mm_row_n (by omega), z_ur (by omega), z_rm0 hi]
    · rw [hT9, z_tk_r (by omega)]; exact (z_tyM1 (by omega)).1
    · rw [hT9, z_ln_r (by omega)]; exact (z_tyM1 (by omega)).2
  · have f0 : ∀ y, y ≠ 0 → z_set (fun _ => (0 : Int)) 0 2 y = 0 := fun y hy => z_setO hy
    have e24 : I9 24 = I2 24 := (G2 24 (by omega) (by omega)).2.1
    obtain ⟨i2, i3, i4, i5, i6, i7⟩ := v2
    refine ⟨⟨⟨?_, ?_, ?_, ?_, ?_, ?_⟩, fun m hm => ?_, fun p hp => ?_⟩, ⟨?_, Nat.zero_le _, fun i hi => absurd hi (by omega), fun i j hi => absurd hi (by omega), fun i hi => absurd hi (by omega)⟩, ⟨?_, fun i hi => absurd hi (by omega)⟩, ?_, ⟨0, by omega, ?_, ?_, fun k hk => absurd hk (by omega)⟩, (fun _ => 0), 0, ?_, Nat.zero_le _, fun i hi => absurd hi (by omega), fun i j hi => absurd hi (by omega), fun i hi => absurd hi (by omega)⟩
    · rw [e24, z_set_eq]; exact i2
    · rw [e24, f0 1 (by omega)]; exact i3
    · rw [e24, f0 2 (by omega)]; exact i4
    · rw [e24, f0 3 (by omega)]; exact i5
    · rw [e24, f0 4 (by omega)]; exact i6
    · rw [e24, f0 5 (by omega)]; exact i7
    · rw [f0 4 (by omega)] at hm; exact absurd hm (by omega)
    · rw [f0 5 (by omega)] at hp; exact absurd hp (by omega)
    · rw [(G5 137 (by omega) (by omega)).2.1]; exact v5
    · rw [(G1 22 (by omega) (by omega)).2.1]; exact w22
    · rw [(G1 21 (by omega) (by omega)).2.1]; exact w21
    · rw [(G8 351 (by omega) (by omega)).2.1]; exact v8
    · rw [(G8 351 (by omega) (by omega)).2.1]; exact v9
    · rw [(G6 208 (by omega) (by omega)).2.1]; exact v6
theorem z_i_M (hT : z_tk T 379 = 23) (hz : ∀ j, I 379 j = 0) : z_U (k_M_init 379 ((360, 360, se), T, I, J, R)) (fun _ M' => ∃ T' I' J' R', M' = ((375, 375, se + 2344), T', I', J', R') ∧ z_low 379 T T' I I' J J' R R' ∧ z_ML T' R' ∧ z_RM I' (z_set (fun _ => 0) 0 2) (fun _ => 0) 0 (fun _ => 0) 0 (-1) (fun _ => (fun _ => 0, 0)) 0) := by
  unfold k_M_init
  refine z_u_ob hT ?_
  refine z_u_na (a1 := 380) (n := 400) (by omega) rfl (by omega) ?_
  obtain ⟨T1, hT1⟩ : ∃ T1, T1 = mm_row T 380 (.inr (1, 400)) := ⟨_, rfl⟩
  rw [← hT1]
  have k1 : z_tk T1 379 = 23 := by rw [hT1, z_tk_r (by omega)]; exact hT
  refine z_u_pR k1 ?_
  refine z_u_na (a1 := 381) (n := 5) (by omega) rfl (by omega) ?_
  obtain ⟨T2, hT2⟩ : ∃ T2, T2 = mm_row T1 381 (.inr (0, 5)) := ⟨_, rfl⟩
  rw [← hT2]
  have k2 : z_tk T2 379 = 23 := by rw [hT2, z_tk_r (by omega)]; exact k1
  refine z_u_pR k2 ?_
  refine z_u_pI k2 ?_
  refine z_u_na (a1 := 382) (n := 198) (by omega) rfl (by omega) ?_
  obtain ⟨T3, hT3⟩ : ∃ T3, T3 = mm_row T2 382 (.inr (0, 198)) := ⟨_, rfl⟩
  rw [← hT3]
  have k3 : z_tk T3 379 = 23 := by rw [hT3, z_tk_r (by omega)]; exact k2
  refine z_u_pR k3 ?_
  refine z_u_na (a1 := 383) (n := 198) (by omega) rfl (by omega) ?_
  obtain ⟨T4, hT4⟩ : ∃ T4, T4 = mm_row T3 383 (.inr (0, 198)) := ⟨_, rfl⟩
  rw [← hT4]
  have k4 : z_tk T4 379 = 23 := by rw [hT4, z_tk_r (by omega)]; exact k3
  refine z_u_pR k4 ?_
  refine z_u_na (a1 := 384) (n := 64) (by omega) rfl (by omega) ?_
  obtain ⟨T5, hT5⟩ : ∃ T5, T5 = mm_row T4 384 (.inr (0, 64)) := ⟨_, rfl⟩
  rw [← hT5]
  have k5 : z_tk T5 379 = 23 := by rw [hT5, z_tk_r (by omega)]; exact k4
  refine z_u_pR k5 ?_
  refine z_u_na (a1 := 385) (n := 64) (by omega) rfl (by omega) ?_
  obtain ⟨T6, hT6⟩ : ∃ T6, T6 = mm_row T5 385 (.inr (0, 64)) := ⟨_, rfl⟩
  rw [← hT6]
  have k6 : z_tk T6 379 = 23 := by rw [hT6, z_tk_r (by omega)]; exact k5
  refine z_u_pR k6 ?_
  refine z_u_na (a1 := 386) (n := 650) (by omega) rfl (by omega) ?_
  obtain ⟨T7, hT7⟩ : ∃ T7, T7 = mm_row T6 386 (.inr (0, 650)) := ⟨_, rfl⟩
  rw [← hT7]
  have k7 : z_tk T7 379 = 23 := by rw [hT7, z_tk_r (by omega)]; exact k6
  refine z_u_pR k7 ?_
  refine z_u_na (a1 := 387) (n := 3) (by omega) rfl (by omega) ?_
  obtain ⟨T8, hT8⟩ : ∃ T8, T8 = mm_row T7 387 (.inr (0, 3)) := ⟨_, rfl⟩
  rw [← hT8]
  have k8 : z_tk T8 379 = 23 := by rw [hT8, z_tk_r (by omega)]; exact k7
  refine z_u_pR k8 ?_
  refine z_u_na (a1 := 388) (n := 3) (by omega) rfl (by omega) ?_
  obtain ⟨T9, hT9⟩ : ∃ T9, T9 = mm_row T8 388 (.inr (0, 3)) := ⟨_, rfl⟩
  rw [← hT9]
  have k9 : z_tk T9 379 = 23 := by rw [hT9, z_tk_r (by omega)]; exact k8
  refine z_u_pR k9 ?_
  refine z_u_na (a1 := 389) (n := 72) (by omega) rfl (by omega) ?_
  obtain ⟨T10, hT10⟩ : ∃ T10, T10 = mm_row T9 389 (.inr (0, 72)) := ⟨_, rfl⟩
  rw [← hT10]
  have k10 : z_tk T10 379 = 23 := by rw [hT10, z_tk_r (by omega)]; exact k9
  refine z_u_pR k10 ?_
  refine z_u_na (a1 := 390) (n := 384) (by omega) rfl (by omega) ?_
  obtain ⟨T11, hT11⟩ : ∃ T11, T11 = mm_row T10 390 (.inr (0, 384)) := ⟨_, rfl⟩
  rw [← hT11]
  have k11 : z_tk T11 379 = 23 := by rw [hT11, z_tk_r (by omega)]; exact k10
  refine z_u_pR k11 ?_
  refine z_u_na (a1 := 391) (n := 208) (by omega) rfl (by omega) ?_
  obtain ⟨T12, hT12⟩ : ∃ T12, T12 = mm_row T11 391 (.inr (3, 208)) := ⟨_, rfl⟩
  rw [← hT12]
  have k12 : z_tk T12 379 = 23 := by rw [hT12, z_tk_r (by omega)]; exact k11
  refine z_u_pR k12 ?_
  refine z_u_na (a1 := 392) (n := 65) (by omega) rfl (by omega) ?_
  obtain ⟨T13, hT13⟩ : ∃ T13, T13 = mm_row T12 392 (.inr (3, 65)) := ⟨_, rfl⟩
  rw [← hT13]
  have k13 : z_tk T13 379 = 23 := by rw [hT13, z_tk_r (by omega)]; exact k12
  refine z_u_pR k13 ?_
  refine z_u_na (a1 := 393) (n := 24) (by omega) rfl (by omega) ?_
  obtain ⟨T14, hT14⟩ : ∃ T14, T14 = mm_row T13 393 (.inr (2, 24)) := ⟨_, rfl⟩
  rw [← hT14]
  have k14 : z_tk T14 379 = 23 := by rw [hT14, z_tk_r (by omega)]; exact k13
  refine z_u_pR k14 ?_
  refine z_u_na (a1 := 394) (n := 6) (by omega) rfl (by omega) ?_
  obtain ⟨T15, hT15⟩ : ∃ T15, T15 = mm_row T14 394 (.inr (0, 6)) := ⟨_, rfl⟩
  rw [← hT15]
  have k15 : z_tk T15 379 = 23 := by rw [hT15, z_tk_r (by omega)]; exact k14
  refine z_u_pR k15 ?_
  refine z_u_gR k15 (r := 382) (by simp (disch := omega) only [z_un, z_uq, z_ur, mm_row_n, mm_row_e]) ?_
  refine z_u_sI (by rw [hT15, z_tk_r (by omega), hT14, z_tk_r (by omega), hT13, z_tk_r (by omega), hT12, z_tk_r (by omega), hT11, z_tk_r (by omega), hT10, z_tk_r (by omega), hT9, z_tk_r (by omega), hT8, z_tk_r (by omega), hT7, z_tk_r (by omega), hT6, z_tk_r (by omega), hT5, z_tk_r (by omega), hT4, z_tk_r (by omega), hT3, z_tk_a]) (by omega) (by rw [hT15, z_ln_r (by omega), hT14, z_ln_r (by omega), hT13, z_ln_r (by omega), hT12, z_ln_r (by omega), hT11, z_ln_r (by omega), hT10, z_ln_r (by omega), hT9, z_ln_r (by omega), hT8, z_ln_r (by omega), hT7, z_ln_r (by omega), hT6, z_ln_r (by omega), hT5, z_ln_r (by omega), hT4, z_ln_r (by omega), hT3, z_ln_a]; omega) ?_
  refine z_u_r ⟨T15, _, _, _, z_c3e (by omega) (by omega) (by omega), fun b hb => ⟨?_, ?_, ?_, ?_⟩, ⟨k15, ⟨?_, ?_, ?_, ?_, ?_, ?_, ?_, ?_, ?_, ?_, ?_, ?_, ?_, ?_, ?_, ?_, ?_, ?_, ?_, ?_, ?_, ?_, ?_, ?_, ?_, ?_, ?_, ?_, ?_, ?_⟩, ?_, ?_, ?_, ?_, ?_, ?_, ?_, ?_, ?_, ?_, ?_, ?_, ?_, ?_, ?_⟩, fun k hk => ?_, ⟨?_, Nat.zero_le _, fun i hi => absurd hi (by omega)⟩, ⟨?_, fun i hi => absurd hi (by omega)⟩, ?_, ?_, fun k hk => absurd hk (by omega)⟩
  · rw [hT15, mm_row_n (by omega), hT14, mm_row_n (by omega), hT13, mm_row_n (by omega), hT12, mm_row_n (by omega), hT11, mm_row_n (by omega), hT10, mm_row_n (by omega), hT9, mm_row_n (by omega), hT8, mm_row_n (by omega), hT7, mm_row_n (by omega), hT6, mm_row_n (by omega), hT5, mm_row_n (by omega), hT4, mm_row_n (by omega), hT3, mm_row_n (by omega), hT2, mm_row_n (by omega), hT1, mm_row_n (by omega)]
  · simp (disch := omega) only [z_un, z_uq, z_ur, mm_row_n, mm_row_e]
  · simp (disch := omega) only [z_un, z_uq, z_ur, mm_row_n, mm_row_e]
  · simp (disch := omega) only [z_un, z_uq, z_ur, mm_row_n, mm_row_e]
  · rw [hT15, z_tk_r (by omega), hT14, z_tk_r (by omega), hT13, z_tk_r (by omega), hT12, z_tk_r (by omega), hT11, z_tk_r (by omega), hT10, z_tk_r (by omega), hT9, z_tk_r (by omega), hT8, z_tk_r (by omega), hT7, z_tk_r (by omega), hT6, z_tk_r (by omega), hT5, z_tk_r (by omega), hT4, z_tk_r (by omega), hT3, z_tk_r (by omega), hT2, z_tk_r (by omega), hT1, z_tk_a]
  · rw [hT15, z_ln_r (by omega), hT14, z_ln_r (by omega), hT13, z_ln_r (by omega), hT12, z_ln_r (by omega), hT11, z_ln_r (by omega), hT10, z_ln_r (by omega), hT9, z_ln_r (by omega), hT8, z_ln_r (by omega), hT7, z_ln_r (by omega), hT6, z_ln_r (by omega), hT5, z_ln_r (by omega), hT4, z_ln_r (by omega), hT3, z_ln_r (by omega), hT2, z_ln_r (by omega), hT1, z_ln_a]
  · rw [hT15, z_tk_r (by omega), hT14, z_tk_r (by omega), hT13, z_tk_r (by omega), hT12, z_tk_r (by omega), hT11, z_tk_r (by omega), hT10, z_tk_r (by omega), hT9, z_tk_r (by omega), hT8, z_tk_r (by omega), hT7, z_tk_r (by omega), hT6, z_tk_r (by omega), hT5, z_tk_r (by omega), hT4, z_tk_r (by omega), hT3, z_tk_r (by omega), hT2, z_tk_a]
  · rw [hT15, z_ln_r (by omega), hT14, z_ln_r (by omega), hT13, z_ln_r (by omega), hT12, z_ln_r (by omega), hT11, z_ln_r (by omega), hT10, z_ln_r (by omega), hT9, z_ln_r (by omega), hT8, z_ln_r (by omega), hT7, z_ln_r (by omega), hT6, z_ln_r (by omega), hT5, z_ln_r (by omega), hT4, z_ln_r (by omega), hT3, z_ln_r (by omega), hT2, z_ln_a]
  · rw [hT15, z_tk_r (by omega), hT14, z_tk_r (by omega), hT13, z_tk_r (by omega), hT12, z_tk_r (by omega), hT11, z_tk_r (by omega), hT10, z_tk_r (by omega), hT9, z_tk_r (by omega), hT8, z_tk_r (by omega), hT7, z_tk_r (by omega), hT6, z_tk_r (by omega), hT5, z_tk_r (by omega), hT4, z_tk_r (by omega), hT3, z_tk_a]
  · rw [hT15, z_ln_r (by omega), hT14, z_ln_r (by omega), hT13, z_ln_r (by omega), hT12, z_ln_r (by omega), hT11, z_ln_r (by omega), hT10, z_ln_r (by omega), hT9, z_ln_r (by omega), hT8, z_ln_r (by omega), hT7, z_ln_r (by omega), hT6, z_ln_r (by omega), hT5, z_ln_r (by omega), hT4, z_ln_r (by omega), hT3, z_ln_a]
  · rw [hT15, z_tk_r (by omega), hT14, z_tk_r (by omega), hT13, z_tk_r (by omega), hT12, z_tk_r (by omega), hT11, z_tk_r (by omega), hT10, z_tk_r (by omega), hT9, z_tk_r (by omega), hT8, z_tk_r (by omega), hT7, z_tk_r (by omega), hT6, z_tk_r (by omega), hT5, z_tk_r (by omega), hT4, z_tk_a]
  · rw [hT15, z_ln_r (by omega), hT14, z_ln_r (by omega), hT13, z_ln_r (by omega), hT12, z_ln_r (by omega), hT11, z_ln_r (by omega), hT10, z_ln_r (by omega), hT9, z_ln_r (by omega), hT8, z_ln_r (by omega), hT7, z_ln_r (by omega), hT6, z_ln_r (by omega), hT5, z_ln_r (by omega), hT4, z_ln_a]
  · rw [hT15, z_tk_r (by omega), hT14, z_tk_r (by omega), hT13, z_tk_r (by omega), hT12, z_tk_r (by omega), hT11, z_tk_r (by omega), hT10, z_tk_r (by omega), hT9, z_tk_r (by omega), hT8, z_tk_r (by omega), hT7, z_tk_r (by omega), hT6, z_tk_r (by omega), hT5, z_tk_a]
  · rw [hT15, z_ln_r (by omega), hT14, z_ln_r (by omega), hT13, z_ln_r (by omega), hT12, z_ln_r (by omega), hT11, z_ln_r (by omega), hT10, z_ln_r (by omega), hT9, z_ln_r (by omega), hT8, z_ln_r (by omega), hT7, z_ln_r (by omega), hT6, z_ln_r (by omega), hT5, z_ln_a]
  · rw [hT15, z_tk_r (by omega), hT14, z_tk_r (by omega), hT13, z_tk_r (by omega), hT12, z_tk_r (by omega), hT11, z_tk_r (by omega), hT10, z_tk_r (by omega), hT9, z_tk_r (by omega), hT8, z_tk_r (by omega), hT7, z_tk_r (by omega), hT6, z_tk_a]
  · rw [hT15, z_ln_r (by omega), hT14, z_ln_r (by omega), hT13, z_ln_r (by omega), hT12, z_ln_r (by omega), hT11, z_ln_r (by omega), hT10, z_ln_r (by omega), hT9, z_ln_r (by omega), hT8, z_ln_r (by omega), hT7, z_ln_r (by omega), hT6, z_ln_a]
  · rw [hT15, z_tk_r (by omega), hT14, z_tk_r (by omega), hT13, z_tk_r (by omega), hT12, z_tk_r (by omega), hT11, z_tk_r (by omega), hT10, z_tk_r (by omega), hT9, z_tk_r (by omega), hT8, z_tk_r (by omega), hT7, z_tk_a]
  · rw [hT15, z_ln_r (by omega), hT14, z_ln_r (by omega), hT13, z_ln_r (by omega), hT12, z_ln_r (by omega), hT11, z_ln_r (by omega), hT10, z_ln_r (by omega), hT9, z_ln_r (by omega), hT8, z_ln_r (by omega), hT7, z_ln_a]
  · rw [hT15, z_tk_r (by omega), hT14, z_tk_r (by omega), hT13, z_tk_r (by omega), hT12, z_tk_r (by omega), hT11, z_tk_r (by omega), hT10, z_tk_r (by omega), hT9, z_tk_r (by omega), hT8, z_tk_a]
  · rw [hT15, z_ln_r (by omega), hT14, z_ln_r (by omega), hT13, z_ln_r (by omega), hT12, z_ln_r (by omega), hT11, z_ln_r (by omega), hT10, z_ln_r (by omega), hT9, z_ln_r (by omega), hT8, z_ln_a]
  · rw [hT15, z_tk_r (by omega), hT14, z_tk_r (by omega), hT13, z_tk_r (by omega), hT12, z_tk_r (by omega), hT11, z_tk_r (by omega), hT10, z_tk_r (by omega), hT9, z_tk_a]
  · rw [hT15, z_ln_r (by omega), hT14, z_ln_r (by omega), hT13, z_ln_r (by omega), hT12, z_ln_r (by omega), hT11, z_ln_r (by omega), hT10, z_ln_r (by omega), hT9, z_ln_a]
  · rw [hT15, z_tk_r (by omega), hT14, z_tk_r (by omega), hT13, z_tk_r (by omega), hT12, z_tk_r (by omega), hT11, z_tk_r (by omega), hT10, z_tk_a]
  · rw [hT15, z_ln_r (by omega), hT14, z_ln_r (by omega), hT13, z_ln_r (by omega), hT12, z_ln_r (by omega), hT11, z_ln_r (by omega), hT10, z_ln_a]
  · rw [hT15, z_tk_r (by omega), hT14, z_tk_r (by omega), hT13, z_tk_r (by omega), hT12, z_tk_r (by omega), hT11, z_tk_a]
  · rw [hT15, z_ln_r (by omega), hT14, z_ln_r (by omega), hT13, z_ln_r (by omega), hT12, z_ln_r (by omega), hT11, z_ln_a]
  · rw [hT15, z_tk_r (by omega), hT14, z_tk_r (by omega), hT13, z_tk_r (by omega), hT12, z_tk_a]
  · rw [hT15, z_ln_r (by omega), hT14, z_ln_r (by omega), hT13, z_ln_r (by omega), hT12, z_ln_a]
  · rw [hT15, z_tk_r (by omega), hT14, z_tk_r (by omega), hT13, z_tk_a]
  · rw [hT15, z_ln_r (by omega), hT14, z_ln_r (by omega), hT13, z_ln_a]
  · rw [hT15, z_tk_r (by omega), hT14, z_tk_a]
  · rw [hT15, z_ln_r (by omega), hT14, z_ln_a]
  · rw [hT15, z_tk_a]
  · rw [hT15, z_ln_a]
  · simp (disch := omega) only [z_un, z_uq, z_ur, mm_row_n, mm_row_e]
  · simp (disch := omega) only [z_un, z_uq, z_ur, mm_row_n, mm_row_e]
  · simp (disch := omega) only [z_un, z_uq, z_ur, mm_row_n, mm_row_e]
  · simp (disch := omega) only [z_un, z_uq, z_ur, mm_row_n, mm_row_e]
  · simp (disch := omega) only [z_un, z_uq, z_ur, mm_row_n, mm_row_e]
  · simp (disch := omega) only [z_un, z_uq, z_ur, mm_row_n, mm_row_e]
  · simp (disch := omega) only [z_un, z_uq, z_ur, mm_row_n, mm_row_e]
  · simp (disch := omega) only [z_un, z_uq, z_ur, mm_row_n, mm_row_e]
  · simp (disch := omega) only [z_un, z_uq, z_ur, mm_row_n, mm_row_e]
  · simp (disch := omega) only [z_un, z_uq, z_ur, mm_row_n, mm_row_e]
  · simp (disch := omega) only [z_un, z_uq, z_ur, mm_row_n, mm_row_e]
  · simp (disch := omega) only [z_un, z_uq, z_ur, mm_row_n, mm_row_e]
  · simp (disch := omega) only [z_un, z_uq, z_ur, mm_row_n, mm_row_e]
  · simp (disch := omega) only [z_un, z_uq, z_ur, mm_row_n, mm_row_e]
  · simp (disch := omega) only [z_un, z_uq, z_ur, mm_row_n, mm_row_e]
  · by_cases h0 : k = 0
    · rw [h0, z_set_eq]; exact z_uq
    · rw [z_setO h0, show Int.toNat 0 = 0 from rfl]
      simp (disch := omega) only [z_un, z_uq, z_ur, mm_row_n, mm_row_e]
  · simp (disch := omega) only [z_un, z_uq, z_ur, mm_row_n, mm_row_e]
    exact hz 14
  · simp (disch := omega) only [z_un, z_uq, z_ur, mm_row_n, mm_row_e]
    exact hz 2
  · simp (disch := omega) only [z_un, z_uq, z_ur, mm_row_n, mm_row_e]
  · simp (disch := omega) only [z_un, z_uq, z_ur, mm_row_n, mm_row_e]
    exact hz 15
end Init2
