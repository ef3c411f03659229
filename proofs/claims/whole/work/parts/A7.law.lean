/-! THE LAW: its two sides made, its loop, its end. -/
theorem y_XL_c {T T' : z_Ty} {R R' : z_Rs} {t s : Nat} (LX : z_XL T R t s) (q : ∀ b, b < 379 → T' b = T b ∧ R' b = R b) : z_XL T' R' t s := by
  have ts := z_xts LX
  refine ⟨?_, ?_, ?_, ?_, ?_, ?_, ?_, ?_, ?_, ?_, ?_, ?_, ?_, ?_, ?_, ?_, ?_, ?_, ?_, ?_, ?_, ?_, ?_, ?_, ?_, ?_, ?_, ?_, ?_, ?_, ts, ?_, ?_, ?_, ?_, ?_, ?_, fun i hi => ?_, fun i hi => ?_⟩
  · rw [z_tk_c (q 20 (by omega)).1]; exact z_xk20 LX
  · rw [z_tk_c (q 21 (by omega)).1]; exact z_xk21 LX
  · rw [z_tk_c (q 22 (by omega)).1]; exact z_xk22 LX
  · rw [z_tk_c (q 23 (by omega)).1]; exact z_xk23 LX
  · rw [z_tk_c (q 279 (by omega)).1]; exact z_xk279 LX
  · rw [z_tk_c (q 351 (by omega)).1]; exact z_xk351 LX
  · rw [z_tk_c (q 352 (by omega)).1]; exact z_xk352 LX
  · rw [z_tk_c (q 363 (by omega)).1]; exact z_xk363 LX
  · rw [z_tk_c (q 364 (by omega)).1]; exact z_xk364 LX
  · rw [z_tk_c (q 378 (by omega)).1]; exact z_xk378 LX
  · rw [z_ln_c (q 23 (by omega)).1]; exact z_xl23 LX
  · rw [z_ln_c (q 352 (by omega)).1]; exact z_xl352 LX
  · rw [z_ln_c (q 363 (by omega)).1]; exact z_xl363 LX
  · rw [z_ln_c (q 364 (by omega)).1]; exact z_xl364 LX
  · rw [z_ln_c (q 378 (by omega)).1]; exact z_xl378 LX
  · rw [(q 20 (by omega)).2]; exact z_xr0 LX
  · rw [(q 20 (by omega)).2]; exact z_xr1 LX
  · rw [(q 20 (by omega)).2]; exact z_xr2 LX
  · rw [(q 20 (by omega)).2]; exact z_xr3 LX
  · rw [(q 20 (by omega)).2]; exact z_xr4 LX
  · rw [(q 20 (by omega)).2]; exact z_xr5 LX
  · rw [(q 20 (by omega)).2]; exact z_xr6 LX
  · rw [(q 20 (by omega)).2]; exact z_xr7 LX
  · rw [(q 20 (by omega)).2]; exact z_xr8 LX
  · rw [(q 20 (by omega)).2]; exact z_xr9 LX
  · rw [(q 21 (by omega)).2]; exact z_xrt LX
  · rw [(q 22 (by omega)).2]; exact z_xrb LX
  · rw [(q 279 (by omega)).2]; exact z_xrs LX
  · rw [(q 351 (by omega)).2]; exact z_xra LX
  · rw [(q 351 (by omega)).2]; exact z_xrw LX
  · exact z_TdL_c (z_xLt LX) (fun b h1 h2 => q b (by omega))
  · exact z_TdL_c (z_xLs LX) (fun b h1 h2 => q b (by omega))
  · exact z_SzL_c (z_xLz LX) (fun b h1 h2 => q b (by omega))
  · exact z_LnL_c (z_xL137 LX) (fun b h1 h2 => q b (by omega))
  · exact z_LnL_c (z_xL208 LX) (fun b h1 h2 => q b (by omega))
  · exact z_LnL_c (z_xL280 LX) (fun b h1 h2 => q b (by omega))
  · obtain ⟨a1, a2, a3⟩ := z_xA LX i hi
    exact ⟨by rw [(q 352 (by omega)).2]; exact a1, by rw [z_tk_c (q _ (by omega)).1]; exact a2, by rw [z_ln_c (q _ (by omega)).1]; exact a3⟩
  · obtain ⟨a1, a2, a3⟩ := z_xW LX i hi
    exact ⟨by rw [(q 364 (by omega)).2]; exact a1, by rw [z_tk_c (q _ (by omega)).1]; exact a2, by rw [z_ln_c (q _ (by omega)).1]; exact a3⟩
theorem y_ML_d {T T' : z_Ty} {R R' : z_Rs} (L : z_ML T R) (q : ∀ b, 379 ≤ b → b < 395 → T' b = T b) (e : R' 379 = R 379) : z_ML T' R' := by
  refine ⟨?_, ⟨?_, ?_, ?_, ?_, ?_, ?_, ?_, ?_, ?_, ?_, ?_, ?_, ?_, ?_, ?_, ?_, ?_, ?_, ?_, ?_, ?_, ?_, ?_, ?_, ?_, ?_, ?_, ?_, ?_, ?_⟩, by rw [e]; exact L.2.2⟩
  · rw [z_tk_c (q 379 (by omega) (by omega))]; exact L.1
  · rw [z_tk_c (q 380 (by omega) (by omega))]; exact z_mk380 L
  · rw [z_ln_c (q 380 (by omega) (by omega))]; exact z_ml380 L
  · rw [z_tk_c (q 381 (by omega) (by omega))]; exact z_mk381 L
  · rw [z_ln_c (q 381 (by omega) (by omega))]; exact z_ml381 L
  · rw [z_tk_c (q 382 (by omega) (by omega))]; exact z_mk382 L
  · rw [z_ln_c (q 382 (by omega) (by omega))]; exact z_ml382 L
  · rw [z_tk_c (q 383 (by omega) (by omega))]; exact z_mk383 L
  · rw [z_ln_c (q 383 (by omega) (by omega))]; exact z_ml383 L
  · rw [z_tk_c (q 384 (by omega) (by omega))]; exact z_mk384 L
  · rw [z_ln_c (q 384 (by omega) (by omega))]; exact z_ml384 L
  · rw [z_tk_c (q 385 (by omega) (by omega))]; exact z_mk385 L
  · rw [z_ln_c (q 385 (by omega) (by omega))]; exact z_ml385 L
  · rw [z_tk_c (q 386 (by omega) (by omega))]; exact z_mk386 L
  · rw [z_ln_c (q 386 (by omega) (by omega))]; exact z_ml386 L
  · rw [z_tk_c (q 387 (by omega) (by omega))]; exact z_mk387 L
  · rw [z_ln_c (q 387 (by omega) (by omega))]; exact z_ml387 L
  · rw [z_tk_c (q 388 (by omega) (by omega))]; exact z_mk388 L
  · rw [z_ln_c (q 388 (by omega) (by omega))]; exact z_ml388 L
  · rw [z_tk_c (q 389 (by omega) (by omega))]; exact z_mk389 L
  · rw [z_ln_c (q 389 (by omega) (by omega))]; exact z_ml389 L
  · rw [z_tk_c (q 390 (by omega) (by omega))]; exact z_mk390 L
  · rw [z_ln_c (q 390 (by omega) (by omega))]; exact z_ml390 L
  · rw [z_tk_c (q 391 (by omega) (by omega))]; exact z_mk391 L
  · rw [z_ln_c (q 391 (by omega) (by omega))]; exact z_ml391 L
  · rw [z_tk_c (q 392 (by omega) (by omega))]; exact z_mk392 L
  · rw [z_ln_c (q 392 (by omega) (by omega))]; exact z_ml392 L
  · rw [z_tk_c (q 393 (by omega) (by omega))]; exact z_mk393 L
  · rw [z_ln_c (q 393 (by omega) (by omega))]; exact z_ml393 L
  · rw [z_tk_c (q 394 (by omega) (by omega))]; exact z_mk394 L
  · rw [z_ln_c (q 394 (by omega) (by omega))]; exact z_ml394 L
theorem y_rm_d {I I' : z_Is} {σ : y_Sg} (H : y_rm I σ) (h : ∀ b, 379 ≤ b → b < 395 → I' b = I b) : y_rm I' σ := by
  obtain ⟨D, f, n, tb, ts, flt, A, ac⟩ := σ
  exact z_RM_up H (h 382 (by omega) (by omega)) (h 380 (by omega) (by omega)) (by rw [h 379 (by omega) (by omega)]) (by rw [h 379 (by omega) (by omega)])
    (by obtain ⟨-, ⟨w1, w2, w3⟩, -⟩ := H
        exact ⟨by rw [h 379 (by omega) (by omega)]; exact w1, w2, fun i hi => by rw [h 384 (by omega) (by omega)]; exact w3 i hi⟩)
    (by obtain ⟨-, -, -, -, w1, w2⟩ := H
        refine ⟨by rw [h 379 (by omega) (by omega)]; exact w1, fun k hk => ?_⟩
        rw [h 386 (by omega) (by omega)]
        exact w2 k hk)
section Law
variable {sL : Nat} {sX : Nat → Int}
theorem y_u_sn {α : Type} {Q : α → mm_T → Prop} {f : Int → Option (α × mm_T)} (h : z_U (f (sL : Int)) Q) : z_U (sn_ sL f) Q := h
theorem y_u_sl {α : Type} {Q : α → mm_T → Prop} {i : Int} {f : Int → Option (α × mm_T)} (h0 : 0 ≤ i) (h1 : i < (sL : Int)) (h : z_U (f (sX i.toNat)) Q) : z_U (sl_ sL sX i f) Q := by rw [z_sl h0 h1]; exact h
theorem y_u_sw {α : Type} {Q : α → mm_T → Prop} {x : Int} {n : Nat} {d : Option (α × mm_T)} {g : Nat → Option (α × mm_T)} (h1 : ∀ i, i < n → z_U (g i) Q) (h2 : z_U d Q) : z_U (sw_ x 0 n d g) Q := by
  unfold sw_
  split
  · exact h1 _ (by omega)
  · exact h2
theorem y_u_sw51 {α : Type} {Q : α → mm_T → Prop} {x : Int} {d : Option (α × mm_T)} {g : Nat → Option (α × mm_T)} (hd : z_U d Q) (h0 : z_U (g 0) Q) (h1 : z_U (g 1) Q) (h2 : z_U (g 2) Q) (h3 : z_U (g 3) Q) (h4 : z_U (g 4) Q) (h5 : z_U (g 5) Q) (h6 : z_U (g 6) Q) (h7 : z_U (g 7) Q) (h8 : z_U (g 8) Q) (h9 : z_U (g 9) Q) (h10 : z_U (g 10) Q) (h11 : z_U (g 11) Q) (h12 : z_U (g 12) Q) (h13 : z_U (g 13) Q) (h14 : z_U (g 14) Q) (h15 : z_U (g 15) Q) (h16 : z_U (g 16) Q) (h17 : z_U (g 17) Q) (h18 : z_U (g 18) Q) (h19 : z_U (g 19) Q) (h20 : z_U (g 20) Q) (h21 : z_U (g 21) Q) (h22 : z_U (g 22) Q) (h23 : z_U (g 23) Q) (h24 : z_U (g 24) Q) (h25 : z_U (g 25) Q) (h26 : z_U (g 26) Q) (h27 : z_U (g 27) Q) (h28 : z_U (g 28) Q) (h29 : z_U (g 29) Q) (h30 : z_U (g 30) Q) (h31 : z_U (g 31) Q) (h32 : z_U (g 32) Q) (h33 : z_U (g 33) Q) (h34 : z_U (g 34) Q) (h35 : z_U (g 35) Q) (h36 : z_U (g 36) Q) (h37 : z_U (g 37) Q) (h38 : z_U (g 38) Q) (h39 : z_U (g 39) Q) (h40 : z_U (g 40) Q) (h41 : z_U (g 41) Q) (h42 : z_U (g 42) Q) (h43 : z_U (g 43) Q) (h44 : z_U (g 44) Q) (h45 : z_U (g 45) Q) (h46 : z_U (g 46) Q) (h47 : z_U (g 47) Q) (h48 : z_U (g 48) Q) (h49 : z_U (g 49) Q) (h50 : z_U (g 50) Q) : z_U (sw_ x 0 51 d g) Q := by
  refine y_u_sw (fun m hm => ?_) hd
  by_cases e0 : m = 0
  · rw [e0]; exact h0
  by_cases e1 : m = 1
  · rw [e1]; exact h1
  by_cases e2 : m = 2
  · rw [e2]; exact h2
  by_cases e3 : m = 3
  · rw [e3]; exact h3
  by_cases e4 : m = 4
  · rw [e4]; exact h4
  by_cases e5 : m = 5
  · rw [e5]; exact h5
  by_cases e6 : m = 6
  · rw [e6]; exact h6
  by_cases e7 : m = 7
  · rw [e7]; exact h7
  by_cases e8 : m = 8
  · rw [e8]; exact h8
  by_cases e9 : m = 9
  · rw [e9]; exact h9
  by_cases e10 : m = 10
  · rw [e10]; exact h10
  by_cases e11 : m = 11
  · rw [e11]; exact h11
  by_cases e12 : m = 12
  · rw [e12]; exact h12
  by_cases e13 : m = 13
  · rw [e13]; exact h13
  by_cases e14 : m = 14
  · rw [e14]; exact h14
  by_cases e15 : m = 15
  · rw [e15]; exact h15
  by_cases e16 : m = 16
  · rw [e16]; exact h16
  by_cases e17 : m = 17
  · rw [e17]; exact h17
  by_cases e18 : m = 18
  · rw [e18]; exact h18
  by_cases e19 : m = 19
  · rw [e19]; exact h19
  by_cases e20 : m = 20
  · rw [e20]; exact h20
  by_cases e21 : m = 21
  · rw [e21]; exact h21
  by_cases e22 : m = 22
  · rw [e22]; exact h22
  by_cases e23 : m = 23
  · rw [e23]; exact h23
  by_cases e24 : m = 24
  · rw [e24]; exact h24
  by_cases e25 : m = 25
  · rw [e25]; exact h25
  by_cases e26 : m = 26
  · rw [e26]; exact h26
  by_cases e27 : m = 27
  · rw [e27]; exact h27
  by_cases e28 : m = 28
  · rw [e28]; exact h28
  by_cases e29 : m = 29
  · rw [e29]; exact h29
  by_cases e30 : m = 30
  · rw [e30]; exact h30
  by_cases e31 : m = 31
  · rw [e31]; exact h31
  by_cases e32 : m = 32
  · rw [e32]; exact h32
  by_cases e33 : m = 33
  · rw [e33]; exact h33
  by_cases e34 : m = 34
  · rw [e34]; exact h34
  by_cases e35 : m = 35
  · rw [e35]; exact h35
  by_cases e36 : m = 36
  · rw [e36]; exact h36
  by_cases e37 : m = 37
  · rw [e37]; exact h37
  by_cases e38 : m = 38
  · rw [e38]; exact h38
  by_cases e39 : m = 39
  · rw [e39]; exact h39
  by_cases e40 : m = 40
  · rw [e40]; exact h40
  by_cases e41 : m = 41
  · rw [e41]; exact h41
  by_cases e42 : m = 42
  · rw [e42]; exact h42
  by_cases e43 : m = 43
  · rw [e43]; exact h43
  by_cases e44 : m = 44
  · rw [e44]; exact h44
  by_cases e45 : m = 45
  · rw [e45]; exact h45
  by_cases e46 : m = 46
  · rw [e46]; exact h46
  by_cases e47 : m = 47
  · rw [e47]; exact h47
  by_cases e48 : m = 48
  · rw [e48]; exact h48
  by_cases e49 : m = 49
  · rw [e49]; exact h49
  by_cases e50 : m = 50
  · rw [e50]; exact h50
  exact absurd hm (by omega)
theorem y_u_swm {Q : Int → mm_T → Prop} {x : Int} {d : Option (Int × mm_T)} {hz : Nat → Option (Int × mm_T)} {g0 : Unit → Option (Int × mm_T)} {g1 : Unit → Option (Int × mm_T)} {g2 : Unit → Option (Int × mm_T)} {g3 : Unit → Option (Int × mm_T)} {g4 : Unit → Option (Int × mm_T)} {g5 : Unit → Option (Int × mm_T)} {g6 : Unit → Option (Int × mm_T)} {g7 : Unit → Option (Int × mm_T)} {g8 : Unit → Option (Int × mm_T)} {g9 : Unit → Option (Int × mm_T)} {g10 : Unit → Option (Int × mm_T)} {g11 : Unit → Option (Int × mm_T)} {g12 : Unit → Option (Int × mm_T)} {g13 : Unit → Option (Int × mm_T)} {g14 : Unit → Option (Int × mm_T)} {g15 : Unit → Option (Int × mm_T)} {g16 : Unit → Option (Int × mm_T)} {g17 : Unit → Option (Int × mm_T)} {g18 : Unit → Option (Int × mm_T)} {g19 : Unit → Option (Int × mm_T)} {g20 : Unit → Option (Int × mm_T)} {g21 : Unit → Option (Int × mm_T)} {g22 : Unit → Option (Int × mm_T)} {g23 : Unit → Option (Int × mm_T)} {g24 : Unit → Option (Int × mm_T)} {g25 : Unit → Option (Int × mm_T)} {g26 : Unit → Option (Int × mm_T)} {g27 : Unit → Option (Int × mm_T)} {g28 : Unit → Option (Int × mm_T)} {g29 : Unit → Option (Int × mm_T)} {g30 : Unit → Option (Int × mm_T)} {g31 : Unit → Option (Int × mm_T)} {g32 : Unit → Option (Int × mm_T)} {g33 : Unit → Option (Int × mm_T)} {g34 : Unit → Option (Int × mm_T)} {g35 : Unit → Option (Int × mm_T)} {g36 : Unit → Option (Int × mm_T)} {g37 : Unit → Option (Int × mm_T)} {g38 : Unit → Option (Int × mm_T)} {g39 : Unit → Option (Int × mm_T)} {g40 : Unit → Option (Int × mm_T)} {g41 : Unit → Option (Int × mm_T)} {g42 : Unit → Option (Int × mm_T)} {g43 : Unit → Option (Int × mm_T)} {g44 : Unit → Option (Int × mm_T)} {g45 : Unit → Option (Int × mm_T)} {g46 : Unit → Option (Int × mm_T)} {g47 : Unit → Option (Int × mm_T)} {g48 : Unit → Option (Int × mm_T)} {g49 : Unit → Option (Int × mm_T)} {g50 : Unit → Option (Int × mm_T)} (hd : z_U d Q) (h0 : z_U (g0 ()) Q) (h1 : z_U (g1 ()) Q) (h2 : z_U (g2 ()) Q) (h3 : z_U (g3 ()) Q) (h4 : z_U (g4 ()) Q) (h5 : z_U (g5 ()) Q) (h6 : z_U (g6 ()) Q) (h7 : z_U (g7 ()) Q) (h8 : z_U (g8 ()) Q) (h9 : z_U (g9 ()) Q) (h10 : z_U (g10 ()) Q) (h11 : z_U (g11 ()) Q) (h12 : z_U (g12 ()) Q) (h13 : z_U (g13 ()) Q) (h14 : z_U (g14 ()) Q) (h15 : z_U (g15 ()) Q) (h16 : z_U (g16 ()) Q) (h17 : z_U (g17 ()) Q) (h18 : z_U (g18 ()) Q) (h19 : z_U (g19 ()) Q) (h20 : z_U (g20 ()) Q) (h21 : z_U (g21 ()) Q) (h22 : z_U (g22 ()) Q) (h23 : z_U (g23 ()) Q) (h24 : z_U (g24 ()) Q) (h25 : z_U (g25 ()) Q) (h26 : z_U (g26 ()) Q) (h27 : z_U (g27 ()) Q) (h28 : z_U (g28 ()) Q) (h29 : z_U (g29 ()) Q) (h30 : z_U (g30 ()) Q) (h31 : z_U (g31 ()) Q) (h32 : z_U (g32 ()) Q) (h33 : z_U (g33 ()) Q) (h34 : z_U (g34 ()) Q) (h35 : z_U (g35 ()) Q) (h36 : z_U (g36 ()) Q) (h37 : z_U (g37 ()) Q) (h38 : z_U (g38 ()) Q) (h39 : z_U (g39 ()) Q) (h40 : z_U (g40 ()) Q) (h41 : z_U (g41 ()) Q) (h42 : z_U (g42 ()) Q) (h43 : z_U (g43 ()) Q) (h44 : z_U (g44 ()) Q) (h45 : z_U (g45 ()) Q) (h46 : z_U (g46 ()) Q) (h47 : z_U (g47 ()) Q) (h48 : z_U (g48 ()) Q) (h49 : z_U (g49 ()) Q) (h50 : z_U (g50 ()) Q) : z_U (sw_ x 0 51 d (fun i => lp_L_law_23.match_1 (fun _ => Option (Int × mm_T)) i g0 g1 g2 g3 g4 g5 g6 g7 g8 g9 g10 g11 g12 g13 g14 g15 g16 g17 g18 g19 g20 g21 g22 g23 g24 g25 g26 g27 g28 g29 g30 g31 g32 g33 g34 g35 g36 g37 g38 g39 g40 g41 g42 g43 g44 g45 g46 g47 g48 g49 g50 hz)) Q :=
  y_u_sw51 hd h0 h1 h2 h3 h4 h5 h6 h7 h8 h9 h10 h11 h12 h13 h14 h15 h16 h17 h18 h19 h20 h21 h22 h23 h24 h25 h26 h27 h28 h29 h30 h31 h32 h33 h34 h35 h36 h37 h38 h39 h40 h41 h42 h43 h44 h45 h46 h47 h48 h49 h50
def y_end (r : Int) (M : mm_T) : Prop := r = 1 ∧ mm_ce M ≤ 601024 ∧ mm_se M ≤ 7293034
theorem y_loop {T : z_Ty} {c : z_C} {I : z_Is} {J : z_Js} {R : z_Rs} {σ : y_Sg} (hS : sL ≤ 3072) (hx : ∀ i, -2147483648 ≤ sX i ∧ sX i < 2147483648) (tk : y_tk T) (iv : y_IV T I R σ) (c1 : c.2.1 ≤ 376) (c2 : c.2.2 ≤ 17034) :
    z_U (lp_L_law_23 (fun M => zz_ 1 (some (1, M))) sL sX 20 379 395 FU_ 0 (c, T, I, J, R)) y_end := by
  refine z_g1 (fun d v M => ∃ (i : Nat) (c' : z_C) (I' : z_Is) (J' : z_Js) (R' : z_Rs) (σ' : y_Sg), v = 6 * (i : Int) ∧ i + d = 600 ∧ i ≤ 512 ∧ M = (c', T, I', J', R') ∧ y_IV T I' R' σ' ∧ c'.2.1 ≤ 376 + i ∧ c'.2.2 ≤ 17034 + 6 * i) ?_ 600 (by omega) ⟨0, c, I, J, R, σ, by omega, by omega, by omega, rfl, iv, by omega, by omega⟩
  rintro d fu v M ⟨i, c', I', J', R', σ', rfl, hd, h512, rfl, iv', k1, k2⟩ ih
  rw [lp_L_law_23]
  refine y_u_sn ?_
  refine z_u_ck (by omega) (by omega) ?_
  refine z_u_if (fun h => ?_) (fun h => ?_)
  · refine z_u_zz (Or.inr rfl) (z_u_r ⟨rfl, ?_, ?_⟩)
    · show c'.2.1 ≤ 601024
      omega
    · show c'.2.2 ≤ 7293034
      omega
  · refine y_u_sl (by omega) (by omega) ?_
    refine z_u_j (fun j => y_J T c' j y_end) ?_ (fun j hj => ?_)
    · intro c2' I2 J2 R2 σ2 hc iv2
      refine z_u_ck (by omega) (by omega) ?_
      obtain ⟨-, g1, g2⟩ := hc
      exact ih (d - 1) _ _ (by omega) ⟨i + 1, c2', I2, J2, R2, σ2, by omega, by omega, by omega, rfl, iv2, by omega, by omega⟩
    · have hq : 0 ≤ 6 * (i : Int) := by omega
      have hL : 6 * (i : Int) + 6 ≤ (sL : Int) := by omega
      refine y_u_swm (hj c' I' J' R' σ' z_c10 iv') ?_ ?_ ?_ ?_ ?_ ?_ ?_ ?_ ?_ ?_ ?_ ?_ ?_ ?_ ?_ ?_ ?_ ?_ ?_ ?_ ?_ ?_ ?_ ?_ ?_ ?_ ?_ ?_ ?_ ?_ ?_ ?_ ?_ ?_ ?_ ?_ ?_ ?_ ?_ ?_ ?_ ?_ ?_ ?_ ?_ ?_ ?_ ?_ ?_ ?_ ?_
      · exact y_k0 rfl hq hL hS hx iv' tk hj
      · exact y_k1 rfl hq hL hS hx iv' tk hj
      · exact y_k2 rfl hq hL hS hx iv' tk hj
      · exact y_k3 rfl hq hL hS hx iv' tk hj
      · exact y_k4 rfl hq hL hS hx iv' tk hj
      · exact y_k5 rfl hq hL hS hx iv' tk hj
      · exact y_k6 rfl hq hL hS hx iv' tk hj
      · exact y_k7 rfl hq hL hS hx iv' tk hj
      · exact y_k8 rfl hq hL hS hx iv' tk hj
      · exact y_k9 rfl hq hL hS hx iv' tk hj
      · exact y_k10 rfl hq hL hS hx iv' tk hj
      · exact y_k11 rfl hq hL hS hx iv' tk hj
      · exact y_k12 rfl hq hL hS hx iv' tk hj
      · exact y_k13 rfl hq hL hS hx iv' tk hj
      · exact y_k14 rfl hq hL hS hx iv' tk hj
      · exact y_k15 rfl hq hL hS hx iv' tk hj
      · exact y_k16 rfl hq hL hS hx iv' tk hj
      · exact y_k17 rfl hq hL hS hx iv' tk hj
      · exact y_k18 rfl hq hL hS hx iv' tk hj
      · exact y_k19 rfl hq hL hS hx iv' tk hj
      · exact y_k20 rfl hq hL hS hx iv' tk hj
      · exact y_k21 rfl hq hL hS hx iv' tk hj
      · exact y_k22 rfl hq hL hS hx iv' tk hj
      · exact y_k23 rfl hq hL hS hx iv' tk hj
      · exact y_k24 rfl hq hL hS hx iv' tk hj
      · exact y_k25 rfl hq hL hS hx iv' tk hj
      · exact y_k26 rfl hq hL hS hx iv' tk hj
      · exact y_k27 rfl hq hL hS hx iv' tk hj
      · exact y_k28 rfl hq hL hS hx iv' tk hj
      · exact y_k29 rfl hq hL hS hx iv' tk hj
      · exact y_k30 rfl hq hL hS hx iv' tk hj
      · exact y_k31 rfl hq hL hS hx iv' tk hj
      · exact y_k32 rfl hq hL hS hx iv' tk hj
      · exact y_k33 rfl hq hL hS hx iv' tk hj
      · exact y_k34 rfl hq hL hS hx iv' tk hj
      · exact y_k35 rfl hq hL hS hx iv' tk hj
      · exact y_k36 rfl hq hL hS hx iv' tk hj
      · exact y_k37 rfl hq hL hS hx iv' tk hj
      · exact y_k38 rfl hq hL hS hx iv' tk hj
      · exact y_k39 rfl hq hL hS hx iv' tk hj
      · exact y_k40 rfl hq hL hS hx iv' tk hj
      · exact y_k41 rfl hq hL hS hx iv' tk hj
      · exact y_k42 rfl hq hL hS hx iv' tk hj
      · exact y_k43 rfl hq hL hS hx iv' tk hj
      · exact y_k44 rfl hq hL hS hx iv' tk hj
      · exact y_k45 rfl hq hL hS hx iv' tk hj
      · exact y_k46 rfl hq hL hS hx iv' tk hj
      · exact y_k47 rfl hq hL hS hx iv' tk hj
      · exact y_k48 rfl hq hL hS hx iv' tk hj
      · exact y_k49 rfl hq hL hS hx iv' tk hj
      · exact y_k50 rfl hq hL hS hx iv' tk hj
theorem y_Dw0 : z_Dw (z_set (fun _ => 0) 0 2) := by
  have f0 : ∀ y, y ≠ 0 → z_set (fun _ => (0 : Int)) 0 2 y = 0 := fun y hy => z_setO hy
  refine ⟨by rw [z_set_eq]; omega, by rw [f0 1 (by omega)]; omega, by rw [f0 2 (by omega)]; omega, by rw [f0 3 (by omega)]; omega, by rw [f0 4 (by omega)]; omega, by rw [f0 5 (by omega)]; omega, fun m l hm => ?_, fun p hp => ?_⟩
  · rw [f0 4 (by omega)] at hm; exact absurd hm (by omega)
  · rw [f0 5 (by omega)] at hp; exact absurd hp (by omega)
theorem y_law (hS : sL ≤ 3072) (hx : ∀ i, -2147483648 ≤ sX i ∧ sX i < 2147483648) :
    z_U (k_L_law sL sX ((0, 0, 0), (fun _ => .inl 99), (fun _ _ => 0), (fun _ _ => 0), (fun _ _ => 0))) y_end := by
  unfold k_L_law
  refine z_u_nw (N := 0) (a1 := 20) (by omega) ?_
  refine z_u_ob (by rw [z_tk_l]) ?_
  refine z_u_c (z_i_X (se := 10) (by rw [z_tk_l])) (fun _ M1 h1 => ?_)
  obtain ⟨T1, I1, J1, R1, rfl, -, LX, Hx⟩ := h1
  refine z_u_lt ?_
  refine z_u_nw (N := 359) (a1 := 379) (by omega) ?_
  refine z_u_ob (by rw [z_tk_l]) ?_
  refine z_u_c (z_i_M (se := 10 + 14647 + 32) (by rw [z_tk_l]) (fun j => by rw [mm_row_e])) (fun _ M2 h2 => ?_)
  obtain ⟨T2, I2, J2, R2, rfl, lo2, L, Hm⟩ := h2
  refine z_u_lt ?_
  refine z_u_na (N := 375) (a1 := 395) (n := 1) (by omega) (by omega) (by omega) ?_
  refine z_u_lt ?_
  refine z_u_lt ?_
  have lX : ∀ b, b < 379 → mm_row T2 395 (.inr (3, 1)) b = T1 b ∧ mm_row R2 395 (fun _ => 0) b = R1 b := fun b hb => by
    rw [mm_row_n (by omega), mm_row_n (by omega), (lo2 b hb).1, (lo2 b hb).2.2.2, mm_row_n (by omega), mm_row_n (by omega)]
    exact ⟨rfl, rfl⟩
  refine y_loop (σ := (z_set (fun _ => 0) 0 2, (fun _ => 0), 0, (fun _ => 0), 0, -1, (fun _ => (fun _ => 0, 0)), 0)) hS hx ⟨by rw [z_tk_a], by rw [z_ln_a]⟩ ⟨24, 79, y_XL_c LX lX, ?_, ?_, ?_, ?_⟩ ?_ ?_
  · exact y_ML_d L (fun b h1 h2 => by rw [mm_row_n (by omega)]) (by rw [mm_row_n (by omega)])
  · exact y_rx_c (I := I1) y_Dw0 (by omega) Hx (fun b hb => by rw [mm_row_n (by omega), (lo2 b hb).2.1, mm_row_n (by omega)])
  · exact y_rm_d (I := I2) Hm (fun b h1 h2 => by rw [mm_row_n (by omega)])
  · exact ⟨y_Dw0, ⟨Nat.zero_le _, fun i hi => absurd hi (Nat.not_lt_zero i)⟩, ⟨Nat.zero_le _, fun i hi => absurd hi (Nat.not_lt_zero i)⟩, Nat.zero_le _, fun i hi => absurd hi (Nat.not_lt_zero i)⟩
  · show 375 + 1 ≤ 376
    omega
  · show 10 + 14647 + 32 + 2344 + 1 ≤ 17034
    omega
/-! the pure theorem -/
theorem y_law' (hS : sL ≤ 3072) (hx : ∀ i, -2147483648 ≤ sX i ∧ sX i < 2147483648) :
    ∃ M', k_L_law sL sX ((0, 0, 0), (fun _ => .inl 99), (fun _ _ => 0), (fun _ _ => 0), (fun _ _ => 0)) = some (1, M') ∧ mm_ce M' ≤ 601024 ∧ mm_se M' ≤ 7293034 := by
  obtain ⟨r, M', h1, rfl, h2, h3⟩ := y_law hS hx
  exact ⟨M', h1, h2, h3⟩
end Law
