/-! THE CONSTRUCTORS: what is made, where. -/
theorem mm_row_e {β : Type} {f : Nat → β} {a : Nat} {x : β} : mm_row f a x a = x := if_pos rfl
theorem mm_row_n {β : Type} {f : Nat → β} {a b : Nat} {x : β} (h : b ≠ a) : mm_row f a x b = f b := if_neg h
theorem z_tk_c {T T' : z_Ty} {b : Nat} (h : T' b = T b) : z_tk T' b = z_tk T b := by unfold z_tk; rw [h]
theorem z_ln_c {T T' : z_Ty} {b : Nat} (h : T' b = T b) : z_ln T' b = z_ln T b := by unfold z_ln; rw [h]
theorem z_tk_r {T : z_Ty} {x b : Nat} {k : mm_K} (h : b ≠ x) : z_tk (mm_row T x k) b = z_tk T b := z_tk_c (mm_row_n h)
theorem z_ln_r {T : z_Ty} {x b : Nat} {k : mm_K} (h : b ≠ x) : z_ln (mm_row T x k) b = z_ln T b := z_ln_c (mm_row_n h)
theorem z_tk_l {T : z_Ty} {x k : Nat} : z_tk (mm_row T x (.inl k)) x = 2 * k + 1 := by unfold z_tk; rw [mm_row_e]
theorem z_tk_a {T : z_Ty} {x t n : Nat} : z_tk (mm_row T x (.inr (t, n))) x = 2 * t := by unfold z_tk; rw [mm_row_e]
theorem z_ln_a {T : z_Ty} {x t n : Nat} : z_ln (mm_row T x (.inr (t, n))) x = n := by unfold z_ln; rw [mm_row_e]
/-! rows in a row -/
def z_tyM (T : z_Ty) (a t u n k : Nat) : z_Ty := fun b => if b = a then .inr (t, n) else if a < b ∧ b ≤ a + n then .inr (u, k) else T b
def z_zm {γ : Type} [Zero γ] (f : Nat → Nat → γ) (a n : Nat) : Nat → Nat → γ := fun b => if a ≤ b ∧ b ≤ a + n then (fun _ => 0) else f b
def z_rm2 (R : z_Rs) (a n : Nat) : z_Rs := fun b => if b = a then (fun i => if i < n then a + 1 + i else 0) else if a < b ∧ b ≤ a + n then (fun _ => 0) else R b
theorem z_tyM0 {T : z_Ty} {a t u n k : Nat} : z_tk (z_tyM T a t u n k) a = 2 * t ∧ z_ln (z_tyM T a t u n k) a = n := by unfold z_tk z_ln z_tyM; rw [if_pos rfl]; exact ⟨rfl, rfl⟩
theorem z_tyM1 {T : z_Ty} {a t u n k b : Nat} (h : a < b ∧ b ≤ a + n) : z_tk (z_tyM T a t u n k) b = 2 * u ∧ z_ln (z_tyM T a t u n k) b = k := by unfold z_tk z_ln z_tyM; rw [if_neg (by omega), if_pos h]; exact ⟨rfl, rfl⟩
theorem z_tyMn {T : z_Ty} {a t u n k b : Nat} (h : b < a ∨ a + n < b) : z_tyM T a t u n k b = T b := by unfold z_tyM; rw [if_neg (by omega), if_neg (by omega)]
theorem z_zmn {γ : Type} [Zero γ] {f : Nat → Nat → γ} {a n b : Nat} (h : b < a ∨ a + n < b) : z_zm f a n b = f b := by unfold z_zm; rw [if_neg (by omega)]
theorem z_rmn {R : z_Rs} {a n b : Nat} (h : b < a ∨ a + n < b) : z_rm2 R a n b = R b := by unfold z_rm2; rw [if_neg (by omega), if_neg (by omega)]
theorem z_rm0 {R : z_Rs} {a n i : Nat} (h : i < n) : z_rm2 R a n a i = a + 1 + i := by unfold z_rm2; rw [if_pos rfl, if_pos h]
section Init0
variable {α : Type} {T : z_Ty} {I : z_Is} {J : z_Js} {R : z_Rs} {Q : α → mm_T → Prop} {N se a1 : Nat}
theorem z_u_nw {k n : Nat} {f : Nat → mm_T → Option (α × mm_T)} (h : 20 + N = a1) (g : z_U (f a1 ((N + 1, N + 1, se + n), mm_row T a1 (.inl k), mm_row I a1 (fun _ => 0), mm_row J a1 (fun _ => 0), mm_row R a1 (fun _ => 0))) Q) : z_U (nw_ ((N, N, se), T, I, J, R) k n f) Q := by
  subst h
  unfold nw_
  rw [if_pos (show mm_ce ((N, N, se), T, I, J, R) = mm_nc ((N, N, se), T, I, J, R) from rfl)]
  exact g
theorem z_u_na {t : Nat} {n : Nat} {x : Int} {f : Nat → mm_T → Option (α × mm_T)} (h : 20 + N = a1) (hx : x = (n : Int)) (hn : n ≤ 4096) (g : z_U (f a1 ((N + 1, N + 1, se + n), mm_row T a1 (.inr (t, n)), mm_row I a1 (fun _ => 0), mm_row J a1 (fun _ => 0), mm_row R a1 (fun _ => 0))) Q) : z_U (na_ ((N, N, se), T, I, J, R) t x f) Q := by
  subst h
  subst hx
  unfold na_
  rw [if_pos (show mm_ce ((N, N, se), T, I, J, R) = mm_nc ((N, N, se), T, I, J, R) ∧ 0 ≤ (n : Int) ∧ (n : Int) ≤ 4096 from ⟨rfl, by omega, by omega⟩)]
  exact g
theorem z_u_nm {t u n k : Nat} {x y : Int} {f : Nat → mm_T → Option (α × mm_T)} (h : 20 + N = a1) (hx : x = (n : Int)) (hy : y = (k : Int)) (hn : n ≤ 4096) (hk : k ≤ 4096) (g : z_U (f a1 ((N + 1 + n, N + 1 + n, se + n + n * k), z_tyM T a1 t u n k, z_zm I a1 n, z_zm J a1 n, z_rm2 R a1 n)) Q) : z_U (nm_ ((N, N, se), T, I, J, R) t u x y f) Q := by
  subst h
  subst hx
  subst hy
  unfold nm_
  rw [if_pos (show mm_ce ((N, N, se), T, I, J, R) = mm_nc ((N, N, se), T, I, J, R) ∧ 0 ≤ (n : Int) ∧ (n : Int) ≤ 4096 ∧ 0 ≤ (k : Int) ∧ (k : Int) ≤ 4096 from ⟨rfl, by omega, by omega, by omega, by omega⟩)]
  exact g
theorem z_u_sR {c : z_C} {a t x k : Nat} {i : Int} {f : mm_T → Option (α × mm_T)} (h : z_tk T a = 2 * t) (h0 : 0 ≤ i) (h1 : i < (z_ln T a : Int)) (h2 : z_tk T x = 2 * k + 1) (g : z_U (f (c, T, I, J, mm_up R a i.toNat x)) Q) : z_U (sR_ (c, T, I, J, R) a t i x k f) Q := by rw [z_sR h h0 h1 h2]; exact g
end Init0
theorem z_c3e {β : Type} {a b c a' b' c' : Nat} {r : β} (h1 : a = a') (h2 : b = b') (h3 : c = c') : (((a, b, c), r) : (Nat × Nat × Nat) × β) = ((a', b', c'), r) := by rw [h1, h2, h3]
/-! below a all is as it was -/
def z_low (a : Nat) (T T' : z_Ty) (I I' : z_Is) (J J' : z_Js) (R R' : z_Rs) : Prop := ∀ b, b < a → T' b = T b ∧ I' b = I b ∧ J' b = J b ∧ R' b = R b
section Init
variable {T : z_Ty} {I : z_Is} {J : z_Js} {R : z_Rs} {N se a : Nat}
theorem z_i_Sizes (ha : 20 + N = a + 1) (hT : z_tk T a = 15) : z_U (k_Sizes_init a ((N, N, se), T, I, J, R)) (fun _ M' => ∃ T' I' J' R', M' = ((N + 2, N + 2, se + 6), T', I', J', R') ∧ z_low a T T' I I' J J' R R' ∧ T' a = T a ∧ z_SzL T' R' a) := by
  unfold k_Sizes_init
  refine z_u_ob hT ?_
  refine z_u_na (a1 := a + 1) (n := 3) (by omega) rfl (by omega) ?_
  refine z_u_pR (by rw [z_tk_r (by omega)]; exact hT) ?_
  refine z_u_na (a1 := a + 2) (n := 3) (by omega) rfl (by omega) ?_
  refine z_u_pR (by rw [z_tk_r (by omega), z_tk_r (by omega)]; exact hT) ?_
  refine z_u_r ⟨_, _, _, _, rfl, fun b hb => ⟨?_, ?_, ?_, ?_⟩, ?_, ?_, ?_, ?_, ?_, ?_, ?_, ?_⟩
  all_goals (simp (disch := omega) only [z_tk_r, z_tk_l, z_tk_a, z_ln_r, z_ln_a, z_un, z_uq, z_ur, mm_row_n, mm_row_e])
  all_goals first | rfl | exact hT
theorem z_i_Line (ha : 20 + N = a + 1) (hT : z_tk T a = 3) : z_U (k_Line_init a ((N, N, se), T, I, J, R)) (fun _ M' => ∃ T' I' J' R', M' = ((N + 70, N + 70, se + 4296), T', I', J', R') ∧ z_low a T T' I I' J J' R R' ∧ T' a = T a ∧ z_LnL T' R' a ∧ I' a 4 = 0) := by
  unfold k_Line_init
  refine z_u_ob hT ?_
  refine z_u_na (a1 := a + 1) (n := 64) (by omega) rfl (by omega) ?_
  refine z_u_pR (by rw [z_tk_r (by omega)]; exact hT) ?_
  refine z_u_nm (a1 := a + 2) (n := 64) (k := 64) (by omega) rfl rfl (by omega) (by omega) ?_
  refine z_u_pR (by rw [z_tk_c (z_tyMn (by omega)), z_tk_r (by omega)]; exact hT) ?_
  refine z_u_na (a1 := a + 67) (n := 64) (by omega) rfl (by omega) ?_
  refine z_u_pR (by rw [z_tk_r (by omega), z_tk_c (z_tyMn (by omega)), z_tk_r (by omega)]; exact hT) ?_
  refine z_u_nw (a1 := a + 68) (by omega) ?_
  refine z_u_ob (by rw [z_tk_l]) ?_
  refine z_u_c (z_i_Sizes (by omega) (by rw [z_tk_l])) (fun _ M1 h1 => ?_)
  obtain ⟨T1, I1, J1, R1, rfl, lo1, t1, S1⟩ := h1
  have lT : ∀ b, b < a + 68 → T1 b = _ := fun b hb => (lo1 b hb).1
  have lR : ∀ b, b < a + 68 → R1 b = _ := fun b hb => (lo1 b hb).2.2.2
  have ta : z_tk T1 a = 3 := by rw [z_tk_c (lT a (by omega)), z_tk_r (by omega), z_tk_r (by omega), z_tk_c (z_tyMn (by omega)), z_tk_r (by omega)]; exact hT
  refine z_u_pR ta ?_
  refine z_u_pI ta ?_
  refine z_u_r ⟨_, _, _, _, rfl, fun b hb => ⟨?_, ?_, ?_, ?_⟩, ?_, ⟨⟨ta, ?_, ?_, ?_, ?_, ?_, ?_⟩, ⟨fun i hi => ?_, fun i hi => ?_, fun i hi => ?_⟩, ⟨?_, ?_, ?_, ?_⟩, ?_⟩, z_uq⟩
  · rw [lT b (by omega), mm_row_n (by omega), mm_row_n (by omega), z_tyMn (by omega), mm_row_n (by omega)]
  · rw [z_ur (by omega), (lo1 b (by omega)).2.1, mm_row_n (by omega), mm_row_n (by omega), z_zmn (by omega), mm_row_n (by omega)]
  · rw [(lo1 b (by omega)).2.2.1, mm_row_n (by omega), mm_row_n (by omega), z_zmn (by omega), mm_row_n (by omega)]
  · rw [z_ur (by omega), lR b (by omega), mm_row_n (by omega), z_ur (by omega), mm_row_n (by omega), z_ur (by omega), z_rmn (by omega), z_ur (by omega), mm_row_n (by omega)]
  · rw [lT a (by omega), mm_row_n (by omega), mm_row_n (by omega), z_tyMn (by omega), mm_row_n (by omega)]
  · rw [z_tk_c (lT _ (by omega)), z_tk_r (by omega), z_tk_r (by omega), z_tk_c (z_tyMn (by omega)), z_tk_a]
  · rw [z_ln_c (lT _ (by omega)), z_ln_r (by omega), z_ln_r (by omega), z_ln_c (z_tyMn (by omega)), z_ln_a]
  · rw [z_tk_c (lT _ (by omega)), z_tk_r (by omega), z_tk_r (by omega)]; exact z_tyM0.1
  · rw [z_ln_c (lT _ (by omega)), z_ln_r (by omega), z_ln_r (by omega)]; exact z_tyM0.2
  · rw [z_tk_c (lT _ (by omega)), z_tk_r (by omega), z_tk_a]
  · rw [z_ln_c (lT _ (by omega)), z_ln_r (by omega), z_ln_a]
  · rw [z_tk_c (lT _ (by omega)), z_tk_r (by omega), z_tk_r (by omega)]; exact (z_tyM1 (by omega)).1
  · rw [z_ln_c (lT _ (by omega)), z_ln_r (by omega), z_ln_r (by omega)]; exact (z_tyM1 (by omega)).2
  · rw [z_ur (by omega), lR _ (by omega), mm_row_n (by omega), z_ur (by omega), mm_row_n (by omega), z_ur (by omega), z_rm0 hi]
  · rw [z_un (by omega), lR _ (by omega), mm_row_n (by omega), z_un (by omega), mm_row_n (by omega), z_un (by omega), z_rmn (by omega)]; exact z_uq
  · rw [z_un (by omega), lR _ (by omega), mm_row_n (by omega), z_un (by omega), mm_row_n (by omega)]; exact z_uq
  · rw [z_un (by omega), lR _ (by omega), mm_row_n (by omega)]; exact z_uq
  · exact z_uq
  · exact z_SzL_r S1 (z_ur (by omega))
theorem z_i_Name (ha : 20 + N = a + 1) (hT : z_tk T a = 7) : z_U (k_Name_init a ((N, N, se), T, I, J, R)) (fun _ M' => ∃ T' I' J' R', M' = ((N + 1, N + 1, se + 6), T', I', J', R') ∧ z_low a T T' I I' J J' R R' ∧ T' a = T a ∧ z_NmL T' R' a) := by
  unfold k_Name_init
  refine z_u_ob hT ?_
  refine z_u_na (a1 := a + 1) (n := 6) (by omega) rfl (by omega) ?_
  have ta : z_tk (mm_row T (a + 1) (.inr (0, 6))) a = 7 := by rw [z_tk_r (by omega)]; exact hT
  refine z_u_pR ta ?_
  refine z_u_pI ta ?_
  refine z_u_r ⟨_, _, _, _, rfl, fun b hb => ⟨?_, ?_, ?_, ?_⟩, ?_, ta, ?_, ?_, z_uq⟩
  · rw [mm_row_n (by omega)]
  · rw [z_ur (by omega), mm_row_n (by omega)]
  · rw [mm_row_n (by omega)]
  · rw [z_ur (by omega), mm_row_n (by omega)]
  · rw [mm_row_n (by omega)]
  · rw [z_tk_a]
  · rw [z_ln_a]
theorem z_i_Morph (ha : 20 + N = a + 1) (hT : z_tk T a = 5) : z_U (k_Morph_init a ((N, N, se), T, I, J, R)) (fun _ M' => ∃ T' I' J' R', M' = ((N + 8, N + 8, se + 40), T', I', J', R') ∧ z_low a T T' I I' J J' R R' ∧ T' a = T a ∧ z_MoL T' R' a) := by
  unfold k_Morph_init
  refine z_u_ob hT ?_
  refine z_u_nw (a1 := a + 1) (by omega) ?_
  refine z_u_ob (by rw [z_tk_l]) ?_
  refine z_u_c (z_i_Name (by omega) (by rw [z_tk_l])) (fun _ M1 h1 => ?_)
  obtain ⟨T1, I1, J1, R1, rfl, lo1, t1, n1, n2, n3, n4⟩ := h1
  have ta : z_tk T1 a = 5 := by rw [z_tk_c (lo1 a (by omega)).1, z_tk_r (by omega)]; exact hT
  refine z_u_pR ta ?_
  refine z_u_nm (a1 := a + 3) (n := 4) (k := 6) (by omega) rfl rfl (by omega) (by omega) ?_
  refine z_u_pR (by rw [z_tk_c (z_tyMn (by omega))]; exact ta) ?_
  refine z_u_na (a1 := a + 8) (n := 4) (by omega) rfl (by omega) ?_
  refine z_u_pR (by rw [z_tk_r (by omega), z_tk_c (z_tyMn (by omega))]; exact ta) ?_
  refine z_u_r ⟨_, _, _, _, rfl, fun b hb => ⟨?_, ?_, ?_, ?_⟩, ?_, ⟨?_, ?_, ?_, ?_, ?_, ?_, ?_, ?_⟩, fun i hi => ⟨?_, ?_, ?_⟩, ?_, ?_, ?_, ?_⟩
  · rw [mm_row_n (by omega), z_tyMn (by omega), (lo1 b (by omega)).1, mm_row_n (by omega)]
  · rw [mm_row_n (by omega), z_zmn (by omega), (lo1 b (by omega)).2.1, mm_row_n (by omega)]
  · rw [mm_row_n (by omega), z_zmn (by omega), (lo1 b (by omega)).2.2.1, mm_row_n (by omega)]
  · rw [z_ur (by omega), mm_row_n (by omega), z_ur (by omega), z_rmn (by omega), z_ur (by omega), (lo1 b (by omega)).2.2.2, mm_row_n (by omega)]
  · rw [mm_row_n (by omega), z_tyMn (by omega), (lo1 a (by omega)).1, mm_row_n (by omega)]
  · rw [z_tk_r (by omega), z_tk_c (z_tyMn (by omega))]; exact ta
  · rw [z_tk_r (by omega), z_tk_c (z_tyMn (by omega))]; exact n1
  · rw [z_tk_r (by omega), z_tk_c (z_tyMn (by omega))]; exact n2
  · rw [z_ln_r (by omega), z_ln_c (z_tyMn (by omega))]; exact n3
  · rw [z_tk_r (by omega)]; exact z_tyM0.1
  · rw [z_ln_r (by omega)]; exact z_tyM0.2
  · rw [z_tk_a]
  · rw [z_ln_a]
  · rw [z_tk_r (by omega)]; exact (z_tyM1 (by omega)).1
  · rw [z_ln_r (by omega)]; exact (z_tyM1 (by omega)).2
  · rw [z_ur (by omega), mm_row_n (by omega), z_ur (by omega), z_rm0 hi]
  · rw [z_un (by omega), mm_row_n (by omega), z_un (by omega), z_rmn (by omega)]; exact z_uq
  · rw [z_un (by omega), mm_row_n (by omega)]; exact z_uq
  · exact z_uq
  · rw [z_ur (by omega), mm_row_n (by omega), z_ur (by omega), z_rmn (by omega), z_ur (by omega)]; exact n4
theorem z_i_Shape (ha : 20 + N = a + 1) (hT : z_tk T a = 13) : z_U (k_Shape_init a ((N, N, se), T, I, J, R)) (fun _ M' => ∃ T' I' J' R', M' = ((N + 3, N + 3, se + 14), T', I', J', R') ∧ z_low a T T' I I' J J' R R' ∧ T' a = T a ∧ z_ShL T' R' a) := by
  unfold k_Shape_init
  refine z_u_ob hT ?_
  refine z_u_nw (a1 := a + 1) (by omega) ?_
  refine z_u_ob (by rw [z_tk_l]) ?_
  refine z_u_c (z_i_Name (by omega) (by rw [z_tk_l])) (fun _ M1 h1 => ?_)
  obtain ⟨T1, I1, J1, R1, rfl, lo1, t1, n1, n2, n3, n4⟩ := h1
  have ta : z_tk T1 a = 13 := by rw [z_tk_c (lo1 a (by omega)).1, z_tk_r (by omega)]; exact hT
  refine z_u_pR ta ?_
  refine z_u_na (a1 := a + 3) (n := 6) (by omega) rfl (by omega) ?_
  have ta2 : z_tk (mm_row T1 (a + 3) (.inr (0, 6))) a = 13 := by rw [z_tk_r (by omega)]; exact ta
  refine z_u_pR ta2 ?_
  refine z_u_pI ta2 ?_
  refine z_u_pI ta2 ?_
  refine z_u_pZ ta2 (Or.inl rfl) ?_
  refine z_u_r ⟨_, _, _, _, rfl, fun b hb => ⟨?_, ?_, ?_, ?_⟩, ?_, ta2, ?_, ?_, ?_, ?_, ?_, ?_, ?_, ?_⟩
  · rw [mm_row_n (by omega), (lo1 b (by omega)).1, mm_row_n (by omega)]
  · rw [z_ur (by omega), z_ur (by omega), z_ur (by omega), mm_row_n (by omega), (lo1 b (by omega)).2.1, mm_row_n (by omega)]
  · rw [mm_row_n (by omega), (lo1 b (by omega)).2.2.1, mm_row_n (by omega)]
  · rw [z_ur (by omega), mm_row_n (by omega), z_ur (by omega), (lo1 b (by omega)).2.2.2, mm_row_n (by omega)]
  · rw [mm_row_n (by omega), (lo1 a (by omega)).1, mm_row_n (by omega)]
  · rw [z_tk_r (by omega)]; exact n1
  · rw [z_tk_r (by omega)]; exact n2
  · rw [z_ln_r (by omega)]; exact n3
  · rw [z_tk_a]
  · rw [z_ln_a]
  · rw [z_un (by omega), mm_row_n (by omega)]; exact z_uq
  · exact z_uq
  · rw [z_ur (by omega), mm_row_n (by omega), z_ur (by omega)]; exact n4
theorem z_ShL_c {T' : z_Ty} {R' : z_Rs} (h : z_ShL T R a) (q : ∀ b, a ≤ b → b < a + 4 → T' b = T b ∧ R' b = R b) : z_ShL T' R' a := by
  obtain ⟨a1, a2, a3, a4, a5, a6, a7, a8, a9⟩ := h
  exact ⟨by rw [z_tk_c (q _ (by omega) (by omega)).1]; exact a1, by rw [z_tk_c (q _ (by omega) (by omega)).1]; exact a2, by rw [z_tk_c (q _ (by omega) (by omega)).1]; exact a3, by rw [z_ln_c (q _ (by omega) (by omega)).1]; exact a4, by rw [z_tk_c (q _ (by omega) (by omega)).1]; exact a5, by rw [z_ln_c (q _ (by omega) (by omega)).1]; exact a6, by rw [(q a (by omega) (by omega)).2]; exact a7, by rw [(q a (by omega) (by omega)).2]; exact a8, by rw [(q (a + 1) (by omega) (by omega)).2]; exact a9⟩
theorem z_MoL_c {T' : z_Ty} {R' : z_Rs} (h : z_MoL T R a) (q : ∀ b, a ≤ b → b < a + 9 → T' b = T b ∧ R' b = R b) : z_MoL T' R' a := by
  obtain ⟨⟨a1, a2, a3, a4, a5, a6, a7, a8⟩, m, b1, b2, b3, b4⟩ := h
  exact ⟨⟨by rw [z_tk_c (q _ (by omega) (by omega)).1]; exact a1, by rw [z_tk_c (q _ (by omega) (by omega)).1]; exact a2, by rw [z_tk_c (q _ (by omega) (by omega)).1]; exact a3, by rw [z_ln_c (q _ (by omega) (by omega)).1]; exact a4, by rw [z_tk_c (q _ (by omega) (by omega)).1]; exact a5, by rw [z_ln_c (q _ (by omega) (by omega)).1]; exact a6, by rw [z_tk_c (q _ (by omega) (by omega)).1]; exact a7, by rw [z_ln_c (q _ (by omega) (by omega)).1]; exact a8⟩,
    fun i hi => by rw [z_tk_c (q _ (by omega) (by omega)).1, z_ln_c (q _ (by omega) (by omega)).1, (q (a + 3) (by omega) (by omega)).2]; exact m i hi, by rw [(q a (by omega) (by omega)).2]; exact b1, by rw [(q a (by omega) (by omega)).2]; exact b2, by rw [(q a (by omega) (by omega)).2]; exact b3, by rw [(q (a + 1) (by omega) (by omega)).2]; exact b4⟩
theorem z_SzL_c {T' : z_Ty} {R' : z_Rs} (h : z_SzL T R a) (q : ∀ b, a ≤ b → b < a + 3 → T' b = T b ∧ R' b = R b) : z_SzL T' R' a := by
  obtain ⟨a1, a2, a3, a4, a5, a6, a7⟩ := h
  exact ⟨by rw [z_tk_c (q _ (by omega) (by omega)).1]; exact a1, by rw [z_tk_c (q _ (by omega) (by omega)).1]; exact a2, by rw [z_ln_c (q _ (by omega) (by omega)).1]; exact a3, by rw [z_tk_c (q _ (by omega) (by omega)).1]; exact a4, by rw [z_ln_c (q _ (by omega) (by omega)).1]; exact a5, by rw [(q a (by omega) (by omega)).2]; exact a6, by rw [(q a (by omega) (by omega)).2]; exact a7⟩
theorem z_LnL_c {T' : z_Ty} {R' : z_Rs} (h : z_LnL T R a) (q : ∀ b, a ≤ b → b < a + 71 → T' b = T b ∧ R' b = R b) : z_LnL T' R' a := by
  obtain ⟨⟨a1, a2, a3, a4, a5, a6, a7⟩, ⟨m1, m2, m3⟩, ⟨b1, b2, b3, b4⟩, S⟩ := h
  exact ⟨⟨by rw [z_tk_c (q _ (by omega) (by omega)).1]; exact a1, by rw [z_tk_c (q _ (by omega) (by omega)).1]; exact a2, by rw [z_ln_c (q _ (by omega) (by omega)).1]; exact a3, by rw [z_tk_c (q _ (by omega) (by omega)).1]; exact a4, by rw [z_ln_c (q _ (by omega) (by omega)).1]; exact a5, by rw [z_tk_c (q _ (by omega) (by omega)).1]; exact a6, by rw [z_ln_c (q _ (by omega) (by omega)).1]; exact a7⟩,
    ⟨fun i hi => by rw [z_tk_c (q _ (by omega) (by omega)).1]; exact m1 i hi, fun i hi => by rw [z_ln_c (q _ (by omega) (by omega)).1]; exact m2 i hi, fun i hi => by rw [(q (a + 2) (by omega) (by omega)).2]; exact m3 i hi⟩, ⟨by rw [(q a (by omega) (by omega)).2]; exact b1, by rw [(q a (by omega) (by omega)).2]; exact b2, by rw [(q a (by omega) (by omega)).2]; exact b3, by rw [(q a (by omega) (by omega)).2]; exact b4⟩, z_SzL_c S (fun b h1 h2 => q b (by omega) (by omega))⟩
theorem z_TdL_c {T' : z_Ty} {R' : z_Rs} (h : z_TdL T R a) (q : ∀ b, a ≤ b → b < a + 55 → T' b = T b ∧ R' b = R b) : z_TdL T' R' a := by
  obtain ⟨⟨a1, a2, a3, a4, a5, a6, a7⟩, a8⟩ := h
  refine ⟨⟨by rw [z_tk_c (q _ (by omega) (by omega)).1]; exact a1, by rw [z_tk_c (q _ (by omega) (by omega)).1]; exact a2, by rw [z_ln_c (q _ (by omega) (by omega)).1]; exact a3, by rw [z_tk_c (q _ (by omega) (by omega)).1]; exact a4, by rw [z_ln_c (q _ (by omega) (by omega)).1]; exact a5, by rw [(q a (by omega) (by omega)).2]; exact a6, by rw [(q a (by omega) (by omega)).2]; exact a7⟩, fun k hk => ?_⟩
  obtain ⟨b1, b2, b3, b4⟩ := a8 k hk
  exact ⟨by rw [(q (a + 1) (by omega) (by omega)).2]; exact b1, by rw [(q (a + 2) (by omega) (by omega)).2]; exact b2, z_MoL_c b3 (fun b h1 h2 => q b (by omega) (by omega)), z_ShL_c b4 (fun b h1 h2 => q b (by omega) (by omega))⟩
theorem z_i_Told (ha : 20 + N = a + 1) (hT : z_tk T a = 19) : z_U (k_Told_init a ((N, N, se), T, I, J, R)) (fun _ M' => ∃ T' I' J' R', M' = ((N + 54, N + 54, se + 256), T', I', J', R') ∧ z_low a T T' I I' J J' R R' ∧ T' a = T a ∧ z_TdL T' R' a ∧ (I' a 2 = 2 ∧ I' a 3 = 0 ∧ I' a 4 = 0 ∧ I' a 5 = 0 ∧ I' a 6 = 0 ∧ I' a 7 = 0)) := by
  unfold k_Told_init
  refine z_u_ob hT ?_
  refine z_u_na (a1 := a + 1) (n := 4) (by omega) rfl (by omega) ?_
  refine z_u_pR (by rw [z_tk_r (by omega)]; exact hT) ?_
  refine z_u_na (a1 := a + 2) (n := 4) (by omega) rfl (by omega) ?_
  have ta : z_tk (mm_row (mm_row T (a + 1) (.inr (6, 4))) (a + 2) (.inr (7, 4))) a = 19 := by rw [z_tk_r (by omega), z_tk_r (by omega)]; exact hT
  refine z_u_pR ta ?_
  refine z_u_pI ta ?_
  refine z_u_pI ta ?_
  refine z_u_pI ta ?_
  refine z_u_pI ta ?_
  refine z_u_pI ta ?_
  refine z_u_pI ta ?_
  refine z_u_lt ?_
  refine z_g1 (fun d w M => ∃ (i : Nat) (T' : z_Ty) (I' : z_Is) (J' : z_Js) (R' : z_Rs), w = (i : Int) ∧ i + d = 4 ∧ M = ((N + 2 + 13 * i, N + 2 + 13 * i, se + 8 + 62 * i), T', I', J', R') ∧ z_low a T T' I I' J J' R R' ∧ T' a = T a ∧
      ((z_tk T' (a + 1) = 12 ∧ z_ln T' (a + 1) = 4 ∧ z_tk T' (a + 2) = 14 ∧ z_ln T' (a + 2) = 4 ∧ R' a 0 = a + 1 ∧ R' a 1 = a + 2) ∧ ∀ k, k < i → R' (a + 1) k = a + 3 + 13 * k ∧ R' (a + 2) k = a + 12 + 13 * k ∧ z_MoL T' R' (a + 3 + 13 * k) ∧ z_ShL T' R' (a + 12 + 13 * k)) ∧
      (I' a 2 = 2 ∧ I' a 3 = 0 ∧ I' a 4 = 0 ∧ I' a 5 = 0 ∧ I' a 6 = 0 ∧ I' a 7 = 0)) ?_ 4 (by omega) ⟨0, _, _, _, _, rfl, by omega, rfl, fun b hb => ⟨?_, ?_, ?_, ?_⟩, ?_, ⟨⟨?_, ?_, ?_, ?_, ?_, ?_⟩, fun k h => absurd h (by omega)⟩, ?_, ?_, ?_, ?_, ?_, ?_⟩
  · rintro d fu w M ⟨i, T1, I1, J1, R1, rfl, hid, rfl, lo1, t1, ⟨⟨x1, x2, x3, x4, x5, x6⟩, xk⟩, fi⟩ ih
    have ta1 : z_tk T1 a = 19 := by rw [z_tk_c t1]; exact hT
    rw [lp_Told_init_52]
    by_cases hi : i < 4
    · refine z_u_f (by omega) ?_
      refine z_u_gR ta1 x5 ?_
      refine z_u_nw (a1 := a + 3 + 13 * i) (by omega) ?_
      refine z_u_ob (by rw [z_tk_l]) ?_
      refine z_u_c (z_i_Morph (by omega) (by rw [z_tk_l])) (fun _ M2 h2 => ?_)
      obtain ⟨T2, I2, J2, R2, rfl, lo2, t2, m2⟩ := h2
      have l2 : ∀ b, b < a + 3 + 13 * i → T2 b = T1 b ∧ I2 b = I1 b ∧ J2 b = J1 b ∧ R2 b = R1 b := fun b hb => by
        obtain ⟨y1, y2, y3, y4⟩ := lo2 b hb
        exact ⟨y1.trans (mm_row_n (by omega)), y2.trans (mm_row_n (by omega)), y3.trans (mm_row_n (by omega)), y4.trans (mm_row_n (by omega))⟩
      refine z_u_sR (by rw [z_tk_c (l2 _ (by omega)).1]; exact x1) (by omega) (by rw [z_ln_c (l2 _ (by omega)).1, x2]; omega) (by rw [z_tk_c t2, z_tk_l]) ?_
      refine z_u_gR (by rw [z_tk_c (l2 _ (by omega)).1]; exact ta1) (r := a + 2) (by rw [z_un (by omega), (l2 _ (by omega)).2.2.2]; exact x6) ?_
      refine z_u_nw (a1 := a + 12 + 13 * i) (by omega) ?_
      refine z_u_ob (by rw [z_tk_l]) ?_
      refine z_u_c (z_i_Shape (by omega) (by rw [z_tk_l])) (fun _ M3 h3 => ?_)
      obtain ⟨T3, I3, J3, R3, rfl, lo3, t3, m3⟩ := h3
      have l3 : ∀ b, b < a + 12 + 13 * i → T3 b = T2 b ∧ I3 b = I2 b ∧ J3 b = J2 b ∧ (b ≠ a + 1 → R3 b = R2 b) := fun b hb => by
        obtain ⟨y1, y2, y3, y4⟩ := lo3 b hb
        exact ⟨y1.trans (mm_row_n (by omega)), y2.trans (mm_row_n (by omega)), y3.trans (mm_row_n (by omega)), fun h => y4.trans ((mm_row_n (by omega)).trans (z_ur h))⟩
      have r31 : R3 (a + 1) = mm_up R2 (a + 1) ((i : Int)).toNat (a + 3 + 13 * i) (a + 1) := (lo3 (a + 1) (by omega)).2.2.2.trans (mm_row_n (by omega))
      refine z_u_sR (by rw [z_tk_c (l3 _ (by omega)).1, z_tk_c (l2 _ (by omega)).1]; exact x3) (by omega) (by rw [z_ln_c (l3 _ (by omega)).1, z_ln_c (l2 _ (by omega)).1, x4]; omega) (by rw [z_tk_c t3, z_tk_l]) ?_
      refine z_u_ck (by omega) (by omega) ?_
      refine ih (d - 1) _ _ (by omega) ⟨i + 1, T3, I3, J3, mm_up R3 (a + 2) ((i : Int)).toNat (a + 12 + 13 * i), by omega, by omega, ?_, fun b hb => ⟨?_, ?_, ?_, ?_⟩, ?_, ⟨⟨?_, ?_, ?_, ?_, ?_, ?_⟩, fun k hk => ?_⟩, ?_⟩
      · have e1 : N + 2 + 13 * i + 1 + 8 + 1 + 3 = N + 2 + 13 * (i + 1) := by omega
        have e2 : se + 8 + 62 * i + 3 + 40 + 5 + 14 = se + 8 + 62 * (i + 1) := by omega
        rw [e1, e2]
      · rw [(l3 b (by omega)).1, (l2 b (by omega)).1]; exact (lo1 b hb).1
      · rw [(l3 b (by omega)).2.1, (l2 b (by omega)).2.1]; exact (lo1 b hb).2.1
      · rw [(l3 b (by omega)).2.2.1, (l2 b (by omega)).2.2.1]; exact (lo1 b hb).2.2.1
      · rw [z_ur (by omega), (l3 b (by omega)).2.2.2 (by omega), (l2 b (by omega)).2.2.2]; exact (lo1 b hb).2.2.2
      · rw [(l3 a (by omega)).1, (l2 a (by omega)).1]; exact t1
      · rw [z_tk_c (l3 _ (by omega)).1, z_tk_c (l2 _ (by omega)).1]; exact x1
      · rw [z_ln_c (l3 _ (by omega)).1, z_ln_c (l2 _ (by omega)).1]; exact x2
      · rw [z_tk_c (l3 _ (by omega)).1, z_tk_c (l2 _ (by omega)).1]; exact x3
      · rw [z_ln_c (l3 _ (by omega)).1, z_ln_c (l2 _ (by omega)).1]; exact x4
      · rw [z_un (by omega), (l3 a (by omega)).2.2.2 (by omega), (l2 a (by omega)).2.2.2]; exact x5
      · rw [z_un (by omega), (l3 a (by omega)).2.2.2 (by omega), (l2 a (by omega)).2.2.2]; exact x6
      · by_cases hki : k = i
        · subst hki
          refine ⟨?_, z_uq, z_MoL_c m2 (fun b h1 h2 => ⟨(l3 b (by omega)).1, (z_ur (by omega)).trans ((l3 b (by omega)).2.2.2 (by omega))⟩), z_ShL_c m3 (fun b h1 h2 => ⟨rfl, z_ur (by omega)⟩)⟩
          rw [z_un (by omega), r31]
          exact z_uq
        · obtain ⟨k1, k2, k3, k4⟩ := xk k (by omega)
          refine ⟨?_, ?_, z_MoL_c k3 (fun b h1 h2 => ⟨((l3 b (by omega)).1).trans (l2 b (by omega)).1, (z_ur (by omega)).trans (((l3 b (by omega)).2.2.2 (by omega)).trans (l2 b (by omega)).2.2.2)⟩), z_ShL_c k4 (fun b h1 h2 => ⟨((l3 b (by omega)).1).trans (l2 b (by omega)).1, (z_ur (by omega)).trans (((l3 b (by omega)).2.2.2 (by omega)).trans (l2 b (by omega)).2.2.2)⟩)⟩
          · rw [z_un (by omega), r31, z_un (by omega), (l2 _ (by omega)).2.2.2]; exact k1
          · rw [z_un (by omega), (l3 _ (by omega)).2.2.2 (by omega), (l2 _ (by omega)).2.2.2]; exact k2
      · rw [(l3 a (by omega)).2.1, (l2 a (by omega)).2.1]; exact fi
    · have hi4 : i = 4 := by omega
      subst hi4
      refine z_u_t (by omega) ?_
      exact z_u_r ⟨T1, I1, J1, R1, rfl, lo1, t1, ⟨⟨ta1, x1, x2, x3, x4, x5, x6⟩, xk⟩, fi⟩
  all_goals (simp (disch := omega) only [z_tk_r, z_tk_l, z_tk_a, z_ln_r, z_ln_a, z_un, z_uq, z_ur, mm_row_n, mm_row_e])
end Init
