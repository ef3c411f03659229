/-! THE LAW'S LOOP: its calls (written by genA4.py). -/
theorem y_npcv {D : Nat → Int} {m l k : Int} : z_npc D m l k = 0 ∨ z_npc D m l k = 1 ∨ z_npc D m l k = 2 := by
  unfold z_npc
  split
  · exact Or.inr (Or.inl rfl)
  · split
    · exact Or.inr (Or.inr rfl)
    · exact Or.inl rfl
theorem y_flcv {D : Nat → Int} {m l k : Int} : z_flc D m l k = 0 ∨ z_flc D m l k = 1 ∨ z_flc D m l k = 2 ∨ z_flc D m l k = 3 := by
  unfold z_flc
  split
  · exact Or.inr (Or.inl rfl)
  · split
    · exact Or.inr (Or.inr (Or.inl rfl))
    · split
      · exact Or.inr (Or.inr (Or.inr rfl))
      · exact Or.inl rfl
theorem y_hc_n {γ : Type} {fe : Nat → mm_T → Option (Int × mm_T)} {w : γ → Int64} {q : Int} {v : γ} {val : Int64} (hq : q = 0 ∨ q = 1 ∨ q = 2) (h1 : ∀ M, fe 3 M = some (1, M)) (h2 : ∀ M, fe 1 M = some (2, M)) (hv : val = w v) : y_hc fe w (if q = 1 then .inl 3 else if q = 2 then .inl 1 else .inr v) q val := by
  rcases hq with rfl | rfl | rfl
  · exact y_hc_r hv
  · exact y_hc_l h1 (by decide)
  · exact y_hc_l h2 (by decide)
theorem y_hc_o {γ : Type} {fe : Nat → mm_T → Option (Int × mm_T)} {w : γ → Int64} {q : Int} {p : Prop} [Decidable p] {v : γ} {val : Int64} (hq : q = 0 ∨ q = 1 ∨ q = 2) (h1 : ∀ M, fe 3 M = some (1, M)) (h2 : ∀ M, fe 1 M = some (2, M)) (hv : val = w v) : y_hc fe w (if q = 1 then .inl 3 else if q = 2 ∨ p then .inl 1 else .inr v) (if q = 0 ∧ p then 2 else q) val := by
  rcases hq with rfl | rfl | rfl
  · by_cases hp : p
    · rw [if_neg (by decide), if_pos (Or.inr hp), if_pos ⟨rfl, hp⟩]; exact y_hc_l h2 (by decide)
    · rw [if_neg (by decide), if_neg (fun h => h.elim (by decide) hp), if_neg (fun h => hp h.2)]; exact y_hc_r hv
  · rw [if_pos rfl, if_neg (fun h => absurd h.1 (by decide))]; exact y_hc_l h1 (by decide)
  · rw [if_neg (by decide), if_pos (Or.inl rfl), if_neg (fun h => absurd h.1 (by decide))]; exact y_hc_l h2 (by decide)
theorem y_hc_f {γ : Type} {fe : Nat → mm_T → Option (Int × mm_T)} {w : γ → Int64} {q : Int} {v : γ} {val : Int64} (hq : q = 0 ∨ q = 1 ∨ q = 2 ∨ q = 3) (h1 : ∀ M, fe 3 M = some (1, M)) (h2 : ∀ M, fe 1 M = some (2, M)) (h3 : ∀ M, fe 2 M = some (3, M)) (hv : q = 0 → val = w v) : y_hc fe w (if q = 0 then .inr v else .inl (if q = 1 then 3 else if q = 2 then 1 else 2)) q val := by
  rcases hq with rfl | rfl | rfl | rfl
  · exact y_hc_r (hv rfl)
  · exact y_hc_l h1 (by decide)
  · exact y_hc_l h2 (by decide)
  · exact y_hc_l h3 (by decide)
section Cases1
variable {c : z_C} {T : z_Ty} {I : z_Is} {J : z_Js} {R : z_Rs} {σ : y_Sg} {Q : Int → mm_T → Prop} {v4 : Int} {sL : Nat} {sX : Nat → Int} {j : mm_T → Option (Int × mm_T)}
theorem y_k0 {M : mm_T} (hM : M = (c, T, I, J, R)) (hq : 0 ≤ v4) (hL : v4 + 6 ≤ (sL : Int)) (hS : sL ≤ 3072) (hx : ∀ i, -2147483648 ≤ sX i ∧ sX i < 2147483648) (S : y_IV T I R σ) (tk : y_tk T) (hj : y_J T c j Q) : z_U (
    ck_ (v4 + 1) fun x265 =>
    sl_ sL sX x265 fun x266 =>
    ck_ (v4 + 2) fun x271 =>
    sl_ sL sX x271 fun x272 =>
    ck_ (v4 + 3) fun x277 =>
    sl_ sL sX x277 fun x278 =>
    ck_ (v4 + 4) fun x283 =>
    sl_ sL sX x283 fun x284 =>
    ck_ (v4 + 5) fun x289 =>
    sl_ sL sX x289 fun x290 =>
    ob_ M 20 10 <| cl_ (k_X_feed 20 x266 x272 x278 x284 x290 M) fun c291 M =>
    ck_ (v4 + 1) fun x299 =>
    sl_ sL sX x299 fun x300 =>
    ck_ (v4 + 2) fun x305 =>
    sl_ sL sX x305 fun x306 =>
    ck_ (v4 + 3) fun x311 =>
    sl_ sL sX x311 fun x312 =>
    ck_ (v4 + 4) fun x317 =>
    sl_ sL sX x317 fun x318 =>
    ck_ (v4 + 5) fun x323 =>
    sl_ sL sX x323 fun x324 =>
    ob_ M 379 11 <| cl_ (k_M_feed 379 x300 x306 x312 x318 x324 M) fun c325 M =>
    if c291 = c325 then (
      j M
    ) else (
      zz_ 0 (some (0, M))
    )
  ) Q := by
  subst hM
  obtain ⟨t, s, LX, L, Hx, Hm, W⟩ := S
  obtain ⟨D, f, n, tb, ts, flt, A, ac⟩ := σ
  have wD : z_Dw D := W.1
  have Hx : z_RX I t D f n tb ts flt A ac := Hx
  have Hm : z_RM I D f n tb ts flt A ac := Hm
  simp (disch := omega) only [z_ck, z_sl]
  refine y_pl (σ := (D, f, n, tb, ts, flt, A, ac)) (x := (if ts + 20 ≤ 400 then ((ts + 20 : Nat) : Int) else -1)) (σ' := (y_fe D f n tb ts flt A ac (sX (v4 + 1).toNat) (sX (v4 + 2).toNat) (sX (v4 + 3).toNat) (sX (v4 + 4).toNat) (sX (v4 + 5).toNat))) LX L Hm (y_fe_w W _ _ _ _ _) hj (y_fe_X LX W Hx _ _ _ _ _) ?_
  · intro c1 I1 J1 R1 L1 H1
    have H1 : z_RM I1 D f n tb ts flt A ac := H1
    exact y_fe_M L1 W H1 _ _ _ _ _
theorem y_k1 {M : mm_T} (hM : M = (c, T, I, J, R)) (hq : 0 ≤ v4) (hL : v4 + 6 ≤ (sL : Int)) (hS : sL ≤ 3072) (hx : ∀ i, -2147483648 ≤ sX i ∧ sX i < 2147483648) (S : y_IV T I R σ) (tk : y_tk T) (hj : y_J T c j Q) : z_U (
    ck_ (v4 + 1) fun x338 =>
    sl_ sL sX x338 fun x339 =>
    ob_ M 20 10 <| cl_ (k_X_end 20 x339 M) fun c340 M =>
    ck_ (v4 + 1) fun x348 =>
    sl_ sL sX x348 fun x349 =>
    ob_ M 379 11 <| cl_ (k_M_end 379 x349 M) fun c350 M =>
    if c340 = c350 then (
      j M
    ) else (
      zz_ 0 (some (0, M))
    )
  ) Q := by
  subst hM
  obtain ⟨t, s, LX, L, Hx, Hm, W⟩ := S
  obtain ⟨D, f, n, tb, ts, flt, A, ac⟩ := σ
  have wD : z_Dw D := W.1
  have Hx : z_RX I t D f n tb ts flt A ac := Hx
  have Hm : z_RM I D f n tb ts flt A ac := Hm
  simp (disch := omega) only [z_ck, z_sl]
  refine y_pl (σ := (D, f, n, tb, ts, flt, A, ac)) (x := (if 0 ≤ (sX (v4 + 1).toNat) ∧ (sX (v4 + 1).toNat) ≤ (ts : Int) then 1 else 0)) (σ' := (y_en D f n tb ts flt A ac (sX (v4 + 1).toNat))) LX L Hm (y_en_w W _) hj (y_en_X LX W Hx _) ?_
  · intro c1 I1 J1 R1 L1 H1
    have H1 : z_RM I1 D f n tb ts flt A ac := H1
    exact y_en_M L1 H1 _
theorem y_k2 {M : mm_T} (hM : M = (c, T, I, J, R)) (hq : 0 ≤ v4) (hL : v4 + 6 ≤ (sL : Int)) (hS : sL ≤ 3072) (hx : ∀ i, -2147483648 ≤ sX i ∧ sX i < 2147483648) (S : y_IV T I R σ) (tk : y_tk T) (hj : y_J T c j Q) : z_U (
    cl_ (k_L_read 20 395 M) fun c360 M =>
    lt_ c360 fun v5_363 =>
    ob_ M 379 11 <| cl_ (k_M_read 379 M) fun c366 M =>
    lt_ c366 fun v6_369 =>
    ob_ M 379 11 <| cl_ (k_M_thrown 379 M) fun c372 M =>
    if c372 = v5_363 then (
      jn_ (fun (M : mm_T) =>
        j M
      ) fun j399 =>
      if ¬ v5_363 = 0 then (
        j399 M
      ) else (
        aJ_ M 395 0 fun x389 =>
        if lcm_ x389 (i2l_ v6_369) = 0 then (
          j399 M
        ) else (
          zz_ 0 (some (0, M))
        )
      )
    ) else (
      zz_ 0 (some (0, M))
    )
  ) Q := by
  subst hM
  obtain ⟨t, s, LX, L, Hx, Hm, W⟩ := S
  obtain ⟨D, f, n, tb, ts, flt, A, ac⟩ := σ
  have wD : z_Dw D := W.1
  have Hx : z_RX I t D f n tb ts flt A ac := Hx
  have Hm : z_RM I D f n tb ts flt A ac := Hm
  rcases h : z_pTx tb ts with e | w
  · skip
    have hX : y_LX c T I R (k_L_read 20 395 (c, T, I, J, R)) 1 (i2l_ 0) (D, f, n, tb, 0, (e : Int), A, ac) := by
      unfold k_L_read
      exact y_lx (w := i2l_) tk LX (x := (.inl 1)) (y_rd_Xl h LX W Hx) (y_hc_l (fun _ => rfl) (by decide))
    refine y_pw (w := i2l_) (σ := (D, f, n, tb, ts, flt, A, ac)) (x := 0) (code := 1) (σ' := (D, f, n, tb, 0, (e : Int), A, ac)) tk L Hm (y_0_w W _) hj hX ?_ rfl
    intro c1 I1 J1 R1 L1 H1
    exact y_rd_Ml h L1 W H1 0
  · skip
    have hX : y_LX c T I R (k_L_read 20 395 (c, T, I, J, R)) 0 (i2l_ (w.2 0)) (w.2, f, 0, tb, 0, -1, A, 0) := by
      unfold k_L_read
      exact y_lx (w := i2l_) tk LX (x := (.inr (w.2 0))) (y_rd_Xr h LX W Hx) (y_hc_r rfl)
    refine y_pw (w := i2l_) (σ := (D, f, n, tb, ts, flt, A, ac)) (x := (w.2 0)) (code := 0) (σ' := (w.2, f, 0, tb, 0, -1, A, 0)) tk L Hm (y_wf_read W (z_pTx_ok h).1) hj hX ?_ rfl
    intro c1 I1 J1 R1 L1 H1
    exact y_rd_Mr h L1 W H1
theorem y_k3 {M : mm_T} (hM : M = (c, T, I, J, R)) (hq : 0 ≤ v4) (hL : v4 + 6 ≤ (sL : Int)) (hS : sL ≤ 3072) (hx : ∀ i, -2147483648 ≤ sX i ∧ sX i < 2147483648) (S : y_IV T I R σ) (tk : y_tk T) (hj : y_J T c j Q) : z_U (
    cl_ (k_L_word 20 395 M) fun c404 M =>
    lt_ c404 fun v5_407 =>
    ob_ M 379 11 <| cl_ (k_M_word 379 M) fun c410 M =>
    lt_ c410 fun v6_413 =>
    ob_ M 379 11 <| cl_ (k_M_thrown 379 M) fun c416 M =>
    if c416 = v5_407 then (
      jn_ (fun (M : mm_T) =>
        j M
      ) fun j443 =>
      if ¬ v5_407 = 0 then (
        j443 M
      ) else (
        aJ_ M 395 0 fun x433 =>
        if lcm_ x433 (i2l_ v6_413) = 0 then (
          j443 M
        ) else (
          zz_ 0 (some (0, M))
        )
      )
    ) else (
      zz_ 0 (some (0, M))
    )
  ) Q := by
  subst hM
  obtain ⟨t, s, LX, L, Hx, Hm, W⟩ := S
  obtain ⟨D, f, n, tb, ts, flt, A, ac⟩ := σ
  have wD : z_Dw D := W.1
  have Hx : z_RX I t D f n tb ts flt A ac := Hx
  have Hm : z_RM I D f n tb ts flt A ac := Hm
  rcases h : z_pWd tb ts (D 0) with e | w
  · skip
    have hX : y_LX c T I R (k_L_word 20 395 (c, T, I, J, R)) 1 (i2l_ 0) (D, f, n, tb, 0, (e : Int), A, ac) := by
      unfold k_L_word
      exact y_lx (w := i2l_) tk LX (x := (.inl 1)) (y_wd_Xl h LX W Hx) (y_hc_l (fun _ => rfl) (by decide))
    refine y_pw (w := i2l_) (σ := (D, f, n, tb, ts, flt, A, ac)) (x := 0) (code := 1) (σ' := (D, f, n, tb, 0, (e : Int), A, ac)) tk L Hm (y_0_w W _) hj hX ?_ rfl
    intro c1 I1 J1 R1 L1 H1
    exact y_wd_Ml h L1 W H1 0
  · skip
    have hX : y_LX c T I R (k_L_word 20 395 (c, T, I, J, R)) 0 (i2l_ (w.2 : Int)) (D, w.1, w.2, tb, 0, -1, z_Ap A f n, min 10 (ac + 1)) := by
      unfold k_L_word
      exact y_lx (w := i2l_) tk LX (x := (.inr (w.2 : Int))) (y_wd_Xr h LX W Hx) (y_hc_r rfl)
    refine y_pw (w := i2l_) (σ := (D, f, n, tb, ts, flt, A, ac)) (x := (w.2 : Int)) (code := 0) (σ' := (D, w.1, w.2, tb, 0, -1, z_Ap A f n, min 10 (ac + 1))) tk L Hm (y_wd_w h W) hj hX ?_ rfl
    intro c1 I1 J1 R1 L1 H1
    exact y_wd_Mr h L1 W H1
theorem y_k4 {M : mm_T} (hM : M = (c, T, I, J, R)) (hq : 0 ≤ v4) (hL : v4 + 6 ≤ (sL : Int)) (hS : sL ≤ 3072) (hx : ∀ i, -2147483648 ≤ sX i ∧ sX i < 2147483648) (S : y_IV T I R σ) (tk : y_tk T) (hj : y_J T c j Q) : z_U (
    ob_ M 20 10 <| cl_ (k_X_fault 20 M) fun c447 M =>
    ob_ M 379 11 <| cl_ (k_M_fault 379 M) fun c451 M =>
    if c447 = c451 then (
      j M
    ) else (
      zz_ 0 (some (0, M))
    )
  ) Q := by
  subst hM
  obtain ⟨t, s, LX, L, Hx, Hm, W⟩ := S
  obtain ⟨D, f, n, tb, ts, flt, A, ac⟩ := σ
  have wD : z_Dw D := W.1
  have Hx : z_RX I t D f n tb ts flt A ac := Hx
  have Hm : z_RM I D f n tb ts flt A ac := Hm
  refine y_pl (σ := (D, f, n, tb, ts, flt, A, ac)) (x := flt) (σ' := (D, f, n, tb, ts, flt, A, ac)) LX L Hm (W) hj (y_XX_e LX Hx (z_X_fault LX Hx)) ?_
  · intro c1 I1 J1 R1 L1 H1
    have H1 : z_RM I1 D f n tb ts flt A ac := H1
    exact y_MM_q H1 (z_M_fault L1 H1)
theorem y_k5 {M : mm_T} (hM : M = (c, T, I, J, R)) (hq : 0 ≤ v4) (hL : v4 + 6 ≤ (sL : Int)) (hS : sL ≤ 3072) (hx : ∀ i, -2147483648 ≤ sX i ∧ sX i < 2147483648) (S : y_IV T I R σ) (tk : y_tk T) (hj : y_J T c j Q) : z_U (
    ck_ (v4 + 1) fun x464 =>
    sl_ sL sX x464 fun x465 =>
    ob_ M 20 10 <| cl_ (k_X_letter 20 x465 M) fun c466 M =>
    ck_ (v4 + 1) fun x474 =>
    sl_ sL sX x474 fun x475 =>
    ob_ M 379 11 <| cl_ (k_M_letter 379 x475 M) fun c476 M =>
    if c466 = c476 then (
      j M
    ) else (
      zz_ 0 (some (0, M))
    )
  ) Q := by
  subst hM
  obtain ⟨t, s, LX, L, Hx, Hm, W⟩ := S
  obtain ⟨D, f, n, tb, ts, flt, A, ac⟩ := σ
  have wD : z_Dw D := W.1
  have Hx : z_RX I t D f n tb ts flt A ac := Hx
  have Hm : z_RM I D f n tb ts flt A ac := Hm
  simp (disch := omega) only [z_ck, z_sl]
  refine y_pl (σ := (D, f, n, tb, ts, flt, A, ac)) (x := (z_at f n (sX (v4 + 1).toNat))) (σ' := (D, f, n, tb, ts, flt, A, ac)) LX L Hm (W) hj (y_XX_e LX Hx (z_X_letter LX Hx.2.1 _)) ?_
  · intro c1 I1 J1 R1 L1 H1
    have H1 : z_RM I1 D f n tb ts flt A ac := H1
    exact y_MM_q H1 (z_M_letter L1 H1.2.1 _)
theorem y_k6 {M : mm_T} (hM : M = (c, T, I, J, R)) (hq : 0 ≤ v4) (hL : v4 + 6 ≤ (sL : Int)) (hS : sL ≤ 3072) (hx : ∀ i, -2147483648 ≤ sX i ∧ sX i < 2147483648) (S : y_IV T I R σ) (tk : y_tk T) (hj : y_J T c j Q) : z_U (
    ck_ (v4 + 1) fun x489 =>
    sl_ sL sX x489 fun x490 =>
    cl_ (k_L_push 20 x490 395 M) fun c492 M =>
    lt_ c492 fun v5_495 =>
    ck_ (v4 + 1) fun x502 =>
    sl_ sL sX x502 fun x503 =>
    ob_ M 379 11 <| cl_ (k_M_push 379 x503 M) fun c504 M =>
    lt_ c504 fun v6_507 =>
    ob_ M 379 11 <| cl_ (k_M_thrown 379 M) fun c510 M =>
    if c510 = v5_495 then (
      jn_ (fun (M : mm_T) =>
        j M
      ) fun j537 =>
      if ¬ v5_495 = 0 then (
        j537 M
      ) else (
        aJ_ M 395 0 fun x527 =>
        if lcm_ x527 (i2l_ v6_507) = 0 then (
          j537 M
        ) else (
          zz_ 0 (some (0, M))
        )
      )
    ) else (
      zz_ 0 (some (0, M))
    )
  ) Q := by
  subst hM
  obtain ⟨t, s, LX, L, Hx, Hm, W⟩ := S
  obtain ⟨D, f, n, tb, ts, flt, A, ac⟩ := σ
  have wD : z_Dw D := W.1
  have Hx : z_RX I t D f n tb ts flt A ac := Hx
  have Hm : z_RM I D f n tb ts flt A ac := Hm
  simp (disch := omega) only [z_ck, z_sl]
  have hX : y_LX c T I R (k_L_push 20 (sX (v4 + 1).toNat) 395 (c, T, I, J, R)) (if ¬ (0 ≤ (sX (v4 + 1).toNat) ∧ (sX (v4 + 1).toNat) < D 0) then 1 else if n = 64 then 2 else 0) (i2l_ ((n : Int) + 1)) (y_pu D f n tb ts flt A ac (sX (v4 + 1).toNat)) := by
    unfold k_L_push
    exact y_lx (w := i2l_) tk LX (x := (if ¬ (0 ≤ (sX (v4 + 1).toNat) ∧ (sX (v4 + 1).toNat) < D 0) then .inl 1 else if n = 64 then .inl 2 else .inr ((n : Int) + 1))) (y_pu_X LX W Hx _) (y_hc_i (fun h => y_hc_l (fun _ => rfl) (by decide)) (fun h => y_hc_i (fun h => y_hc_l (fun _ => rfl) (by decide)) (fun h => y_hc_r rfl)))
  refine y_pw (w := i2l_) (σ := (D, f, n, tb, ts, flt, A, ac)) (x := ((n : Int) + 1)) (code := (if ¬ (0 ≤ (sX (v4 + 1).toNat) ∧ (sX (v4 + 1).toNat) < D 0) then 1 else if n = 64 then 2 else 0)) (σ' := (y_pu D f n tb ts flt A ac (sX (v4 + 1).toNat))) tk L Hm (y_pu_w W _) hj hX ?_ rfl
  · intro c1 I1 J1 R1 L1 H1
    have H1 : z_RM I1 D f n tb ts flt A ac := H1
    exact y_pu_M L1 W H1 _
theorem y_k7 {M : mm_T} (hM : M = (c, T, I, J, R)) (hq : 0 ≤ v4) (hL : v4 + 6 ≤ (sL : Int)) (hS : sL ≤ 3072) (hx : ∀ i, -2147483648 ≤ sX i ∧ sX i < 2147483648) (S : y_IV T I R σ) (tk : y_tk T) (hj : y_J T c j Q) : z_U (
    cl_ (k_L_pop 20 395 M) fun c542 M =>
    lt_ c542 fun v5_545 =>
    ob_ M 379 11 <| cl_ (k_M_pop 379 M) fun c548 M =>
    lt_ c548 fun v6_551 =>
    ob_ M 379 11 <| cl_ (k_M_thrown 379 M) fun c554 M =>
    if c554 = v5_545 then (
      jn_ (fun (M : mm_T) =>
        j M
      ) fun j581 =>
      if ¬ v5_545 = 0 then (
        j581 M
      ) else (
        aJ_ M 395 0 fun x571 =>
        if lcm_ x571 (i2l_ v6_551) = 0 then (
          j581 M
        ) else (
          zz_ 0 (some (0, M))
        )
      )
    ) else (
      zz_ 0 (some (0, M))
    )
  ) Q := by
  subst hM
  obtain ⟨t, s, LX, L, Hx, Hm, W⟩ := S
  obtain ⟨D, f, n, tb, ts, flt, A, ac⟩ := σ
  have wD : z_Dw D := W.1
  have Hx : z_RX I t D f n tb ts flt A ac := Hx
  have Hm : z_RM I D f n tb ts flt A ac := Hm
  have hX : y_LX c T I R (k_L_pop 20 395 (c, T, I, J, R)) (if n = 0 then 1 else 0) (i2l_ (if n = 0 then 0 else f (n - 1))) (y_po D f n tb ts flt A ac) := by
    unfold k_L_pop
    exact y_lx (w := i2l_) tk LX (x := (if n = 0 then .inl 2 else .inr (f (n - 1)))) (y_po_X LX W Hx) (y_hc_i (fun h => y_hc_l (fun _ => rfl) (by decide)) (fun h => y_hc_r (by rw [if_neg h])))
  refine y_pw (w := i2l_) (σ := (D, f, n, tb, ts, flt, A, ac)) (x := (if n = 0 then 0 else f (n - 1))) (code := (if n = 0 then 1 else 0)) (σ' := (y_po D f n tb ts flt A ac)) tk L Hm (y_po_w W) hj hX ?_ rfl
  · intro c1 I1 J1 R1 L1 H1
    have H1 : z_RM I1 D f n tb ts flt A ac := H1
    exact y_po_M L1 W H1
theorem y_k8 {M : mm_T} (hM : M = (c, T, I, J, R)) (hq : 0 ≤ v4) (hL : v4 + 6 ≤ (sL : Int)) (hS : sL ≤ 3072) (hx : ∀ i, -2147483648 ≤ sX i ∧ sX i < 2147483648) (S : y_IV T I R σ) (tk : y_tk T) (hj : y_J T c j Q) : z_U (
    ob_ M 20 10 <| cl_ (k_X_undo 20 M) fun c585 M =>
    ob_ M 379 11 <| cl_ (k_M_undo 379 M) fun c589 M =>
    if c585 = c589 then (
      j M
    ) else (
      zz_ 0 (some (0, M))
    )
  ) Q := by
  subst hM
  obtain ⟨t, s, LX, L, Hx, Hm, W⟩ := S
  obtain ⟨D, f, n, tb, ts, flt, A, ac⟩ := σ
  have wD : z_Dw D := W.1
  have Hx : z_RX I t D f n tb ts flt A ac := Hx
  have Hm : z_RM I D f n tb ts flt A ac := Hm
  refine y_pl (σ := (D, f, n, tb, ts, flt, A, ac)) (x := ((ac : Int) - 1)) (σ' := (y_un D f n tb ts flt A ac)) LX L Hm (y_un_w W) hj (y_un_X LX W Hx) ?_
  · intro c1 I1 J1 R1 L1 H1
    have H1 : z_RM I1 D f n tb ts flt A ac := H1
    exact y_un_M L1 W H1
theorem y_k9 {M : mm_T} (hM : M = (c, T, I, J, R)) (hq : 0 ≤ v4) (hL : v4 + 6 ≤ (sL : Int)) (hS : sL ≤ 3072) (hx : ∀ i, -2147483648 ≤ sX i ∧ sX i < 2147483648) (S : y_IV T I R σ) (tk : y_tk T) (hj : y_J T c j Q) : z_U (
    ob_ M 20 10 <| cl_ (k_X_free 20 M) fun c598 M =>
    ob_ M 379 11 <| cl_ (k_M_free 379 M) fun c602 M =>
    if c598 = c602 then (
      j M
    ) else (
      zz_ 0 (some (0, M))
    )
  ) Q := by
  subst hM
  obtain ⟨t, s, LX, L, Hx, Hm, W⟩ := S
  obtain ⟨D, f, n, tb, ts, flt, A, ac⟩ := σ
  have wD : z_Dw D := W.1
  have Hx : z_RX I t D f n tb ts flt A ac := Hx
  have Hm : z_RM I D f n tb ts flt A ac := Hm
  refine y_pl (σ := (D, f, n, tb, ts, flt, A, ac)) (x := (z_b (z_fo (z_bad D f) n = n))) (σ' := (D, f, n, tb, ts, flt, A, ac)) LX L Hm (W) hj (y_XX_w LX wD Hx (z_X_free LX Hx.2.1 Hx.1 wD)) ?_
  · intro c1 I1 J1 R1 L1 H1
    have H1 : z_RM I1 D f n tb ts flt A ac := H1
    exact y_MM_q H1 (z_M_free L1 H1.1 wD H1.2.1)
theorem y_k10 {M : mm_T} (hM : M = (c, T, I, J, R)) (hq : 0 ≤ v4) (hL : v4 + 6 ≤ (sL : Int)) (hS : sL ≤ 3072) (hx : ∀ i, -2147483648 ≤ sX i ∧ sX i < 2147483648) (S : y_IV T I R σ) (tk : y_tk T) (hj : y_J T c j Q) : z_U (
    ob_ M 20 10 <| cl_ (k_X_ends 20 M) fun c611 M =>
    ob_ M 379 11 <| cl_ (k_M_ends 379 M) fun c615 M =>
    if c611 = c615 then (
      j M
    ) else (
      zz_ 0 (some (0, M))
    )
  ) Q := by
  subst hM
  obtain ⟨t, s, LX, L, Hx, Hm, W⟩ := S
  obtain ⟨D, f, n, tb, ts, flt, A, ac⟩ := σ
  have wD : z_Dw D := W.1
  have Hx : z_RX I t D f n tb ts flt A ac := Hx
  have Hm : z_RM I D f n tb ts flt A ac := Hm
  refine y_pl (σ := (D, f, n, tb, ts, flt, A, ac)) (x := (z_fb1 D f n)) (σ' := (D, f, n, tb, ts, flt, A, ac)) LX L Hm (W) hj (y_XX_w LX wD Hx (z_X_ends LX Hx.2.1 Hx.1 wD)) ?_
  · intro c1 I1 J1 R1 L1 H1
    have H1 : z_RM I1 D f n tb ts flt A ac := H1
    exact y_MM_q H1 (z_M_ends L1 H1.1 wD H1.2.1)
theorem y_k11 {M : mm_T} (hM : M = (c, T, I, J, R)) (hq : 0 ≤ v4) (hL : v4 + 6 ≤ (sL : Int)) (hS : sL ≤ 3072) (hx : ∀ i, -2147483648 ≤ sX i ∧ sX i < 2147483648) (S : y_IV T I R σ) (tk : y_tk T) (hj : y_J T c j Q) : z_U (
    ck_ (v4 + 1) fun x628 =>
    sl_ sL sX x628 fun x629 =>
    cl_ (k_L_greatest 20 x629 395 M) fun c631 M =>
    lt_ c631 fun v5_634 =>
    ck_ (v4 + 1) fun x641 =>
    sl_ sL sX x641 fun x642 =>
    ob_ M 379 11 <| cl_ (k_M_greatest 379 x642 M) fun c643 M =>
    lt_ c643 fun v6_646 =>
    ob_ M 379 11 <| cl_ (k_M_thrown 379 M) fun c649 M =>
    if c649 = v5_634 then (
      jn_ (fun (M : mm_T) =>
        j M
      ) fun j676 =>
      if ¬ v5_634 = 0 then (
        j676 M
      ) else (
        aJ_ M 395 0 fun x666 =>
        if lcm_ x666 (i2l_ v6_646) = 0 then (
          j676 M
        ) else (
          zz_ 0 (some (0, M))
        )
      )
    ) else (
      zz_ 0 (some (0, M))
    )
  ) Q := by
  subst hM
  obtain ⟨t, s, LX, L, Hx, Hm, W⟩ := S
  obtain ⟨D, f, n, tb, ts, flt, A, ac⟩ := σ
  have wD : z_Dw D := W.1
  have Hx : z_RX I t D f n tb ts flt A ac := Hx
  have Hm : z_RM I D f n tb ts flt A ac := Hm
  simp (disch := omega) only [z_ck, z_sl]
  have hX : y_LX c T I R (k_L_greatest 20 (sX (v4 + 1).toNat) 395 (c, T, I, J, R)) (if 0 ≤ (sX (v4 + 1).toNat) ∧ (sX (v4 + 1).toNat) ≤ 2 then 0 else 1) (i2l_ (z_gre f n (sX (v4 + 1).toNat))) (D, f, n, tb, ts, flt, A, ac) := by
    unfold k_L_greatest
    exact y_lx (w := i2l_) tk LX (x := (if 0 ≤ (sX (v4 + 1).toNat) ∧ (sX (v4 + 1).toNat) ≤ 2 then .inr (z_gre f n (sX (v4 + 1).toNat)) else .inl 4)) (y_XX_q LX wD Hx (z_X_greatest LX Hx.2.1 _)) (y_hc_i (fun h => y_hc_r rfl) (fun h => y_hc_l (fun _ => rfl) (by decide)))
  refine y_pw (w := i2l_) (σ := (D, f, n, tb, ts, flt, A, ac)) (x := (z_gre f n (sX (v4 + 1).toNat))) (code := (if 0 ≤ (sX (v4 + 1).toNat) ∧ (sX (v4 + 1).toNat) ≤ 2 then 0 else 1)) (σ' := (D, f, n, tb, ts, flt, A, ac)) tk L Hm (W) hj hX ?_ rfl
  · intro c1 I1 J1 R1 L1 H1
    have H1 : z_RM I1 D f n tb ts flt A ac := H1
    exact y_MM_q H1 (z_M_greatest L1 H1.2.1 _)
theorem y_k12 {M : mm_T} (hM : M = (c, T, I, J, R)) (hq : 0 ≤ v4) (hL : v4 + 6 ≤ (sL : Int)) (hS : sL ≤ 3072) (hx : ∀ i, -2147483648 ≤ sX i ∧ sX i < 2147483648) (S : y_IV T I R σ) (tk : y_tk T) (hj : y_J T c j Q) : z_U (
    ob_ M 20 10 <| cl_ (k_X_period 20 M) fun c680 M =>
    ob_ M 379 11 <| cl_ (k_M_period 379 M) fun c684 M =>
    if c680 = c684 then (
      j M
    ) else (
      zz_ 0 (some (0, M))
    )
  ) Q := by
  subst hM
  obtain ⟨t, s, LX, L, Hx, Hm, W⟩ := S
  obtain ⟨D, f, n, tb, ts, flt, A, ac⟩ := σ
  have wD : z_Dw D := W.1
  have Hx : z_RX I t D f n tb ts flt A ac := Hx
  have Hm : z_RM I D f n tb ts flt A ac := Hm
  refine y_pl (σ := (D, f, n, tb, ts, flt, A, ac)) (x := (if n = 0 then -1 else (z_per f 0 n : Int))) (σ' := (D, f, n, tb, ts, flt, A, ac)) LX L Hm (W) hj (y_XX_e LX Hx (z_X_period LX Hx.2.1)) ?_
  · intro c1 I1 J1 R1 L1 H1
    have H1 : z_RM I1 D f n tb ts flt A ac := H1
    exact y_MM_q H1 (z_M_period L1 H1.2.1)
theorem y_k13 {M : mm_T} (hM : M = (c, T, I, J, R)) (hq : 0 ≤ v4) (hL : v4 + 6 ≤ (sL : Int)) (hS : sL ≤ 3072) (hx : ∀ i, -2147483648 ≤ sX i ∧ sX i < 2147483648) (S : y_IV T I R σ) (tk : y_tk T) (hj : y_J T c j Q) : z_U (
    ck_ (v4 + 1) fun x697 =>
    sl_ sL sX x697 fun x698 =>
    ob_ M 20 10 <| cl_ (k_X_border 20 x698 M) fun c699 M =>
    ck_ (v4 + 1) fun x707 =>
    sl_ sL sX x707 fun x708 =>
    ob_ M 379 11 <| cl_ (k_M_border 379 x708 M) fun c709 M =>
    if c699 = c709 then (
      j M
    ) else (
      zz_ 0 (some (0, M))
    )
  ) Q := by
  subst hM
  obtain ⟨t, s, LX, L, Hx, Hm, W⟩ := S
  obtain ⟨D, f, n, tb, ts, flt, A, ac⟩ := σ
  have wD : z_Dw D := W.1
  have Hx : z_RX I t D f n tb ts flt A ac := Hx
  have Hm : z_RM I D f n tb ts flt A ac := Hm
  simp (disch := omega) only [z_ck, z_sl]
  refine y_pl (σ := (D, f, n, tb, ts, flt, A, ac)) (x := (z_bord f n (sX (v4 + 1).toNat))) (σ' := (D, f, n, tb, ts, flt, A, ac)) LX L Hm (W) hj (y_XX_e LX Hx (z_X_border LX Hx.2.1 _)) ?_
  · intro c1 I1 J1 R1 L1 H1
    have H1 : z_RM I1 D f n tb ts flt A ac := H1
    exact y_MM_q H1 (z_M_border L1 H1.2.1 _ (hx _))
theorem y_k14 {M : mm_T} (hM : M = (c, T, I, J, R)) (hq : 0 ≤ v4) (hL : v4 + 6 ≤ (sL : Int)) (hS : sL ≤ 3072) (hx : ∀ i, -2147483648 ≤ sX i ∧ sX i < 2147483648) (S : y_IV T I R σ) (tk : y_tk T) (hj : y_J T c j Q) : z_U (
    ck_ (v4 + 1) fun x722 =>
    sl_ sL sX x722 fun x723 =>
    ck_ (v4 + 2) fun x728 =>
    sl_ sL sX x728 fun x729 =>
    cl_ (k_L_run 20 x723 x729 395 M) fun c731 M =>
    lt_ c731 fun v5_734 =>
    ck_ (v4 + 1) fun x741 =>
    sl_ sL sX x741 fun x742 =>
    ck_ (v4 + 2) fun x747 =>
    sl_ sL sX x747 fun x748 =>
    ob_ M 379 11 <| cl_ (k_M_run 379 x742 x748 M) fun c749 M =>
    lt_ c749 fun v6_752 =>
    ob_ M 379 11 <| cl_ (k_M_thrown 379 M) fun c755 M =>
    if c755 = v5_734 then (
      jn_ (fun (M : mm_T) =>
        j M
      ) fun j782 =>
      if ¬ v5_734 = 0 then (
        j782 M
      ) else (
        aJ_ M 395 0 fun x772 =>
        if lcm_ x772 (i2l_ v6_752) = 0 then (
          j782 M
        ) else (
          zz_ 0 (some (0, M))
        )
      )
    ) else (
      zz_ 0 (some (0, M))
    )
  ) Q := by
  subst hM
  obtain ⟨t, s, LX, L, Hx, Hm, W⟩ := S
  obtain ⟨D, f, n, tb, ts, flt, A, ac⟩ := σ
  have wD : z_Dw D := W.1
  have Hx : z_RX I t D f n tb ts flt A ac := Hx
  have Hm : z_RM I D f n tb ts flt A ac := Hm
  simp (disch := omega) only [z_ck, z_sl]
  have hX : y_LX c T I R (k_L_run 20 (sX (v4 + 1).toNat) (sX (v4 + 2).toNat) 395 (c, T, I, J, R)) (if 0 ≤ (sX (v4 + 2).toNat) ∧ (sX (v4 + 2).toNat) ≤ 2 then 0 else 1) (i2l_ (z_runs f n (sX (v4 + 1).toNat) (sX (v4 + 2).toNat))) (D, f, n, tb, ts, flt, A, ac) := by
    unfold k_L_run
    exact y_lx (w := i2l_) tk LX (x := (if 0 ≤ (sX (v4 + 2).toNat) ∧ (sX (v4 + 2).toNat) ≤ 2 then .inr (z_runs f n (sX (v4 + 1).toNat) (sX (v4 + 2).toNat)) else .inl 4)) (y_XX_q LX wD Hx (z_X_run LX Hx.2.1 _ _)) (y_hc_i (fun h => y_hc_r rfl) (fun h => y_hc_l (fun _ => rfl) (by decide)))
  refine y_pw (w := i2l_) (σ := (D, f, n, tb, ts, flt, A, ac)) (x := (z_runs f n (sX (v4 + 1).toNat) (sX (v4 + 2).toNat))) (code := (if 0 ≤ (sX (v4 + 2).toNat) ∧ (sX (v4 + 2).toNat) ≤ 2 then 0 else 1)) (σ' := (D, f, n, tb, ts, flt, A, ac)) tk L Hm (W) hj hX ?_ rfl
  · intro c1 I1 J1 R1 L1 H1
    have H1 : z_RM I1 D f n tb ts flt A ac := H1
    exact y_MM_q H1 (z_M_run L1 H1.2.1 _ _)
theorem y_k15 {M : mm_T} (hM : M = (c, T, I, J, R)) (hq : 0 ≤ v4) (hL : v4 + 6 ≤ (sL : Int)) (hS : sL ≤ 3072) (hx : ∀ i, -2147483648 ≤ sX i ∧ sX i < 2147483648) (S : y_IV T I R σ) (tk : y_tk T) (hj : y_J T c j Q) : z_U (
    ck_ (v4 + 1) fun x790 =>
    sl_ sL sX x790 fun x791 =>
    cl_ (k_L_factors 20 x791 395 M) fun c793 M =>
    lt_ c793 fun v5_796 =>
    ck_ (v4 + 1) fun x803 =>
    sl_ sL sX x803 fun x804 =>
    ob_ M 379 11 <| cl_ (k_M_factors 379 x804 M) fun c805 M =>
    lt_ c805 fun v6_808 =>
    ob_ M 379 11 <| cl_ (k_M_thrown 379 M) fun c811 M =>
    if c811 = v5_796 then (
      jn_ (fun (M : mm_T) =>
        j M
      ) fun j838 =>
      if ¬ v5_796 = 0 then (
        j838 M
      ) else (
        aJ_ M 395 0 fun x828 =>
        if lcm_ x828 (i2l_ v6_808) = 0 then (
          j838 M
        ) else (
          zz_ 0 (some (0, M))
        )
      )
    ) else (
      zz_ 0 (some (0, M))
    )
  ) Q := by
  subst hM
  obtain ⟨t, s, LX, L, Hx, Hm, W⟩ := S
  obtain ⟨D, f, n, tb, ts, flt, A, ac⟩ := σ
  have wD : z_Dw D := W.1
  have Hx : z_RX I t D f n tb ts flt A ac := Hx
  have Hm : z_RM I D f n tb ts flt A ac := Hm
  simp (disch := omega) only [z_ck, z_sl]
  have hX : y_LX c T I R (k_L_factors 20 (sX (v4 + 1).toNat) 395 (c, T, I, J, R)) (if 1 ≤ (sX (v4 + 1).toNat) ∧ (sX (v4 + 1).toNat) ≤ 64 then 0 else 1) (i2l_ (z_fct f n (sX (v4 + 1).toNat).toNat : Int)) (D, f, n, tb, ts, flt, A, ac) := by
    unfold k_L_factors
    exact y_lx (w := i2l_) tk LX (x := (if 1 ≤ (sX (v4 + 1).toNat) ∧ (sX (v4 + 1).toNat) ≤ 64 then .inr (z_fct f n (sX (v4 + 1).toNat).toNat : Int) else .inl 1)) (y_XX_q LX wD Hx (z_X_factors LX Hx.2.1 _)) (y_hc_i (fun h => y_hc_r rfl) (fun h => y_hc_l (fun _ => rfl) (by decide)))
  refine y_pw (w := i2l_) (σ := (D, f, n, tb, ts, flt, A, ac)) (x := (z_fct f n (sX (v4 + 1).toNat).toNat : Int)) (code := (if 1 ≤ (sX (v4 + 1).toNat) ∧ (sX (v4 + 1).toNat) ≤ 64 then 0 else 1)) (σ' := (D, f, n, tb, ts, flt, A, ac)) tk L Hm (W) hj hX ?_ rfl
  · intro c1 I1 J1 R1 L1 H1
    have H1 : z_RM I1 D f n tb ts flt A ac := H1
    exact y_MM_q H1 (z_M_factors L1 H1.2.1 _ (hx _))
theorem y_k16 {M : mm_T} (hM : M = (c, T, I, J, R)) (hq : 0 ≤ v4) (hL : v4 + 6 ≤ (sL : Int)) (hS : sL ≤ 3072) (hx : ∀ i, -2147483648 ≤ sX i ∧ sX i < 2147483648) (S : y_IV T I R σ) (tk : y_tk T) (hj : y_J T c j Q) : z_U (
    ob_ M 20 10 <| cl_ (k_X_mirror 20 M) fun c842 M =>
    ob_ M 379 11 <| cl_ (k_M_mirror 379 M) fun c846 M =>
    if c842 = c846 then (
      j M
    ) else (
      zz_ 0 (some (0, M))
    )
  ) Q := by
  subst hM
  obtain ⟨t, s, LX, L, Hx, Hm, W⟩ := S
  obtain ⟨D, f, n, tb, ts, flt, A, ac⟩ := σ
  have wD : z_Dw D := W.1
  have Hx : z_RX I t D f n tb ts flt A ac := Hx
  have Hm : z_RM I D f n tb ts flt A ac := Hm
  refine y_pl (σ := (D, f, n, tb, ts, flt, A, ac)) (x := (z_mir f n)) (σ' := (D, f, n, tb, ts, flt, A, ac)) LX L Hm (W) hj (y_XX_e LX Hx (z_X_mirror LX Hx.2.1)) ?_
  · intro c1 I1 J1 R1 L1 H1
    have H1 : z_RM I1 D f n tb ts flt A ac := H1
    exact y_MM_q H1 (z_M_mirror L1 H1.2.1)
theorem y_k17 {M : mm_T} (hM : M = (c, T, I, J, R)) (hq : 0 ≤ v4) (hL : v4 + 6 ≤ (sL : Int)) (hS : sL ≤ 3072) (hx : ∀ i, -2147483648 ≤ sX i ∧ sX i < 2147483648) (S : y_IV T I R σ) (tk : y_tk T) (hj : y_J T c j Q) : z_U (
    ck_ (v4 + 1) fun x859 =>
    sl_ sL sX x859 fun x860 =>
    ck_ (v4 + 2) fun x865 =>
    sl_ sL sX x865 fun x866 =>
    cl_ (k_L_met 20 x860 x866 395 M) fun c868 M =>
    lt_ c868 fun v5_871 =>
    ck_ (v4 + 1) fun x878 =>
    sl_ sL sX x878 fun x879 =>
    ck_ (v4 + 2) fun x884 =>
    sl_ sL sX x884 fun x885 =>
    ob_ M 379 11 <| cl_ (k_M_met 379 x879 x885 M) fun c886 M =>
    lt_ c886 fun v6_889 =>
    ob_ M 379 11 <| cl_ (k_M_thrown 379 M) fun c892 M =>
    if c892 = v5_871 then (
      jn_ (fun (M : mm_T) =>
        j M
      ) fun j919 =>
      if ¬ v5_871 = 0 then (
        j919 M
      ) else (
        aJ_ M 395 0 fun x909 =>
        if lcm_ x909 (i2l_ v6_889) = 0 then (
          j919 M
        ) else (
          zz_ 0 (some (0, M))
        )
      )
    ) else (
      zz_ 0 (some (0, M))
    )
  ) Q := by
  subst hM
  obtain ⟨t, s, LX, L, Hx, Hm, W⟩ := S
  obtain ⟨D, f, n, tb, ts, flt, A, ac⟩ := σ
  have wD : z_Dw D := W.1
  have Hx : z_RX I t D f n tb ts flt A ac := Hx
  have Hm : z_RM I D f n tb ts flt A ac := Hm
  simp (disch := omega) only [z_ck, z_sl]
  have hX : y_LX c T I R (k_L_met 20 (sX (v4 + 1).toNat) (sX (v4 + 2).toNat) 395 (c, T, I, J, R)) (if ¬ (0 ≤ (sX (v4 + 1).toNat) ∧ (sX (v4 + 1).toNat) < D 5) then 1 else if ¬ (0 ≤ (sX (v4 + 2).toNat) ∧ (sX (v4 + 2).toNat) ≤ 3) then 2 else 0) (i2l_ (z_met D f n (sX (v4 + 1).toNat).toNat (sX (v4 + 2).toNat))) (D, f, n, tb, ts, flt, A, ac) := by
    unfold k_L_met
    exact y_lx (w := i2l_) tk LX (x := (if ¬ (0 ≤ (sX (v4 + 1).toNat) ∧ (sX (v4 + 1).toNat) < D 5) then .inl 3 else if ¬ (0 ≤ (sX (v4 + 2).toNat) ∧ (sX (v4 + 2).toNat) ≤ 3) then .inl 4 else .inr (z_met D f n (sX (v4 + 1).toNat).toNat (sX (v4 + 2).toNat)))) (y_XX_q LX wD Hx (z_X_met LX wD Hx.1 Hx.2.1 _ _)) (y_hc_i (fun h => y_hc_l (fun _ => rfl) (by decide)) (fun h => y_hc_i (fun h => y_hc_l (fun _ => rfl) (by decide)) (fun h => y_hc_r rfl)))
  refine y_pw (w := i2l_) (σ := (D, f, n, tb, ts, flt, A, ac)) (x := (z_met D f n (sX (v4 + 1).toNat).toNat (sX (v4 + 2).toNat))) (code := (if ¬ (0 ≤ (sX (v4 + 1).toNat) ∧ (sX (v4 + 1).toNat) < D 5) then 1 else if ¬ (0 ≤ (sX (v4 + 2).toNat) ∧ (sX (v4 + 2).toNat) ≤ 3) then 2 else 0)) (σ' := (D, f, n, tb, ts, flt, A, ac)) tk L Hm (W) hj hX ?_ rfl
  · intro c1 I1 J1 R1 L1 H1
    have H1 : z_RM I1 D f n tb ts flt A ac := H1
    exact y_MM_q H1 (z_M_met L1 H1.1 wD H1.2.1 _ _)
theorem y_k18 {M : mm_T} (hM : M = (c, T, I, J, R)) (hq : 0 ≤ v4) (hL : v4 + 6 ≤ (sL : Int)) (hS : sL ≤ 3072) (hx : ∀ i, -2147483648 ≤ sX i ∧ sX i < 2147483648) (S : y_IV T I R σ) (tk : y_tk T) (hj : y_J T c j Q) : z_U (
    ob_ M 20 10 <| cl_ (k_X_goes 20 M) fun c923 M =>
    ob_ M 379 11 <| cl_ (k_M_goes 379 M) fun c927 M =>
    if c923 = c927 then (
      j M
    ) else (
      zz_ 0 (some (0, M))
    )
  ) Q := by
  subst hM
  obtain ⟨t, s, LX, L, Hx, Hm, W⟩ := S
  obtain ⟨D, f, n, tb, ts, flt, A, ac⟩ := σ
  have wD : z_Dw D := W.1
  have Hx : z_RX I t D f n tb ts flt A ac := Hx
  have Hm : z_RM I D f n tb ts flt A ac := Hm
  refine y_pl (σ := (D, f, n, tb, ts, flt, A, ac)) (x := (if n = 64 ∨ z_fb1 D f n ≠ -1 then 0 else z_goes D f n)) (σ' := (D, f, n, tb, ts, flt, A, ac)) LX L Hm (W) hj (y_XX_w LX wD Hx (z_X_goes LX Hx.2.1 Hx.1 wD)) ?_
  · intro c1 I1 J1 R1 L1 H1
    have H1 : z_RM I1 D f n tb ts flt A ac := H1
    exact y_MM_q H1 (z_M_goes L1 H1.1 wD H1.2.1)
theorem y_k19 {M : mm_T} (hM : M = (c, T, I, J, R)) (hq : 0 ≤ v4) (hL : v4 + 6 ≤ (sL : Int)) (hS : sL ≤ 3072) (hx : ∀ i, -2147483648 ≤ sX i ∧ sX i < 2147483648) (S : y_IV T I R σ) (tk : y_tk T) (hj : y_J T c j Q) : z_U (
    ob_ M 20 10 <| cl_ (k_X_further 20 M) fun c936 M =>
    ob_ M 379 11 <| cl_ (k_M_further 379 M) fun c940 M =>
    if c936 = c940 then (
      j M
    ) else (
      zz_ 0 (some (0, M))
    )
  ) Q := by
  subst hM
  obtain ⟨t, s, LX, L, Hx, Hm, W⟩ := S
  obtain ⟨D, f, n, tb, ts, flt, A, ac⟩ := σ
  have wD : z_Dw D := W.1
  have Hx : z_RX I t D f n tb ts flt A ac := Hx
  have Hm : z_RM I D f n tb ts flt A ac := Hm
  refine y_pl (σ := (D, f, n, tb, ts, flt, A, ac)) (x := (z_fur D f n)) (σ' := (D, f, n, tb, ts, flt, A, ac)) LX L Hm (W) hj (y_XX_R LX wD Hx (fun _ q => q) (z_X_further LX wD Hx.1 Hx.2.1 W.2.1.2)) ?_
  · intro c1 I1 J1 R1 L1 H1
    have H1 : z_RM I1 D f n tb ts flt A ac := H1
    exact y_MM_q H1 (z_M_further L1 wD H1.1 H1.2.1 W.2.1.2)
end Cases1
