/-! THE LAW'S LOOP: its calls, to the end (written by genA4.py). -/
section Cases3
variable {c : z_C} {T : z_Ty} {I : z_Is} {J : z_Js} {R : z_Rs} {σ : y_Sg} {Q : Int → mm_T → Prop} {v4 : Int} {sL : Nat} {sX : Nat → Int} {j : mm_T → Option (Int × mm_T)}
theorem y_k36 {M : mm_T} (hM : M = (c, T, I, J, R)) (hq : 0 ≤ v4) (hL : v4 + 6 ≤ (sL : Int)) (hS : sL ≤ 3072) (hx : ∀ i, -2147483648 ≤ sX i ∧ sX i < 2147483648) (S : y_IV T I R σ) (tk : y_tk T) (hj : y_J T c j Q) : z_U (
    ck_ (v4 + 1) fun x1987 =>
    sl_ sL sX x1987 fun x1988 =>
    ck_ (v4 + 2) fun x1993 =>
    sl_ sL sX x1993 fun x1994 =>
    cl_ (k_L_pattern 20 x1988 x1994 395 M) fun c1996 M =>
    lt_ c1996 fun v5_1999 =>
    ck_ (v4 + 1) fun x2006 =>
    sl_ sL sX x2006 fun x2007 =>
    ck_ (v4 + 2) fun x2012 =>
    sl_ sL sX x2012 fun x2013 =>
    ob_ M 379 11 <| cl_ (k_M_pattern 379 x2007 x2013 M) fun c2014 M =>
    lt_ c2014 fun v6_2017 =>
    ob_ M 379 11 <| cl_ (k_M_thrown 379 M) fun c2020 M =>
    if c2020 = v5_1999 then (
      jn_ (fun (M : mm_T) =>
        j M
      ) fun j2047 =>
      if ¬ v5_1999 = 0 then (
        j2047 M
      ) else (
        aJ_ M 395 0 fun x2037 =>
        if lcm_ x2037 (i2l_ v6_2017) = 0 then (
          j2047 M
        ) else (
          zz_ 0 (some (0, M))
        )
      )
    ) else (
      zz_ 0 (some (0, M))
    )
  ) Q := by
  subst hM
  obtain ⟨t, s, LX, L, Hx, Hm, W⟩ := S
  obtain ⟨D, f, n, tb, ts, flt, A, ac⟩ := σ
  have wD : z_Dw D := W.1
  have Hx : z_RX I t D f n tb ts flt A ac := Hx
  have Hm : z_RM I D f n tb ts flt A ac := Hm
  simp (disch := omega) only [z_ck, z_sl]
  have hX : y_LX c T I R (k_L_pattern 20 (sX (v4 + 1).toNat) (sX (v4 + 2).toNat) 395 (c, T, I, J, R)) (if ¬ (0 ≤ (sX (v4 + 1).toNat) ∧ (sX (v4 + 1).toNat) < D 5) then 1 else if ¬ (0 ≤ (sX (v4 + 2).toNat) ∧ (sX (v4 + 2).toNat) ≤ 2) then 2 else 0) (i2l_ (z_ptn D (sX (v4 + 1).toNat).toNat (sX (v4 + 2).toNat))) (D, f, n, tb, ts, flt, A, ac) := by
    unfold k_L_pattern
    exact y_lx (w := i2l_) tk LX (x := (if ¬ (0 ≤ (sX (v4 + 1).toNat) ∧ (sX (v4 + 1).toNat) < D 5) then .inl 3 else if ¬ (0 ≤ (sX (v4 + 2).toNat) ∧ (sX (v4 + 2).toNat) ≤ 2) then .inl 4 else .inr (z_ptn D (sX (v4 + 1).toNat).toNat (sX (v4 + 2).toNat)))) (y_XX_q LX wD Hx (z_X_pattern LX Hx.1 wD _ _)) (y_hc_i (fun h => y_hc_l (fun _ => rfl) (by decide)) (fun h => y_hc_i (fun h => y_hc_l (fun _ => rfl) (by decide)) (fun h => y_hc_r rfl)))
  refine y_pw (w := i2l_) (σ := (D, f, n, tb, ts, flt, A, ac)) (x := (z_ptn D (sX (v4 + 1).toNat).toNat (sX (v4 + 2).toNat))) (code := (if ¬ (0 ≤ (sX (v4 + 1).toNat) ∧ (sX (v4 + 1).toNat) < D 5) then 1 else if ¬ (0 ≤ (sX (v4 + 2).toNat) ∧ (sX (v4 + 2).toNat) ≤ 2) then 2 else 0)) (σ' := (D, f, n, tb, ts, flt, A, ac)) tk L Hm (W) hj hX ?_ rfl
  · intro c1 I1 J1 R1 L1 H1
    have H1 : z_RM I1 D f n tb ts flt A ac := H1
    exact y_MM_q H1 (z_M_pattern L1 H1.1 wD _ _)
theorem y_k37 {M : mm_T} (hM : M = (c, T, I, J, R)) (hq : 0 ≤ v4) (hL : v4 + 6 ≤ (sL : Int)) (hS : sL ≤ 3072) (hx : ∀ i, -2147483648 ≤ sX i ∧ sX i < 2147483648) (S : y_IV T I R σ) (tk : y_tk T) (hj : y_J T c j Q) : z_U (
    ck_ (v4 + 1) fun x2055 =>
    sl_ sL sX x2055 fun x2056 =>
    cl_ (k_L_stuck 20 x2056 395 M) fun c2058 M =>
    lt_ c2058 fun v5_2061 =>
    ck_ (v4 + 1) fun x2068 =>
    sl_ sL sX x2068 fun x2069 =>
    ob_ M 379 11 <| cl_ (k_M_stuck 379 x2069 M) fun c2070 M =>
    lt_ c2070 fun v6_2073 =>
    ob_ M 379 11 <| cl_ (k_M_thrown 379 M) fun c2076 M =>
    if c2076 = v5_2061 then (
      jn_ (fun (M : mm_T) =>
        j M
      ) fun j2103 =>
      if ¬ v5_2061 = 0 then (
        j2103 M
      ) else (
        aJ_ M 395 0 fun x2093 =>
        if lcm_ x2093 (i2l_ v6_2073) = 0 then (
          j2103 M
        ) else (
          zz_ 0 (some (0, M))
        )
      )
    ) else (
      zz_ 0 (some (0, M))
    )
  ) Q := by
  subst hM
  obtain ⟨t, s, LX, L, Hx, Hm, W⟩ := S
  obtain ⟨D, f, n, tb, ts, flt, A, ac⟩ := σ
  have wD : z_Dw D := W.1
  have Hx : z_RX I t D f n tb ts flt A ac := Hx
  have Hm : z_RM I D f n tb ts flt A ac := Hm
  simp (disch := omega) only [z_ck, z_sl]
  have hX : y_LX c T I R (k_L_stuck 20 (sX (v4 + 1).toNat) 395 (c, T, I, J, R)) (if 0 ≤ (sX (v4 + 1).toNat) ∧ (sX (v4 + 1).toNat) ≤ 40 then 0 else 1) (i2l_ (z_stc D (sX (v4 + 1).toNat).toNat)) (D, f, n, tb, ts, flt, A, ac) := by
    unfold k_L_stuck
    exact y_lx (w := i2l_) tk LX (x := (if 0 ≤ (sX (v4 + 1).toNat) ∧ (sX (v4 + 1).toNat) ≤ 40 then .inr (z_stc D (sX (v4 + 1).toNat).toNat) else .inl 1)) (y_XX_r LX (fun I' q => z_RX_q wD (z_xlt LX).1 Hx q) (z_X_stuck LX wD Hx.1 Hx.2.1 W.2.1.2 _)) (y_hc_i (fun h => y_hc_r rfl) (fun h => y_hc_l (fun _ => rfl) (by decide)))
  refine y_pw (w := i2l_) (σ := (D, f, n, tb, ts, flt, A, ac)) (x := (z_stc D (sX (v4 + 1).toNat).toNat)) (code := (if 0 ≤ (sX (v4 + 1).toNat) ∧ (sX (v4 + 1).toNat) ≤ 40 then 0 else 1)) (σ' := (D, f, n, tb, ts, flt, A, ac)) tk L Hm (W) hj hX ?_ rfl
  · intro c1 I1 J1 R1 L1 H1
    have H1 : z_RM I1 D f n tb ts flt A ac := H1
    exact y_MM_q H1 (z_M_stuck L1 wD H1.1 H1.2.1 _)
theorem y_k38 {M : mm_T} (hM : M = (c, T, I, J, R)) (hq : 0 ≤ v4) (hL : v4 + 6 ≤ (sL : Int)) (hS : sL ≤ 3072) (hx : ∀ i, -2147483648 ≤ sX i ∧ sX i < 2147483648) (S : y_IV T I R σ) (tk : y_tk T) (hj : y_J T c j Q) : z_U (
    cl_ (k_L_rank 20 395 M) fun c2108 M =>
    lt_ c2108 fun v5_2111 =>
    ob_ M 379 11 <| cl_ (k_M_rank 379 M) fun c2114 M =>
    lt_ c2114 fun v6_2117 =>
    ob_ M 379 11 <| cl_ (k_M_thrown 379 M) fun c2120 M =>
    if c2120 = v5_2111 then (
      jn_ (fun (M : mm_T) =>
        j M
      ) fun j2147 =>
      if ¬ v5_2111 = 0 then (
        j2147 M
      ) else (
        aJ_ M 395 0 fun x2137 =>
        if lcm_ x2137 (i2l_ v6_2117) = 0 then (
          j2147 M
        ) else (
          zz_ 0 (some (0, M))
        )
      )
    ) else (
      zz_ 0 (some (0, M))
    )
  ) Q := by
  subst hM
  obtain ⟨t, s, LX, L, Hx, Hm, W⟩ := S
  obtain ⟨D, f, n, tb, ts, flt, A, ac⟩ := σ
  have wD : z_Dw D := W.1
  have Hx : z_RX I t D f n tb ts flt A ac := Hx
  have Hm : z_RM I D f n tb ts flt A ac := Hm
  have hX : y_LX c T I R (k_L_rank 20 395 (c, T, I, J, R)) (if n ≤ 40 then 0 else 1) (i2l_ (z_rnk D f n)) (D, f, n, tb, ts, flt, A, ac) := by
    unfold k_L_rank
    exact y_lx (w := i2l_) tk LX (x := (if n ≤ 40 then .inr (z_rnk D f n) else .inl 2)) (y_XX_r LX (fun I' q => z_RX_q wD (z_xlt LX).1 Hx q) (z_X_rank LX wD Hx.1 Hx.2.1 W.2.1.2)) (y_hc_i (fun h => y_hc_r rfl) (fun h => y_hc_l (fun _ => rfl) (by decide)))
  refine y_pw (w := i2l_) (σ := (D, f, n, tb, ts, flt, A, ac)) (x := (z_rnk D f n)) (code := (if n ≤ 40 then 0 else 1)) (σ' := (D, f, n, tb, ts, flt, A, ac)) tk L Hm (W) hj hX ?_ rfl
  · intro c1 I1 J1 R1 L1 H1
    have H1 : z_RM I1 D f n tb ts flt A ac := H1
    exact y_MM_q H1 (z_M_rank L1 wD H1.1 H1.2.1)
theorem y_k39 {M : mm_T} (hM : M = (c, T, I, J, R)) (hq : 0 ≤ v4) (hL : v4 + 6 ≤ (sL : Int)) (hS : sL ≤ 3072) (hx : ∀ i, -2147483648 ≤ sX i ∧ sX i < 2147483648) (S : y_IV T I R σ) (tk : y_tk T) (hj : y_J T c j Q) : z_U (
    ck_ (v4 + 1) fun x2155 =>
    sl_ sL sX x2155 fun x2156 =>
    ck_ (v4 + 2) fun x2161 =>
    sl_ sL sX x2161 fun x2162 =>
    cl_ (k_L_nth 20 x2156 x2162 395 M) fun c2164 M =>
    lt_ c2164 fun v5_2167 =>
    ck_ (v4 + 1) fun x2174 =>
    sl_ sL sX x2174 fun x2175 =>
    ck_ (v4 + 2) fun x2180 =>
    sl_ sL sX x2180 fun x2181 =>
    ob_ M 379 11 <| cl_ (k_M_nth 379 x2175 x2181 M) fun c2182 M =>
    lt_ c2182 fun v6_2185 =>
    ob_ M 379 11 <| cl_ (k_M_thrown 379 M) fun c2188 M =>
    if c2188 = v5_2167 then (
      jn_ (fun (M : mm_T) =>
        j M
      ) fun j2215 =>
      if ¬ v5_2167 = 0 then (
        j2215 M
      ) else (
        aJ_ M 395 0 fun x2205 =>
        if lcm_ x2205 (i2l_ v6_2185) = 0 then (
          j2215 M
        ) else (
          zz_ 0 (some (0, M))
        )
      )
    ) else (
      zz_ 0 (some (0, M))
    )
  ) Q := by
  subst hM
  obtain ⟨t, s, LX, L, Hx, Hm, W⟩ := S
  obtain ⟨D, f, n, tb, ts, flt, A, ac⟩ := σ
  have wD : z_Dw D := W.1
  have Hx : z_RX I t D f n tb ts flt A ac := Hx
  have Hm : z_RM I D f n tb ts flt A ac := Hm
  simp (disch := omega) only [z_ck, z_sl]
  have hX : y_LX c T I R (k_L_nth 20 (sX (v4 + 1).toNat) (sX (v4 + 2).toNat) 395 (c, T, I, J, R)) (if (1 ≤ (sX (v4 + 1).toNat) ∧ (sX (v4 + 1).toNat) ≤ 40) ∧ 0 ≤ (sX (v4 + 2).toNat) then 0 else 1) (i2l_ (z_nth D f (sX (v4 + 1).toNat).toNat (sX (v4 + 2).toNat))) (y_nt D f n tb ts flt A ac (sX (v4 + 1).toNat) (sX (v4 + 2).toNat)) := by
    unfold k_L_nth
    exact y_lx (w := i2l_) tk LX (x := (if (1 ≤ (sX (v4 + 1).toNat) ∧ (sX (v4 + 1).toNat) ≤ 40) ∧ 0 ≤ (sX (v4 + 2).toNat) then .inr (z_nth D f (sX (v4 + 1).toNat).toNat (sX (v4 + 2).toNat)) else .inl 1)) (y_nt_X LX W Hx _ _) (y_hc_i (fun h => y_hc_r rfl) (fun h => y_hc_l (fun _ => rfl) (by decide)))
  refine y_pw (w := i2l_) (σ := (D, f, n, tb, ts, flt, A, ac)) (x := (z_nth D f (sX (v4 + 1).toNat).toNat (sX (v4 + 2).toNat))) (code := (if (1 ≤ (sX (v4 + 1).toNat) ∧ (sX (v4 + 1).toNat) ≤ 40) ∧ 0 ≤ (sX (v4 + 2).toNat) then 0 else 1)) (σ' := (y_nt D f n tb ts flt A ac (sX (v4 + 1).toNat) (sX (v4 + 2).toNat))) tk L Hm (y_nt_w W _ _) hj hX ?_ rfl
  · intro c1 I1 J1 R1 L1 H1
    have H1 : z_RM I1 D f n tb ts flt A ac := H1
    exact y_nt_M L1 W H1 _ _
theorem y_k40 {M : mm_T} (hM : M = (c, T, I, J, R)) (hq : 0 ≤ v4) (hL : v4 + 6 ≤ (sL : Int)) (hS : sL ≤ 3072) (hx : ∀ i, -2147483648 ≤ sX i ∧ sX i < 2147483648) (S : y_IV T I R σ) (tk : y_tk T) (hj : y_J T c j Q) : z_U (
    ob_ M 20 10 <| cl_ (k_X_ahead 20 M) fun c2219 M =>
    ob_ M 379 11 <| cl_ (k_M_ahead 379 M) fun c2223 M =>
    if c2219 = c2223 then (
      j M
    ) else (
      zz_ 0 (some (0, M))
    )
  ) Q := by
  subst hM
  obtain ⟨t, s, LX, L, Hx, Hm, W⟩ := S
  obtain ⟨D, f, n, tb, ts, flt, A, ac⟩ := σ
  have wD : z_Dw D := W.1
  have Hx : z_RX I t D f n tb ts flt A ac := Hx
  have Hm : z_RM I D f n tb ts flt A ac := Hm
  refine y_pl (σ := (D, f, n, tb, ts, flt, A, ac)) (x := (if n = 64 then 0 else z_ahead D f n)) (σ' := (D, f, n, tb, ts, flt, A, ac)) LX L Hm (W) hj (y_XX_w LX wD Hx (z_X_ahead LX Hx.2.1 Hx.1 wD)) ?_
  · intro c1 I1 J1 R1 L1 H1
    have H1 : z_RM I1 D f n tb ts flt A ac := H1
    exact y_MM_q H1 (z_M_ahead L1 H1.1 wD H1.2.1)
theorem y_k41 {M : mm_T} (hM : M = (c, T, I, J, R)) (hq : 0 ≤ v4) (hL : v4 + 6 ≤ (sL : Int)) (hS : sL ≤ 3072) (hx : ∀ i, -2147483648 ≤ sX i ∧ sX i < 2147483648) (S : y_IV T I R σ) (tk : y_tk T) (hj : y_J T c j Q) : z_U (
    ck_ (v4 + 1) fun x2236 =>
    sl_ sL sX x2236 fun x2237 =>
    ck_ (v4 + 2) fun x2242 =>
    sl_ sL sX x2242 fun x2243 =>
    ck_ (v4 + 3) fun x2248 =>
    sl_ sL sX x2248 fun x2249 =>
    cl_ (k_L_limit 20 x2237 x2243 x2249 395 M) fun c2251 M =>
    lt_ c2251 fun v5_2254 =>
    ck_ (v4 + 1) fun x2261 =>
    sl_ sL sX x2261 fun x2262 =>
    ck_ (v4 + 2) fun x2267 =>
    sl_ sL sX x2267 fun x2268 =>
    ck_ (v4 + 3) fun x2273 =>
    sl_ sL sX x2273 fun x2274 =>
    ob_ M 379 11 <| cl_ (k_M_limit 379 x2262 x2268 x2274 M) fun c2275 M =>
    lt_ c2275 fun v6_2278 =>
    ob_ M 379 11 <| cl_ (k_M_thrown 379 M) fun c2281 M =>
    if c2281 = v5_2254 then (
      jn_ (fun (M : mm_T) =>
        j M
      ) fun j2308 =>
      if ¬ v5_2254 = 0 then (
        j2308 M
      ) else (
        aJ_ M 395 0 fun x2298 =>
        if lcm_ x2298 (i2l_ v6_2278) = 0 then (
          j2308 M
        ) else (
          zz_ 0 (some (0, M))
        )
      )
    ) else (
      zz_ 0 (some (0, M))
    )
  ) Q := by
  subst hM
  obtain ⟨t, s, LX, L, Hx, Hm, W⟩ := S
  obtain ⟨D, f, n, tb, ts, flt, A, ac⟩ := σ
  have wD : z_Dw D := W.1
  have Hx : z_RX I t D f n tb ts flt A ac := Hx
  have Hm : z_RM I D f n tb ts flt A ac := Hm
  simp (disch := omega) only [z_ck, z_sl]
  have hX : y_LX c T I R (k_L_limit 20 (sX (v4 + 1).toNat) (sX (v4 + 2).toNat) (sX (v4 + 3).toNat) 395 (c, T, I, J, R)) (if (0 ≤ (sX (v4 + 1).toNat) ∧ (sX (v4 + 1).toNat) ≤ 2) ∧ (1 ≤ (sX (v4 + 2).toNat) ∧ (sX (v4 + 2).toNat) ≤ 99) ∧ (1 ≤ (sX (v4 + 3).toNat) ∧ (sX (v4 + 3).toNat) ≤ 9) then 0 else 1) (i2l_ (D 1)) (y_li D f n tb ts flt A ac (sX (v4 + 1).toNat) (sX (v4 + 2).toNat) (sX (v4 + 3).toNat)) := by
    unfold k_L_limit
    exact y_lx (w := i2l_) tk LX (x := (if (0 ≤ (sX (v4 + 1).toNat) ∧ (sX (v4 + 1).toNat) ≤ 2) ∧ (1 ≤ (sX (v4 + 2).toNat) ∧ (sX (v4 + 2).toNat) ≤ 99) ∧ (1 ≤ (sX (v4 + 3).toNat) ∧ (sX (v4 + 3).toNat) ≤ 9) then .inr (D 1) else .inl 1)) (y_li_X LX W Hx _ _ _) (y_hc_i (fun h => y_hc_r rfl) (fun h => y_hc_l (fun _ => rfl) (by decide)))
  refine y_pw (w := i2l_) (σ := (D, f, n, tb, ts, flt, A, ac)) (x := (D 1)) (code := (if (0 ≤ (sX (v4 + 1).toNat) ∧ (sX (v4 + 1).toNat) ≤ 2) ∧ (1 ≤ (sX (v4 + 2).toNat) ∧ (sX (v4 + 2).toNat) ≤ 99) ∧ (1 ≤ (sX (v4 + 3).toNat) ∧ (sX (v4 + 3).toNat) ≤ 9) then 0 else 1)) (σ' := (y_li D f n tb ts flt A ac (sX (v4 + 1).toNat) (sX (v4 + 2).toNat) (sX (v4 + 3).toNat))) tk L Hm (y_li_w W _ _ _) hj hX ?_ rfl
  · intro c1 I1 J1 R1 L1 H1
    have H1 : z_RM I1 D f n tb ts flt A ac := H1
    exact y_li_M L1 H1 _ _ _
theorem y_k42 {M : mm_T} (hM : M = (c, T, I, J, R)) (hq : 0 ≤ v4) (hL : v4 + 6 ≤ (sL : Int)) (hS : sL ≤ 3072) (hx : ∀ i, -2147483648 ≤ sX i ∧ sX i < 2147483648) (S : y_IV T I R σ) (tk : y_tk T) (hj : y_J T c j Q) : z_U (
    ck_ (v4 + 1) fun x2316 =>
    sl_ sL sX x2316 fun x2317 =>
    ck_ (v4 + 2) fun x2322 =>
    sl_ sL sX x2322 fun x2323 =>
    jn_ (fun (sa0_2332 : Nat) (s1_2332 : Int) (s2_2332 : Int) (M : mm_T) =>
      cl_ (k_L_avoid sa0_2332 s1_2332 s2_2332 395 M) fun c2333 M =>
      lt_ c2333 fun v5_2336 =>
      ck_ (v4 + 1) fun x2343 =>
      sl_ sL sX x2343 fun x2344 =>
      ck_ (v4 + 2) fun x2349 =>
      sl_ sL sX x2349 fun x2350 =>
      jn_ (fun (sa0_2359 : Nat) (s1_2359 : Int) (s2_2359 : Int) (M : mm_T) =>
        ob_ M sa0_2359 11 <| cl_ (k_M_avoid sa0_2359 s1_2359 s2_2359 M) fun c2359 M =>
        lt_ c2359 fun v6_2362 =>
        ob_ M 379 11 <| cl_ (k_M_thrown 379 M) fun c2365 M =>
        if c2365 = v5_2336 then (
          jn_ (fun (M : mm_T) =>
            j M
          ) fun j2399 =>
          if ¬ v5_2336 = 0 then (
            j2399 M
          ) else (
            aJ_ M 395 0 fun x2382 =>
            jn_ (fun (sw0_2393 : Int64) (sw1_2393 : Int64) (M : mm_T) =>
              if lcm_ sw0_2393 sw1_2393 = 0 then (
                j2399 M
              ) else (
                zz_ 0 (some (0, M))
              )
            ) fun j2393 =>
            if v6_2362 = 0 then (
              j2393 x2382 0 M
            ) else (
              j2393 x2382 1 M
            )
          )
        ) else (
          zz_ 0 (some (0, M))
        )
      ) fun j2359 =>
      if x2350 = 0 then (
        j2359 379 x2344 0 M
      ) else (
        j2359 379 x2344 1 M
      )
    ) fun j2332 =>
    if x2323 = 0 then (
      j2332 20 x2317 0 M
    ) else (
      j2332 20 x2317 1 M
    )
  ) Q := by
  subst hM
  obtain ⟨t, s, LX, L, Hx, Hm, W⟩ := S
  obtain ⟨D, f, n, tb, ts, flt, A, ac⟩ := σ
  have wD : z_Dw D := W.1
  have Hx : z_RX I t D f n tb ts flt A ac := Hx
  have Hm : z_RM I D f n tb ts flt A ac := Hm
  simp (disch := omega) only [z_ck, z_sl]
  refine z_u_jn ?_
  refine z_u_if (fun h => ?_) (fun h => ?_)
  · simp only [jn_, if_pos h]
    have hX : y_LX c T I R (k_L_avoid 20 (sX (v4 + 1).toNat) 0 395 (c, T, I, J, R)) (if ¬ (0 ≤ (sX (v4 + 1).toNat) ∧ (sX (v4 + 1).toNat) < D 5) then 1 else 0) (if (if ¬ (0 ≤ (sX (v4 + 1).toNat) ∧ (sX (v4 + 1).toNat) < D 5) then 0 else D (194 + (sX (v4 + 1).toNat).toNat)) = 0 then 0 else 1) (y_av D f n tb ts flt A ac (sX (v4 + 1).toNat) 0) := by
      unfold k_L_avoid
      exact y_lxb tk LX (x := (if ¬ (0 ≤ (sX (v4 + 1).toNat) ∧ (sX (v4 + 1).toNat) < D 5) then .inl 3 else .inr (D (194 + (sX (v4 + 1).toNat).toNat)))) (y_av_X LX W Hx _ _ (Or.inl rfl)) (y_hc_i (fun h => y_hc_l (fun _ => rfl) (by decide)) (fun h => y_hc_r (by rw [if_neg h])))
    refine y_pb (σ := (D, f, n, tb, ts, flt, A, ac)) (KM := fun M => k_M_avoid 379 (sX (v4 + 1).toNat) 0 M) (x := (if ¬ (0 ≤ (sX (v4 + 1).toNat) ∧ (sX (v4 + 1).toNat) < D 5) then 0 else D (194 + (sX (v4 + 1).toNat).toNat))) (code := (if ¬ (0 ≤ (sX (v4 + 1).toNat) ∧ (sX (v4 + 1).toNat) < D 5) then 1 else 0)) (σ' := (y_av D f n tb ts flt A ac (sX (v4 + 1).toNat) 0)) tk L Hm (y_av_w W _ _ (Or.inl rfl)) hj hX ?_ rfl
    intro c1 I1 J1 R1 L1 H1
    exact y_av_M L1 W H1 _ _ (Or.inl rfl)
  · simp only [jn_, if_neg h]
    have hX : y_LX c T I R (k_L_avoid 20 (sX (v4 + 1).toNat) 1 395 (c, T, I, J, R)) (if ¬ (0 ≤ (sX (v4 + 1).toNat) ∧ (sX (v4 + 1).toNat) < D 5) then 1 else 0) (if (if ¬ (0 ≤ (sX (v4 + 1).toNat) ∧ (sX (v4 + 1).toNat) < D 5) then 0 else D (194 + (sX (v4 + 1).toNat).toNat)) = 0 then 0 else 1) (y_av D f n tb ts flt A ac (sX (v4 + 1).toNat) 1) := by
      unfold k_L_avoid
      exact y_lxb tk LX (x := (if ¬ (0 ≤ (sX (v4 + 1).toNat) ∧ (sX (v4 + 1).toNat) < D 5) then .inl 3 else .inr (D (194 + (sX (v4 + 1).toNat).toNat)))) (y_av_X LX W Hx _ _ (Or.inr rfl)) (y_hc_i (fun h => y_hc_l (fun _ => rfl) (by decide)) (fun h => y_hc_r (by rw [if_neg h])))
    refine y_pb (σ := (D, f, n, tb, ts, flt, A, ac)) (KM := fun M => k_M_avoid 379 (sX (v4 + 1).toNat) 1 M) (x := (if ¬ (0 ≤ (sX (v4 + 1).toNat) ∧ (sX (v4 + 1).toNat) < D 5) then 0 else D (194 + (sX (v4 + 1).toNat).toNat))) (code := (if ¬ (0 ≤ (sX (v4 + 1).toNat) ∧ (sX (v4 + 1).toNat) < D 5) then 1 else 0)) (σ' := (y_av D f n tb ts flt A ac (sX (v4 + 1).toNat) 1)) tk L Hm (y_av_w W _ _ (Or.inr rfl)) hj hX ?_ rfl
    intro c1 I1 J1 R1 L1 H1
    exact y_av_M L1 W H1 _ _ (Or.inr rfl)
theorem y_k43 {M : mm_T} (hM : M = (c, T, I, J, R)) (hq : 0 ≤ v4) (hL : v4 + 6 ≤ (sL : Int)) (hS : sL ≤ 3072) (hx : ∀ i, -2147483648 ≤ sX i ∧ sX i < 2147483648) (S : y_IV T I R σ) (tk : y_tk T) (hj : y_J T c j Q) : z_U (
    ck_ (v4 + 1) fun x2407 =>
    sl_ sL sX x2407 fun x2408 =>
    ob_ M 20 10 <| cl_ (k_X_lyndon 20 x2408 M) fun c2409 M =>
    ck_ (v4 + 1) fun x2417 =>
    sl_ sL sX x2417 fun x2418 =>
    ob_ M 379 11 <| cl_ (k_M_lyndon 379 x2418 M) fun c2419 M =>
    if c2409 = c2419 then (
      j M
    ) else (
      zz_ 0 (some (0, M))
    )
  ) Q := by
  subst hM
  obtain ⟨t, s, LX, L, Hx, Hm, W⟩ := S
  obtain ⟨D, f, n, tb, ts, flt, A, ac⟩ := σ
  have wD : z_Dw D := W.1
  have Hx : z_RX I t D f n tb ts flt A ac := Hx
  have Hm : z_RM I D f n tb ts flt A ac := Hm
  simp (disch := omega) only [z_ck, z_sl]
  refine y_pl (σ := (D, f, n, tb, ts, flt, A, ac)) (x := (z_lyn f n (sX (v4 + 1).toNat))) (σ' := (D, f, n, tb, ts, flt, A, ac)) LX L Hm (W) hj (y_XX_e LX Hx (z_X_lyndon LX Hx.2.1 (fun i hi => (W.2.1.2 i hi).1) _)) ?_
  · intro c1 I1 J1 R1 L1 H1
    have H1 : z_RM I1 D f n tb ts flt A ac := H1
    exact y_MM_q H1 (z_M_lyndon L1 H1.2.1 _)
theorem y_k44 {M : mm_T} (hM : M = (c, T, I, J, R)) (hq : 0 ≤ v4) (hL : v4 + 6 ≤ (sL : Int)) (hS : sL ≤ 3072) (hx : ∀ i, -2147483648 ≤ sX i ∧ sX i < 2147483648) (S : y_IV T I R σ) (tk : y_tk T) (hj : y_J T c j Q) : z_U (
    ob_ M 20 10 <| cl_ (k_X_turned 20 M) fun c2428 M =>
    ob_ M 379 11 <| cl_ (k_M_turned 379 M) fun c2432 M =>
    if c2428 = c2432 then (
      j M
    ) else (
      zz_ 0 (some (0, M))
    )
  ) Q := by
  subst hM
  obtain ⟨t, s, LX, L, Hx, Hm, W⟩ := S
  obtain ⟨D, f, n, tb, ts, flt, A, ac⟩ := σ
  have wD : z_Dw D := W.1
  have Hx : z_RX I t D f n tb ts flt A ac := Hx
  have Hm : z_RM I D f n tb ts flt A ac := Hm
  refine y_pl (σ := (D, f, n, tb, ts, flt, A, ac)) (x := (if n = 0 then -1 else (z_tb f n n : Int))) (σ' := (D, f, n, tb, ts, flt, A, ac)) LX L Hm (W) hj (y_XX_e LX Hx (z_X_turned LX Hx.2.1)) ?_
  · intro c1 I1 J1 R1 L1 H1
    have H1 : z_RM I1 D f n tb ts flt A ac := H1
    exact y_MM_q H1 (z_M_turned L1 H1.2.1)
theorem y_k45 {M : mm_T} (hM : M = (c, T, I, J, R)) (hq : 0 ≤ v4) (hL : v4 + 6 ≤ (sL : Int)) (hS : sL ≤ 3072) (hx : ∀ i, -2147483648 ≤ sX i ∧ sX i < 2147483648) (S : y_IV T I R σ) (tk : y_tk T) (hj : y_J T c j Q) : z_U (
    ck_ (v4 + 1) fun x2445 =>
    sl_ sL sX x2445 fun x2446 =>
    cl_ (k_L_local 20 x2446 395 M) fun c2448 M =>
    lt_ c2448 fun v5_2451 =>
    ck_ (v4 + 1) fun x2458 =>
    sl_ sL sX x2458 fun x2459 =>
    ob_ M 379 11 <| cl_ (k_M_local 379 x2459 M) fun c2460 M =>
    lt_ c2460 fun v6_2463 =>
    ob_ M 379 11 <| cl_ (k_M_thrown 379 M) fun c2466 M =>
    if c2466 = v5_2451 then (
      jn_ (fun (M : mm_T) =>
        j M
      ) fun j2493 =>
      if ¬ v5_2451 = 0 then (
        j2493 M
      ) else (
        aJ_ M 395 0 fun x2483 =>
        if lcm_ x2483 (i2l_ v6_2463) = 0 then (
          j2493 M
        ) else (
          zz_ 0 (some (0, M))
        )
      )
    ) else (
      zz_ 0 (some (0, M))
    )
  ) Q := by
  subst hM
  obtain ⟨t, s, LX, L, Hx, Hm, W⟩ := S
  obtain ⟨D, f, n, tb, ts, flt, A, ac⟩ := σ
  have wD : z_Dw D := W.1
  have Hx : z_RX I t D f n tb ts flt A ac := Hx
  have Hm : z_RM I D f n tb ts flt A ac := Hm
  simp (disch := omega) only [z_ck, z_sl]
  have hX : y_LX c T I R (k_L_local 20 (sX (v4 + 1).toNat) 395 (c, T, I, J, R)) (if 1 ≤ (sX (v4 + 1).toNat) ∧ (sX (v4 + 1).toNat) ≤ (n : Int) - 1 then 0 else 1) (i2l_ (z_loc f n (sX (v4 + 1).toNat).toNat : Int)) (D, f, n, tb, ts, flt, A, ac) := by
    unfold k_L_local
    exact y_lx (w := i2l_) tk LX (x := (if 1 ≤ (sX (v4 + 1).toNat) ∧ (sX (v4 + 1).toNat) ≤ (n : Int) - 1 then .inr (z_loc f n (sX (v4 + 1).toNat).toNat : Int) else .inl 1)) (y_XX_q LX wD Hx (z_X_local LX Hx.2.1 _)) (y_hc_i (fun h => y_hc_r rfl) (fun h => y_hc_l (fun _ => rfl) (by decide)))
  refine y_pw (w := i2l_) (σ := (D, f, n, tb, ts, flt, A, ac)) (x := (z_loc f n (sX (v4 + 1).toNat).toNat : Int)) (code := (if 1 ≤ (sX (v4 + 1).toNat) ∧ (sX (v4 + 1).toNat) ≤ (n : Int) - 1 then 0 else 1)) (σ' := (D, f, n, tb, ts, flt, A, ac)) tk L Hm (W) hj hX ?_ rfl
  · intro c1 I1 J1 R1 L1 H1
    have H1 : z_RM I1 D f n tb ts flt A ac := H1
    exact y_MM_q H1 (z_M_local L1 H1.2.1 _)
theorem y_k46 {M : mm_T} (hM : M = (c, T, I, J, R)) (hq : 0 ≤ v4) (hL : v4 + 6 ≤ (sL : Int)) (hS : sL ≤ 3072) (hx : ∀ i, -2147483648 ≤ sX i ∧ sX i < 2147483648) (S : y_IV T I R σ) (tk : y_tk T) (hj : y_J T c j Q) : z_U (
    ck_ (v4 + 1) fun x2501 =>
    sl_ sL sX x2501 fun x2502 =>
    ck_ (v4 + 2) fun x2507 =>
    sl_ sL sX x2507 fun x2508 =>
    ck_ (v4 + 3) fun x2513 =>
    sl_ sL sX x2513 fun x2514 =>
    cl_ (k_L_fill 20 x2502 x2508 x2514 395 M) fun c2516 M =>
    lt_ c2516 fun v5_2519 =>
    ck_ (v4 + 1) fun x2526 =>
    sl_ sL sX x2526 fun x2527 =>
    ck_ (v4 + 2) fun x2532 =>
    sl_ sL sX x2532 fun x2533 =>
    ck_ (v4 + 3) fun x2538 =>
    sl_ sL sX x2538 fun x2539 =>
    ob_ M 379 11 <| cl_ (k_M_fill 379 x2527 x2533 x2539 M) fun c2540 M =>
    lt_ c2540 fun v6_2543 =>
    ob_ M 379 11 <| cl_ (k_M_thrown 379 M) fun c2546 M =>
    if c2546 = v5_2519 then (
      jn_ (fun (M : mm_T) =>
        j M
      ) fun j2573 =>
      if ¬ v5_2519 = 0 then (
        j2573 M
      ) else (
        aJ_ M 395 0 fun x2563 =>
        if lcm_ x2563 (i2l_ v6_2543) = 0 then (
          j2573 M
        ) else (
          zz_ 0 (some (0, M))
        )
      )
    ) else (
      zz_ 0 (some (0, M))
    )
  ) Q := by
  subst hM
  obtain ⟨t, s, LX, L, Hx, Hm, W⟩ := S
  obtain ⟨D, f, n, tb, ts, flt, A, ac⟩ := σ
  have wD : z_Dw D := W.1
  have Hx : z_RX I t D f n tb ts flt A ac := Hx
  have Hm : z_RM I D f n tb ts flt A ac := Hm
  simp (disch := omega) only [z_ck, z_sl]
  have hX : y_LX c T I R (k_L_fill 20 (sX (v4 + 1).toNat) (sX (v4 + 2).toNat) (sX (v4 + 3).toNat) 395 (c, T, I, J, R)) (z_flc D (sX (v4 + 1).toNat) (sX (v4 + 2).toNat) (sX (v4 + 3).toNat)) (i2l_ (if z_flc D (sX (v4 + 1).toNat) (sX (v4 + 2).toNat) (sX (v4 + 3).toNat) = 0 then (z_fb1 D (z_fil D (sX (v4 + 1).toNat).toNat (sX (v4 + 2).toNat).toNat (sX (v4 + 3).toNat).toNat) (sX (v4 + 3).toNat).toNat) else 0)) (y_fi D f n tb ts flt A ac (sX (v4 + 1).toNat) (sX (v4 + 2).toNat) (sX (v4 + 3).toNat)) := by
    unfold k_L_fill
    exact y_lx (w := i2l_) tk LX (x := (if z_flc D (sX (v4 + 1).toNat) (sX (v4 + 2).toNat) (sX (v4 + 3).toNat) = 0 then .inr (z_fb1 D (z_fil D (sX (v4 + 1).toNat).toNat (sX (v4 + 2).toNat).toNat (sX (v4 + 3).toNat).toNat) (sX (v4 + 3).toNat).toNat) else .inl (if z_flc D (sX (v4 + 1).toNat) (sX (v4 + 2).toNat) (sX (v4 + 3).toNat) = 1 then 3 else if z_flc D (sX (v4 + 1).toNat) (sX (v4 + 2).toNat) (sX (v4 + 3).toNat) = 2 then 1 else 2))) (y_fi_X LX W Hx _ _ _) (y_hc_f y_flcv (fun _ => rfl) (fun _ => rfl) (fun _ => rfl) (fun h => by rw [if_pos h]))
  refine y_pw (w := i2l_) (σ := (D, f, n, tb, ts, flt, A, ac)) (x := (if z_flc D (sX (v4 + 1).toNat) (sX (v4 + 2).toNat) (sX (v4 + 3).toNat) = 0 then (z_fb1 D (z_fil D (sX (v4 + 1).toNat).toNat (sX (v4 + 2).toNat).toNat (sX (v4 + 3).toNat).toNat) (sX (v4 + 3).toNat).toNat) else 0)) (code := (z_flc D (sX (v4 + 1).toNat) (sX (v4 + 2).toNat) (sX (v4 + 3).toNat))) (σ' := (y_fi D f n tb ts flt A ac (sX (v4 + 1).toNat) (sX (v4 + 2).toNat) (sX (v4 + 3).toNat))) tk L Hm (y_fi_w LX W Hx _ _ _) hj hX ?_ rfl
  · intro c1 I1 J1 R1 L1 H1
    have H1 : z_RM I1 D f n tb ts flt A ac := H1
    exact y_fi_M L1 W H1 _ _ _
theorem y_k47 {M : mm_T} (hM : M = (c, T, I, J, R)) (hq : 0 ≤ v4) (hL : v4 + 6 ≤ (sL : Int)) (hS : sL ≤ 3072) (hx : ∀ i, -2147483648 ≤ sX i ∧ sX i < 2147483648) (S : y_IV T I R σ) (tk : y_tk T) (hj : y_J T c j Q) : z_U (
    ck_ (v4 + 1) fun x2581 =>
    sl_ sL sX x2581 fun x2582 =>
    cl_ (k_L_sources 20 x2582 395 M) fun c2584 M =>
    lt_ c2584 fun v5_2587 =>
    ck_ (v4 + 1) fun x2594 =>
    sl_ sL sX x2594 fun x2595 =>
    ob_ M 379 11 <| cl_ (k_M_sources 379 x2595 M) fun c2596 M =>
    lt_ c2596 fun w6_2599 =>
    ob_ M 379 11 <| cl_ (k_M_thrown 379 M) fun c2602 M =>
    if c2602 = v5_2587 then (
      jn_ (fun (M : mm_T) =>
        j M
      ) fun j2628 =>
      if ¬ v5_2587 = 0 then (
        j2628 M
      ) else (
        aJ_ M 395 0 fun x2619 =>
        if lcm_ x2619 w6_2599 = 0 then (
          j2628 M
        ) else (
          zz_ 0 (some (0, M))
        )
      )
    ) else (
      zz_ 0 (some (0, M))
    )
  ) Q := by
  subst hM
  obtain ⟨t, s, LX, L, Hx, Hm, W⟩ := S
  obtain ⟨D, f, n, tb, ts, flt, A, ac⟩ := σ
  have wD : z_Dw D := W.1
  have Hx : z_RX I t D f n tb ts flt A ac := Hx
  have Hm : z_RM I D f n tb ts flt A ac := Hm
  simp (disch := omega) only [z_ck, z_sl]
  have hX : y_LX c T I R (k_L_sources 20 (sX (v4 + 1).toNat) 395 (c, T, I, J, R)) (if ¬ (0 ≤ (sX (v4 + 1).toNat) ∧ (sX (v4 + 1).toNat) < D 4) then 1 else 0) ((fun x => x) (z_sou D (sX (v4 + 1).toNat).toNat f n)) (D, f, n, tb, ts, flt, A, ac) := by
    unfold k_L_sources
    exact y_lx (w := (fun x => x)) tk LX (x := (if ¬ (0 ≤ (sX (v4 + 1).toNat) ∧ (sX (v4 + 1).toNat) < D 4) then .inl 3 else .inr (z_sou D (sX (v4 + 1).toNat).toNat f n))) (y_XX_j LX wD Hx (z_X_sources LX wD Hx.1 Hx.2.1 _)) (y_hc_i (fun h => y_hc_l (fun _ => rfl) (by decide)) (fun h => y_hc_r rfl))
  refine y_pw (w := (fun x => x)) (σ := (D, f, n, tb, ts, flt, A, ac)) (x := (z_sou D (sX (v4 + 1).toNat).toNat f n)) (code := (if ¬ (0 ≤ (sX (v4 + 1).toNat) ∧ (sX (v4 + 1).toNat) < D 4) then 1 else 0)) (σ' := (D, f, n, tb, ts, flt, A, ac)) tk L Hm (W) hj hX ?_ rfl
  · intro c1 I1 J1 R1 L1 H1
    have H1 : z_RM I1 D f n tb ts flt A ac := H1
    exact y_MM_j H1 (z_M_sources L1 wD H1.1 H1.2.1 _)
theorem y_k48 {M : mm_T} (hM : M = (c, T, I, J, R)) (hq : 0 ≤ v4) (hL : v4 + 6 ≤ (sL : Int)) (hS : sL ≤ 3072) (hx : ∀ i, -2147483648 ≤ sX i ∧ sX i < 2147483648) (S : y_IV T I R σ) (tk : y_tk T) (hj : y_J T c j Q) : z_U (
    ck_ (v4 + 1) fun x2636 =>
    sl_ sL sX x2636 fun x2637 =>
    cl_ (k_L_code 20 x2637 395 M) fun c2639 M =>
    lt_ c2639 fun v5_2642 =>
    ck_ (v4 + 1) fun x2649 =>
    sl_ sL sX x2649 fun x2650 =>
    ob_ M 379 11 <| cl_ (k_M_code 379 x2650 M) fun c2651 M =>
    lt_ c2651 fun v6_2654 =>
    ob_ M 379 11 <| cl_ (k_M_thrown 379 M) fun c2657 M =>
    if c2657 = v5_2642 then (
      jn_ (fun (M : mm_T) =>
        j M
      ) fun j2691 =>
      if ¬ v5_2642 = 0 then (
        j2691 M
      ) else (
        aJ_ M 395 0 fun x2674 =>
        jn_ (fun (sw0_2685 : Int64) (sw1_2685 : Int64) (M : mm_T) =>
          if lcm_ sw0_2685 sw1_2685 = 0 then (
            j2691 M
          ) else (
            zz_ 0 (some (0, M))
          )
        ) fun j2685 =>
        if v6_2654 = 0 then (
          j2685 x2674 0 M
        ) else (
          j2685 x2674 1 M
        )
      )
    ) else (
      zz_ 0 (some (0, M))
    )
  ) Q := by
  subst hM
  obtain ⟨t, s, LX, L, Hx, Hm, W⟩ := S
  obtain ⟨D, f, n, tb, ts, flt, A, ac⟩ := σ
  have wD : z_Dw D := W.1
  have Hx : z_RX I t D f n tb ts flt A ac := Hx
  have Hm : z_RM I D f n tb ts flt A ac := Hm
  simp (disch := omega) only [z_ck, z_sl]
  have hX : y_LX c T I R (k_L_code 20 (sX (v4 + 1).toNat) 395 (c, T, I, J, R)) (if ¬ (0 ≤ (sX (v4 + 1).toNat) ∧ (sX (v4 + 1).toNat) < D 4) then 1 else 0) (if (z_b (¬ z_cre D (sX (v4 + 1).toNat).toNat 0)) = 0 then 0 else 1) (D, f, n, tb, ts, flt, A, ac) := by
    unfold k_L_code
    exact y_lxb tk LX (x := (if ¬ (0 ≤ (sX (v4 + 1).toNat) ∧ (sX (v4 + 1).toNat) < D 4) then .inl 3 else .inr (z_b (¬ z_cre D (sX (v4 + 1).toNat).toNat 0)))) (y_XX_q LX wD Hx (z_X_code LX Hx.1 wD _)) (y_hc_i (fun h => y_hc_l (fun _ => rfl) (by decide)) (fun h => y_hc_r rfl))
  refine y_pb (σ := (D, f, n, tb, ts, flt, A, ac)) (x := (z_b (¬ z_cre D (sX (v4 + 1).toNat).toNat 0))) (code := (if ¬ (0 ≤ (sX (v4 + 1).toNat) ∧ (sX (v4 + 1).toNat) < D 4) then 1 else 0)) (σ' := (D, f, n, tb, ts, flt, A, ac)) tk L Hm (W) hj hX ?_ rfl
  · intro c1 I1 J1 R1 L1 H1
    have H1 : z_RM I1 D f n tb ts flt A ac := H1
    exact y_MM_q H1 (z_M_code L1 H1.1 wD _)
theorem y_k49 {M : mm_T} (hM : M = (c, T, I, J, R)) (hq : 0 ≤ v4) (hL : v4 + 6 ≤ (sL : Int)) (hS : sL ≤ 3072) (hx : ∀ i, -2147483648 ≤ sX i ∧ sX i < 2147483648) (S : y_IV T I R σ) (tk : y_tk T) (hj : y_J T c j Q) : z_U (
    ck_ (v4 + 1) fun x2699 =>
    sl_ sL sX x2699 fun x2700 =>
    ck_ (v4 + 2) fun x2705 =>
    sl_ sL sX x2705 fun x2706 =>
    ck_ (v4 + 3) fun x2711 =>
    sl_ sL sX x2711 fun x2712 =>
    cl_ (k_L_whole 20 x2700 x2706 x2712 395 M) fun c2714 M =>
    lt_ c2714 fun v5_2717 =>
    ck_ (v4 + 1) fun x2724 =>
    sl_ sL sX x2724 fun x2725 =>
    ck_ (v4 + 2) fun x2730 =>
    sl_ sL sX x2730 fun x2731 =>
    ck_ (v4 + 3) fun x2736 =>
    sl_ sL sX x2736 fun x2737 =>
    ob_ M 379 11 <| cl_ (k_M_whole 379 x2725 x2731 x2737 M) fun c2738 M =>
    lt_ c2738 fun v6_2741 =>
    ob_ M 379 11 <| cl_ (k_M_thrown 379 M) fun c2744 M =>
    if c2744 = v5_2717 then (
      jn_ (fun (M : mm_T) =>
        j M
      ) fun j2771 =>
      if ¬ v5_2717 = 0 then (
        j2771 M
      ) else (
        aJ_ M 395 0 fun x2761 =>
        if lcm_ x2761 (i2l_ v6_2741) = 0 then (
          j2771 M
        ) else (
          zz_ 0 (some (0, M))
        )
      )
    ) else (
      zz_ 0 (some (0, M))
    )
  ) Q := by
  subst hM
  obtain ⟨t, s, LX, L, Hx, Hm, W⟩ := S
  obtain ⟨D, f, n, tb, ts, flt, A, ac⟩ := σ
  have wD : z_Dw D := W.1
  have Hx : z_RX I t D f n tb ts flt A ac := Hx
  have Hm : z_RM I D f n tb ts flt A ac := Hm
  simp (disch := omega) only [z_ck, z_sl]
  have hX : y_LX c T I R (k_L_whole 20 (sX (v4 + 1).toNat) (sX (v4 + 2).toNat) (sX (v4 + 3).toNat) 395 (c, T, I, J, R)) (if ¬ (0 ≤ (sX (v4 + 1).toNat) ∧ (sX (v4 + 1).toNat) < D 5) then 1 else if ¬ (0 ≤ (sX (v4 + 3).toNat) ∧ (sX (v4 + 3).toNat) ≤ 2) then 2 else 0) (i2l_ (z_who D f n (sX (v4 + 1).toNat).toNat (sX (v4 + 2).toNat) (sX (v4 + 3).toNat))) (D, f, n, tb, ts, flt, A, ac) := by
    unfold k_L_whole
    exact y_lx (w := i2l_) tk LX (x := (if ¬ (0 ≤ (sX (v4 + 1).toNat) ∧ (sX (v4 + 1).toNat) < D 5) then .inl 3 else if ¬ (0 ≤ (sX (v4 + 3).toNat) ∧ (sX (v4 + 3).toNat) ≤ 2) then .inl 4 else .inr (z_who D f n (sX (v4 + 1).toNat).toNat (sX (v4 + 2).toNat) (sX (v4 + 3).toNat)))) (y_XX_q LX wD Hx (z_X_whole LX wD Hx.1 Hx.2.1 _ _ _ (hx _))) (y_hc_i (fun h => y_hc_l (fun _ => rfl) (by decide)) (fun h => y_hc_i (fun h => y_hc_l (fun _ => rfl) (by decide)) (fun h => y_hc_r rfl)))
  refine y_pw (w := i2l_) (σ := (D, f, n, tb, ts, flt, A, ac)) (x := (z_who D f n (sX (v4 + 1).toNat).toNat (sX (v4 + 2).toNat) (sX (v4 + 3).toNat))) (code := (if ¬ (0 ≤ (sX (v4 + 1).toNat) ∧ (sX (v4 + 1).toNat) < D 5) then 1 else if ¬ (0 ≤ (sX (v4 + 3).toNat) ∧ (sX (v4 + 3).toNat) ≤ 2) then 2 else 0)) (σ' := (D, f, n, tb, ts, flt, A, ac)) tk L Hm (W) hj hX ?_ rfl
  · intro c1 I1 J1 R1 L1 H1
    have H1 : z_RM I1 D f n tb ts flt A ac := H1
    exact y_MM_q H1 (z_M_whole L1 H1.1 wD H1.2.1 _ _ _)
theorem y_k50 {M : mm_T} (hM : M = (c, T, I, J, R)) (hq : 0 ≤ v4) (hL : v4 + 6 ≤ (sL : Int)) (hS : sL ≤ 3072) (hx : ∀ i, -2147483648 ≤ sX i ∧ sX i < 2147483648) (S : y_IV T I R σ) (tk : y_tk T) (hj : y_J T c j Q) : z_U (
    ck_ (v4 + 1) fun x2779 =>
    sl_ sL sX x2779 fun x2780 =>
    ob_ M 20 10 <| cl_ (k_X_count 20 x2780 M) fun c2781 M =>
    ck_ (v4 + 1) fun x2789 =>
    sl_ sL sX x2789 fun x2790 =>
    ob_ M 379 11 <| cl_ (k_M_count 379 x2790 M) fun c2791 M =>
    if c2781 = c2791 then (
      j M
    ) else (
      zz_ 0 (some (0, M))
    )
  ) Q := by
  subst hM
  obtain ⟨t, s, LX, L, Hx, Hm, W⟩ := S
  obtain ⟨D, f, n, tb, ts, flt, A, ac⟩ := σ
  have wD : z_Dw D := W.1
  have Hx : z_RX I t D f n tb ts flt A ac := Hx
  have Hm : z_RM I D f n tb ts flt A ac := Hm
  simp (disch := omega) only [z_ck, z_sl]
  refine y_pl (σ := (D, f, n, tb, ts, flt, A, ac)) (x := (z_cnt0 D n ac (sX (v4 + 1).toNat))) (σ' := (D, f, n, tb, ts, flt, A, ac)) LX L Hm (W) hj (y_XX_e LX Hx (z_X_count LX wD Hx _)) ?_
  · intro c1 I1 J1 R1 L1 H1
    have H1 : z_RM I1 D f n tb ts flt A ac := H1
    exact y_MM_q H1 (z_M_count L1 wD H1 _)
end Cases3
