/-! THE LAW'S LOOP: its calls, further (written by genA4.py). -/
section Cases2
variable {c : z_C} {T : z_Ty} {I : z_Is} {J : z_Js} {R : z_Rs} {σ : y_Sg} {Q : Int → mm_T → Prop} {v4 : Int} {sL : Nat} {sX : Nat → Int} {j : mm_T → Option (Int × mm_T)}
theorem y_k20 {M : mm_T} (hM : M = (c, T, I, J, R)) (hq : 0 ≤ v4) (hL : v4 + 6 ≤ (sL : Int)) (hS : sL ≤ 3072) (hx : ∀ i, -2147483648 ≤ sX i ∧ sX i < 2147483648) (S : y_IV T I R σ) (tk : y_tk T) (hj : y_J T c j Q) : z_U (
    ck_ (v4 + 1) fun x953 =>
    sl_ sL sX x953 fun x954 =>
    cl_ (k_L_first 20 x954 395 M) fun c956 M =>
    lt_ c956 fun v5_959 =>
    ck_ (v4 + 1) fun x966 =>
    sl_ sL sX x966 fun x967 =>
    ob_ M 379 11 <| cl_ (k_M_first 379 x967 M) fun c968 M =>
    lt_ c968 fun v6_971 =>
    ob_ M 379 11 <| cl_ (k_M_thrown 379 M) fun c974 M =>
    if c974 = v5_959 then (
      jn_ (fun (M : mm_T) =>
        j M
      ) fun j1001 =>
      if ¬ v5_959 = 0 then (
        j1001 M
      ) else (
        aJ_ M 395 0 fun x991 =>
        if lcm_ x991 (i2l_ v6_971) = 0 then (
          j1001 M
        ) else (
          zz_ 0 (some (0, M))
        )
      )
    ) else (
      zz_ 0 (some (0, M))
    )
  ) Q := by
  subst hM
  obtain ⟨t, s, LX, L, Hx, Hm, W⟩ := S
  obtain ⟨D, f, n, tb, ts, flt, A, ac⟩ := σ
  have wD : z_Dw D := W.1
  have Hx : z_RX I t D f n tb ts flt A ac := Hx
  have Hm : z_RM I D f n tb ts flt A ac := Hm
  simp (disch := omega) only [z_ck, z_sl]
  have hX : y_LX c T I R (k_L_first 20 (sX (v4 + 1).toNat) 395 (c, T, I, J, R)) (if 1 ≤ (sX (v4 + 1).toNat) ∧ (sX (v4 + 1).toNat) ≤ 40 then 0 else 1) (i2l_ (z_nth D f (sX (v4 + 1).toNat).toNat 0)) (y_nt D f n tb ts flt A ac (sX (v4 + 1).toNat) 0) := by
    unfold k_L_first
    exact y_lx (w := i2l_) tk LX (x := (if 1 ≤ (sX (v4 + 1).toNat) ∧ (sX (v4 + 1).toNat) ≤ 40 then .inr (z_nth D f (sX (v4 + 1).toNat).toNat 0) else .inl 1)) (y_fs_X LX W Hx _) (y_hc_i (fun h => y_hc_r rfl) (fun h => y_hc_l (fun _ => rfl) (by decide)))
  refine y_pw (w := i2l_) (σ := (D, f, n, tb, ts, flt, A, ac)) (x := (z_nth D f (sX (v4 + 1).toNat).toNat 0)) (code := (if 1 ≤ (sX (v4 + 1).toNat) ∧ (sX (v4 + 1).toNat) ≤ 40 then 0 else 1)) (σ' := (y_nt D f n tb ts flt A ac (sX (v4 + 1).toNat) 0)) tk L Hm (y_nt_w W _ _) hj hX ?_ rfl
  · intro c1 I1 J1 R1 L1 H1
    have H1 : z_RM I1 D f n tb ts flt A ac := H1
    exact y_fs_M L1 W H1 _
theorem y_k21 {M : mm_T} (hM : M = (c, T, I, J, R)) (hq : 0 ≤ v4) (hL : v4 + 6 ≤ (sL : Int)) (hS : sL ≤ 3072) (hx : ∀ i, -2147483648 ≤ sX i ∧ sX i < 2147483648) (S : y_IV T I R σ) (tk : y_tk T) (hj : y_J T c j Q) : z_U (
    cl_ (k_L_next 20 395 M) fun c1006 M =>
    lt_ c1006 fun v5_1009 =>
    ob_ M 379 11 <| cl_ (k_M_next 379 M) fun c1012 M =>
    lt_ c1012 fun v6_1015 =>
    ob_ M 379 11 <| cl_ (k_M_thrown 379 M) fun c1018 M =>
    if c1018 = v5_1009 then (
      jn_ (fun (M : mm_T) =>
        j M
      ) fun j1045 =>
      if ¬ v5_1009 = 0 then (
        j1045 M
      ) else (
        aJ_ M 395 0 fun x1035 =>
        if lcm_ x1035 (i2l_ v6_1015) = 0 then (
          j1045 M
        ) else (
          zz_ 0 (some (0, M))
        )
      )
    ) else (
      zz_ 0 (some (0, M))
    )
  ) Q := by
  subst hM
  obtain ⟨t, s, LX, L, Hx, Hm, W⟩ := S
  obtain ⟨D, f, n, tb, ts, flt, A, ac⟩ := σ
  have wD : z_Dw D := W.1
  have Hx : z_RX I t D f n tb ts flt A ac := Hx
  have Hm : z_RM I D f n tb ts flt A ac := Hm
  have hX : y_LX c T I R (k_L_next 20 395 (c, T, I, J, R)) (if n ≤ 40 then 0 else 1) (i2l_ (z_nxA D f n)) (y_nx D f n tb ts flt A ac) := by
    unfold k_L_next
    exact y_lx (w := i2l_) tk LX (x := (if n ≤ 40 then .inr (z_nxA D f n) else .inl 2)) (y_nx_X LX W Hx) (y_hc_i (fun h => y_hc_r rfl) (fun h => y_hc_l (fun _ => rfl) (by decide)))
  refine y_pw (w := i2l_) (σ := (D, f, n, tb, ts, flt, A, ac)) (x := (z_nxA D f n)) (code := (if n ≤ 40 then 0 else 1)) (σ' := (y_nx D f n tb ts flt A ac)) tk L Hm (y_nx_w W) hj hX ?_ rfl
  · intro c1 I1 J1 R1 L1 H1
    have H1 : z_RM I1 D f n tb ts flt A ac := H1
    exact y_nx_M L1 W H1
theorem y_k22 {M : mm_T} (hM : M = (c, T, I, J, R)) (hq : 0 ≤ v4) (hL : v4 + 6 ≤ (sL : Int)) (hS : sL ≤ 3072) (hx : ∀ i, -2147483648 ≤ sX i ∧ sX i < 2147483648) (S : y_IV T I R σ) (tk : y_tk T) (hj : y_J T c j Q) : z_U (
    ck_ (v4 + 1) fun x1053 =>
    sl_ sL sX x1053 fun x1054 =>
    cl_ (k_L_many 20 x1054 395 M) fun c1056 M =>
    lt_ c1056 fun v5_1059 =>
    ck_ (v4 + 1) fun x1066 =>
    sl_ sL sX x1066 fun x1067 =>
    ob_ M 379 11 <| cl_ (k_M_many 379 x1067 M) fun c1068 M =>
    lt_ c1068 fun v6_1071 =>
    ob_ M 379 11 <| cl_ (k_M_thrown 379 M) fun c1074 M =>
    if c1074 = v5_1059 then (
      jn_ (fun (M : mm_T) =>
        j M
      ) fun j1101 =>
      if ¬ v5_1059 = 0 then (
        j1101 M
      ) else (
        aJ_ M 395 0 fun x1091 =>
        if lcm_ x1091 (i2l_ v6_1071) = 0 then (
          j1101 M
        ) else (
          zz_ 0 (some (0, M))
        )
      )
    ) else (
      zz_ 0 (some (0, M))
    )
  ) Q := by
  subst hM
  obtain ⟨t, s, LX, L, Hx, Hm, W⟩ := S
  obtain ⟨D, f, n, tb, ts, flt, A, ac⟩ := σ
  have wD : z_Dw D := W.1
  have Hx : z_RX I t D f n tb ts flt A ac := Hx
  have Hm : z_RM I D f n tb ts flt A ac := Hm
  simp (disch := omega) only [z_ck, z_sl]
  have hX : y_LX c T I R (k_L_many 20 (sX (v4 + 1).toNat) 395 (c, T, I, J, R)) (if 0 ≤ (sX (v4 + 1).toNat) ∧ (sX (v4 + 1).toNat) ≤ 40 then 0 else 1) (i2l_ (z_mny D (sX (v4 + 1).toNat).toNat)) (D, f, n, tb, ts, flt, A, ac) := by
    unfold k_L_many
    exact y_lx (w := i2l_) tk LX (x := (if 0 ≤ (sX (v4 + 1).toNat) ∧ (sX (v4 + 1).toNat) ≤ 40 then .inr (z_mny D (sX (v4 + 1).toNat).toNat) else .inl 1)) (y_XX_r LX (fun I' q => z_RX_q wD (z_xlt LX).1 Hx q) (z_X_many LX wD Hx.1 Hx.2.1 W.2.1.2 _)) (y_hc_i (fun h => y_hc_r rfl) (fun h => y_hc_l (fun _ => rfl) (by decide)))
  refine y_pw (w := i2l_) (σ := (D, f, n, tb, ts, flt, A, ac)) (x := (z_mny D (sX (v4 + 1).toNat).toNat)) (code := (if 0 ≤ (sX (v4 + 1).toNat) ∧ (sX (v4 + 1).toNat) ≤ 40 then 0 else 1)) (σ' := (D, f, n, tb, ts, flt, A, ac)) tk L Hm (W) hj hX ?_ rfl
  · intro c1 I1 J1 R1 L1 H1
    have H1 : z_RM I1 D f n tb ts flt A ac := H1
    exact y_MM_q H1 (z_M_many L1 wD H1.1 H1.2.1 _)
theorem y_k23 {M : mm_T} (hM : M = (c, T, I, J, R)) (hq : 0 ≤ v4) (hL : v4 + 6 ≤ (sL : Int)) (hS : sL ≤ 3072) (hx : ∀ i, -2147483648 ≤ sX i ∧ sX i < 2147483648) (S : y_IV T I R σ) (tk : y_tk T) (hj : y_J T c j Q) : z_U (
    ob_ M 20 10 <| cl_ (k_X_longest 20 M) fun c1105 M =>
    ob_ M 379 11 <| cl_ (k_M_longest 379 M) fun c1109 M =>
    if c1105 = c1109 then (
      j M
    ) else (
      zz_ 0 (some (0, M))
    )
  ) Q := by
  subst hM
  obtain ⟨t, s, LX, L, Hx, Hm, W⟩ := S
  obtain ⟨D, f, n, tb, ts, flt, A, ac⟩ := σ
  have wD : z_Dw D := W.1
  have Hx : z_RX I t D f n tb ts flt A ac := Hx
  have Hm : z_RM I D f n tb ts flt A ac := Hm
  refine y_pl (σ := (D, f, n, tb, ts, flt, A, ac)) (x := (z_dpt D 0 40 (z_s0 0))) (σ' := (D, f, n, tb, ts, flt, A, ac)) LX L Hm (W) hj (y_XX_R LX wD Hx (fun _ q => z_qxf q (by omega)) (z_X_longest LX wD Hx.1 Hx.2.1 W.2.1.2)) ?_
  · intro c1 I1 J1 R1 L1 H1
    have H1 : z_RM I1 D f n tb ts flt A ac := H1
    exact y_MM_q H1 (z_M_longest L1 wD H1.1 H1.2.1)
theorem y_k24 {M : mm_T} (hM : M = (c, T, I, J, R)) (hq : 0 ≤ v4) (hL : v4 + 6 ≤ (sL : Int)) (hS : sL ≤ 3072) (hx : ∀ i, -2147483648 ≤ sX i ∧ sX i < 2147483648) (S : y_IV T I R σ) (tk : y_tk T) (hj : y_J T c j Q) : z_U (
    ck_ (v4 + 1) fun x1122 =>
    sl_ sL sX x1122 fun x1123 =>
    cl_ (k_L_growth 20 x1123 395 M) fun c1125 M =>
    lt_ c1125 fun v5_1128 =>
    ck_ (v4 + 1) fun x1135 =>
    sl_ sL sX x1135 fun x1136 =>
    ob_ M 379 11 <| cl_ (k_M_growth 379 x1136 M) fun c1137 M =>
    lt_ c1137 fun v6_1140 =>
    ob_ M 379 11 <| cl_ (k_M_thrown 379 M) fun c1143 M =>
    if c1143 = v5_1128 then (
      jn_ (fun (M : mm_T) =>
        j M
      ) fun j1170 =>
      if ¬ v5_1128 = 0 then (
        j1170 M
      ) else (
        aJ_ M 395 0 fun x1160 =>
        if lcm_ x1160 (i2l_ v6_1140) = 0 then (
          j1170 M
        ) else (
          zz_ 0 (some (0, M))
        )
      )
    ) else (
      zz_ 0 (some (0, M))
    )
  ) Q := by
  subst hM
  obtain ⟨t, s, LX, L, Hx, Hm, W⟩ := S
  obtain ⟨D, f, n, tb, ts, flt, A, ac⟩ := σ
  have wD : z_Dw D := W.1
  have Hx : z_RX I t D f n tb ts flt A ac := Hx
  have Hm : z_RM I D f n tb ts flt A ac := Hm
  simp (disch := omega) only [z_ck, z_sl]
  have hX : y_LX c T I R (k_L_growth 20 (sX (v4 + 1).toNat) 395 (c, T, I, J, R)) (if 0 ≤ (sX (v4 + 1).toNat) ∧ (sX (v4 + 1).toNat) ≤ 39 then 0 else 1) (i2l_ (z_grw D (sX (v4 + 1).toNat).toNat)) (D, f, n, tb, ts, flt, A, ac) := by
    unfold k_L_growth
    exact y_lx (w := i2l_) tk LX (x := (if 0 ≤ (sX (v4 + 1).toNat) ∧ (sX (v4 + 1).toNat) ≤ 39 then .inr (z_grw D (sX (v4 + 1).toNat).toNat) else .inl 1)) (y_XX_r LX (fun I' q => z_RX_q wD (z_xlt LX).1 Hx q) (z_X_growth LX wD Hx.1 Hx.2.1 W.2.1.2 _)) (y_hc_i (fun h => y_hc_r rfl) (fun h => y_hc_l (fun _ => rfl) (by decide)))
  refine y_pw (w := i2l_) (σ := (D, f, n, tb, ts, flt, A, ac)) (x := (z_grw D (sX (v4 + 1).toNat).toNat)) (code := (if 0 ≤ (sX (v4 + 1).toNat) ∧ (sX (v4 + 1).toNat) ≤ 39 then 0 else 1)) (σ' := (D, f, n, tb, ts, flt, A, ac)) tk L Hm (W) hj hX ?_ rfl
  · intro c1 I1 J1 R1 L1 H1
    have H1 : z_RM I1 D f n tb ts flt A ac := H1
    exact y_MM_q H1 (z_M_growth L1 wD H1.1 H1.2.1 _)
theorem y_k25 {M : mm_T} (hM : M = (c, T, I, J, R)) (hq : 0 ≤ v4) (hL : v4 + 6 ≤ (sL : Int)) (hS : sL ≤ 3072) (hx : ∀ i, -2147483648 ≤ sX i ∧ sX i < 2147483648) (S : y_IV T I R σ) (tk : y_tk T) (hj : y_J T c j Q) : z_U (
    ck_ (v4 + 1) fun x1178 =>
    sl_ sL sX x1178 fun x1179 =>
    cl_ (k_L_image 20 x1179 395 M) fun c1181 M =>
    lt_ c1181 fun v5_1184 =>
    ck_ (v4 + 1) fun x1191 =>
    sl_ sL sX x1191 fun x1192 =>
    ob_ M 379 11 <| cl_ (k_M_image 379 x1192 M) fun c1193 M =>
    lt_ c1193 fun v6_1196 =>
    ob_ M 379 11 <| cl_ (k_M_thrown 379 M) fun c1199 M =>
    if c1199 = v5_1184 then (
      jn_ (fun (M : mm_T) =>
        j M
      ) fun j1226 =>
      if ¬ v5_1184 = 0 then (
        j1226 M
      ) else (
        aJ_ M 395 0 fun x1216 =>
        if lcm_ x1216 (i2l_ v6_1196) = 0 then (
          j1226 M
        ) else (
          zz_ 0 (some (0, M))
        )
      )
    ) else (
      zz_ 0 (some (0, M))
    )
  ) Q := by
  subst hM
  obtain ⟨t, s, LX, L, Hx, Hm, W⟩ := S
  obtain ⟨D, f, n, tb, ts, flt, A, ac⟩ := σ
  have wD : z_Dw D := W.1
  have Hx : z_RX I t D f n tb ts flt A ac := Hx
  have Hm : z_RM I D f n tb ts flt A ac := Hm
  simp (disch := omega) only [z_ck, z_sl]
  have hX : y_LX c T I R (k_L_image 20 (sX (v4 + 1).toNat) 395 (c, T, I, J, R)) (if ¬ (0 ≤ (sX (v4 + 1).toNat) ∧ (sX (v4 + 1).toNat) < D 4) then 1 else if 64 < z_ist D (sX (v4 + 1).toNat).toNat f n then 2 else 0) (i2l_ (z_ist D (sX (v4 + 1).toNat).toNat f n : Int)) (y_im D f n tb ts flt A ac (sX (v4 + 1).toNat)) := by
    unfold k_L_image
    exact y_lx (w := i2l_) tk LX (x := (if ¬ (0 ≤ (sX (v4 + 1).toNat) ∧ (sX (v4 + 1).toNat) < D 4) then .inl 3 else if 64 < z_ist D (sX (v4 + 1).toNat).toNat f n then .inl 2 else .inr (z_ist D (sX (v4 + 1).toNat).toNat f n : Int))) (y_im_X LX W Hx _) (y_hc_i (fun h => y_hc_l (fun _ => rfl) (by decide)) (fun h => y_hc_i (fun h => y_hc_l (fun _ => rfl) (by decide)) (fun h => y_hc_r rfl)))
  refine y_pw (w := i2l_) (σ := (D, f, n, tb, ts, flt, A, ac)) (x := (z_ist D (sX (v4 + 1).toNat).toNat f n : Int)) (code := (if ¬ (0 ≤ (sX (v4 + 1).toNat) ∧ (sX (v4 + 1).toNat) < D 4) then 1 else if 64 < z_ist D (sX (v4 + 1).toNat).toNat f n then 2 else 0)) (σ' := (y_im D f n tb ts flt A ac (sX (v4 + 1).toNat))) tk L Hm (y_im_w W _) hj hX ?_ rfl
  · intro c1 I1 J1 R1 L1 H1
    have H1 : z_RM I1 D f n tb ts flt A ac := H1
    exact y_im_M L1 W H1 _
theorem y_k26 {M : mm_T} (hM : M = (c, T, I, J, R)) (hq : 0 ≤ v4) (hL : v4 + 6 ≤ (sL : Int)) (hS : sL ≤ 3072) (hx : ∀ i, -2147483648 ≤ sX i ∧ sX i < 2147483648) (S : y_IV T I R σ) (tk : y_tk T) (hj : y_J T c j Q) : z_U (
    ck_ (v4 + 1) fun x1234 =>
    sl_ sL sX x1234 fun x1235 =>
    ck_ (v4 + 2) fun x1240 =>
    sl_ sL sX x1240 fun x1241 =>
    ck_ (v4 + 3) fun x1246 =>
    sl_ sL sX x1246 fun x1247 =>
    cl_ (k_L_imaged 20 x1235 x1241 x1247 395 M) fun c1249 M =>
    lt_ c1249 fun v5_1252 =>
    ck_ (v4 + 1) fun x1259 =>
    sl_ sL sX x1259 fun x1260 =>
    ck_ (v4 + 2) fun x1265 =>
    sl_ sL sX x1265 fun x1266 =>
    ck_ (v4 + 3) fun x1271 =>
    sl_ sL sX x1271 fun x1272 =>
    ob_ M 379 11 <| cl_ (k_M_imaged 379 x1260 x1266 x1272 M) fun c1273 M =>
    lt_ c1273 fun v6_1276 =>
    ob_ M 379 11 <| cl_ (k_M_thrown 379 M) fun c1279 M =>
    if c1279 = v5_1252 then (
      jn_ (fun (M : mm_T) =>
        j M
      ) fun j1306 =>
      if ¬ v5_1252 = 0 then (
        j1306 M
      ) else (
        aJ_ M 395 0 fun x1296 =>
        if lcm_ x1296 (i2l_ v6_1276) = 0 then (
          j1306 M
        ) else (
          zz_ 0 (some (0, M))
        )
      )
    ) else (
      zz_ 0 (some (0, M))
    )
  ) Q := by
  subst hM
  obtain ⟨t, s, LX, L, Hx, Hm, W⟩ := S
  obtain ⟨D, f, n, tb, ts, flt, A, ac⟩ := σ
  have wD : z_Dw D := W.1
  have Hx : z_RX I t D f n tb ts flt A ac := Hx
  have Hm : z_RM I D f n tb ts flt A ac := Hm
  simp (disch := omega) only [z_ck, z_sl]
  have hX : y_LX c T I R (k_L_imaged 20 (sX (v4 + 1).toNat) (sX (v4 + 2).toNat) (sX (v4 + 3).toNat) 395 (c, T, I, J, R)) (if ¬ (0 ≤ (sX (v4 + 1).toNat) ∧ (sX (v4 + 1).toNat) < D 4) then 1 else if ¬ (0 ≤ (sX (v4 + 2).toNat) ∧ (sX (v4 + 2).toNat) < D 0) then 2 else 0) (i2l_ (z_img D (sX (v4 + 1).toNat).toNat (sX (v4 + 2).toNat).toNat (sX (v4 + 3).toNat))) (D, f, n, tb, ts, flt, A, ac) := by
    unfold k_L_imaged
    exact y_lx (w := i2l_) tk LX (x := (if ¬ (0 ≤ (sX (v4 + 1).toNat) ∧ (sX (v4 + 1).toNat) < D 4) then .inl 3 else if ¬ (0 ≤ (sX (v4 + 2).toNat) ∧ (sX (v4 + 2).toNat) < D 0) then .inl 1 else .inr (z_img D (sX (v4 + 1).toNat).toNat (sX (v4 + 2).toNat).toNat (sX (v4 + 3).toNat)))) (y_XX_q LX wD Hx (z_X_imaged LX Hx.1 wD _ _ _)) (y_hc_i (fun h => y_hc_l (fun _ => rfl) (by decide)) (fun h => y_hc_i (fun h => y_hc_l (fun _ => rfl) (by decide)) (fun h => y_hc_r rfl)))
  refine y_pw (w := i2l_) (σ := (D, f, n, tb, ts, flt, A, ac)) (x := (z_img D (sX (v4 + 1).toNat).toNat (sX (v4 + 2).toNat).toNat (sX (v4 + 3).toNat))) (code := (if ¬ (0 ≤ (sX (v4 + 1).toNat) ∧ (sX (v4 + 1).toNat) < D 4) then 1 else if ¬ (0 ≤ (sX (v4 + 2).toNat) ∧ (sX (v4 + 2).toNat) < D 0) then 2 else 0)) (σ' := (D, f, n, tb, ts, flt, A, ac)) tk L Hm (W) hj hX ?_ rfl
  · intro c1 I1 J1 R1 L1 H1
    have H1 : z_RM I1 D f n tb ts flt A ac := H1
    exact y_MM_q H1 (z_M_imaged L1 H1.1 wD _ _ _)
theorem y_k27 {M : mm_T} (hM : M = (c, T, I, J, R)) (hq : 0 ≤ v4) (hL : v4 + 6 ≤ (sL : Int)) (hS : sL ≤ 3072) (hx : ∀ i, -2147483648 ≤ sX i ∧ sX i < 2147483648) (S : y_IV T I R σ) (tk : y_tk T) (hj : y_J T c j Q) : z_U (
    ck_ (v4 + 1) fun x1314 =>
    sl_ sL sX x1314 fun x1315 =>
    ck_ (v4 + 2) fun x1320 =>
    sl_ sL sX x1320 fun x1321 =>
    ck_ (v4 + 3) fun x1326 =>
    sl_ sL sX x1326 fun x1327 =>
    cl_ (k_L_length 20 x1315 x1321 x1327 395 M) fun c1329 M =>
    lt_ c1329 fun v5_1332 =>
    ck_ (v4 + 1) fun x1339 =>
    sl_ sL sX x1339 fun x1340 =>
    ck_ (v4 + 2) fun x1345 =>
    sl_ sL sX x1345 fun x1346 =>
    ck_ (v4 + 3) fun x1351 =>
    sl_ sL sX x1351 fun x1352 =>
    ob_ M 379 11 <| cl_ (k_M_length 379 x1340 x1346 x1352 M) fun c1353 M =>
    lt_ c1353 fun w6_1356 =>
    ob_ M 379 11 <| cl_ (k_M_thrown 379 M) fun c1359 M =>
    if c1359 = v5_1332 then (
      jn_ (fun (M : mm_T) =>
        j M
      ) fun j1385 =>
      if ¬ v5_1332 = 0 then (
        j1385 M
      ) else (
        aJ_ M 395 0 fun x1376 =>
        if lcm_ x1376 w6_1356 = 0 then (
          j1385 M
        ) else (
          zz_ 0 (some (0, M))
        )
      )
    ) else (
      zz_ 0 (some (0, M))
    )
  ) Q := by
  subst hM
  obtain ⟨t, s, LX, L, Hx, Hm, W⟩ := S
  obtain ⟨D, f, n, tb, ts, flt, A, ac⟩ := σ
  have wD : z_Dw D := W.1
  have Hx : z_RX I t D f n tb ts flt A ac := Hx
  have Hm : z_RM I D f n tb ts flt A ac := Hm
  simp (disch := omega) only [z_ck, z_sl]
  have hX : y_LX c T I R (k_L_length 20 (sX (v4 + 1).toNat) (sX (v4 + 2).toNat) (sX (v4 + 3).toNat) 395 (c, T, I, J, R)) (z_npc D (sX (v4 + 1).toNat) (sX (v4 + 2).toNat) (sX (v4 + 3).toNat)) ((fun x => x) (z_tl D (sX (v4 + 1).toNat).toNat (-1) (sX (v4 + 3).toNat).toNat (sX (v4 + 2).toNat).toNat)) (D, f, n, tb, ts, flt, A, ac) := by
    unfold k_L_length
    exact y_lx (w := (fun x => x)) tk LX (x := (if z_npc D (sX (v4 + 1).toNat) (sX (v4 + 2).toNat) (sX (v4 + 3).toNat) = 1 then .inl 3 else if z_npc D (sX (v4 + 1).toNat) (sX (v4 + 2).toNat) (sX (v4 + 3).toNat) = 2 then .inl 1 else .inr (z_tl D (sX (v4 + 1).toNat).toNat (-1) (sX (v4 + 3).toNat).toNat (sX (v4 + 2).toNat).toNat))) (y_XX_j LX wD Hx (z_X_length LX wD Hx.1 _ _ _)) (y_hc_n y_npcv (fun _ => rfl) (fun _ => rfl) rfl)
  refine y_pw (w := (fun x => x)) (σ := (D, f, n, tb, ts, flt, A, ac)) (x := (z_tl D (sX (v4 + 1).toNat).toNat (-1) (sX (v4 + 3).toNat).toNat (sX (v4 + 2).toNat).toNat)) (code := (z_npc D (sX (v4 + 1).toNat) (sX (v4 + 2).toNat) (sX (v4 + 3).toNat))) (σ' := (D, f, n, tb, ts, flt, A, ac)) tk L Hm (W) hj hX ?_ rfl
  · intro c1 I1 J1 R1 L1 H1
    have H1 : z_RM I1 D f n tb ts flt A ac := H1
    exact y_MM_j H1 (z_M_length L1 wD H1.1 _ _ _)
theorem y_k28 {M : mm_T} (hM : M = (c, T, I, J, R)) (hq : 0 ≤ v4) (hL : v4 + 6 ≤ (sL : Int)) (hS : sL ≤ 3072) (hx : ∀ i, -2147483648 ≤ sX i ∧ sX i < 2147483648) (S : y_IV T I R σ) (tk : y_tk T) (hj : y_J T c j Q) : z_U (
    ck_ (v4 + 1) fun x1393 =>
    sl_ sL sX x1393 fun x1394 =>
    ck_ (v4 + 2) fun x1399 =>
    sl_ sL sX x1399 fun x1400 =>
    ck_ (v4 + 3) fun x1405 =>
    sl_ sL sX x1405 fun x1406 =>
    ck_ (v4 + 4) fun x1411 =>
    sl_ sL sX x1411 fun x1412 =>
    ck_ (v4 + 5) fun x1421 =>
    sl_ sL sX x1421 fun x1422 =>
    cl_ (k_L_power 20 x1394 x1400 x1406 ((lshl_ (i2l_ x1412) 32) ||| ((i2l_ x1422) &&& 4294967295)) 395 M) fun c1430 M =>
    lt_ c1430 fun v5_1433 =>
    ck_ (v4 + 1) fun x1440 =>
    sl_ sL sX x1440 fun x1441 =>
    ck_ (v4 + 2) fun x1446 =>
    sl_ sL sX x1446 fun x1447 =>
    ck_ (v4 + 3) fun x1452 =>
    sl_ sL sX x1452 fun x1453 =>
    ck_ (v4 + 4) fun x1458 =>
    sl_ sL sX x1458 fun x1459 =>
    ck_ (v4 + 5) fun x1468 =>
    sl_ sL sX x1468 fun x1469 =>
    ob_ M 379 11 <| cl_ (k_M_power 379 x1441 x1447 x1453 ((lshl_ (i2l_ x1459) 32) ||| ((i2l_ x1469) &&& 4294967295)) M) fun c1476 M =>
    lt_ c1476 fun v6_1479 =>
    ob_ M 379 11 <| cl_ (k_M_thrown 379 M) fun c1482 M =>
    if c1482 = v5_1433 then (
      jn_ (fun (M : mm_T) =>
        j M
      ) fun j1509 =>
      if ¬ v5_1433 = 0 then (
        j1509 M
      ) else (
        aJ_ M 395 0 fun x1499 =>
        if lcm_ x1499 (i2l_ v6_1479) = 0 then (
          j1509 M
        ) else (
          zz_ 0 (some (0, M))
        )
      )
    ) else (
      zz_ 0 (some (0, M))
    )
  ) Q := by
  subst hM
  obtain ⟨t, s, LX, L, Hx, Hm, W⟩ := S
  obtain ⟨D, f, n, tb, ts, flt, A, ac⟩ := σ
  have wD : z_Dw D := W.1
  have Hx : z_RX I t D f n tb ts flt A ac := Hx
  have Hm : z_RM I D f n tb ts flt A ac := Hm
  simp (disch := omega) only [z_ck, z_sl]
  have hX : y_LX c T I R (k_L_power 20 (sX (v4 + 1).toNat) (sX (v4 + 2).toNat) (sX (v4 + 3).toNat) ((lshl_ (i2l_ (sX (v4 + 4).toNat)) 32) ||| ((i2l_ (sX (v4 + 5).toNat)) &&& 4294967295)) 395 (c, T, I, J, R)) (z_npc D (sX (v4 + 1).toNat) (sX (v4 + 2).toNat) (sX (v4 + 3).toNat)) (i2l_ (z_pow D (sX (v4 + 1).toNat).toNat (sX (v4 + 2).toNat).toNat (sX (v4 + 3).toNat).toNat ((lshl_ (i2l_ (sX (v4 + 4).toNat)) 32) ||| ((i2l_ (sX (v4 + 5).toNat)) &&& 4294967295)))) (D, f, n, tb, ts, flt, A, ac) := by
    unfold k_L_power
    exact y_lx (w := i2l_) tk LX (x := (if z_npc D (sX (v4 + 1).toNat) (sX (v4 + 2).toNat) (sX (v4 + 3).toNat) = 1 then .inl 3 else if z_npc D (sX (v4 + 1).toNat) (sX (v4 + 2).toNat) (sX (v4 + 3).toNat) = 2 then .inl 1 else .inr (z_pow D (sX (v4 + 1).toNat).toNat (sX (v4 + 2).toNat).toNat (sX (v4 + 3).toNat).toNat ((lshl_ (i2l_ (sX (v4 + 4).toNat)) 32) ||| ((i2l_ (sX (v4 + 5).toNat)) &&& 4294967295))))) (y_XX_j LX wD Hx (z_X_power LX wD Hx.1 _ _ _ _)) (y_hc_n y_npcv (fun _ => rfl) (fun _ => rfl) rfl)
  refine y_pw (w := i2l_) (σ := (D, f, n, tb, ts, flt, A, ac)) (x := (z_pow D (sX (v4 + 1).toNat).toNat (sX (v4 + 2).toNat).toNat (sX (v4 + 3).toNat).toNat ((lshl_ (i2l_ (sX (v4 + 4).toNat)) 32) ||| ((i2l_ (sX (v4 + 5).toNat)) &&& 4294967295)))) (code := (z_npc D (sX (v4 + 1).toNat) (sX (v4 + 2).toNat) (sX (v4 + 3).toNat))) (σ' := (D, f, n, tb, ts, flt, A, ac)) tk L Hm (W) hj hX ?_ rfl
  · intro c1 I1 J1 R1 L1 H1
    have H1 : z_RM I1 D f n tb ts flt A ac := H1
    exact y_MM_j H1 (z_M_power L1 wD H1.1 _ _ _ _)
theorem y_k29 {M : mm_T} (hM : M = (c, T, I, J, R)) (hq : 0 ≤ v4) (hL : v4 + 6 ≤ (sL : Int)) (hS : sL ≤ 3072) (hx : ∀ i, -2147483648 ≤ sX i ∧ sX i < 2147483648) (S : y_IV T I R σ) (tk : y_tk T) (hj : y_J T c j Q) : z_U (
    ck_ (v4 + 1) fun x1517 =>
    sl_ sL sX x1517 fun x1518 =>
    ck_ (v4 + 2) fun x1523 =>
    sl_ sL sX x1523 fun x1524 =>
    ck_ (v4 + 3) fun x1529 =>
    sl_ sL sX x1529 fun x1530 =>
    ck_ (v4 + 4) fun x1535 =>
    sl_ sL sX x1535 fun x1536 =>
    cl_ (k_L_often 20 x1518 x1524 x1530 x1536 395 M) fun c1538 M =>
    lt_ c1538 fun v5_1541 =>
    ck_ (v4 + 1) fun x1548 =>
    sl_ sL sX x1548 fun x1549 =>
    ck_ (v4 + 2) fun x1554 =>
    sl_ sL sX x1554 fun x1555 =>
    ck_ (v4 + 3) fun x1560 =>
    sl_ sL sX x1560 fun x1561 =>
    ck_ (v4 + 4) fun x1566 =>
    sl_ sL sX x1566 fun x1567 =>
    ob_ M 379 11 <| cl_ (k_M_often 379 x1549 x1555 x1561 x1567 M) fun c1568 M =>
    lt_ c1568 fun w6_1571 =>
    ob_ M 379 11 <| cl_ (k_M_thrown 379 M) fun c1574 M =>
    if c1574 = v5_1541 then (
      jn_ (fun (M : mm_T) =>
        j M
      ) fun j1600 =>
      if ¬ v5_1541 = 0 then (
        j1600 M
      ) else (
        aJ_ M 395 0 fun x1591 =>
        if lcm_ x1591 w6_1571 = 0 then (
          j1600 M
        ) else (
          zz_ 0 (some (0, M))
        )
      )
    ) else (
      zz_ 0 (some (0, M))
    )
  ) Q := by
  subst hM
  obtain ⟨t, s, LX, L, Hx, Hm, W⟩ := S
  obtain ⟨D, f, n, tb, ts, flt, A, ac⟩ := σ
  have wD : z_Dw D := W.1
  have Hx : z_RX I t D f n tb ts flt A ac := Hx
  have Hm : z_RM I D f n tb ts flt A ac := Hm
  simp (disch := omega) only [z_ck, z_sl]
  have hX : y_LX c T I R (k_L_often 20 (sX (v4 + 1).toNat) (sX (v4 + 2).toNat) (sX (v4 + 3).toNat) (sX (v4 + 4).toNat) 395 (c, T, I, J, R)) (if z_npc D (sX (v4 + 1).toNat) (sX (v4 + 2).toNat) (sX (v4 + 3).toNat) = 0 ∧ ¬ (0 ≤ (sX (v4 + 4).toNat) ∧ (sX (v4 + 4).toNat) < D 0) then 2 else z_npc D (sX (v4 + 1).toNat) (sX (v4 + 2).toNat) (sX (v4 + 3).toNat)) ((fun x => x) (z_tl D (sX (v4 + 1).toNat).toNat (sX (v4 + 4).toNat) (sX (v4 + 3).toNat).toNat (sX (v4 + 2).toNat).toNat)) (D, f, n, tb, ts, flt, A, ac) := by
    unfold k_L_often
    exact y_lx (w := (fun x => x)) tk LX (x := (if z_npc D (sX (v4 + 1).toNat) (sX (v4 + 2).toNat) (sX (v4 + 3).toNat) = 1 then .inl 3 else if z_npc D (sX (v4 + 1).toNat) (sX (v4 + 2).toNat) (sX (v4 + 3).toNat) = 2 ∨ ¬ (0 ≤ (sX (v4 + 4).toNat) ∧ (sX (v4 + 4).toNat) < D 0) then .inl 1 else .inr (z_tl D (sX (v4 + 1).toNat).toNat (sX (v4 + 4).toNat) (sX (v4 + 3).toNat).toNat (sX (v4 + 2).toNat).toNat))) (y_XX_j LX wD Hx (z_X_often LX wD Hx.1 _ _ _ _)) (y_hc_o y_npcv (fun _ => rfl) (fun _ => rfl) rfl)
  refine y_pw (w := (fun x => x)) (σ := (D, f, n, tb, ts, flt, A, ac)) (x := (z_tl D (sX (v4 + 1).toNat).toNat (sX (v4 + 4).toNat) (sX (v4 + 3).toNat).toNat (sX (v4 + 2).toNat).toNat)) (code := (if z_npc D (sX (v4 + 1).toNat) (sX (v4 + 2).toNat) (sX (v4 + 3).toNat) = 0 ∧ ¬ (0 ≤ (sX (v4 + 4).toNat) ∧ (sX (v4 + 4).toNat) < D 0) then 2 else z_npc D (sX (v4 + 1).toNat) (sX (v4 + 2).toNat) (sX (v4 + 3).toNat))) (σ' := (D, f, n, tb, ts, flt, A, ac)) tk L Hm (W) hj hX ?_ rfl
  · intro c1 I1 J1 R1 L1 H1
    have H1 : z_RM I1 D f n tb ts flt A ac := H1
    exact y_MM_j H1 (z_M_often L1 wD H1.1 _ _ _ _)
theorem y_k30 {M : mm_T} (hM : M = (c, T, I, J, R)) (hq : 0 ≤ v4) (hL : v4 + 6 ≤ (sL : Int)) (hS : sL ≤ 3072) (hx : ∀ i, -2147483648 ≤ sX i ∧ sX i < 2147483648) (S : y_IV T I R σ) (tk : y_tk T) (hj : y_J T c j Q) : z_U (
    ck_ (v4 + 1) fun x1608 =>
    sl_ sL sX x1608 fun x1609 =>
    ck_ (v4 + 2) fun x1614 =>
    sl_ sL sX x1614 fun x1615 =>
    cl_ (k_L_keeps 20 x1609 x1615 395 M) fun c1617 M =>
    lt_ c1617 fun v5_1620 =>
    ck_ (v4 + 1) fun x1627 =>
    sl_ sL sX x1627 fun x1628 =>
    ck_ (v4 + 2) fun x1633 =>
    sl_ sL sX x1633 fun x1634 =>
    ob_ M 379 11 <| cl_ (k_M_keeps 379 x1628 x1634 M) fun c1635 M =>
    lt_ c1635 fun v6_1638 =>
    ob_ M 379 11 <| cl_ (k_M_thrown 379 M) fun c1641 M =>
    if c1641 = v5_1620 then (
      jn_ (fun (M : mm_T) =>
        j M
      ) fun j1668 =>
      if ¬ v5_1620 = 0 then (
        j1668 M
      ) else (
        aJ_ M 395 0 fun x1658 =>
        if lcm_ x1658 (i2l_ v6_1638) = 0 then (
          j1668 M
        ) else (
          zz_ 0 (some (0, M))
        )
      )
    ) else (
      zz_ 0 (some (0, M))
    )
  ) Q := by
  subst hM
  obtain ⟨t, s, LX, L, Hx, Hm, W⟩ := S
  obtain ⟨D, f, n, tb, ts, flt, A, ac⟩ := σ
  have wD : z_Dw D := W.1
  have Hx : z_RX I t D f n tb ts flt A ac := Hx
  have Hm : z_RM I D f n tb ts flt A ac := Hm
  simp (disch := omega) only [z_ck, z_sl]
  have hX : y_LX c T I R (k_L_keeps 20 (sX (v4 + 1).toNat) (sX (v4 + 2).toNat) 395 (c, T, I, J, R)) (if ¬ (0 ≤ (sX (v4 + 1).toNat) ∧ (sX (v4 + 1).toNat) < D 4) then 1 else if ¬ (1 ≤ (sX (v4 + 2).toNat) ∧ (sX (v4 + 2).toNat) ≤ 6) then 2 else 0) (i2l_ (z_kpA (z_brkA D f (sX (v4 + 1).toNat).toNat (sX (v4 + 2).toNat).toNat))) (D, f, n, tb, ts, flt, A, ac) := by
    unfold k_L_keeps
    exact y_lx (w := i2l_) tk LX (x := (if ¬ (0 ≤ (sX (v4 + 1).toNat) ∧ (sX (v4 + 1).toNat) < D 4) then .inl 3 else if ¬ (1 ≤ (sX (v4 + 2).toNat) ∧ (sX (v4 + 2).toNat) ≤ 6) then .inl 1 else .inr (z_kpA (z_brkA D f (sX (v4 + 1).toNat).toNat (sX (v4 + 2).toNat).toNat)))) (y_XX_r LX (fun I' q => z_RX_q wD (z_xlt LX).1 Hx q) (z_X_keeps LX wD Hx.1 Hx.2.1 W.2.1.2 Hx.2.2.2.2.2 _ _)) (y_hc_i (fun h => y_hc_l (fun _ => rfl) (by decide)) (fun h => y_hc_i (fun h => y_hc_l (fun _ => rfl) (by decide)) (fun h => y_hc_r rfl)))
  refine y_pw (w := i2l_) (σ := (D, f, n, tb, ts, flt, A, ac)) (x := (z_kpA (z_brkA D f (sX (v4 + 1).toNat).toNat (sX (v4 + 2).toNat).toNat))) (code := (if ¬ (0 ≤ (sX (v4 + 1).toNat) ∧ (sX (v4 + 1).toNat) < D 4) then 1 else if ¬ (1 ≤ (sX (v4 + 2).toNat) ∧ (sX (v4 + 2).toNat) ≤ 6) then 2 else 0)) (σ' := (D, f, n, tb, ts, flt, A, ac)) tk L Hm (W) hj hX ?_ rfl
  · intro c1 I1 J1 R1 L1 H1
    have H1 : z_RM I1 D f n tb ts flt A ac := H1
    exact y_MM_q H1 (z_M_keeps L1 wD H1.1 H1.2.1 _ _)
theorem y_k31 {M : mm_T} (hM : M = (c, T, I, J, R)) (hq : 0 ≤ v4) (hL : v4 + 6 ≤ (sL : Int)) (hS : sL ≤ 3072) (hx : ∀ i, -2147483648 ≤ sX i ∧ sX i < 2147483648) (S : y_IV T I R σ) (tk : y_tk T) (hj : y_J T c j Q) : z_U (
    ck_ (v4 + 1) fun x1676 =>
    sl_ sL sX x1676 fun x1677 =>
    ck_ (v4 + 2) fun x1682 =>
    sl_ sL sX x1682 fun x1683 =>
    cl_ (k_L_breaks 20 x1677 x1683 395 M) fun c1685 M =>
    lt_ c1685 fun v5_1688 =>
    ck_ (v4 + 1) fun x1695 =>
    sl_ sL sX x1695 fun x1696 =>
    ck_ (v4 + 2) fun x1701 =>
    sl_ sL sX x1701 fun x1702 =>
    ob_ M 379 11 <| cl_ (k_M_breaks 379 x1696 x1702 M) fun c1703 M =>
    lt_ c1703 fun v6_1706 =>
    ob_ M 379 11 <| cl_ (k_M_thrown 379 M) fun c1709 M =>
    if c1709 = v5_1688 then (
      jn_ (fun (M : mm_T) =>
        j M
      ) fun j1736 =>
      if ¬ v5_1688 = 0 then (
        j1736 M
      ) else (
        aJ_ M 395 0 fun x1726 =>
        if lcm_ x1726 (i2l_ v6_1706) = 0 then (
          j1736 M
        ) else (
          zz_ 0 (some (0, M))
        )
      )
    ) else (
      zz_ 0 (some (0, M))
    )
  ) Q := by
  subst hM
  obtain ⟨t, s, LX, L, Hx, Hm, W⟩ := S
  obtain ⟨D, f, n, tb, ts, flt, A, ac⟩ := σ
  have wD : z_Dw D := W.1
  have Hx : z_RX I t D f n tb ts flt A ac := Hx
  have Hm : z_RM I D f n tb ts flt A ac := Hm
  simp (disch := omega) only [z_ck, z_sl]
  have hX : y_LX c T I R (k_L_breaks 20 (sX (v4 + 1).toNat) (sX (v4 + 2).toNat) 395 (c, T, I, J, R)) (if ¬ (0 ≤ (sX (v4 + 1).toNat) ∧ (sX (v4 + 1).toNat) < D 4) then 1 else if ¬ (1 ≤ (sX (v4 + 2).toNat) ∧ (sX (v4 + 2).toNat) ≤ 6) then 2 else 0) (i2l_ (z_brkA D f (sX (v4 + 1).toNat).toNat (sX (v4 + 2).toNat).toNat)) (D, f, n, tb, ts, flt, A, ac) := by
    unfold k_L_breaks
    exact y_lx (w := i2l_) tk LX (x := (if ¬ (0 ≤ (sX (v4 + 1).toNat) ∧ (sX (v4 + 1).toNat) < D 4) then .inl 3 else if ¬ (1 ≤ (sX (v4 + 2).toNat) ∧ (sX (v4 + 2).toNat) ≤ 6) then .inl 1 else .inr (z_brkA D f (sX (v4 + 1).toNat).toNat (sX (v4 + 2).toNat).toNat))) (y_XX_r LX (fun I' q => z_RX_q wD (z_xlt LX).1 Hx q) (z_X_breaks LX wD Hx.1 Hx.2.1 W.2.1.2 Hx.2.2.2.2.2 _ _)) (y_hc_i (fun h => y_hc_l (fun _ => rfl) (by decide)) (fun h => y_hc_i (fun h => y_hc_l (fun _ => rfl) (by decide)) (fun h => y_hc_r rfl)))
  refine y_pw (w := i2l_) (σ := (D, f, n, tb, ts, flt, A, ac)) (x := (z_brkA D f (sX (v4 + 1).toNat).toNat (sX (v4 + 2).toNat).toNat)) (code := (if ¬ (0 ≤ (sX (v4 + 1).toNat) ∧ (sX (v4 + 1).toNat) < D 4) then 1 else if ¬ (1 ≤ (sX (v4 + 2).toNat) ∧ (sX (v4 + 2).toNat) ≤ 6) then 2 else 0)) (σ' := (D, f, n, tb, ts, flt, A, ac)) tk L Hm (W) hj hX ?_ rfl
  · intro c1 I1 J1 R1 L1 H1
    have H1 : z_RM I1 D f n tb ts flt A ac := H1
    exact y_MM_q H1 (z_M_breaks L1 wD H1.1 H1.2.1 _ _)
theorem y_k32 {M : mm_T} (hM : M = (c, T, I, J, R)) (hq : 0 ≤ v4) (hL : v4 + 6 ≤ (sL : Int)) (hS : sL ≤ 3072) (hx : ∀ i, -2147483648 ≤ sX i ∧ sX i < 2147483648) (S : y_IV T I R σ) (tk : y_tk T) (hj : y_J T c j Q) : z_U (
    ck_ (v4 + 1) fun x1744 =>
    sl_ sL sX x1744 fun x1745 =>
    cl_ (k_L_grows 20 x1745 395 M) fun c1747 M =>
    lt_ c1747 fun v5_1750 =>
    ck_ (v4 + 1) fun x1757 =>
    sl_ sL sX x1757 fun x1758 =>
    ob_ M 379 11 <| cl_ (k_M_grows 379 x1758 M) fun c1759 M =>
    lt_ c1759 fun v6_1762 =>
    ob_ M 379 11 <| cl_ (k_M_thrown 379 M) fun c1765 M =>
    if c1765 = v5_1750 then (
      jn_ (fun (M : mm_T) =>
        j M
      ) fun j1792 =>
      if ¬ v5_1750 = 0 then (
        j1792 M
      ) else (
        aJ_ M 395 0 fun x1782 =>
        if lcm_ x1782 (i2l_ v6_1762) = 0 then (
          j1792 M
        ) else (
          zz_ 0 (some (0, M))
        )
      )
    ) else (
      zz_ 0 (some (0, M))
    )
  ) Q := by
  subst hM
  obtain ⟨t, s, LX, L, Hx, Hm, W⟩ := S
  obtain ⟨D, f, n, tb, ts, flt, A, ac⟩ := σ
  have wD : z_Dw D := W.1
  have Hx : z_RX I t D f n tb ts flt A ac := Hx
  have Hm : z_RM I D f n tb ts flt A ac := Hm
  simp (disch := omega) only [z_ck, z_sl]
  have hX : y_LX c T I R (k_L_grows 20 (sX (v4 + 1).toNat) 395 (c, T, I, J, R)) (if ¬ (0 ≤ (sX (v4 + 1).toNat) ∧ (sX (v4 + 1).toNat) < D 4) then 1 else 0) (i2l_ (z_grs D (sX (v4 + 1).toNat).toNat)) (D, f, n, tb, ts, flt, A, ac) := by
    unfold k_L_grows
    exact y_lx (w := i2l_) tk LX (x := (if ¬ (0 ≤ (sX (v4 + 1).toNat) ∧ (sX (v4 + 1).toNat) < D 4) then .inl 3 else .inr (z_grs D (sX (v4 + 1).toNat).toNat))) (y_XX_q LX wD Hx (z_X_grows LX Hx.1 wD _)) (y_hc_i (fun h => y_hc_l (fun _ => rfl) (by decide)) (fun h => y_hc_r rfl))
  refine y_pw (w := i2l_) (σ := (D, f, n, tb, ts, flt, A, ac)) (x := (z_grs D (sX (v4 + 1).toNat).toNat)) (code := (if ¬ (0 ≤ (sX (v4 + 1).toNat) ∧ (sX (v4 + 1).toNat) < D 4) then 1 else 0)) (σ' := (D, f, n, tb, ts, flt, A, ac)) tk L Hm (W) hj hX ?_ rfl
  · intro c1 I1 J1 R1 L1 H1
    have H1 : z_RM I1 D f n tb ts flt A ac := H1
    exact y_MM_q H1 (z_M_grows L1 H1.1 wD _)
theorem y_k33 {M : mm_T} (hM : M = (c, T, I, J, R)) (hq : 0 ≤ v4) (hL : v4 + 6 ≤ (sL : Int)) (hS : sL ≤ 3072) (hx : ∀ i, -2147483648 ≤ sX i ∧ sX i < 2147483648) (S : y_IV T I R σ) (tk : y_tk T) (hj : y_J T c j Q) : z_U (
    ck_ (v4 + 1) fun x1800 =>
    sl_ sL sX x1800 fun x1801 =>
    cl_ (k_L_uniform 20 x1801 395 M) fun c1803 M =>
    lt_ c1803 fun v5_1806 =>
    ck_ (v4 + 1) fun x1813 =>
    sl_ sL sX x1813 fun x1814 =>
    ob_ M 379 11 <| cl_ (k_M_uniform 379 x1814 M) fun c1815 M =>
    lt_ c1815 fun v6_1818 =>
    ob_ M 379 11 <| cl_ (k_M_thrown 379 M) fun c1821 M =>
    if c1821 = v5_1806 then (
      jn_ (fun (M : mm_T) =>
        j M
      ) fun j1848 =>
      if ¬ v5_1806 = 0 then (
        j1848 M
      ) else (
        aJ_ M 395 0 fun x1838 =>
        if lcm_ x1838 (i2l_ v6_1818) = 0 then (
          j1848 M
        ) else (
          zz_ 0 (some (0, M))
        )
      )
    ) else (
      zz_ 0 (some (0, M))
    )
  ) Q := by
  subst hM
  obtain ⟨t, s, LX, L, Hx, Hm, W⟩ := S
  obtain ⟨D, f, n, tb, ts, flt, A, ac⟩ := σ
  have wD : z_Dw D := W.1
  have Hx : z_RX I t D f n tb ts flt A ac := Hx
  have Hm : z_RM I D f n tb ts flt A ac := Hm
  simp (disch := omega) only [z_ck, z_sl]
  have hX : y_LX c T I R (k_L_uniform 20 (sX (v4 + 1).toNat) 395 (c, T, I, J, R)) (if ¬ (0 ≤ (sX (v4 + 1).toNat) ∧ (sX (v4 + 1).toNat) < D 4) then 1 else 0) (i2l_ (z_uni D (sX (v4 + 1).toNat).toNat)) (D, f, n, tb, ts, flt, A, ac) := by
    unfold k_L_uniform
    exact y_lx (w := i2l_) tk LX (x := (if ¬ (0 ≤ (sX (v4 + 1).toNat) ∧ (sX (v4 + 1).toNat) < D 4) then .inl 3 else .inr (z_uni D (sX (v4 + 1).toNat).toNat))) (y_XX_q LX wD Hx (z_X_uniform LX Hx.1 wD _)) (y_hc_i (fun h => y_hc_l (fun _ => rfl) (by decide)) (fun h => y_hc_r rfl))
  refine y_pw (w := i2l_) (σ := (D, f, n, tb, ts, flt, A, ac)) (x := (z_uni D (sX (v4 + 1).toNat).toNat)) (code := (if ¬ (0 ≤ (sX (v4 + 1).toNat) ∧ (sX (v4 + 1).toNat) < D 4) then 1 else 0)) (σ' := (D, f, n, tb, ts, flt, A, ac)) tk L Hm (W) hj hX ?_ rfl
  · intro c1 I1 J1 R1 L1 H1
    have H1 : z_RM I1 D f n tb ts flt A ac := H1
    exact y_MM_q H1 (z_M_uniform L1 H1.1 wD _)
theorem y_k34 {M : mm_T} (hM : M = (c, T, I, J, R)) (hq : 0 ≤ v4) (hL : v4 + 6 ≤ (sL : Int)) (hS : sL ≤ 3072) (hx : ∀ i, -2147483648 ≤ sX i ∧ sX i < 2147483648) (S : y_IV T I R σ) (tk : y_tk T) (hj : y_J T c j Q) : z_U (
    ck_ (v4 + 1) fun x1856 =>
    sl_ sL sX x1856 fun x1857 =>
    cl_ (k_L_cannot 20 x1857 395 M) fun c1859 M =>
    lt_ c1859 fun v5_1862 =>
    ck_ (v4 + 1) fun x1869 =>
    sl_ sL sX x1869 fun x1870 =>
    ob_ M 379 11 <| cl_ (k_M_cannot 379 x1870 M) fun c1871 M =>
    lt_ c1871 fun v6_1874 =>
    ob_ M 379 11 <| cl_ (k_M_thrown 379 M) fun c1877 M =>
    if c1877 = v5_1862 then (
      jn_ (fun (M : mm_T) =>
        j M
      ) fun j1911 =>
      if ¬ v5_1862 = 0 then (
        j1911 M
      ) else (
        aJ_ M 395 0 fun x1894 =>
        jn_ (fun (sw0_1905 : Int64) (sw1_1905 : Int64) (M : mm_T) =>
          if lcm_ sw0_1905 sw1_1905 = 0 then (
            j1911 M
          ) else (
            zz_ 0 (some (0, M))
          )
        ) fun j1905 =>
        if v6_1874 = 0 then (
          j1905 x1894 0 M
        ) else (
          j1905 x1894 1 M
        )
      )
    ) else (
      zz_ 0 (some (0, M))
    )
  ) Q := by
  subst hM
  obtain ⟨t, s, LX, L, Hx, Hm, W⟩ := S
  obtain ⟨D, f, n, tb, ts, flt, A, ac⟩ := σ
  have wD : z_Dw D := W.1
  have Hx : z_RX I t D f n tb ts flt A ac := Hx
  have Hm : z_RM I D f n tb ts flt A ac := Hm
  simp (disch := omega) only [z_ck, z_sl]
  have hX : y_LX c T I R (k_L_cannot 20 (sX (v4 + 1).toNat) 395 (c, T, I, J, R)) (if ¬ (0 ≤ (sX (v4 + 1).toNat) ∧ (sX (v4 + 1).toNat) < D 5) then 1 else 0) (if (z_b (z_can D (sX (v4 + 1).toNat).toNat)) = 0 then 0 else 1) (D, f, n, tb, ts, flt, A, ac) := by
    unfold k_L_cannot
    exact y_lxb tk LX (x := (if ¬ (0 ≤ (sX (v4 + 1).toNat) ∧ (sX (v4 + 1).toNat) < D 5) then .inl 3 else .inr (z_b (z_can D (sX (v4 + 1).toNat).toNat)))) (y_XX_q LX wD Hx (z_X_cannot LX Hx.1 wD _)) (y_hc_i (fun h => y_hc_l (fun _ => rfl) (by decide)) (fun h => y_hc_r rfl))
  refine y_pb (σ := (D, f, n, tb, ts, flt, A, ac)) (x := (z_b (z_can D (sX (v4 + 1).toNat).toNat))) (code := (if ¬ (0 ≤ (sX (v4 + 1).toNat) ∧ (sX (v4 + 1).toNat) < D 5) then 1 else 0)) (σ' := (D, f, n, tb, ts, flt, A, ac)) tk L Hm (W) hj hX ?_ rfl
  · intro c1 I1 J1 R1 L1 H1
    have H1 : z_RM I1 D f n tb ts flt A ac := H1
    exact y_MM_q H1 (z_M_cannot L1 H1.1 wD _)
theorem y_k35 {M : mm_T} (hM : M = (c, T, I, J, R)) (hq : 0 ≤ v4) (hL : v4 + 6 ≤ (sL : Int)) (hS : sL ≤ 3072) (hx : ∀ i, -2147483648 ≤ sX i ∧ sX i < 2147483648) (S : y_IV T I R σ) (tk : y_tk T) (hj : y_J T c j Q) : z_U (
    ck_ (v4 + 1) fun x1919 =>
    sl_ sL sX x1919 fun x1920 =>
    ck_ (v4 + 2) fun x1925 =>
    sl_ sL sX x1925 fun x1926 =>
    cl_ (k_L_loose 20 x1920 x1926 395 M) fun c1928 M =>
    lt_ c1928 fun v5_1931 =>
    ck_ (v4 + 1) fun x1938 =>
    sl_ sL sX x1938 fun x1939 =>
    ck_ (v4 + 2) fun x1944 =>
    sl_ sL sX x1944 fun x1945 =>
    ob_ M 379 11 <| cl_ (k_M_loose 379 x1939 x1945 M) fun c1946 M =>
    lt_ c1946 fun v6_1949 =>
    ob_ M 379 11 <| cl_ (k_M_thrown 379 M) fun c1952 M =>
    if c1952 = v5_1931 then (
      jn_ (fun (M : mm_T) =>
        j M
      ) fun j1979 =>
      if ¬ v5_1931 = 0 then (
        j1979 M
      ) else (
        aJ_ M 395 0 fun x1969 =>
        if lcm_ x1969 (i2l_ v6_1949) = 0 then (
          j1979 M
        ) else (
          zz_ 0 (some (0, M))
        )
      )
    ) else (
      zz_ 0 (some (0, M))
    )
  ) Q := by
  subst hM
  obtain ⟨t, s, LX, L, Hx, Hm, W⟩ := S
  obtain ⟨D, f, n, tb, ts, flt, A, ac⟩ := σ
  have wD : z_Dw D := W.1
  have Hx : z_RX I t D f n tb ts flt A ac := Hx
  have Hm : z_RM I D f n tb ts flt A ac := Hm
  simp (disch := omega) only [z_ck, z_sl]
  have hX : y_LX c T I R (k_L_loose 20 (sX (v4 + 1).toNat) (sX (v4 + 2).toNat) 395 (c, T, I, J, R)) (if ¬ (0 ≤ (sX (v4 + 1).toNat) ∧ (sX (v4 + 1).toNat) < D 5) then 1 else 0) (i2l_ (z_lsA D (sX (v4 + 1).toNat).toNat (sX (v4 + 2).toNat))) (D, f, n, tb, ts, flt, A, ac) := by
    unfold k_L_loose
    exact y_lx (w := i2l_) tk LX (x := (if ¬ (0 ≤ (sX (v4 + 1).toNat) ∧ (sX (v4 + 1).toNat) < D 5) then .inl 3 else .inr (z_lsA D (sX (v4 + 1).toNat).toNat (sX (v4 + 2).toNat)))) (y_XX_q LX wD Hx (z_X_loose LX Hx.1 wD _ _)) (y_hc_i (fun h => y_hc_l (fun _ => rfl) (by decide)) (fun h => y_hc_r rfl))
  refine y_pw (w := i2l_) (σ := (D, f, n, tb, ts, flt, A, ac)) (x := (z_lsA D (sX (v4 + 1).toNat).toNat (sX (v4 + 2).toNat))) (code := (if ¬ (0 ≤ (sX (v4 + 1).toNat) ∧ (sX (v4 + 1).toNat) < D 5) then 1 else 0)) (σ' := (D, f, n, tb, ts, flt, A, ac)) tk L Hm (W) hj hX ?_ rfl
  · intro c1 I1 J1 R1 L1 H1
    have H1 : z_RM I1 D f n tb ts flt A ac := H1
    exact y_MM_q H1 (z_M_loose L1 H1.1 wD _ _)
end Cases2
