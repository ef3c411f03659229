set_option maxHeartbeats 4000000 in
set_option maxRecDepth 100000 in
theorem c_Acts_init (l : Launch) (hfl : l.stackTraces = false) (a0 : Nat) (M : mm_T) : vm_Con l yX0_init (.code yX0_init cX0_init 1 none) 1 ex_V [xA a0] M (k_Acts_init a0 M) := by
  refine vm_con (y := q_Acts_init) hfl (by decide +kernel) rfl (fun _ => rfl) (Nat.le_of_ble_eq_true rfl) rfl (fun _ _ _ => rfl) (fun r E h => by cases h) (fun w => ?_)
  show V_ l w q_Acts_init 1 ex_V 0 [(0, xA a0)] [] M (k_Acts_init a0 M)
  unfold k_Acts_init
  refine v_aloadn d_Acts_init_0 rfl 0 rfl ?_
  refine v_objinit d_Acts_init_1 (q := (RX0, TX0, 4)) rfl gw_375 gw_141 gw_142 (by decide) ?_
  refine v_aloadn d_Acts_init_4 rfl 0 rfl ?_
  refine v_bipush d_Acts_init_5 (by decide) ?_
  refine v_bipush d_Acts_init_7 (by decide) ?_
  refine v_mna (t := 4) (u := 0) (ty := .int) d_Acts_init_9 rfl rfl (by decide) gw_376 gw_164 (Or.inl rfl) rfl (fun r9 M => ?_)
  refine v_pR (ty := .array (.array .int)) d_Acts_init_13 fl_Acts_11 (Or.inr ⟨rfl, rfl, gw_377, rfl⟩) rfl rfl (fun v hv => by rcases hv with rfl | ⟨b, rfl⟩ <;> exact ⟨rfl, rfl⟩) (fun M => ?_)
  refine v_aloadn d_Acts_init_16 rfl 0 rfl ?_
  refine v_bipush d_Acts_init_17 (by decide) ?_
  refine v_newa (t := 0) d_Acts_init_19 rfl gw_164 rfl (by decide) (fun r19 M => ?_)
  refine v_pR (ty := .array .int) d_Acts_init_21 fl_Acts_16 (Or.inr ⟨rfl, rfl, gw_378, rfl⟩) rfl rfl (fun v hv => by rcases hv with rfl | ⟨b, rfl⟩ <;> exact ⟨rfl, rfl⟩) (fun M => ?_)
  refine v_aloadn d_Acts_init_24 rfl 0 rfl ?_
  refine v_iconst d_Acts_init_25 (by decide) ?_
  refine v_pI d_Acts_init_26 fl_Acts_20 (Or.inl rfl) rfl rfl (fun M => ?_)
  refine v_aloadn d_Acts_init_29 rfl 0 rfl ?_
  refine v_iconst d_Acts_init_30 (by decide) ?_
  refine v_pI d_Acts_init_31 fl_Acts_24 (Or.inl rfl) rfl rfl (fun M => ?_)
  exact v_vret d_Acts_init_34 rfl
set_option maxHeartbeats 4000000 in
set_option maxRecDepth 100000 in
theorem c_Sizes_init (l : Launch) (hfl : l.stackTraces = false) (a0 : Nat) (M : mm_T) : vm_Con l yX7_init (.code yX7_init cX7_init 1 none) 1 ex_V [xA a0] M (k_Sizes_init a0 M) := by
  refine vm_con (y := q_Sizes_init) hfl (by decide +kernel) rfl (fun _ => rfl) (Nat.le_of_ble_eq_true rfl) rfl (fun _ _ _ => rfl) (fun r E h => by cases h) (fun w => ?_)
  show V_ l w q_Sizes_init 1 ex_V 0 [(0, xA a0)] [] M (k_Sizes_init a0 M)
  unfold k_Sizes_init
  refine v_aloadn d_Sizes_init_0 rfl 0 rfl ?_
  refine v_objinit d_Sizes_init_1 (q := (RX7, TX7, 2)) rfl gw_298 gw_141 gw_142 (by decide) ?_
  refine v_aloadn d_Sizes_init_4 rfl 0 rfl ?_
  refine v_iconst d_Sizes_init_5 (by decide) ?_
  refine v_newa (t := 0) d_Sizes_init_6 rfl gw_164 rfl (by decide) (fun r6 M => ?_)
  refine v_pR (ty := .array .int) d_Sizes_init_8 fl_Sizes_9 (Or.inr ⟨rfl, rfl, gw_299, rfl⟩) rfl rfl (fun v hv => by rcases hv with rfl | ⟨b, rfl⟩ <;> exact ⟨rfl, rfl⟩) (fun M => ?_)
  refine v_aloadn d_Sizes_init_11 rfl 0 rfl ?_
  refine v_iconst d_Sizes_init_12 (by decide) ?_
  refine v_newa (t := 0) d_Sizes_init_13 rfl gw_164 rfl (by decide) (fun r13 M => ?_)
  refine v_pR (ty := .array .int) d_Sizes_init_15 fl_Sizes_15 (Or.inr ⟨rfl, rfl, gw_300, rfl⟩) rfl rfl (fun v hv => by rcases hv with rfl | ⟨b, rfl⟩ <;> exact ⟨rfl, rfl⟩) (fun M => ?_)
  exact v_vret d_Sizes_init_18 rfl
set_option maxHeartbeats 4000000 in
set_option maxRecDepth 100000 in
theorem c_Line_init (l : Launch) (hfl : l.stackTraces = false) (a0 : Nat) (M : mm_T) : vm_Con l yX1_init (.code yX1_init cX1_init 1 none) 2 ex_V [xA a0] M (k_Line_init a0 M) := by
  refine vm_con (y := q_Line_init) hfl (by decide +kernel) rfl (fun _ => rfl) (Nat.le_of_ble_eq_true rfl) rfl (fun _ _ _ => rfl) (fun r E h => by cases h) (fun w => ?_)
  show V_ l w q_Line_init 2 ex_V 0 [(0, xA a0)] [] M (k_Line_init a0 M)
  unfold k_Line_init
  refine v_aloadn d_Line_init_0 rfl 0 rfl ?_
  refine v_objinit d_Line_init_1 (q := (RX1, TX1, 5)) rfl gw_311 gw_141 gw_142 (by decide) ?_
  refine v_aloadn d_Line_init_4 rfl 0 rfl ?_
  refine v_bipush d_Line_init_5 (by decide) ?_
  refine v_newa (t := 0) d_Line_init_7 rfl gw_164 rfl (by decide) (fun r7 M => ?_)
  refine v_pR (ty := .array .int) d_Line_init_9 fl_Line_9 (Or.inr ⟨rfl, rfl, gw_315, rfl⟩) rfl rfl (fun v hv => by rcases hv with rfl | ⟨b, rfl⟩ <;> exact ⟨rfl, rfl⟩) (fun M => ?_)
  refine v_aloadn d_Line_init_12 rfl 0 rfl ?_
  refine v_bipush d_Line_init_13 (by decide) ?_
  refine v_bipush d_Line_init_15 (by decide) ?_
  refine v_mna (t := 4) (u := 0) (ty := .int) d_Line_init_17 rfl rfl (by decide) gw_312 gw_164 (Or.inl rfl) rfl (fun r17 M => ?_)
  refine v_pR (ty := .array (.array .int)) d_Line_init_21 fl_Line_17 (Or.inr ⟨rfl, rfl, gw_316, rfl⟩) rfl rfl (fun v hv => by rcases hv with rfl | ⟨b, rfl⟩ <;> exact ⟨rfl, rfl⟩) (fun M => ?_)
  refine v_aloadn d_Line_init_24 rfl 0 rfl ?_
  refine v_bipush d_Line_init_25 (by decide) ?_
  refine v_newa (t := 0) d_Line_init_27 rfl gw_164 rfl (by decide) (fun r27 M => ?_)
  refine v_pR (ty := .array .int) d_Line_init_29 fl_Line_20 (Or.inr ⟨rfl, rfl, gw_317, rfl⟩) rfl rfl (fun v hv => by rcases hv with rfl | ⟨b, rfl⟩ <;> exact ⟨rfl, rfl⟩) (fun M => ?_)
  refine v_aloadn d_Line_init_32 rfl 0 rfl ?_
  refine v_new d_Line_init_33 (q := (RX7, TX7, 2)) rfl rfl gw_313 gw_294 gw_118 df_7 (fun r33 M => ?_)
  refine v_dup d_Line_init_36 rfl ?_
  refine v_cINv d_Line_init_37 ml_Line_25 ml_Line_25_i (q := (RX7, TX7, 2)) rfl (c_Sizes_init l hfl r33 M) (fun _ => rfl) (by decide) (by decide) (as := []) (st1 := [xA r33, xA a0]) rfl rfl (Nat.le_of_ble_eq_true rfl) (fun _ M => ?_)
  refine v_pR (ty := .object "RepeatFree$Sizes") d_Line_init_40 fl_Line_26 (Or.inr ⟨rfl, rfl, gw_318, rfl⟩) rfl rfl (fun v hv => by rcases hv with rfl | ⟨b, rfl⟩ <;> exact ⟨rfl, rfl⟩) (fun M => ?_)
  refine v_aloadn d_Line_init_43 rfl 0 rfl ?_
  refine v_iconst d_Line_init_44 (by decide) ?_
  refine v_pI d_Line_init_45 fl_Line_30 (Or.inl rfl) rfl rfl (fun M => ?_)
  exact v_vret d_Line_init_48 rfl
set_option maxHeartbeats 4000000 in
set_option maxRecDepth 100000 in
theorem c_Tape_init (l : Launch) (hfl : l.stackTraces = false) (a0 : Nat) (M : mm_T) : vm_Con l yX8_init (.code yX8_init cX8_init 1 none) 1 ex_V [xA a0] M (k_Tape_init a0 M) := by
  refine vm_con (y := q_Tape_init) hfl (by decide +kernel) rfl (fun _ => rfl) (Nat.le_of_ble_eq_true rfl) rfl (fun _ _ _ => rfl) (fun r E h => by cases h) (fun w => ?_)
  show V_ l w q_Tape_init 1 ex_V 0 [(0, xA a0)] [] M (k_Tape_init a0 M)
  unfold k_Tape_init
  refine v_aloadn d_Tape_init_0 rfl 0 rfl ?_
  refine v_objinit d_Tape_init_1 (q := (RX8, TX8, 2)) rfl gw_154 gw_141 gw_142 (by decide) ?_
  refine v_aloadn d_Tape_init_4 rfl 0 rfl ?_
  refine v_sipush d_Tape_init_5 (by decide) ?_
  refine v_newa (t := 0) d_Tape_init_8 rfl gw_164 rfl (by decide) (fun r8 M => ?_)
  refine v_pR (ty := .array .int) d_Tape_init_10 fl_Tape_9 (Or.inr ⟨rfl, rfl, gw_155, rfl⟩) rfl rfl (fun v hv => by rcases hv with rfl | ⟨b, rfl⟩ <;> exact ⟨rfl, rfl⟩) (fun M => ?_)
  refine v_aloadn d_Tape_init_13 rfl 0 rfl ?_
  refine v_iconst d_Tape_init_14 (by decide) ?_
  refine v_pI d_Tape_init_15 fl_Tape_15 (Or.inl rfl) rfl rfl (fun M => ?_)
  exact v_vret d_Tape_init_18 rfl
set_option maxHeartbeats 4000000 in
set_option maxRecDepth 100000 in
theorem c_Reader_init (l : Launch) (hfl : l.stackTraces = false) (a0 : Nat) (M : mm_T) : vm_Con l yX4_init (.code yX4_init cX4_init 1 none) 2 ex_V [xA a0] M (k_Reader_init a0 M) := by
  refine vm_con (y := q_Reader_init) hfl (by decide +kernel) rfl (fun _ => rfl) (Nat.le_of_ble_eq_true rfl) rfl (fun _ _ _ => rfl) (fun r E h => by cases h) (fun w => ?_)
  show V_ l w q_Reader_init 2 ex_V 0 [(0, xA a0)] [] M (k_Reader_init a0 M)
  unfold k_Reader_init
  refine v_aloadn d_Reader_init_0 rfl 0 rfl ?_
  refine v_objinit d_Reader_init_1 (q := (RX4, TX4, 5)) rfl gw_148 gw_141 gw_142 (by decide) ?_
  refine v_aloadn d_Reader_init_4 rfl 0 rfl ?_
  refine v_new d_Reader_init_5 (q := (RX8, TX8, 2)) rfl rfl gw_149 gw_150 gw_113 df_8 (fun r5 M => ?_)
  refine v_dup d_Reader_init_8 rfl ?_
  refine v_cINv d_Reader_init_9 ml_Reader_11 ml_Reader_11_i (q := (RX8, TX8, 2)) rfl (c_Tape_init l hfl r5 M) (fun _ => rfl) (by decide) (by decide) (as := []) (st1 := [xA r5, xA a0]) rfl rfl (Nat.le_of_ble_eq_true rfl) (fun _ M => ?_)
  refine v_pR (ty := .object "RepeatFree$Tape") d_Reader_init_12 fl_Reader_12 (Or.inr ⟨rfl, rfl, gw_165, rfl⟩) rfl rfl (fun v hv => by rcases hv with rfl | ⟨b, rfl⟩ <;> exact ⟨rfl, rfl⟩) (fun M => ?_)
  refine v_aloadn d_Reader_init_15 rfl 0 rfl ?_
  refine v_iconst d_Reader_init_16 (by decide) ?_
  refine v_pI d_Reader_init_17 fl_Reader_18 (Or.inl rfl) rfl rfl (fun M => ?_)
  refine v_aloadn d_Reader_init_20 rfl 0 rfl ?_
  refine v_iconst d_Reader_init_21 (by decide) ?_
  refine v_pI d_Reader_init_22 fl_Reader_22 (Or.inl rfl) rfl rfl (fun M => ?_)
  refine v_aloadn d_Reader_init_25 rfl 0 rfl ?_
  refine v_iconst d_Reader_init_26 (by decide) ?_
  refine v_pI d_Reader_init_27 fl_Reader_25 (Or.inl rfl) rfl rfl (fun M => ?_)
  refine v_aloadn d_Reader_init_30 rfl 0 rfl ?_
  refine v_iconst d_Reader_init_31 (by decide) ?_
  refine v_pI d_Reader_init_32 fl_Reader_28 (Or.inl rfl) rfl rfl (fun M => ?_)
  exact v_vret d_Reader_init_35 rfl
set_option maxHeartbeats 4000000 in
set_option maxRecDepth 100000 in
theorem c_Search_init (l : Launch) (hfl : l.stackTraces = false) (a0 : Nat) (M : mm_T) : vm_Con l yX5_init (.code yX5_init cX5_init 1 none) 3 ex_V [xA a0] M (k_Search_init a0 M) := by
  refine vm_con (y := q_Search_init) hfl (by decide +kernel) rfl (fun _ => rfl) (Nat.le_of_ble_eq_true rfl) rfl (fun _ _ _ => rfl) (fun r E h => by cases h) (fun w => ?_)
  show V_ l w q_Search_init 3 ex_V 0 [(0, xA a0)] [] M (k_Search_init a0 M)
  unfold k_Search_init
  refine v_aloadn d_Search_init_0 rfl 0 rfl ?_
  refine v_objinit d_Search_init_1 (q := (RX5, TX5, 7)) rfl gw_342 gw_141 gw_142 (by decide) ?_
  refine v_aloadn d_Search_init_4 rfl 0 rfl ?_
  refine v_new d_Search_init_5 (q := (RX1, TX1, 5)) rfl rfl gw_343 gw_307 gw_119 df_1 (fun r5 M => ?_)
  refine v_dup d_Search_init_8 rfl ?_
  refine v_cINv d_Search_init_9 ml_Search_11 ml_Search_11_i (q := (RX1, TX1, 5)) rfl (c_Line_init l hfl r5 M) (fun _ => rfl) (by decide) (by decide) (as := []) (st1 := [xA r5, xA a0]) rfl rfl (Nat.le_of_ble_eq_true rfl) (fun _ M => ?_)
  refine v_pR (ty := .object "RepeatFree$Line") d_Search_init_12 fl_Search_12 (Or.inr ⟨rfl, rfl, gw_345, rfl⟩) rfl rfl (fun v hv => by rcases hv with rfl | ⟨b, rfl⟩ <;> exact ⟨rfl, rfl⟩) (fun M => ?_)
  refine v_aloadn d_Search_init_15 rfl 0 rfl ?_
  refine v_null d_Search_init_16 ?_
  refine v_pR (ty := .object "RepeatFree$Told") d_Search_init_17 fl_Search_18 (Or.inl rfl) rfl rfl (fun v hv => by rcases hv with rfl | ⟨b, rfl⟩ <;> exact ⟨rfl, rfl⟩) (fun M => ?_)
  refine v_aloadn d_Search_init_20 rfl 0 rfl ?_
  refine v_iconst d_Search_init_21 (by decide) ?_
  refine v_pI d_Search_init_22 fl_Search_22 (Or.inl rfl) rfl rfl (fun M => ?_)
  refine v_aloadn d_Search_init_25 rfl 0 rfl ?_
  refine v_iconst d_Search_init_26 (by decide) ?_
  refine v_pI d_Search_init_27 fl_Search_26 (Or.inl rfl) rfl rfl (fun M => ?_)
  refine v_aloadn d_Search_init_30 rfl 0 rfl ?_
  refine v_iconst d_Search_init_31 (by decide) ?_
  refine v_pI d_Search_init_32 fl_Search_29 (Or.inl rfl) rfl rfl (fun M => ?_)
  refine v_aloadn d_Search_init_35 rfl 0 rfl ?_
  refine v_iconst d_Search_init_36 (by decide) ?_
  refine v_pI d_Search_init_37 fl_Search_32 (Or.inl rfl) rfl rfl (fun M => ?_)
  refine v_aloadn d_Search_init_40 rfl 0 rfl ?_
  refine v_iconst d_Search_init_41 (by decide) ?_
  refine v_pI d_Search_init_42 fl_Search_35 (Or.inl rfl) rfl rfl (fun M => ?_)
  exact v_vret d_Search_init_45 rfl
set_option maxHeartbeats 4000000 in
set_option maxRecDepth 100000 in
theorem c_Name_init (l : Launch) (hfl : l.stackTraces = false) (a0 : Nat) (M : mm_T) : vm_Con l yX3_init (.code yX3_init cX3_init 1 none) 1 ex_V [xA a0] M (k_Name_init a0 M) := by
  refine vm_con (y := q_Name_init) hfl (by decide +kernel) rfl (fun _ => rfl) (Nat.le_of_ble_eq_true rfl) rfl (fun _ _ _ => rfl) (fun r E h => by cases h) (fun w => ?_)
  show V_ l w q_Name_init 1 ex_V 0 [(0, xA a0)] [] M (k_Name_init a0 M)
  unfold k_Name_init
  refine v_aloadn d_Name_init_0 rfl 0 rfl ?_
  refine v_objinit d_Name_init_1 (q := (RX3, TX3, 2)) rfl gw_203 gw_141 gw_142 (by decide) ?_
  refine v_aloadn d_Name_init_4 rfl 0 rfl ?_
  refine v_bipush d_Name_init_5 (by decide) ?_
  refine v_newa (t := 0) d_Name_init_7 rfl gw_164 rfl (by decide) (fun r7 M => ?_)
  refine v_pR (ty := .array .int) d_Name_init_9 fl_Name_9 (Or.inr ⟨rfl, rfl, gw_204, rfl⟩) rfl rfl (fun v hv => by rcases hv with rfl | ⟨b, rfl⟩ <;> exact ⟨rfl, rfl⟩) (fun M => ?_)
  refine v_aloadn d_Name_init_12 rfl 0 rfl ?_
  refine v_iconst d_Name_init_13 (by decide) ?_
  refine v_pI d_Name_init_14 fl_Name_15 (Or.inl rfl) rfl rfl (fun M => ?_)
  exact v_vret d_Name_init_17 rfl
set_option maxHeartbeats 4000000 in
set_option maxRecDepth 100000 in
theorem c_Morph_init (l : Launch) (hfl : l.stackTraces = false) (a0 : Nat) (M : mm_T) : vm_Con l yX2_init (.code yX2_init cX2_init 1 none) 2 ex_V [xA a0] M (k_Morph_init a0 M) := by
  refine vm_con (y := q_Morph_init) hfl (by decide +kernel) rfl (fun _ => rfl) (Nat.le_of_ble_eq_true rfl) rfl (fun _ _ _ => rfl) (fun r E h => by cases h) (fun w => ?_)
  show V_ l w q_Morph_init 2 ex_V 0 [(0, xA a0)] [] M (k_Morph_init a0 M)
  unfold k_Morph_init
  refine v_aloadn d_Morph_init_0 rfl 0 rfl ?_
  refine v_objinit d_Morph_init_1 (q := (RX2, TX2, 3)) rfl gw_197 gw_141 gw_142 (by decide) ?_
  refine v_aloadn d_Morph_init_4 rfl 0 rfl ?_
  refine v_new d_Morph_init_5 (q := (RX3, TX3, 2)) rfl rfl gw_198 gw_199 gw_116 df_3 (fun r5 M => ?_)
  refine v_dup d_Morph_init_8 rfl ?_
  refine v_cINv d_Morph_init_9 ml_Morph_11 ml_Morph_11_i (q := (RX3, TX3, 2)) rfl (c_Name_init l hfl r5 M) (fun _ => rfl) (by decide) (by decide) (as := []) (st1 := [xA r5, xA a0]) rfl rfl (Nat.le_of_ble_eq_true rfl) (fun _ M => ?_)
  refine v_pR (ty := .object "RepeatFree$Name") d_Morph_init_12 fl_Morph_12 (Or.inr ⟨rfl, rfl, gw_213, rfl⟩) rfl rfl (fun v hv => by rcases hv with rfl | ⟨b, rfl⟩ <;> exact ⟨rfl, rfl⟩) (fun M => ?_)
  refine v_aloadn d_Morph_init_15 rfl 0 rfl ?_
  refine v_iconst d_Morph_init_16 (by decide) ?_
  refine v_bipush d_Morph_init_17 (by decide) ?_
  refine v_mna (t := 4) (u := 0) (ty := .int) d_Morph_init_19 rfl rfl (by decide) gw_211 gw_164 (Or.inl rfl) rfl (fun r19 M => ?_)
  refine v_pR (ty := .array (.array .int)) d_Morph_init_23 fl_Morph_20 (Or.inr ⟨rfl, rfl, gw_216, rfl⟩) rfl rfl (fun v hv => by rcases hv with rfl | ⟨b, rfl⟩ <;> exact ⟨rfl, rfl⟩) (fun M => ?_)
  refine v_aloadn d_Morph_init_26 rfl 0 rfl ?_
  refine v_iconst d_Morph_init_27 (by decide) ?_
  refine v_newa (t := 0) d_Morph_init_28 rfl gw_164 rfl (by decide) (fun r28 M => ?_)
  refine v_pR (ty := .array .int) d_Morph_init_30 fl_Morph_23 (Or.inr ⟨rfl, rfl, gw_217, rfl⟩) rfl rfl (fun v hv => by rcases hv with rfl | ⟨b, rfl⟩ <;> exact ⟨rfl, rfl⟩) (fun M => ?_)
  exact v_vret d_Morph_init_33 rfl
set_option maxHeartbeats 4000000 in
set_option maxRecDepth 100000 in
theorem c_Shape_init (l : Launch) (hfl : l.stackTraces = false) (a0 : Nat) (M : mm_T) : vm_Con l yX6_init (.code yX6_init cX6_init 1 none) 2 ex_V [xA a0] M (k_Shape_init a0 M) := by
  refine vm_con (y := q_Shape_init) hfl (by decide +kernel) rfl (fun _ => rfl) (Nat.le_of_ble_eq_true rfl) rfl (fun _ _ _ => rfl) (fun r E h => by cases h) (fun w => ?_)
  show V_ l w q_Shape_init 2 ex_V 0 [(0, xA a0)] [] M (k_Shape_init a0 M)
  unfold k_Shape_init
  refine v_aloadn d_Shape_init_0 rfl 0 rfl ?_
  refine v_objinit d_Shape_init_1 (q := (RX6, TX6, 5)) rfl gw_229 gw_141 gw_142 (by decide) ?_
  refine v_aloadn d_Shape_init_4 rfl 0 rfl ?_
  refine v_new d_Shape_init_5 (q := (RX3, TX3, 2)) rfl rfl gw_230 gw_199 gw_116 df_3 (fun r5 M => ?_)
  refine v_dup d_Shape_init_8 rfl ?_
  refine v_cINv d_Shape_init_9 ml_Shape_11 ml_Shape_11_i (q := (RX3, TX3, 2)) rfl (c_Name_init l hfl r5 M) (fun _ => rfl) (by decide) (by decide) (as := []) (st1 := [xA r5, xA a0]) rfl rfl (Nat.le_of_ble_eq_true rfl) (fun _ M => ?_)
  refine v_pR (ty := .object "RepeatFree$Name") d_Shape_init_12 fl_Shape_12 (Or.inr ⟨rfl, rfl, gw_232, rfl⟩) rfl rfl (fun v hv => by rcases hv with rfl | ⟨b, rfl⟩ <;> exact ⟨rfl, rfl⟩) (fun M => ?_)
  refine v_aloadn d_Shape_init_15 rfl 0 rfl ?_
  refine v_bipush d_Shape_init_16 (by decide) ?_
  refine v_newa (t := 0) d_Shape_init_18 rfl gw_164 rfl (by decide) (fun r18 M => ?_)
  refine v_pR (ty := .array .int) d_Shape_init_20 fl_Shape_18 (Or.inr ⟨rfl, rfl, gw_235, rfl⟩) rfl rfl (fun v hv => by rcases hv with rfl | ⟨b, rfl⟩ <;> exact ⟨rfl, rfl⟩) (fun M => ?_)
  refine v_aloadn d_Shape_init_23 rfl 0 rfl ?_
  refine v_iconst d_Shape_init_24 (by decide) ?_
  refine v_pI d_Shape_init_25 fl_Shape_22 (Or.inl rfl) rfl rfl (fun M => ?_)
  refine v_aloadn d_Shape_init_28 rfl 0 rfl ?_
  refine v_iconst d_Shape_init_29 (by decide) ?_
  refine v_pI d_Shape_init_30 fl_Shape_26 (Or.inl rfl) rfl rfl (fun M => ?_)
  refine v_aloadn d_Shape_init_33 rfl 0 rfl ?_
  refine v_iconst d_Shape_init_34 (by decide) ?_
  refine v_pZ d_Shape_init_35 fl_Shape_29 (Or.inl rfl) rfl rfl (fun M => ?_)
  exact v_vret d_Shape_init_38 rfl
set_option maxHeartbeats 4000000 in
set_option maxRecDepth 100000 in
theorem V_lp_Told_init_52 {l : Launch} {w : vm_W} (hfl : l.stackTraces = false) (kx89 : mm_T → Option (Unit × mm_T)) (a0 : Nat) (hkx89 : ∀ (M : mm_T), V_ l w q_Told_init 3 ex_V 89 [] [] M (kx89 M)) : ∀ (f : Nat) (v1 : Int) (M : mm_T), V_ l w q_Told_init 3 ex_V 52 [(0, xA a0), (1, xI v1)] [] M (lp_Told_init_52 kx89 a0 f v1 M) := by
  intro f
  induction f with
  | zero => intros; exact V_.none
  | succ f ih =>
    intro v1 M
    unfold lp_Told_init_52
    refine v_iloadn d_Told_init_52 rfl 1 rfl ?_
    refine v_iconst d_Told_init_53 (by decide) ?_
    refine v_icge d_Told_init_54 ?_ ?_
    · refine v_sub (ls' := []) [] rfl ?_
      exact hkx89 M
    · refine v_aloadn d_Told_init_57 rfl 0 rfl ?_
      refine v_gR d_Told_init_58 fl_Told_11 rfl (fun r58 => ?_)
      refine v_iloadn d_Told_init_61 rfl 1 rfl ?_
      refine v_new d_Told_init_62 (q := (RX2, TX2, 3)) rfl rfl gw_189 gw_193 gw_115 df_2 (fun r62 M => ?_)
      refine v_dup d_Told_init_65 rfl ?_
      refine v_cINv d_Told_init_66 ml_Told_42 ml_Told_42_i (q := (RX2, TX2, 3)) rfl (c_Morph_init l hfl r62 M) (fun _ => rfl) (by decide) (by decide) (as := []) (st1 := [xA r62, xI v1, xA r58]) rfl rfl (Nat.le_of_ble_eq_true rfl) (fun _ M => ?_)
      refine v_aast (t := 6) (c := 2) d_Told_init_69 (by decide) rfl rfl (fun M => ?_)
      refine v_aloadn d_Told_init_70 rfl 0 rfl ?_
      refine v_gR d_Told_init_71 fl_Told_19 rfl (fun r71 => ?_)
      refine v_iloadn d_Told_init_74 rfl 1 rfl ?_
      refine v_new d_Told_init_75 (q := (RX6, TX6, 5)) rfl rfl gw_191 gw_225 gw_117 df_6 (fun r75 M => ?_)
      refine v_dup d_Told_init_78 rfl ?_
      refine v_cINv d_Told_init_79 ml_Told_43 ml_Told_43_i (q := (RX6, TX6, 5)) rfl (c_Shape_init l hfl r75 M) (fun _ => rfl) (by decide) (by decide) (as := []) (st1 := [xA r75, xI v1, xA r71]) rfl rfl (Nat.le_of_ble_eq_true rfl) (fun _ M => ?_)
      refine v_aast (t := 7) (c := 6) d_Told_init_82 (by decide) rfl rfl (fun M => ?_)
      refine v_iinc (lz := fun z => [(1, xI z), (0, xA a0)]) d_Told_init_83 1 rfl (Nat.le_of_ble_eq_true rfl) (fun _ => rfl) (fun v1_83 => ?_)
      refine v_goto d_Told_init_86 ?_
      refine v_sub (ls' := [(0, xA a0), (1, xI v1_83)]) [1, 0] rfl ?_
      exact ih v1_83 M
set_option maxHeartbeats 4000000 in
set_option maxRecDepth 100000 in
theorem c_Told_init (l : Launch) (hfl : l.stackTraces = false) (a0 : Nat) (M : mm_T) : vm_Con l yX9_init (.code yX9_init cX9_init 2 none) 3 ex_V [xA a0] M (k_Told_init a0 M) := by
  refine vm_con (y := q_Told_init) hfl (by decide +kernel) rfl (fun _ => rfl) (Nat.le_of_ble_eq_true rfl) rfl (fun _ _ _ => rfl) (fun r E h => by cases h) (fun w => ?_)
  show V_ l w q_Told_init 3 ex_V 0 [(0, xA a0)] [] M (k_Told_init a0 M)
  unfold k_Told_init
  refine v_aloadn d_Told_init_0 rfl 0 rfl ?_
  refine v_objinit d_Told_init_1 (q := (RX9, TX9, 8)) rfl gw_188 gw_141 gw_142 (by decide) ?_
  refine v_aloadn d_Told_init_4 rfl 0 rfl ?_
  refine v_iconst d_Told_init_5 (by decide) ?_
  refine v_anew (t := 6) d_Told_init_6 (by decide) rfl gw_189 (Or.inl rfl) (fun r6 M => ?_)
  refine v_pR (ty := .array (.object "RepeatFree$Morph")) d_Told_init_9 fl_Told_11 (Or.inr ⟨rfl, rfl, gw_256, rfl⟩) rfl rfl (fun v hv => by rcases hv with rfl | ⟨b, rfl⟩ <;> exact ⟨rfl, rfl⟩) (fun M => ?_)
  refine v_aloadn d_Told_init_12 rfl 0 rfl ?_
  refine v_iconst d_Told_init_13 (by decide) ?_
  refine v_anew (t := 7) d_Told_init_14 (by decide) rfl gw_191 (Or.inr rfl) (fun r14 M => ?_)
  refine v_pR (ty := .array (.object "RepeatFree$Shape")) d_Told_init_17 fl_Told_19 (Or.inr ⟨rfl, rfl, gw_257, rfl⟩) rfl rfl (fun v hv => by rcases hv with rfl | ⟨b, rfl⟩ <;> exact ⟨rfl, rfl⟩) (fun M => ?_)
  refine v_aloadn d_Told_init_20 rfl 0 rfl ?_
  refine v_iconst d_Told_init_21 (by decide) ?_
  refine v_pI d_Told_init_22 fl_Told_23 (Or.inl rfl) rfl rfl (fun M => ?_)
  refine v_aloadn d_Told_init_25 rfl 0 rfl ?_
  refine v_iconst d_Told_init_26 (by decide) ?_
  refine v_pI d_Told_init_27 fl_Told_27 (Or.inl rfl) rfl rfl (fun M => ?_)
  refine v_aloadn d_Told_init_30 rfl 0 rfl ?_
  refine v_iconst d_Told_init_31 (by decide) ?_
  refine v_pI d_Told_init_32 fl_Told_30 (Or.inl rfl) rfl rfl (fun M => ?_)
  refine v_aloadn d_Told_init_35 rfl 0 rfl ?_
  refine v_iconst d_Told_init_36 (by decide) ?_
  refine v_pI d_Told_init_37 fl_Told_33 (Or.inl rfl) rfl rfl (fun M => ?_)
  refine v_aloadn d_Told_init_40 rfl 0 rfl ?_
  refine v_iconst d_Told_init_41 (by decide) ?_
  refine v_pI d_Told_init_42 fl_Told_36 (Or.inl rfl) rfl rfl (fun M => ?_)
  refine v_aloadn d_Told_init_45 rfl 0 rfl ?_
  refine v_iconst d_Told_init_46 (by decide) ?_
  refine v_pI d_Told_init_47 fl_Told_39 (Or.inl rfl) rfl rfl (fun M => ?_)
  refine v_iconst d_Told_init_50 (by decide) ?_
  refine v_istoren (lz := fun z => [(1, xI z), (0, xA a0)]) d_Told_init_51 rfl (Nat.le_of_ble_eq_true rfl) (fun _ => rfl) (fun v1_51 => ?_)
  refine v_sub (ls' := [(0, xA a0), (1, xI v1_51)]) [1, 0] rfl ?_
  refine V_lp_Told_init_52 hfl _ _ (fun M => ?_) _ _ _
  · exact v_vret d_Told_init_89 rfl
set_option maxHeartbeats 4000000 in
set_option maxRecDepth 100000 in
theorem V_lp_Tape_add_3 {l : Launch} {w : vm_W} (hfl : l.stackTraces = false) (kx51 : mm_T → Option (Unit × mm_T)) (a0 : Nat) (v1 : Int) (hkx51 : ∀ (M : mm_T), V_ l w q_Tape_add 1 ex_V 51 [] [] M (kx51 M)) : ∀ (f : Nat) (v2 : Int) (M : mm_T), V_ l w q_Tape_add 1 ex_V 3 [(0, xA a0), (1, xI v1), (2, xI v2)] [] M (lp_Tape_add_3 kx51 a0 v1 f v2 M) := by
  intro f
  induction f with
  | zero => intros; exact V_.none
  | succ f ih =>
    intro v2 M
    unfold lp_Tape_add_3
    refine v_iloadn d_Tape_add_3 rfl 2 rfl ?_
    refine v_iflt d_Tape_add_4 ?_ ?_
    · refine v_sub (ls' := []) [] rfl ?_
      exact hkx51 M
    · refine v_aloadn d_Tape_add_7 rfl 0 rfl ?_
      refine v_gI d_Tape_add_8 fl_Tape_15 rfl (fun x8 => ?_)
      refine v_aloadn d_Tape_add_11 rfl 0 rfl ?_
      refine v_gR d_Tape_add_12 fl_Tape_9 rfl (fun r12 => ?_)
      refine v_alen (t := 0) d_Tape_add_15 rfl (fun x15 => ?_)
      refine v_icge d_Tape_add_16 ?_ ?_
      · refine v_sub (ls' := []) [] rfl ?_
        exact hkx51 M
      · refine v_aloadn d_Tape_add_19 rfl 0 rfl ?_
        refine v_gR d_Tape_add_20 fl_Tape_9 rfl (fun r20 => ?_)
        refine v_aloadn d_Tape_add_23 rfl 0 rfl ?_
        refine v_gI d_Tape_add_24 fl_Tape_15 rfl (fun x24 => ?_)
        refine v_iloadn d_Tape_add_27 rfl 1 rfl ?_
        refine v_iloadn d_Tape_add_28 rfl 2 rfl ?_
        refine v_iushr d_Tape_add_29 ?_
        refine v_sipush d_Tape_add_30 (by decide) ?_
        refine v_iand d_Tape_add_33 ?_
        refine v_iast d_Tape_add_34 (fun M => ?_)
        refine v_aloadn d_Tape_add_35 rfl 0 rfl ?_
        refine v_dup d_Tape_add_36 rfl ?_
        refine v_gI d_Tape_add_37 fl_Tape_15 rfl (fun x37 => ?_)
        refine v_iconst d_Tape_add_40 (by decide) ?_
        refine v_iadd d_Tape_add_41 (fun x41 => ?_)
        refine v_pI d_Tape_add_42 fl_Tape_15 (Or.inl rfl) rfl rfl (fun M => ?_)
        refine v_iinc (lz := fun z => [(2, xI z), (0, xA a0), (1, xI v1)]) d_Tape_add_45 2 rfl (Nat.le_of_ble_eq_true rfl) (fun _ => rfl) (fun v2_45 => ?_)
        refine v_goto d_Tape_add_48 ?_
        refine v_sub (ls' := [(0, xA a0), (1, xI v1), (2, xI v2_45)]) [1, 2, 0] rfl ?_
        exact ih v2_45 M
set_option maxHeartbeats 4000000 in
set_option maxRecDepth 100000 in
theorem c_Tape_add (l : Launch) (hfl : l.stackTraces = false) (a0 : Nat) (v1 : Int) (M : mm_T) : vm_Con l yX8_add (.code yX8_add cX8_add 3 none) 1 ex_V [xA a0, xI v1] M (k_Tape_add a0 v1 M) := by
  refine vm_con (y := q_Tape_add) hfl (by decide +kernel) rfl (fun h => by cases h) (Nat.le_of_ble_eq_true rfl) rfl (fun _ _ _ => rfl) (fun r E h => by cases h) (fun w => ?_)
  show V_ l w q_Tape_add 1 ex_V 0 [(0, xA a0), (1, xI v1)] [] M (k_Tape_add a0 v1 M)
  unfold k_Tape_add
  refine v_bipush d_Tape_add_0 (by decide) ?_
  refine v_istoren (lz := fun z => [(2, xI z), (0, xA a0), (1, xI v1)]) d_Tape_add_2 rfl (Nat.le_of_ble_eq_true rfl) (fun _ => rfl) (fun v2_2 => ?_)
  refine v_sub (ls' := [(0, xA a0), (1, xI v1), (2, xI v2_2)]) [1, 2, 0] rfl ?_
  refine V_lp_Tape_add_3 hfl _ _ _ (fun M => ?_) _ _ _
  · exact v_vret d_Tape_add_51 rfl
set_option maxHeartbeats 4000000 in
set_option maxRecDepth 100000 in
theorem c_Acts_clear (l : Launch) (hfl : l.stackTraces = false) (a0 : Nat) (M : mm_T) : vm_Con l yX0_clear (.code yX0_clear cX0_clear 1 none) 1 ex_V [xA a0] M (k_Acts_clear a0 M) := by
  refine vm_con (y := q_Acts_clear) hfl (by decide +kernel) rfl (fun h => by cases h) (Nat.le_of_ble_eq_true rfl) rfl (fun _ _ _ => rfl) (fun r E h => by cases h) (fun w => ?_)
  show V_ l w q_Acts_clear 1 ex_V 0 [(0, xA a0)] [] M (k_Acts_clear a0 M)
  unfold k_Acts_clear
  refine v_aloadn d_Acts_clear_0 rfl 0 rfl ?_
  refine v_iconst d_Acts_clear_1 (by decide) ?_
  refine v_pI d_Acts_clear_2 fl_Acts_24 (Or.inl rfl) rfl rfl (fun M => ?_)
  exact v_vret d_Acts_clear_5 rfl
set_option maxHeartbeats 4000000 in
set_option maxRecDepth 100000 in
theorem c_Line_clear (l : Launch) (hfl : l.stackTraces = false) (a0 : Nat) (M : mm_T) : vm_Con l yX1_clear (.code yX1_clear cX1_clear 1 none) 1 ex_V [xA a0] M (k_Line_clear a0 M) := by
  refine vm_con (y := q_Line_clear) hfl (by decide +kernel) rfl (fun h => by cases h) (Nat.le_of_ble_eq_true rfl) rfl (fun _ _ _ => rfl) (fun r E h => by cases h) (fun w => ?_)
  show V_ l w q_Line_clear 1 ex_V 0 [(0, xA a0)] [] M (k_Line_clear a0 M)
  unfold k_Line_clear
  refine v_aloadn d_Line_clear_0 rfl 0 rfl ?_
  refine v_iconst d_Line_clear_1 (by decide) ?_
  refine v_pI d_Line_clear_2 fl_Line_30 (Or.inl rfl) rfl rfl (fun M => ?_)
  exact v_vret d_Line_clear_5 rfl
set_option maxHeartbeats 4000000 in
set_option maxRecDepth 100000 in
theorem c_Reader_begin (l : Launch) (hfl : l.stackTraces = false) (a0 : Nat) (M : mm_T) : vm_Con l yX4_begin (.code yX4_begin cX4_begin 1 none) 1 ex_V [xA a0] M (k_Reader_begin a0 M) := by
  refine vm_con (y := q_Reader_begin) hfl (by decide +kernel) rfl (fun h => by cases h) (Nat.le_of_ble_eq_true rfl) rfl (fun _ _ _ => rfl) (fun r E h => by cases h) (fun w => ?_)
  show V_ l w q_Reader_begin 1 ex_V 0 [(0, xA a0)] [] M (k_Reader_begin a0 M)
  unfold k_Reader_begin
  refine v_aloadn d_Reader_begin_0 rfl 0 rfl ?_
  refine v_iconst d_Reader_begin_1 (by decide) ?_
  refine v_pI d_Reader_begin_2 fl_Reader_18 (Or.inl rfl) rfl rfl (fun M => ?_)
  refine v_aloadn d_Reader_begin_5 rfl 0 rfl ?_
  refine v_iconst d_Reader_begin_6 (by decide) ?_
  refine v_pI d_Reader_begin_7 fl_Reader_22 (Or.inl rfl) rfl rfl (fun M => ?_)
  exact v_vret d_Reader_begin_10 rfl
set_option maxHeartbeats 4000000 in
set_option maxRecDepth 100000 in
theorem c_Tape_at (l : Launch) (hfl : l.stackTraces = false) (a0 : Nat) (v1 : Int) (M : mm_T) : vm_Con l yX8_at (.code yX8_at cX8_at 2 (some .int)) 1 ex_I [xA a0, xI v1] M (k_Tape_at a0 v1 M) := by
  refine vm_con (y := q_Tape_at) hfl (by decide +kernel) rfl (fun h => by cases h) (Nat.le_of_ble_eq_true rfl) rfl (fun _ _ _ => rfl) (fun r E h => by cases h) (fun w => ?_)
  show V_ l w q_Tape_at 1 ex_I 0 [(0, xA a0), (1, xI v1)] [] M (k_Tape_at a0 v1 M)
  unfold k_Tape_at
  refine v_iloadn d_Tape_at_0 rfl 1 rfl ?_
  refine v_join0 (pj := 30) (lj := []) (sj := []) (fun M => ?_) (fun j30 hj30 => ?_)
  · refine v_iconst d_Tape_at_30 (by decide) ?_
    exact v_ret d_Tape_at_31 rfl
  refine v_iflt d_Tape_at_1 ?_ ?_
  · refine v_sub (ls' := []) [] rfl ?_
    exact hj30 M
  · refine v_iloadn d_Tape_at_4 rfl 1 rfl ?_
    refine v_aloadn d_Tape_at_5 rfl 0 rfl ?_
    refine v_gI d_Tape_at_6 fl_Tape_15 rfl (fun x6 => ?_)
    refine v_icge d_Tape_at_9 ?_ ?_
    · refine v_sub (ls' := []) [] rfl ?_
      exact hj30 M
    · refine v_iloadn d_Tape_at_12 rfl 1 rfl ?_
      refine v_aloadn d_Tape_at_13 rfl 0 rfl ?_
      refine v_gR d_Tape_at_14 fl_Tape_9 rfl (fun r14 => ?_)
      refine v_alen (t := 0) d_Tape_at_17 rfl (fun x17 => ?_)
      refine v_icge d_Tape_at_18 ?_ ?_
      · refine v_sub (ls' := []) [] rfl ?_
        exact hj30 M
      · refine v_aloadn d_Tape_at_21 rfl 0 rfl ?_
        refine v_gR d_Tape_at_22 fl_Tape_9 rfl (fun r22 => ?_)
        refine v_iloadn d_Tape_at_25 rfl 1 rfl ?_
        refine v_iald d_Tape_at_26 (fun x26 => ?_)
        refine v_goto d_Tape_at_27 ?_
        exact v_ret d_Tape_at_31 rfl
set_option maxHeartbeats 4000000 in
set_option maxRecDepth 100000 in
theorem c_Tape_isBlank (l : Launch) (hfl : l.stackTraces = false) (v0 : Int) (M : mm_T) : vm_Con l yX8_isBlank (.code yX8_isBlank cX8_isBlank 1 (some .boolean)) 1 ex_Z [xI v0] M (k_Tape_isBlank v0 M) := by
  refine vm_con (y := q_Tape_isBlank) hfl (by decide +kernel) rfl (fun h => by cases h) (Nat.le_of_ble_eq_true rfl) rfl (fun _ _ _ => rfl) (fun r E h => by cases h) (fun w => ?_)
  show V_ l w q_Tape_isBlank 1 ex_Z 0 [(0, xI v0)] [] M (k_Tape_isBlank v0 M)
  unfold k_Tape_isBlank
  refine v_iloadn d_Tape_isBlank_0 rfl 0 rfl ?_
  refine v_bipush d_Tape_isBlank_1 (by decide) ?_
  refine v_join0 (pj := 18) (lj := []) (sj := []) (fun M => ?_) (fun j18 hj18 => ?_)
  · refine v_iconst d_Tape_isBlank_18 (by decide) ?_
    refine v_goto d_Tape_isBlank_19 ?_
    exact v_zret d_Tape_isBlank_23 rfl
  refine v_iceq d_Tape_isBlank_3 ?_ ?_
  · refine v_sub (ls' := []) [] rfl ?_
    exact hj18 M
  · refine v_iloadn d_Tape_isBlank_6 rfl 0 rfl ?_
    refine v_bipush d_Tape_isBlank_7 (by decide) ?_
    refine v_iceq d_Tape_isBlank_9 ?_ ?_
    · refine v_sub (ls' := []) [] rfl ?_
      exact hj18 M
    · refine v_iloadn d_Tape_isBlank_12 rfl 0 rfl ?_
      refine v_bipush d_Tape_isBlank_13 (by decide) ?_
      refine v_icne d_Tape_isBlank_15 ?_ ?_
      · refine v_iconst d_Tape_isBlank_22 (by decide) ?_
        exact v_zret d_Tape_isBlank_23 rfl
      · refine v_sub (ls' := []) [] rfl ?_
        exact hj18 M
set_option maxHeartbeats 4000000 in
set_option maxRecDepth 100000 in
theorem V_lp_Reader_skipBlanks_0 {l : Launch} {w : vm_W} (hfl : l.stackTraces = false) (kx44 : mm_T → Option (Unit × mm_T)) (a0 : Nat) (hkx44 : ∀ (M : mm_T), V_ l w q_Reader_skipBlanks 2 ex_V 44 [] [] M (kx44 M)) : ∀ (f : Nat) (M : mm_T), V_ l w q_Reader_skipBlanks 2 ex_V 0 [(0, xA a0)] [] M (lp_Reader_skipBlanks_0 kx44 a0 f M) := by
  intro f
  induction f with
  | zero => intros; exact V_.none
  | succ f ih =>
    intro M
    unfold lp_Reader_skipBlanks_0
    refine v_aloadn d_Reader_skipBlanks_0 rfl 0 rfl ?_
    refine v_gI d_Reader_skipBlanks_1 fl_Reader_18 rfl (fun x1 => ?_)
    refine v_aloadn d_Reader_skipBlanks_4 rfl 0 rfl ?_
    refine v_gR d_Reader_skipBlanks_5 fl_Reader_12 rfl (fun r5 => ?_)
    refine v_gI d_Reader_skipBlanks_8 fl_Reader_58 rfl (fun x8 => ?_)
    refine v_icge d_Reader_skipBlanks_11 ?_ ?_
    · refine v_sub (ls' := []) [] rfl ?_
      exact hkx44 M
    · refine v_aloadn d_Reader_skipBlanks_14 rfl 0 rfl ?_
      refine v_gR d_Reader_skipBlanks_15 fl_Reader_12 rfl (fun r15 => ?_)
      refine v_aloadn d_Reader_skipBlanks_18 rfl 0 rfl ?_
      refine v_gI d_Reader_skipBlanks_19 fl_Reader_18 rfl (fun x19 => ?_)
      refine v_cVi d_Reader_skipBlanks_22 ml_Reader_68 (q := (RX8, TX8, 2)) rfl (c_Tape_at l hfl r15 x19 M) (fun _ => rfl) (by decide) (by decide) (as := [xI x19]) (st1 := []) rfl rfl (Nat.le_of_ble_eq_true rfl) (fun c22 M => ?_)
      refine v_cSi d_Reader_skipBlanks_25 ml_Reader_82 (c_Tape_isBlank l hfl c22 M) (fun _ => rfl) (by decide) (by decide) (as := [xI c22]) (st1 := []) rfl rfl (Nat.le_of_ble_eq_true rfl) (fun c25 M => ?_)
      refine v_ifeq d_Reader_skipBlanks_28 ?_ ?_
      · refine v_sub (ls' := []) [] rfl ?_
        exact hkx44 M
      · refine v_aloadn d_Reader_skipBlanks_31 rfl 0 rfl ?_
        refine v_dup d_Reader_skipBlanks_32 rfl ?_
        refine v_gI d_Reader_skipBlanks_33 fl_Reader_18 rfl (fun x33 => ?_)
        refine v_iconst d_Reader_skipBlanks_36 (by decide) ?_
        refine v_iadd d_Reader_skipBlanks_37 (fun x37 => ?_)
        refine v_pI d_Reader_skipBlanks_38 fl_Reader_18 (Or.inl rfl) rfl rfl (fun M => ?_)
        refine v_goto d_Reader_skipBlanks_41 ?_
        exact ih M
set_option maxHeartbeats 4000000 in
set_option maxRecDepth 100000 in
theorem c_Reader_skipBlanks (l : Launch) (hfl : l.stackTraces = false) (a0 : Nat) (M : mm_T) : vm_Con l yX4_skipBlanks (.code yX4_skipBlanks cX4_skipBlanks 1 none) 2 ex_V [xA a0] M (k_Reader_skipBlanks a0 M) := by
  refine vm_con (y := q_Reader_skipBlanks) hfl (by decide +kernel) rfl (fun h => by cases h) (Nat.le_of_ble_eq_true rfl) rfl (fun _ _ _ => rfl) (fun r E h => by cases h) (fun w => ?_)
  show V_ l w q_Reader_skipBlanks 2 ex_V 0 [(0, xA a0)] [] M (k_Reader_skipBlanks a0 M)
  unfold k_Reader_skipBlanks
  refine V_lp_Reader_skipBlanks_0 hfl _ _ (fun M => ?_) _ _
  · exact v_vret d_Reader_skipBlanks_44 rfl
set_option maxHeartbeats 4000000 in
set_option maxRecDepth 100000 in
theorem V_lp_Reader_isWord_20 {l : Launch} {w : vm_W} (hfl : l.stackTraces = false) (kx57 : mm_T → Option (Int × mm_T)) (a0 : Nat) (a1 : Nat) (hkx57 : ∀ (M : mm_T), V_ l w q_Reader_isWord 6 ex_Z 57 [] [] M (kx57 M)) : ∀ (f : Nat) (v2 : Int) (M : mm_T), V_ l w q_Reader_isWord 6 ex_Z 20 [(0, xA a0), (1, xA a1), (2, xI v2)] [] M (lp_Reader_isWord_20 kx57 a0 a1 f v2 M) := by
  intro f
  induction f with
  | zero => intros; exact V_.none
  | succ f ih =>
    intro v2 M
    unfold lp_Reader_isWord_20
    refine v_iloadn d_Reader_isWord_20 rfl 2 rfl ?_
    refine v_aloadn d_Reader_isWord_21 rfl 1 rfl ?_
    refine v_sle d_Reader_isWord_22 gw_693 (by first | decide | omega) (Nat.le_of_ble_eq_true rfl) (fun x22 => ?_)
    refine v_icge d_Reader_isWord_25 ?_ ?_
    · refine v_sub (ls' := []) [] rfl ?_
      exact hkx57 M
    · refine v_aloadn d_Reader_isWord_28 rfl 1 rfl ?_
      refine v_iloadn d_Reader_isWord_29 rfl 2 rfl ?_
      refine v_sch d_Reader_isWord_30 gw_703 (by first | decide | omega) (Nat.le_of_ble_eq_true rfl) (fun x30 => ?_)
      refine v_aloadn d_Reader_isWord_33 rfl 0 rfl ?_
      refine v_gR d_Reader_isWord_34 fl_Reader_12 rfl (fun r34 => ?_)
      refine v_aloadn d_Reader_isWord_37 rfl 0 rfl ?_
      refine v_gI d_Reader_isWord_38 fl_Reader_25 rfl (fun x38 => ?_)
      refine v_iloadn d_Reader_isWord_41 rfl 2 rfl ?_
      refine v_iadd d_Reader_isWord_42 (fun x42 => ?_)
      refine v_cVi d_Reader_isWord_43 ml_Reader_68 (q := (RX8, TX8, 2)) rfl (c_Tape_at l hfl r34 x42 M) (fun _ => rfl) (by decide) (by decide) (as := [xI x42]) (st1 := [xI x30]) rfl rfl (Nat.le_of_ble_eq_true rfl) (fun c43 M => ?_)
      refine v_iceq d_Reader_isWord_46 ?_ ?_
      · refine v_iinc (lz := fun z => [(2, xI z), (0, xA a0), (1, xA a1)]) d_Reader_isWord_51 2 rfl (Nat.le_of_ble_eq_true rfl) (fun _ => rfl) (fun v2_51 => ?_)
        refine v_goto d_Reader_isWord_54 ?_
        refine v_sub (ls' := [(0, xA a0), (1, xA a1), (2, xI v2_51)]) [1, 2, 0] rfl ?_
        exact ih v2_51 M
      · refine v_iconst d_Reader_isWord_49 (by decide) ?_
        exact v_zret d_Reader_isWord_50 rfl
set_option maxHeartbeats 4000000 in
set_option maxRecDepth 100000 in
theorem c_Reader_isWord (l : Launch) (hfl : l.stackTraces = false) (a0 : Nat) (a1 : Nat) (M : mm_T) : vm_Con l yX4_isWord (.code yX4_isWord cX4_isWord 3 (some .boolean)) 6 ex_Z [xA a0, xA a1] M (k_Reader_isWord a0 a1 M) := by
  refine vm_con (y := q_Reader_isWord) hfl (by decide +kernel) rfl (fun h => by cases h) (Nat.le_of_ble_eq_true rfl) rfl (fun _ _ _ => rfl) (fun r E h => by cases h) (fun w => ?_)
  show V_ l w q_Reader_isWord 6 ex_Z 0 [(0, xA a0), (1, xA a1)] [] M (k_Reader_isWord a0 a1 M)
  unfold k_Reader_isWord
  refine v_aloadn d_Reader_isWord_0 rfl 1 rfl ?_
  refine v_sle d_Reader_isWord_1 gw_693 (by first | decide | omega) (Nat.le_of_ble_eq_true rfl) (fun x1 => ?_)
  refine v_aloadn d_Reader_isWord_4 rfl 0 rfl ?_
  refine v_gI d_Reader_isWord_5 fl_Reader_18 rfl (fun x5 => ?_)
  refine v_aloadn d_Reader_isWord_8 rfl 0 rfl ?_
  refine v_gI d_Reader_isWord_9 fl_Reader_25 rfl (fun x9 => ?_)
  refine v_isub d_Reader_isWord_12 (fun x12 => ?_)
  refine v_iceq d_Reader_isWord_13 ?_ ?_
  · refine v_iconst d_Reader_isWord_18 (by decide) ?_
    refine v_istoren (lz := fun z => [(2, xI z), (0, xA a0), (1, xA a1)]) d_Reader_isWord_19 rfl (Nat.le_of_ble_eq_true rfl) (fun _ => rfl) (fun v2_19 => ?_)
    refine v_sub (ls' := [(0, xA a0), (1, xA a1), (2, xI v2_19)]) [1, 2, 0] rfl ?_
    refine V_lp_Reader_isWord_20 hfl _ _ _ (fun M => ?_) _ _ _
    · refine v_iconst d_Reader_isWord_57 (by decide) ?_
      exact v_zret d_Reader_isWord_58 rfl
  · refine v_iconst d_Reader_isWord_16 (by decide) ?_
    exact v_zret d_Reader_isWord_17 rfl
set_option maxHeartbeats 4000000 in
set_option maxRecDepth 100000 in
theorem c_Reader_miss (l : Launch) (hfl : l.stackTraces = false) (a0 : Nat) (v1 : Int) (M : mm_T) : vm_Con l yX4_miss (.code yX4_miss cX4_miss 2 (some .boolean)) 1 ex_Z [xA a0, xI v1] M (k_Reader_miss a0 v1 M) := by
  refine vm_con (y := q_Reader_miss) hfl (by decide +kernel) rfl (fun h => by cases h) (Nat.le_of_ble_eq_true rfl) rfl (fun _ _ _ => rfl) (fun r E h => by cases h) (fun w => ?_)
  show V_ l w q_Reader_miss 1 ex_Z 0 [(0, xA a0), (1, xI v1)] [] M (k_Reader_miss a0 v1 M)
  unfold k_Reader_miss
  refine v_aloadn d_Reader_miss_0 rfl 0 rfl ?_
  refine v_iloadn d_Reader_miss_1 rfl 1 rfl ?_
  refine v_pI d_Reader_miss_2 fl_Reader_22 (Or.inl rfl) rfl rfl (fun M => ?_)
  refine v_iconst d_Reader_miss_5 (by decide) ?_
  exact v_zret d_Reader_miss_6 rfl
set_option maxHeartbeats 4000000 in
set_option maxRecDepth 100000 in
theorem c_Tape_isSmall (l : Launch) (hfl : l.stackTraces = false) (v0 : Int) (M : mm_T) : vm_Con l yX8_isSmall (.code yX8_isSmall cX8_isSmall 1 (some .boolean)) 1 ex_Z [xI v0] M (k_Tape_isSmall v0 M) := by
  refine vm_con (y := q_Tape_isSmall) hfl (by decide +kernel) rfl (fun h => by cases h) (Nat.le_of_ble_eq_true rfl) rfl (fun _ _ _ => rfl) (fun r E h => by cases h) (fun w => ?_)
  show V_ l w q_Tape_isSmall 1 ex_Z 0 [(0, xI v0)] [] M (k_Tape_isSmall v0 M)
  unfold k_Tape_isSmall
  refine v_iloadn d_Tape_isSmall_0 rfl 0 rfl ?_
  refine v_bipush d_Tape_isSmall_1 (by decide) ?_
  refine v_join0 (pj := 16) (lj := []) (sj := []) (fun M => ?_) (fun j16 hj16 => ?_)
  · refine v_iconst d_Tape_isSmall_16 (by decide) ?_
    exact v_zret d_Tape_isSmall_17 rfl
  refine v_iclt d_Tape_isSmall_3 ?_ ?_
  · refine v_sub (ls' := []) [] rfl ?_
    exact hj16 M
  · refine v_iloadn d_Tape_isSmall_6 rfl 0 rfl ?_
    refine v_bipush d_Tape_isSmall_7 (by decide) ?_
    refine v_icgt d_Tape_isSmall_9 ?_ ?_
    · refine v_sub (ls' := []) [] rfl ?_
      exact hj16 M
    · refine v_iconst d_Tape_isSmall_12 (by decide) ?_
      refine v_goto d_Tape_isSmall_13 ?_
      exact v_zret d_Tape_isSmall_17 rfl
set_option maxHeartbeats 4000000 in
set_option maxRecDepth 100000 in
theorem V_lp_Reader_takesWord_12 {l : Launch} {w : vm_W} (hfl : l.stackTraces = false) (kx56 : mm_T → Option (Int × mm_T)) (a0 : Nat) (hkx56 : ∀ (M : mm_T), V_ l w q_Reader_takesWord 3 ex_Z 56 [(0, xA a0)] [] M (kx56 M)) : ∀ (f : Nat) (M : mm_T), V_ l w q_Reader_takesWord 3 ex_Z 12 [(0, xA a0)] [] M (lp_Reader_takesWord_12 kx56 a0 f M) := by
  intro f
  induction f with
  | zero => intros; exact V_.none
  | succ f ih =>
    intro M
    unfold lp_Reader_takesWord_12
    refine v_aloadn d_Reader_takesWord_12 rfl 0 rfl ?_
    refine v_gI d_Reader_takesWord_13 fl_Reader_18 rfl (fun x13 => ?_)
    refine v_aloadn d_Reader_takesWord_16 rfl 0 rfl ?_
    refine v_gR d_Reader_takesWord_17 fl_Reader_12 rfl (fun r17 => ?_)
    refine v_gI d_Reader_takesWord_20 fl_Reader_58 rfl (fun x20 => ?_)
    refine v_icge d_Reader_takesWord_23 ?_ ?_
    · exact hkx56 M
    · refine v_aloadn d_Reader_takesWord_26 rfl 0 rfl ?_
      refine v_gR d_Reader_takesWord_27 fl_Reader_12 rfl (fun r27 => ?_)
      refine v_aloadn d_Reader_takesWord_30 rfl 0 rfl ?_
      refine v_gI d_Reader_takesWord_31 fl_Reader_18 rfl (fun x31 => ?_)
      refine v_cVi d_Reader_takesWord_34 ml_Reader_68 (q := (RX8, TX8, 2)) rfl (c_Tape_at l hfl r27 x31 M) (fun _ => rfl) (by decide) (by decide) (as := [xI x31]) (st1 := []) rfl rfl (Nat.le_of_ble_eq_true rfl) (fun c34 M => ?_)
      refine v_cSi d_Reader_takesWord_37 ml_Reader_71 (c_Tape_isSmall l hfl c34 M) (fun _ => rfl) (by decide) (by decide) (as := [xI c34]) (st1 := []) rfl rfl (Nat.le_of_ble_eq_true rfl) (fun c37 M => ?_)
      refine v_ifeq d_Reader_takesWord_40 ?_ ?_
      · exact hkx56 M
      · refine v_aloadn d_Reader_takesWord_43 rfl 0 rfl ?_
        refine v_dup d_Reader_takesWord_44 rfl ?_
        refine v_gI d_Reader_takesWord_45 fl_Reader_18 rfl (fun x45 => ?_)
        refine v_iconst d_Reader_takesWord_48 (by decide) ?_
        refine v_iadd d_Reader_takesWord_49 (fun x49 => ?_)
        refine v_pI d_Reader_takesWord_50 fl_Reader_18 (Or.inl rfl) rfl rfl (fun M => ?_)
        refine v_goto d_Reader_takesWord_53 ?_
        exact ih M
set_option maxHeartbeats 4000000 in
set_option maxRecDepth 100000 in
theorem c_Reader_takesWord (l : Launch) (hfl : l.stackTraces = false) (a0 : Nat) (M : mm_T) : vm_Con l yX4_takesWord (.code yX4_takesWord cX4_takesWord 1 (some .boolean)) 3 ex_Z [xA a0] M (k_Reader_takesWord a0 M) := by
  refine vm_con (y := q_Reader_takesWord) hfl (by decide +kernel) rfl (fun h => by cases h) (Nat.le_of_ble_eq_true rfl) rfl (fun _ _ _ => rfl) (fun r E h => by cases h) (fun w => ?_)
  show V_ l w q_Reader_takesWord 3 ex_Z 0 [(0, xA a0)] [] M (k_Reader_takesWord a0 M)
  unfold k_Reader_takesWord
  refine v_aloadn d_Reader_takesWord_0 rfl 0 rfl ?_
  refine v_cVv d_Reader_takesWord_1 ml_Reader_55 (q := (RX4, TX4, 5)) rfl (c_Reader_skipBlanks l hfl a0 M) (fun _ => rfl) (by decide) (by decide) (as := []) (st1 := []) rfl rfl (Nat.le_of_ble_eq_true rfl) (fun _ M => ?_)
  refine v_aloadn d_Reader_takesWord_4 rfl 0 rfl ?_
  refine v_aloadn d_Reader_takesWord_5 rfl 0 rfl ?_
  refine v_gI d_Reader_takesWord_6 fl_Reader_18 rfl (fun x6 => ?_)
  refine v_pI d_Reader_takesWord_9 fl_Reader_25 (Or.inl rfl) rfl rfl (fun M => ?_)
  refine V_lp_Reader_takesWord_12 hfl _ _ (fun M => ?_) _ _
  · refine v_aloadn d_Reader_takesWord_56 rfl 0 rfl ?_
    refine v_gI d_Reader_takesWord_57 fl_Reader_18 rfl (fun x57 => ?_)
    refine v_aloadn d_Reader_takesWord_60 rfl 0 rfl ?_
    refine v_gI d_Reader_takesWord_61 fl_Reader_25 rfl (fun x61 => ?_)
    refine v_join0 (pj := 78) (lj := []) (sj := []) (fun M => ?_) (fun j78 hj78 => ?_)
    · refine v_iconst d_Reader_takesWord_78 (by decide) ?_
      refine v_goto d_Reader_takesWord_79 ?_
      exact v_zret d_Reader_takesWord_83 rfl
    refine v_icgt d_Reader_takesWord_64 ?_ ?_
    · refine v_sub (ls' := []) [] rfl ?_
      exact hj78 M
    · refine v_aloadn d_Reader_takesWord_67 rfl 0 rfl ?_
      refine v_aloadn d_Reader_takesWord_68 rfl 0 rfl ?_
      refine v_gI d_Reader_takesWord_69 fl_Reader_25 rfl (fun x69 => ?_)
      refine v_cVi d_Reader_takesWord_72 ml_Reader_75 (q := (RX4, TX4, 5)) rfl (c_Reader_miss l hfl a0 x69 M) (fun _ => rfl) (by decide) (by decide) (as := [xI x69]) (st1 := []) rfl rfl (Nat.le_of_ble_eq_true rfl) (fun c72 M => ?_)
      refine v_ifeq d_Reader_takesWord_75 ?_ ?_
      · refine v_iconst d_Reader_takesWord_82 (by decide) ?_
        exact v_zret d_Reader_takesWord_83 rfl
      · refine v_sub (ls' := []) [] rfl ?_
        exact hj78 M
set_option maxHeartbeats 4000000 in
set_option maxRecDepth 100000 in
theorem c_Reader_takesKeyword (l : Launch) (hfl : l.stackTraces = false) (a0 : Nat) (a1 : Nat) (M : mm_T) : vm_Con l yX4_takesKeyword (.code yX4_takesKeyword cX4_takesKeyword 2 (some .boolean)) 7 ex_Z [xA a0, xA a1] M (k_Reader_takesKeyword a0 a1 M) := by
  refine vm_con (y := q_Reader_takesKeyword) hfl (by decide +kernel) rfl (fun h => by cases h) (Nat.le_of_ble_eq_true rfl) rfl (fun _ _ _ => rfl) (fun r E h => by cases h) (fun w => ?_)
  show V_ l w q_Reader_takesKeyword 7 ex_Z 0 [(0, xA a0), (1, xA a1)] [] M (k_Reader_takesKeyword a0 a1 M)
  unfold k_Reader_takesKeyword
  refine v_aloadn d_Reader_takesKeyword_0 rfl 0 rfl ?_
  refine v_cVi d_Reader_takesKeyword_1 ml_Reader_95 (q := (RX4, TX4, 5)) rfl (c_Reader_takesWord l hfl a0 M) (fun _ => rfl) (by decide) (by decide) (as := []) (st1 := []) rfl rfl (Nat.le_of_ble_eq_true rfl) (fun c1 M => ?_)
  refine v_join0 (pj := 30) (lj := []) (sj := []) (fun M => ?_) (fun j30 hj30 => ?_)
  · refine v_iconst d_Reader_takesKeyword_30 (by decide) ?_
    exact v_zret d_Reader_takesKeyword_31 rfl
  refine v_ifeq d_Reader_takesKeyword_4 ?_ ?_
  · refine v_sub (ls' := []) [] rfl ?_
    exact hj30 M
  · refine v_aloadn d_Reader_takesKeyword_7 rfl 0 rfl ?_
    refine v_aloadn d_Reader_takesKeyword_8 rfl 1 rfl ?_
    refine v_cVi d_Reader_takesKeyword_9 ml_Reader_99 (q := (RX4, TX4, 5)) rfl (c_Reader_isWord l hfl a0 a1 M) (fun _ => rfl) (by decide) (by decide) (as := [xA a1]) (st1 := []) rfl rfl (Nat.le_of_ble_eq_true rfl) (fun c9 M => ?_)
    refine v_join0 (pj := 26) (lj := []) (sj := []) (fun M => ?_) (fun j26 hj26 => ?_)
    · refine v_iconst d_Reader_takesKeyword_26 (by decide) ?_
      refine v_goto d_Reader_takesKeyword_27 ?_
      exact v_zret d_Reader_takesKeyword_31 rfl
    refine v_ifne d_Reader_takesKeyword_12 ?_ ?_
    · refine v_sub (ls' := []) [] rfl ?_
      exact hj26 M
    · refine v_aloadn d_Reader_takesKeyword_15 rfl 0 rfl ?_
      refine v_aloadn d_Reader_takesKeyword_16 rfl 0 rfl ?_
      refine v_gI d_Reader_takesKeyword_17 fl_Reader_25 rfl (fun x17 => ?_)
      refine v_cVi d_Reader_takesKeyword_20 ml_Reader_75 (q := (RX4, TX4, 5)) rfl (c_Reader_miss l hfl a0 x17 M) (fun _ => rfl) (by decide) (by decide) (as := [xI x17]) (st1 := []) rfl rfl (Nat.le_of_ble_eq_true rfl) (fun c20 M => ?_)
      refine v_ifeq d_Reader_takesKeyword_23 ?_ ?_
      · refine v_sub (ls' := []) [] rfl ?_
        exact hj30 M
      · refine v_sub (ls' := []) [] rfl ?_
        exact hj26 M
set_option maxHeartbeats 4000000 in
set_option maxRecDepth 100000 in
theorem V_lp_Name_isAt_15 {l : Launch} {w : vm_W} (hfl : l.stackTraces = false) (kx60 : mm_T → Option (Int × mm_T)) (a0 : Nat) (a1 : Nat) (v2 : Int) (hkx60 : ∀ (M : mm_T), V_ l w q_Name_isAt 2 ex_Z 60 [] [] M (kx60 M)) : ∀ (f : Nat) (v4 : Int) (M : mm_T), V_ l w q_Name_isAt 2 ex_Z 15 [(0, xA a0), (1, xA a1), (2, xI v2), (4, xI v4)] [] M (lp_Name_isAt_15 kx60 a0 a1 v2 f v4 M) := by
  intro f
  induction f with
  | zero => intros; exact V_.none
  | succ f ih =>
    intro v4 M
    unfold lp_Name_isAt_15
    refine v_iload d_Name_isAt_15 3 rfl ?_
    refine v_aloadn d_Name_isAt_17 rfl 0 rfl ?_
    refine v_gI d_Name_isAt_18 fl_Name_15 rfl (fun x18 => ?_)
    refine v_icge d_Name_isAt_21 ?_ ?_
    · refine v_sub (ls' := []) [] rfl ?_
      exact hkx60 M
    · refine v_iload d_Name_isAt_24 3 rfl ?_
      refine v_aloadn d_Name_isAt_26 rfl 0 rfl ?_
      refine v_gR d_Name_isAt_27 fl_Name_9 rfl (fun r27 => ?_)
      refine v_alen (t := 0) d_Name_isAt_30 rfl (fun x30 => ?_)
      refine v_icge d_Name_isAt_31 ?_ ?_
      · refine v_sub (ls' := []) [] rfl ?_
        exact hkx60 M
      · refine v_aloadn d_Name_isAt_34 rfl 0 rfl ?_
        refine v_gR d_Name_isAt_35 fl_Name_9 rfl (fun r35 => ?_)
        refine v_iload d_Name_isAt_38 3 rfl ?_
        refine v_iald d_Name_isAt_40 (fun x40 => ?_)
        refine v_aloadn d_Name_isAt_41 rfl 1 rfl ?_
        refine v_iloadn d_Name_isAt_42 rfl 2 rfl ?_
        refine v_iload d_Name_isAt_43 3 rfl ?_
        refine v_iadd d_Name_isAt_45 (fun x45 => ?_)
        refine v_cVi d_Name_isAt_46 ml_Name_19 (q := (RX8, TX8, 2)) rfl (c_Tape_at l hfl a1 x45 M) (fun _ => rfl) (by decide) (by decide) (as := [xI x45]) (st1 := [xI x40]) rfl rfl (Nat.le_of_ble_eq_true rfl) (fun c46 M => ?_)
        refine v_iceq d_Name_isAt_49 ?_ ?_
        · refine v_iinc (lz := fun z => [(4, xI z), (0, xA a0), (1, xA a1), (2, xI v2)]) d_Name_isAt_54 3 rfl (Nat.le_of_ble_eq_true rfl) (fun _ => rfl) (fun v4_54 => ?_)
          refine v_goto d_Name_isAt_57 ?_
          refine v_sub (ls' := [(0, xA a0), (1, xA a1), (2, xI v2), (4, xI v4_54)]) [1, 2, 3, 0] rfl ?_
          exact ih v4_54 M
        · refine v_iconst d_Name_isAt_52 (by decide) ?_
          exact v_zret d_Name_isAt_53 rfl
set_option maxHeartbeats 4000000 in
set_option maxRecDepth 100000 in
theorem c_Name_isAt (l : Launch) (hfl : l.stackTraces = false) (a0 : Nat) (a1 : Nat) (v2 : Int) (v3 : Int) (M : mm_T) : vm_Con l yX3_isAt (.code yX3_isAt cX3_isAt 5 (some .boolean)) 2 ex_Z [xA a0, xA a1, xI v2, xI v3] M (k_Name_isAt a0 a1 v2 v3 M) := by
  refine vm_con (y := q_Name_isAt) hfl (by decide +kernel) rfl (fun h => by cases h) (Nat.le_of_ble_eq_true rfl) rfl (fun _ _ _ => rfl) (fun r E h => by cases h) (fun w => ?_)
  show V_ l w q_Name_isAt 2 ex_Z 0 [(0, xA a0), (1, xA a1), (2, xI v2), (3, xI v3)] [] M (k_Name_isAt a0 a1 v2 v3 M)
  unfold k_Name_isAt
  refine v_iloadn d_Name_isAt_0 rfl 3 rfl ?_
  refine v_iloadn d_Name_isAt_1 rfl 2 rfl ?_
  refine v_isub d_Name_isAt_2 (fun x2 => ?_)
  refine v_aloadn d_Name_isAt_3 rfl 0 rfl ?_
  refine v_gI d_Name_isAt_4 fl_Name_15 rfl (fun x4 => ?_)
  refine v_iceq d_Name_isAt_7 ?_ ?_
  · refine v_iconst d_Name_isAt_12 (by decide) ?_
    refine v_istore (lz := fun z => [(4, xI z), (0, xA a0), (1, xA a1), (2, xI v2), (3, xI v3)]) d_Name_isAt_13 (Nat.le_of_ble_eq_true rfl) (fun _ => rfl) (fun v4_13 => ?_)
    refine v_sub (ls' := [(0, xA a0), (1, xA a1), (2, xI v2), (4, xI v4_13)]) [1, 2, 3, 0] rfl ?_
    refine V_lp_Name_isAt_15 hfl _ _ _ _ (fun M => ?_) _ _ _
    · refine v_iconst d_Name_isAt_60 (by decide) ?_
      exact v_zret d_Name_isAt_61 rfl
  · refine v_iconst d_Name_isAt_10 (by decide) ?_
    exact v_zret d_Name_isAt_11 rfl
set_option maxHeartbeats 4000000 in
set_option maxRecDepth 100000 in
theorem c_Told_shapeAt (l : Launch) (hfl : l.stackTraces = false) (a0 : Nat) (v1 : Int) (M : mm_T) : vm_Con l yX9_shapeAt (.code yX9_shapeAt cX9_shapeAt 2 (some (.object "RepeatFree$Shape"))) 1 ex_A [xA a0, xI v1] M (k_Told_shapeAt a0 v1 M) := by
  refine vm_con (y := q_Told_shapeAt) hfl (by decide +kernel) rfl (fun h => by cases h) (Nat.le_of_ble_eq_true rfl) rfl (fun _ _ _ => ⟨_, rfl⟩) (fun r E h => by cases h) (fun w => ?_)
  show V_ l w q_Told_shapeAt 1 ex_A 0 [(0, xA a0), (1, xI v1)] [] M (k_Told_shapeAt a0 v1 M)
  unfold k_Told_shapeAt
  refine v_iloadn d_Told_shapeAt_0 rfl 1 rfl ?_
  refine v_join0 (pj := 22) (lj := []) (sj := []) (fun M => ?_) (fun j22 hj22 => ?_)
  · refine v_null d_Told_shapeAt_22 ?_
    exact v_ret d_Told_shapeAt_23 rfl
  refine v_iflt d_Told_shapeAt_1 ?_ ?_
  · refine v_sub (ls' := []) [] rfl ?_
    exact hj22 M
  · refine v_iloadn d_Told_shapeAt_4 rfl 1 rfl ?_
    refine v_aloadn d_Told_shapeAt_5 rfl 0 rfl ?_
    refine v_gR d_Told_shapeAt_6 fl_Told_19 rfl (fun r6 => ?_)
    refine v_alen (t := 7) d_Told_shapeAt_9 rfl (fun x9 => ?_)
    refine v_icge d_Told_shapeAt_10 ?_ ?_
    · refine v_sub (ls' := []) [] rfl ?_
      exact hj22 M
    · refine v_aloadn d_Told_shapeAt_13 rfl 0 rfl ?_
      refine v_gR d_Told_shapeAt_14 fl_Told_19 rfl (fun r14 => ?_)
      refine v_iloadn d_Told_shapeAt_17 rfl 1 rfl ?_
      refine v_aald (t := 7) d_Told_shapeAt_18 (by decide) rfl rfl (fun r18 => ?_)
      refine v_goto d_Told_shapeAt_19 ?_
      exact v_ret d_Told_shapeAt_23 rfl
set_option maxHeartbeats 4000000 in
set_option maxRecDepth 100000 in
theorem V_lp_Reader_takesAvoid_11 {l : Launch} {w : vm_W} (hfl : l.stackTraces = false) (kx71 : mm_T → Option (Int × mm_T)) (a0 : Nat) (a1 : Nat) (hkx71 : ∀ (M : mm_T), V_ l w q_Reader_takesAvoid 4 ex_Z 71 [(0, xA a0)] [] M (kx71 M)) : ∀ (f : Nat) (v2 : Int) (M : mm_T), V_ l w q_Reader_takesAvoid 4 ex_Z 11 [(0, xA a0), (1, xA a1), (2, xI v2)] [] M (lp_Reader_takesAvoid_11 kx71 a0 a1 f v2 M) := by
  intro f
  induction f with
  | zero => intros; exact V_.none
  | succ f ih =>
    intro v2 M
    unfold lp_Reader_takesAvoid_11
    refine v_iloadn d_Reader_takesAvoid_11 rfl 2 rfl ?_
    refine v_aloadn d_Reader_takesAvoid_12 rfl 1 rfl ?_
    refine v_gI d_Reader_takesAvoid_13 fl_Reader_175 rfl (fun x13 => ?_)
    refine v_icge d_Reader_takesAvoid_16 ?_ ?_
    · refine v_sub (ls' := [(0, xA a0)]) [0] rfl ?_
      exact hkx71 M
    · refine v_aloadn d_Reader_takesAvoid_19 rfl 1 rfl ?_
      refine v_iloadn d_Reader_takesAvoid_20 rfl 2 rfl ?_
      refine v_cVq d_Reader_takesAvoid_21 ml_Reader_178 (q := (RX9, TX9, 8)) rfl (c_Told_shapeAt l hfl a1 v2 M) (fun _ => rfl) (by decide) (by decide) (as := [xI v2]) (st1 := []) rfl rfl (Nat.le_of_ble_eq_true rfl) (fun c21 M => ?_)
      refine v_astoren (lz := fun z => [(3, xA z), (0, xA a0), (1, xA a1), (2, xI v2)]) d_Reader_takesAvoid_24 rfl (Nat.le_of_ble_eq_true rfl) (fun _ => rfl) (fun a3_24 => ?_)
      refine v_aloadn d_Reader_takesAvoid_25 rfl 0 rfl ?_
      refine v_join0 (pj := 65) (lj := [(0, xA a0), (1, xA a1), (2, xI v2)]) (sj := []) (fun M => ?_) (fun j65 hj65 => ?_)
      · refine v_iinc (lz := fun z => [(2, xI z), (0, xA a0), (1, xA a1)]) d_Reader_takesAvoid_65 2 rfl (Nat.le_of_ble_eq_true rfl) (fun _ => rfl) (fun v2_65 => ?_)
        refine v_goto d_Reader_takesAvoid_68 ?_
        refine v_sub (ls' := [(0, xA a0), (1, xA a1), (2, xI v2_65)]) [1, 2, 0] rfl ?_
        exact ih v2_65 M
      refine v_ifnull d_Reader_takesAvoid_26 ?_ ?_
      · refine v_sub (ls' := [(0, xA a0), (1, xA a1), (2, xI v2)]) [1, 2, 3] rfl ?_
        exact hj65 M
      · refine v_aloadn d_Reader_takesAvoid_29 rfl 0 rfl ?_
        refine v_gI d_Reader_takesAvoid_30 fl_Reader_186 rfl (fun x30 => ?_)
        refine v_ifne d_Reader_takesAvoid_33 ?_ ?_
        · refine v_sub (ls' := [(0, xA a0), (1, xA a1), (2, xI v2)]) [1, 2, 3] rfl ?_
          exact hj65 M
        · refine v_aloadn d_Reader_takesAvoid_36 rfl 0 rfl ?_
          refine v_gR d_Reader_takesAvoid_37 fl_Reader_182 rfl (fun r37 => ?_)
          refine v_aloadn d_Reader_takesAvoid_40 rfl 1 rfl ?_
          refine v_gR d_Reader_takesAvoid_41 fl_Reader_12 rfl (fun r41 => ?_)
          refine v_aloadn d_Reader_takesAvoid_44 rfl 1 rfl ?_
          refine v_gI d_Reader_takesAvoid_45 fl_Reader_25 rfl (fun x45 => ?_)
          refine v_aloadn d_Reader_takesAvoid_48 rfl 1 rfl ?_
          refine v_gI d_Reader_takesAvoid_49 fl_Reader_18 rfl (fun x49 => ?_)
          refine v_cVi d_Reader_takesAvoid_52 ml_Reader_190 (q := (RX3, TX3, 2)) rfl (c_Name_isAt l hfl r37 r41 x45 x49 M) (fun _ => rfl) (by decide) (by decide) (as := [xA r41, xI x45, xI x49]) (st1 := []) rfl rfl (Nat.le_of_ble_eq_true rfl) (fun c52 M => ?_)
          refine v_ifeq d_Reader_takesAvoid_55 ?_ ?_
          · refine v_sub (ls' := [(0, xA a0), (1, xA a1), (2, xI v2)]) [1, 2, 3] rfl ?_
            exact hj65 M
          · refine v_aloadn d_Reader_takesAvoid_58 rfl 0 rfl ?_
            refine v_iconst d_Reader_takesAvoid_59 (by decide) ?_
            refine v_pZ d_Reader_takesAvoid_60 fl_Reader_186 (Or.inl rfl) rfl rfl (fun M => ?_)
            refine v_iconst d_Reader_takesAvoid_63 (by decide) ?_
            exact v_zret d_Reader_takesAvoid_64 rfl
set_option maxHeartbeats 4000000 in
set_option maxRecDepth 100000 in
theorem c_Reader_takesAvoid (l : Launch) (hfl : l.stackTraces = false) (a0 : Nat) (a1 : Nat) (M : mm_T) : vm_Con l yX4_takesAvoid (.code yX4_takesAvoid cX4_takesAvoid 4 (some .boolean)) 4 ex_Z [xA a0, xA a1] M (k_Reader_takesAvoid a0 a1 M) := by
  refine vm_con (y := q_Reader_takesAvoid) hfl (by decide +kernel) rfl (fun h => by cases h) (Nat.le_of_ble_eq_true rfl) rfl (fun _ _ _ => rfl) (fun r E h => by cases h) (fun w => ?_)
  show V_ l w q_Reader_takesAvoid 4 ex_Z 0 [(0, xA a0), (1, xA a1)] [] M (k_Reader_takesAvoid a0 a1 M)
  unfold k_Reader_takesAvoid
  refine v_aloadn d_Reader_takesAvoid_0 rfl 0 rfl ?_
  refine v_cVi d_Reader_takesAvoid_1 ml_Reader_95 (q := (RX4, TX4, 5)) rfl (c_Reader_takesWord l hfl a0 M) (fun _ => rfl) (by decide) (by decide) (as := []) (st1 := []) rfl rfl (Nat.le_of_ble_eq_true rfl) (fun c1 M => ?_)
  refine v_ifne d_Reader_takesAvoid_4 ?_ ?_
  · refine v_iconst d_Reader_takesAvoid_9 (by decide) ?_
    refine v_istoren (lz := fun z => [(2, xI z), (0, xA a0), (1, xA a1)]) d_Reader_takesAvoid_10 rfl (Nat.le_of_ble_eq_true rfl) (fun _ => rfl) (fun v2_10 => ?_)
    refine v_sub (ls' := [(0, xA a0), (1, xA a1), (2, xI v2_10)]) [1, 2, 0] rfl ?_
    refine V_lp_Reader_takesAvoid_11 hfl _ _ _ (fun M => ?_) _ _ _
    · refine v_aloadn d_Reader_takesAvoid_71 rfl 0 rfl ?_
      refine v_aloadn d_Reader_takesAvoid_72 rfl 0 rfl ?_
      refine v_gI d_Reader_takesAvoid_73 fl_Reader_25 rfl (fun x73 => ?_)
      refine v_cVi d_Reader_takesAvoid_76 ml_Reader_75 (q := (RX4, TX4, 5)) rfl (c_Reader_miss l hfl a0 x73 M) (fun _ => rfl) (by decide) (by decide) (as := [xI x73]) (st1 := []) rfl rfl (Nat.le_of_ble_eq_true rfl) (fun c76 M => ?_)
      exact v_zret d_Reader_takesAvoid_79 rfl
  · refine v_iconst d_Reader_takesAvoid_7 (by decide) ?_
    exact v_zret d_Reader_takesAvoid_8 rfl
set_option maxHeartbeats 4000000 in
set_option maxRecDepth 100000 in
theorem c_Tape_isDigit (l : Launch) (hfl : l.stackTraces = false) (v0 : Int) (M : mm_T) : vm_Con l yX8_isDigit (.code yX8_isDigit cX8_isDigit 1 (some .boolean)) 1 ex_Z [xI v0] M (k_Tape_isDigit v0 M) := by
  refine vm_con (y := q_Tape_isDigit) hfl (by decide +kernel) rfl (fun h => by cases h) (Nat.le_of_ble_eq_true rfl) rfl (fun _ _ _ => rfl) (fun r E h => by cases h) (fun w => ?_)
  show V_ l w q_Tape_isDigit 1 ex_Z 0 [(0, xI v0)] [] M (k_Tape_isDigit v0 M)
  unfold k_Tape_isDigit
  refine v_iloadn d_Tape_isDigit_0 rfl 0 rfl ?_
  refine v_bipush d_Tape_isDigit_1 (by decide) ?_
  refine v_join0 (pj := 16) (lj := []) (sj := []) (fun M => ?_) (fun j16 hj16 => ?_)
  · refine v_iconst d_Tape_isDigit_16 (by decide) ?_
    exact v_zret d_Tape_isDigit_17 rfl
  refine v_iclt d_Tape_isDigit_3 ?_ ?_
  · refine v_sub (ls' := []) [] rfl ?_
    exact hj16 M
  · refine v_iloadn d_Tape_isDigit_6 rfl 0 rfl ?_
    refine v_bipush d_Tape_isDigit_7 (by decide) ?_
    refine v_icgt d_Tape_isDigit_9 ?_ ?_
    · refine v_sub (ls' := []) [] rfl ?_
      exact hj16 M
    · refine v_iconst d_Tape_isDigit_12 (by decide) ?_
      refine v_goto d_Tape_isDigit_13 ?_
      exact v_zret d_Tape_isDigit_17 rfl
set_option maxHeartbeats 4000000 in
set_option maxRecDepth 100000 in
theorem V_lp_Reader_takesNumber_17 {l : Launch} {w : vm_W} (hfl : l.stackTraces = false) (kx100 : mm_T → Option (Int × mm_T)) (a0 : Nat) {v1 : Int} {v2 : Int} (hkx100 : ∀ (M : mm_T), V_ l w q_Reader_takesNumber 3 ex_Z 100 [(0, xA a0), (1, xI v1), (2, xI v2)] [] M (kx100 M)) : ∀ (f : Nat) (M : mm_T), V_ l w q_Reader_takesNumber 3 ex_Z 17 [(0, xA a0), (1, xI v1), (2, xI v2)] [] M (lp_Reader_takesNumber_17 kx100 a0 f M) := by
  intro f
  induction f with
  | zero => intros; exact V_.none
  | succ f ih =>
    intro M
    unfold lp_Reader_takesNumber_17
    refine v_aloadn d_Reader_takesNumber_17 rfl 0 rfl ?_
    refine v_gI d_Reader_takesNumber_18 fl_Reader_18 rfl (fun x18 => ?_)
    refine v_aloadn d_Reader_takesNumber_21 rfl 0 rfl ?_
    refine v_gR d_Reader_takesNumber_22 fl_Reader_12 rfl (fun r22 => ?_)
    refine v_gI d_Reader_takesNumber_25 fl_Reader_58 rfl (fun x25 => ?_)
    refine v_icge d_Reader_takesNumber_28 ?_ ?_
    · exact hkx100 M
    · refine v_aloadn d_Reader_takesNumber_31 rfl 0 rfl ?_
      refine v_gR d_Reader_takesNumber_32 fl_Reader_12 rfl (fun r32 => ?_)
      refine v_aloadn d_Reader_takesNumber_35 rfl 0 rfl ?_
      refine v_gI d_Reader_takesNumber_36 fl_Reader_18 rfl (fun x36 => ?_)
      refine v_cVi d_Reader_takesNumber_39 ml_Reader_68 (q := (RX8, TX8, 2)) rfl (c_Tape_at l hfl r32 x36 M) (fun _ => rfl) (by decide) (by decide) (as := [xI x36]) (st1 := []) rfl rfl (Nat.le_of_ble_eq_true rfl) (fun c39 M => ?_)
      refine v_cSi d_Reader_takesNumber_42 ml_Reader_102 (c_Tape_isDigit l hfl c39 M) (fun _ => rfl) (by decide) (by decide) (as := [xI c39]) (st1 := []) rfl rfl (Nat.le_of_ble_eq_true rfl) (fun c42 M => ?_)
      refine v_ifeq d_Reader_takesNumber_45 ?_ ?_
      · exact hkx100 M
      · refine v_aloadn d_Reader_takesNumber_48 rfl 0 rfl ?_
        refine v_gI d_Reader_takesNumber_49 fl_Reader_18 rfl (fun x49 => ?_)
        refine v_aloadn d_Reader_takesNumber_52 rfl 0 rfl ?_
        refine v_gI d_Reader_takesNumber_53 fl_Reader_25 rfl (fun x53 => ?_)
        refine v_isub d_Reader_takesNumber_56 (fun x56 => ?_)
        refine v_iconst d_Reader_takesNumber_57 (by decide) ?_
        refine v_join0 (pj := 87) (lj := [(0, xA a0), (1, xI v1), (2, xI v2)]) (sj := []) (fun M => ?_) (fun j87 hj87 => ?_)
        · refine v_aloadn d_Reader_takesNumber_87 rfl 0 rfl ?_
          refine v_dup d_Reader_takesNumber_88 rfl ?_
          refine v_gI d_Reader_takesNumber_89 fl_Reader_18 rfl (fun x89 => ?_)
          refine v_iconst d_Reader_takesNumber_92 (by decide) ?_
          refine v_iadd d_Reader_takesNumber_93 (fun x93 => ?_)
          refine v_pI d_Reader_takesNumber_94 fl_Reader_18 (Or.inl rfl) rfl rfl (fun M => ?_)
          refine v_goto d_Reader_takesNumber_97 ?_
          exact ih M
        refine v_icge d_Reader_takesNumber_58 ?_ ?_
        · exact hj87 M
        · refine v_aloadn d_Reader_takesNumber_61 rfl 0 rfl ?_
          refine v_bipush d_Reader_takesNumber_62 (by decide) ?_
          refine v_aloadn d_Reader_takesNumber_64 rfl 0 rfl ?_
          refine v_gI d_Reader_takesNumber_65 fl_Reader_28 rfl (fun x65 => ?_)
          refine v_imul d_Reader_takesNumber_68 (fun x68 => ?_)
          refine v_aloadn d_Reader_takesNumber_69 rfl 0 rfl ?_
          refine v_gR d_Reader_takesNumber_70 fl_Reader_12 rfl (fun r70 => ?_)
          refine v_aloadn d_Reader_takesNumber_73 rfl 0 rfl ?_
          refine v_gI d_Reader_takesNumber_74 fl_Reader_18 rfl (fun x74 => ?_)
          refine v_cVi d_Reader_takesNumber_77 ml_Reader_68 (q := (RX8, TX8, 2)) rfl (c_Tape_at l hfl r70 x74 M) (fun _ => rfl) (by decide) (by decide) (as := [xI x74]) (st1 := [xI x68, xA a0]) rfl rfl (Nat.le_of_ble_eq_true rfl) (fun c77 M => ?_)
          refine v_iadd d_Reader_takesNumber_80 (fun x80 => ?_)
          refine v_bipush d_Reader_takesNumber_81 (by decide) ?_
          refine v_isub d_Reader_takesNumber_83 (fun x83 => ?_)
          refine v_pI d_Reader_takesNumber_84 fl_Reader_28 (Or.inl rfl) rfl rfl (fun M => ?_)
          exact hj87 M
set_option maxHeartbeats 4000000 in
set_option maxRecDepth 100000 in
theorem c_Reader_takesNumber (l : Launch) (hfl : l.stackTraces = false) (a0 : Nat) (v1 : Int) (v2 : Int) (M : mm_T) : vm_Con l yX4_takesNumber (.code yX4_takesNumber cX4_takesNumber 4 (some .boolean)) 3 ex_Z [xA a0, xI v1, xI v2] M (k_Reader_takesNumber a0 v1 v2 M) := by
  refine vm_con (y := q_Reader_takesNumber) hfl (by decide +kernel) rfl (fun h => by cases h) (Nat.le_of_ble_eq_true rfl) rfl (fun _ _ _ => rfl) (fun r E h => by cases h) (fun w => ?_)
  show V_ l w q_Reader_takesNumber 3 ex_Z 0 [(0, xA a0), (1, xI v1), (2, xI v2)] [] M (k_Reader_takesNumber a0 v1 v2 M)
  unfold k_Reader_takesNumber
  refine v_aloadn d_Reader_takesNumber_0 rfl 0 rfl ?_
  refine v_cVv d_Reader_takesNumber_1 ml_Reader_55 (q := (RX4, TX4, 5)) rfl (c_Reader_skipBlanks l hfl a0 M) (fun _ => rfl) (by decide) (by decide) (as := []) (st1 := []) rfl rfl (Nat.le_of_ble_eq_true rfl) (fun _ M => ?_)
  refine v_aloadn d_Reader_takesNumber_4 rfl 0 rfl ?_
  refine v_aloadn d_Reader_takesNumber_5 rfl 0 rfl ?_
  refine v_gI d_Reader_takesNumber_6 fl_Reader_18 rfl (fun x6 => ?_)
  refine v_pI d_Reader_takesNumber_9 fl_Reader_25 (Or.inl rfl) rfl rfl (fun M => ?_)
  refine v_aloadn d_Reader_takesNumber_12 rfl 0 rfl ?_
  refine v_iconst d_Reader_takesNumber_13 (by decide) ?_
  refine v_pI d_Reader_takesNumber_14 fl_Reader_28 (Or.inl rfl) rfl rfl (fun M => ?_)
  refine V_lp_Reader_takesNumber_17 hfl _ _ (fun M => ?_) _ _
  · refine v_aloadn d_Reader_takesNumber_100 rfl 0 rfl ?_
    refine v_gI d_Reader_takesNumber_101 fl_Reader_18 rfl (fun x101 => ?_)
    refine v_aloadn d_Reader_takesNumber_104 rfl 0 rfl ?_
    refine v_gI d_Reader_takesNumber_105 fl_Reader_25 rfl (fun x105 => ?_)
    refine v_join1 (pj := 145) (lj := fun s0_145 => [(0, xA a0)]) (sj := fun s0_145 => [xI s0_145]) (fun s0_145 M => ?_) (fun j145 hj145 => ?_)
    · refine v_istoren (lz := fun z => [(3, xI z), (0, xA a0)]) d_Reader_takesNumber_145 rfl (Nat.le_of_ble_eq_true rfl) (fun _ => rfl) (fun v3_145 => ?_)
      refine v_iloadn d_Reader_takesNumber_146 rfl 0 rfl ?_
      refine v_join0 (pj := 161) (lj := []) (sj := []) (fun M => ?_) (fun j161 hj161 => ?_)
      · refine v_iconst d_Reader_takesNumber_161 (by decide) ?_
        refine v_goto d_Reader_takesNumber_162 ?_
        exact v_zret d_Reader_takesNumber_166 rfl
      refine v_ifne d_Reader_takesNumber_147 ?_ ?_
      · refine v_sub (ls' := []) [] rfl ?_
        exact hj161 M
      · refine v_aloadn d_Reader_takesNumber_150 rfl 1 rfl ?_
        refine v_aloadn d_Reader_takesNumber_151 rfl 1 rfl ?_
        refine v_gI d_Reader_takesNumber_152 fl_Reader_25 rfl (fun x152 => ?_)
        refine v_cVi d_Reader_takesNumber_155 ml_Reader_75 (q := (RX4, TX4, 5)) rfl (c_Reader_miss l hfl a0 x152 M) (fun _ => rfl) (by decide) (by decide) (as := [xI x152]) (st1 := []) rfl rfl (Nat.le_of_ble_eq_true rfl) (fun c155 M => ?_)
        refine v_ifeq d_Reader_takesNumber_158 ?_ ?_
        · refine v_iconst d_Reader_takesNumber_165 (by decide) ?_
          exact v_zret d_Reader_takesNumber_166 rfl
        · refine v_sub (ls' := []) [] rfl ?_
          exact hj161 M
    refine v_join0 (pj := 144) (lj := [(0, xA a0)]) (sj := []) (fun M => ?_) (fun j144 hj144 => ?_)
    · refine v_iconst d_Reader_takesNumber_144 (by decide) ?_
      exact hj145 0 M
    refine v_icle d_Reader_takesNumber_108 ?_ ?_
    · refine v_sub (ls' := [(0, xA a0)]) [0] rfl ?_
      exact hj144 M
    · refine v_aloadn d_Reader_takesNumber_111 rfl 0 rfl ?_
      refine v_gI d_Reader_takesNumber_112 fl_Reader_18 rfl (fun x112 => ?_)
      refine v_aloadn d_Reader_takesNumber_115 rfl 0 rfl ?_
      refine v_gI d_Reader_takesNumber_116 fl_Reader_25 rfl (fun x116 => ?_)
      refine v_isub d_Reader_takesNumber_119 (fun x119 => ?_)
      refine v_iconst d_Reader_takesNumber_120 (by decide) ?_
      refine v_icgt d_Reader_takesNumber_121 ?_ ?_
      · refine v_sub (ls' := [(0, xA a0)]) [0] rfl ?_
        exact hj144 M
      · refine v_aloadn d_Reader_takesNumber_124 rfl 0 rfl ?_
        refine v_gI d_Reader_takesNumber_125 fl_Reader_28 rfl (fun x125 => ?_)
        refine v_iloadn d_Reader_takesNumber_128 rfl 1 rfl ?_
        refine v_iclt d_Reader_takesNumber_129 ?_ ?_
        · refine v_sub (ls' := [(0, xA a0)]) [0] rfl ?_
          exact hj144 M
        · refine v_aloadn d_Reader_takesNumber_132 rfl 0 rfl ?_
          refine v_gI d_Reader_takesNumber_133 fl_Reader_28 rfl (fun x133 => ?_)
          refine v_iloadn d_Reader_takesNumber_136 rfl 2 rfl ?_
          refine v_icgt d_Reader_takesNumber_137 ?_ ?_
          · refine v_sub (ls' := [(0, xA a0)]) [0] rfl ?_
            exact hj144 M
          · refine v_iconst d_Reader_takesNumber_140 (by decide) ?_
            refine v_goto d_Reader_takesNumber_141 ?_
            refine v_sub (ls' := [(0, xA a0)]) [0] rfl ?_
            exact hj145 1 M
set_option maxHeartbeats 4000000 in
set_option maxRecDepth 100000 in
theorem c_Told_setLimit (l : Launch) (hfl : l.stackTraces = false) (a0 : Nat) (v1 : Int) (v2 : Int) (v3 : Int) (M : mm_T) : vm_Con l yX9_setLimit (.code yX9_setLimit cX9_setLimit 4 none) 1 ex_V [xA a0, xI v1, xI v2, xI v3] M (k_Told_setLimit a0 v1 v2 v3 M) := by
  refine vm_con (y := q_Told_setLimit) hfl (by decide +kernel) rfl (fun h => by cases h) (Nat.le_of_ble_eq_true rfl) rfl (fun _ _ _ => rfl) (fun r E h => by cases h) (fun w => ?_)
  show V_ l w q_Told_setLimit 1 ex_V 0 [(0, xA a0), (1, xI v1), (2, xI v2), (3, xI v3)] [] M (k_Told_setLimit a0 v1 v2 v3 M)
  unfold k_Told_setLimit
  refine v_aloadn d_Told_setLimit_0 rfl 0 rfl ?_
  refine v_iloadn d_Told_setLimit_1 rfl 1 rfl ?_
  refine v_pI d_Told_setLimit_2 fl_Told_27 (Or.inl rfl) rfl rfl (fun M => ?_)
  refine v_aloadn d_Told_setLimit_5 rfl 0 rfl ?_
  refine v_iloadn d_Told_setLimit_6 rfl 1 rfl ?_
  refine v_join2 (pj := 15) (lj := fun sa0_15 s1_15 => [(0, xA a0), (1, xI v1), (3, xI v3)]) (sj := fun sa0_15 s1_15 => [xI s1_15, xA sa0_15]) (fun sa0_15 s1_15 M => ?_) (fun j15 hj15 => ?_)
  · refine v_pI d_Told_setLimit_15 fl_Told_30 (Or.inl rfl) rfl rfl (fun M => ?_)
    refine v_aloadn d_Told_setLimit_18 rfl 0 rfl ?_
    refine v_iloadn d_Told_setLimit_19 rfl 1 rfl ?_
    refine v_join2 (pj := 28) (lj := fun sa0_28 s1_28 => []) (sj := fun sa0_28 s1_28 => [xI s1_28, xA sa0_28]) (fun sa0_28 s1_28 M => ?_) (fun j28 hj28 => ?_)
    · refine v_pI d_Told_setLimit_28 fl_Told_33 (Or.inl rfl) rfl rfl (fun M => ?_)
      exact v_vret d_Told_setLimit_31 rfl
    refine v_ifne d_Told_setLimit_20 ?_ ?_
    · refine v_iloadn d_Told_setLimit_27 rfl 2 rfl ?_
      refine v_sub (ls' := []) [] rfl ?_
      exact hj28 a0 v3 M
    · refine v_iconst d_Told_setLimit_23 (by decide) ?_
      refine v_goto d_Told_setLimit_24 ?_
      refine v_sub (ls' := []) [] rfl ?_
      exact hj28 a0 0 M
  refine v_ifne d_Told_setLimit_7 ?_ ?_
  · refine v_iloadn d_Told_setLimit_14 rfl 2 rfl ?_
    refine v_sub (ls' := [(0, xA a0), (1, xI v1), (3, xI v3)]) [0, 1, 3] rfl ?_
    exact hj15 a0 v2 M
  · refine v_iconst d_Told_setLimit_10 (by decide) ?_
    refine v_goto d_Told_setLimit_11 ?_
    refine v_sub (ls' := [(0, xA a0), (1, xI v1), (3, xI v3)]) [0, 1, 3] rfl ?_
    exact hj15 a0 0 M
set_option maxHeartbeats 4000000 in
set_option maxRecDepth 100000 in
theorem c_Reader_takesLimit (l : Launch) (hfl : l.stackTraces = false) (a0 : Nat) (a1 : Nat) (M : mm_T) : vm_Con l yX4_takesLimit (.code yX4_takesLimit cX4_takesLimit 4 (some .boolean)) 8 ex_Z [xA a0, xA a1] M (k_Reader_takesLimit a0 a1 M) := by
  refine vm_con (y := q_Reader_takesLimit) hfl (by decide +kernel) rfl (fun h => by cases h) (Nat.le_of_ble_eq_true rfl) rfl (fun _ _ _ => rfl) (fun r E h => by cases h) (fun w => ?_)
  show V_ l w q_Reader_takesLimit 8 ex_Z 0 [(0, xA a0), (1, xA a1)] [] M (k_Reader_takesLimit a0 a1 M)
  unfold k_Reader_takesLimit
  refine v_aloadn d_Reader_takesLimit_0 rfl 0 rfl ?_
  refine v_cVi d_Reader_takesLimit_1 ml_Reader_95 (q := (RX4, TX4, 5)) rfl (c_Reader_takesWord l hfl a0 M) (fun _ => rfl) (by decide) (by decide) (as := []) (st1 := []) rfl rfl (Nat.le_of_ble_eq_true rfl) (fun c1 M => ?_)
  refine v_ifne d_Reader_takesLimit_4 ?_ ?_
  · refine v_aloadn d_Reader_takesLimit_9 rfl 0 rfl ?_
    refine v_ldcS (i := 2) d_Reader_takesLimit_10 (by decide +kernel) (by decide) ?_
    refine v_cVi d_Reader_takesLimit_12 ml_Reader_99 (q := (RX4, TX4, 5)) rfl (c_Reader_isWord l hfl a0 4 M) (fun _ => rfl) (by decide) (by decide) (as := [xA 4]) (st1 := []) rfl rfl (Nat.le_of_ble_eq_true rfl) (fun c12 M => ?_)
    refine v_join1 (pj := 36) (lj := fun s0_36 => [(0, xA a0), (1, xA a1)]) (sj := fun s0_36 => [xI s0_36]) (fun s0_36 M => ?_) (fun j36 hj36 => ?_)
    · refine v_istoren (lz := fun z => [(2, xI z), (0, xA a0), (1, xA a1)]) d_Reader_takesLimit_36 rfl (Nat.le_of_ble_eq_true rfl) (fun _ => rfl) (fun v2_36 => ?_)
      refine v_iloadn d_Reader_takesLimit_37 rfl 0 rfl ?_
      refine v_ifne d_Reader_takesLimit_38 ?_ ?_
      · refine v_aloadn d_Reader_takesLimit_50 rfl 1 rfl ?_
        refine v_iconst d_Reader_takesLimit_51 (by decide) ?_
        refine v_bipush d_Reader_takesLimit_52 (by decide) ?_
        refine v_cVi d_Reader_takesLimit_54 ml_Reader_45 (q := (RX4, TX4, 5)) rfl (c_Reader_takesNumber l hfl a0 1 99 M) (fun _ => rfl) (by decide) (by decide) (as := [xI 1, xI 99]) (st1 := []) rfl rfl (Nat.le_of_ble_eq_true rfl) (fun c54 M => ?_)
        refine v_ifne d_Reader_takesLimit_57 ?_ ?_
        · refine v_aloadn d_Reader_takesLimit_62 rfl 1 rfl ?_
          refine v_gI d_Reader_takesLimit_63 fl_Reader_28 rfl (fun x63 => ?_)
          refine v_istoren (lz := fun z => [(3, xI z), (2, xI v2_36), (0, xA a0), (1, xA a1)]) d_Reader_takesLimit_66 rfl (Nat.le_of_ble_eq_true rfl) (fun _ => rfl) (fun v3_66 => ?_)
          refine v_aloadn d_Reader_takesLimit_67 rfl 2 rfl ?_
          refine v_ldcS (i := 4) d_Reader_takesLimit_68 (by decide +kernel) (by decide) ?_
          refine v_cVi d_Reader_takesLimit_70 ml_Reader_41 (q := (RX4, TX4, 5)) rfl (c_Reader_takesKeyword l hfl a0 6 M) (fun _ => rfl) (by decide) (by decide) (as := [xA 6]) (st1 := []) rfl rfl (Nat.le_of_ble_eq_true rfl) (fun c70 M => ?_)
          refine v_ifeq d_Reader_takesLimit_73 ?_ ?_
          · refine v_iconst d_Reader_takesLimit_86 (by decide) ?_
            exact v_zret d_Reader_takesLimit_87 rfl
          · refine v_aloadn d_Reader_takesLimit_76 rfl 2 rfl ?_
            refine v_iconst d_Reader_takesLimit_77 (by decide) ?_
            refine v_bipush d_Reader_takesLimit_78 (by decide) ?_
            refine v_cVi d_Reader_takesLimit_80 ml_Reader_45 (q := (RX4, TX4, 5)) rfl (c_Reader_takesNumber l hfl a0 1 9 M) (fun _ => rfl) (by decide) (by decide) (as := [xI 1, xI 9]) (st1 := []) rfl rfl (Nat.le_of_ble_eq_true rfl) (fun c80 M => ?_)
            refine v_ifne d_Reader_takesLimit_83 ?_ ?_
            · refine v_aloadn d_Reader_takesLimit_88 rfl 3 rfl ?_
              refine v_iloadn d_Reader_takesLimit_89 rfl 1 rfl ?_
              refine v_iloadn d_Reader_takesLimit_90 rfl 0 rfl ?_
              refine v_aloadn d_Reader_takesLimit_91 rfl 2 rfl ?_
              refine v_gI d_Reader_takesLimit_92 fl_Reader_28 rfl (fun x92 => ?_)
              refine v_cVv d_Reader_takesLimit_95 ml_Reader_134 (q := (RX9, TX9, 8)) rfl (c_Told_setLimit l hfl a1 v2_36 v3_66 x92 M) (fun _ => rfl) (by decide) (by decide) (as := [xI v2_36, xI v3_66, xI x92]) (st1 := []) rfl rfl (Nat.le_of_ble_eq_true rfl) (fun _ M => ?_)
              refine v_iconst d_Reader_takesLimit_98 (by decide) ?_
              exact v_zret d_Reader_takesLimit_99 rfl
            · refine v_iconst d_Reader_takesLimit_86 (by decide) ?_
              exact v_zret d_Reader_takesLimit_87 rfl
        · refine v_iconst d_Reader_takesLimit_60 (by decide) ?_
          exact v_zret d_Reader_takesLimit_61 rfl
      · refine v_aloadn d_Reader_takesLimit_41 rfl 1 rfl ?_
        refine v_aloadn d_Reader_takesLimit_42 rfl 1 rfl ?_
        refine v_gI d_Reader_takesLimit_43 fl_Reader_25 rfl (fun x43 => ?_)
        refine v_cVi d_Reader_takesLimit_46 ml_Reader_75 (q := (RX4, TX4, 5)) rfl (c_Reader_miss l hfl a0 x43 M) (fun _ => rfl) (by decide) (by decide) (as := [xI x43]) (st1 := []) rfl rfl (Nat.le_of_ble_eq_true rfl) (fun c46 M => ?_)
        exact v_zret d_Reader_takesLimit_49 rfl
    refine v_ifeq d_Reader_takesLimit_15 ?_ ?_
    · refine v_aloadn d_Reader_takesLimit_22 rfl 0 rfl ?_
      refine v_ldcS (i := 3) d_Reader_takesLimit_23 (by decide +kernel) (by decide) ?_
      refine v_cVi d_Reader_takesLimit_25 ml_Reader_99 (q := (RX4, TX4, 5)) rfl (c_Reader_isWord l hfl a0 5 M) (fun _ => rfl) (by decide) (by decide) (as := [xA 5]) (st1 := []) rfl rfl (Nat.le_of_ble_eq_true rfl) (fun c25 M => ?_)
      refine v_ifeq d_Reader_takesLimit_28 ?_ ?_
      · refine v_iconst d_Reader_takesLimit_35 (by decide) ?_
        exact hj36 0 M
      · refine v_iconst d_Reader_takesLimit_31 (by decide) ?_
        refine v_goto d_Reader_takesLimit_32 ?_
        exact hj36 2 M
    · refine v_iconst d_Reader_takesLimit_18 (by decide) ?_
      refine v_goto d_Reader_takesLimit_19 ?_
      exact hj36 1 M
  · refine v_iconst d_Reader_takesLimit_7 (by decide) ?_
    exact v_zret d_Reader_takesLimit_8 rfl
set_option maxHeartbeats 4000000 in
set_option maxRecDepth 100000 in
theorem V_lp_Morph_put_16 {l : Launch} {w : vm_W} (hfl : l.stackTraces = false) (kx57 : Int → mm_T → Option (Unit × mm_T)) (a0 : Nat) (v1 : Int) (a2 : Nat) (v4 : Int) (hkx57 : ∀ (v5_e : Int) (M : mm_T), V_ l w q_Morph_put 2 ex_V 57 [(0, xA a0), (1, xI v1), (5, xI v5_e)] [] M (kx57 v5_e M)) : ∀ (f : Nat) (v5 : Int) (v6 : Int) (M : mm_T), V_ l w q_Morph_put 2 ex_V 16 [(0, xA a0), (1, xI v1), (2, xA a2), (4, xI v4), (5, xI v5), (6, xI v6)] [] M (lp_Morph_put_16 kx57 a0 v1 a2 v4 f v5 v6 M) := by
  intro f
  induction f with
  | zero => intros; exact V_.none
  | succ f ih =>
    intro v5 v6 M
    unfold lp_Morph_put_16
    refine v_iload d_Morph_put_16 5 rfl ?_
    refine v_iload d_Morph_put_18 3 rfl ?_
    refine v_icge d_Morph_put_20 ?_ ?_
    · refine v_sub (ls' := [(0, xA a0), (1, xI v1), (5, xI v5)]) [0, 1, 4] rfl ?_
      exact hkx57 v5 M
    · refine v_iload d_Morph_put_23 4 rfl ?_
      refine v_bipush d_Morph_put_25 (by decide) ?_
      refine v_icge d_Morph_put_27 ?_ ?_
      · refine v_sub (ls' := [(0, xA a0), (1, xI v1), (5, xI v5)]) [0, 1, 4] rfl ?_
        exact hkx57 v5 M
      · refine v_aloadn d_Morph_put_30 rfl 0 rfl ?_
        refine v_gR d_Morph_put_31 fl_Morph_20 rfl (fun r31 => ?_)
        refine v_iloadn d_Morph_put_34 rfl 1 rfl ?_
        refine v_aald (t := 4) d_Morph_put_35 (by decide) rfl rfl (fun r35 => ?_)
        refine v_iload d_Morph_put_36 4 rfl ?_
        refine v_aloadn d_Morph_put_38 rfl 2 rfl ?_
        refine v_iload d_Morph_put_39 5 rfl ?_
        refine v_cVi d_Morph_put_41 ml_Morph_27 (q := (RX8, TX8, 2)) rfl (c_Tape_at l hfl a2 v6 M) (fun _ => rfl) (by decide) (by decide) (as := [xI v6]) (st1 := [xI v5, xA r35]) rfl rfl (Nat.le_of_ble_eq_true rfl) (fun c41 M => ?_)
        refine v_bipush d_Morph_put_44 (by decide) ?_
        refine v_isub d_Morph_put_46 (fun x46 => ?_)
        refine v_iast d_Morph_put_47 (fun M => ?_)
        refine v_iinc (lz := fun z => [(5, xI z), (0, xA a0), (1, xI v1), (2, xA a2), (4, xI v4), (6, xI v6)]) d_Morph_put_48 4 rfl (Nat.le_of_ble_eq_true rfl) (fun _ => rfl) (fun v5_48 => ?_)
        refine v_iinc (lz := fun z => [(6, xI z), (5, xI v5_48), (0, xA a0), (1, xI v1), (2, xA a2), (4, xI v4)]) d_Morph_put_51 5 rfl (Nat.le_of_ble_eq_true rfl) (fun _ => rfl) (fun v6_51 => ?_)
        refine v_goto d_Morph_put_54 ?_
        refine v_sub (ls' := [(0, xA a0), (1, xI v1), (2, xA a2), (4, xI v4), (5, xI v5_48), (6, xI v6_51)]) [2, 3, 4, 5, 1, 0] rfl ?_
        exact ih v5_48 v6_51 M
set_option maxHeartbeats 4000000 in
set_option maxRecDepth 100000 in
theorem c_Morph_put (l : Launch) (hfl : l.stackTraces = false) (a0 : Nat) (v1 : Int) (a2 : Nat) (v3 : Int) (v4 : Int) (M : mm_T) : vm_Con l yX2_put (.code yX2_put cX2_put 7 none) 2 ex_V [xA a0, xI v1, xA a2, xI v3, xI v4] M (k_Morph_put a0 v1 a2 v3 v4 M) := by
  refine vm_con (y := q_Morph_put) hfl (by decide +kernel) rfl (fun h => by cases h) (Nat.le_of_ble_eq_true rfl) rfl (fun _ _ _ => rfl) (fun r E h => by cases h) (fun w => ?_)
  show V_ l w q_Morph_put 2 ex_V 0 [(0, xA a0), (1, xI v1), (2, xA a2), (3, xI v3), (4, xI v4)] [] M (k_Morph_put a0 v1 a2 v3 v4 M)
  unfold k_Morph_put
  refine v_iloadn d_Morph_put_0 rfl 1 rfl ?_
  refine v_iflt d_Morph_put_1 ?_ ?_
  · exact v_vret d_Morph_put_9 rfl
  · refine v_iloadn d_Morph_put_4 rfl 1 rfl ?_
    refine v_iconst d_Morph_put_5 (by decide) ?_
    refine v_iclt d_Morph_put_6 ?_ ?_
    · refine v_iconst d_Morph_put_10 (by decide) ?_
      refine v_istore (lz := fun z => [(5, xI z), (0, xA a0), (1, xI v1), (2, xA a2), (3, xI v3), (4, xI v4)]) d_Morph_put_11 (Nat.le_of_ble_eq_true rfl) (fun _ => rfl) (fun v5_11 => ?_)
      refine v_iloadn d_Morph_put_13 rfl 4 rfl ?_
      refine v_istore (lz := fun z => [(6, xI z), (5, xI v5_11), (0, xA a0), (1, xI v1), (2, xA a2), (3, xI v3), (4, xI v4)]) d_Morph_put_14 (Nat.le_of_ble_eq_true rfl) (fun _ => rfl) (fun v6_14 => ?_)
      refine v_sub (ls' := [(0, xA a0), (1, xI v1), (2, xA a2), (4, xI v4), (5, xI v5_11), (6, xI v6_14)]) [2, 3, 4, 6, 1, 0] rfl ?_
      refine V_lp_Morph_put_16 hfl _ _ _ _ _ (fun v5_57 M => ?_) _ _ _ _
      · refine v_aloadn d_Morph_put_57 rfl 0 rfl ?_
        refine v_gR d_Morph_put_58 fl_Morph_23 rfl (fun r58 => ?_)
        refine v_iloadn d_Morph_put_61 rfl 1 rfl ?_
        refine v_iload d_Morph_put_62 2 rfl ?_
        refine v_iast d_Morph_put_64 (fun M => ?_)
        exact v_vret d_Morph_put_65 rfl
    · exact v_vret d_Morph_put_9 rfl
set_option maxHeartbeats 4000000 in
set_option maxRecDepth 100000 in
theorem V_lp_Name_put_8 {l : Launch} {w : vm_W} (hfl : l.stackTraces = false) (kx57 : mm_T → Option (Unit × mm_T)) (a0 : Nat) (a1 : Nat) (v3 : Int) (hkx57 : ∀ (M : mm_T), V_ l w q_Name_put 2 ex_V 57 [] [] M (kx57 M)) : ∀ (f : Nat) (v4 : Int) (M : mm_T), V_ l w q_Name_put 2 ex_V 8 [(0, xA a0), (1, xA a1), (3, xI v3), (4, xI v4)] [] M (lp_Name_put_8 kx57 a0 a1 v3 f v4 M) := by
  intro f
  induction f with
  | zero => intros; exact V_.none
  | succ f ih =>
    intro v4 M
    unfold lp_Name_put_8
    refine v_iload d_Name_put_8 3 rfl ?_
    refine v_iloadn d_Name_put_10 rfl 2 rfl ?_
    refine v_icge d_Name_put_11 ?_ ?_
    · refine v_sub (ls' := []) [] rfl ?_
      exact hkx57 M
    · refine v_aloadn d_Name_put_14 rfl 0 rfl ?_
      refine v_gI d_Name_put_15 fl_Name_15 rfl (fun x15 => ?_)
      refine v_aloadn d_Name_put_18 rfl 0 rfl ?_
      refine v_gR d_Name_put_19 fl_Name_9 rfl (fun r19 => ?_)
      refine v_alen (t := 0) d_Name_put_22 rfl (fun x22 => ?_)
      refine v_icge d_Name_put_23 ?_ ?_
      · refine v_sub (ls' := []) [] rfl ?_
        exact hkx57 M
      · refine v_aloadn d_Name_put_26 rfl 0 rfl ?_
        refine v_gR d_Name_put_27 fl_Name_9 rfl (fun r27 => ?_)
        refine v_aloadn d_Name_put_30 rfl 0 rfl ?_
        refine v_gI d_Name_put_31 fl_Name_15 rfl (fun x31 => ?_)
        refine v_aloadn d_Name_put_34 rfl 1 rfl ?_
        refine v_iload d_Name_put_35 3 rfl ?_
        refine v_cVi d_Name_put_37 ml_Name_19 (q := (RX8, TX8, 2)) rfl (c_Tape_at l hfl a1 v4 M) (fun _ => rfl) (by decide) (by decide) (as := [xI v4]) (st1 := [xI x31, xA r27]) rfl rfl (Nat.le_of_ble_eq_true rfl) (fun c37 M => ?_)
        refine v_iast d_Name_put_40 (fun M => ?_)
        refine v_aloadn d_Name_put_41 rfl 0 rfl ?_
        refine v_dup d_Name_put_42 rfl ?_
        refine v_gI d_Name_put_43 fl_Name_15 rfl (fun x43 => ?_)
        refine v_iconst d_Name_put_46 (by decide) ?_
        refine v_iadd d_Name_put_47 (fun x47 => ?_)
        refine v_pI d_Name_put_48 fl_Name_15 (Or.inl rfl) rfl rfl (fun M => ?_)
        refine v_iinc (lz := fun z => [(4, xI z), (0, xA a0), (1, xA a1), (3, xI v3)]) d_Name_put_51 3 rfl (Nat.le_of_ble_eq_true rfl) (fun _ => rfl) (fun v4_51 => ?_)
        refine v_goto d_Name_put_54 ?_
        refine v_sub (ls' := [(0, xA a0), (1, xA a1), (3, xI v3), (4, xI v4_51)]) [1, 2, 3, 0] rfl ?_
        exact ih v4_51 M
set_option maxHeartbeats 4000000 in
set_option maxRecDepth 100000 in
theorem c_Name_put (l : Launch) (hfl : l.stackTraces = false) (a0 : Nat) (a1 : Nat) (v2 : Int) (v3 : Int) (M : mm_T) : vm_Con l yX3_put (.code yX3_put cX3_put 5 none) 2 ex_V [xA a0, xA a1, xI v2, xI v3] M (k_Name_put a0 a1 v2 v3 M) := by
  refine vm_con (y := q_Name_put) hfl (by decide +kernel) rfl (fun h => by cases h) (Nat.le_of_ble_eq_true rfl) rfl (fun _ _ _ => rfl) (fun r E h => by cases h) (fun w => ?_)
  show V_ l w q_Name_put 2 ex_V 0 [(0, xA a0), (1, xA a1), (2, xI v2), (3, xI v3)] [] M (k_Name_put a0 a1 v2 v3 M)
  unfold k_Name_put
  refine v_aloadn d_Name_put_0 rfl 0 rfl ?_
  refine v_iconst d_Name_put_1 (by decide) ?_
  refine v_pI d_Name_put_2 fl_Name_15 (Or.inl rfl) rfl rfl (fun M => ?_)
  refine v_iloadn d_Name_put_5 rfl 2 rfl ?_
  refine v_istore (lz := fun z => [(4, xI z), (0, xA a0), (1, xA a1), (2, xI v2), (3, xI v3)]) d_Name_put_6 (Nat.le_of_ble_eq_true rfl) (fun _ => rfl) (fun v4_6 => ?_)
  refine v_sub (ls' := [(0, xA a0), (1, xA a1), (3, xI v3), (4, xI v4_6)]) [1, 2, 4, 0] rfl ?_
  refine V_lp_Name_put_8 hfl _ _ _ _ (fun M => ?_) _ _ _
  · exact v_vret d_Name_put_57 rfl
set_option maxHeartbeats 4000000 in
set_option maxRecDepth 100000 in
theorem c_Reader_isReserved (l : Launch) (hfl : l.stackTraces = false) (a0 : Nat) (M : mm_T) : vm_Con l yX4_isReserved (.code yX4_isReserved cX4_isReserved 1 (some .boolean)) 7 ex_Z [xA a0] M (k_Reader_isReserved a0 M) := by
  refine vm_con (y := q_Reader_isReserved) hfl (by decide +kernel) rfl (fun h => by cases h) (Nat.le_of_ble_eq_true rfl) rfl (fun _ _ _ => rfl) (fun r E h => by cases h) (fun w => ?_)
  show V_ l w q_Reader_isReserved 7 ex_Z 0 [(0, xA a0)] [] M (k_Reader_isReserved a0 M)
  unfold k_Reader_isReserved
  refine v_aloadn d_Reader_isReserved_0 rfl 0 rfl ?_
  refine v_ldcS (i := 0) d_Reader_isReserved_1 (by decide +kernel) (by decide) ?_
  refine v_cVi d_Reader_isReserved_3 ml_Reader_99 (q := (RX4, TX4, 5)) rfl (c_Reader_isWord l hfl a0 2 M) (fun _ => rfl) (by decide) (by decide) (as := [xA 2]) (st1 := []) rfl rfl (Nat.le_of_ble_eq_true rfl) (fun c3 M => ?_)
  refine v_join0 (pj := 72) (lj := []) (sj := []) (fun M => ?_) (fun j72 hj72 => ?_)
  · refine v_iconst d_Reader_isReserved_72 (by decide) ?_
    refine v_goto d_Reader_isReserved_73 ?_
    exact v_zret d_Reader_isReserved_77 rfl
  refine v_ifne d_Reader_isReserved_6 ?_ ?_
  · refine v_sub (ls' := []) [] rfl ?_
    exact hj72 M
  · refine v_aloadn d_Reader_isReserved_9 rfl 0 rfl ?_
    refine v_ldcS (i := 1) d_Reader_isReserved_10 (by decide +kernel) (by decide) ?_
    refine v_cVi d_Reader_isReserved_12 ml_Reader_99 (q := (RX4, TX4, 5)) rfl (c_Reader_isWord l hfl a0 3 M) (fun _ => rfl) (by decide) (by decide) (as := [xA 3]) (st1 := []) rfl rfl (Nat.le_of_ble_eq_true rfl) (fun c12 M => ?_)
    refine v_ifne d_Reader_isReserved_15 ?_ ?_
    · refine v_sub (ls' := []) [] rfl ?_
      exact hj72 M
    · refine v_aloadn d_Reader_isReserved_18 rfl 0 rfl ?_
      refine v_ldcS (i := 2) d_Reader_isReserved_19 (by decide +kernel) (by decide) ?_
      refine v_cVi d_Reader_isReserved_21 ml_Reader_99 (q := (RX4, TX4, 5)) rfl (c_Reader_isWord l hfl a0 4 M) (fun _ => rfl) (by decide) (by decide) (as := [xA 4]) (st1 := []) rfl rfl (Nat.le_of_ble_eq_true rfl) (fun c21 M => ?_)
      refine v_ifne d_Reader_isReserved_24 ?_ ?_
      · refine v_sub (ls' := []) [] rfl ?_
        exact hj72 M
      · refine v_aloadn d_Reader_isReserved_27 rfl 0 rfl ?_
        refine v_ldcS (i := 3) d_Reader_isReserved_28 (by decide +kernel) (by decide) ?_
        refine v_cVi d_Reader_isReserved_30 ml_Reader_99 (q := (RX4, TX4, 5)) rfl (c_Reader_isWord l hfl a0 5 M) (fun _ => rfl) (by decide) (by decide) (as := [xA 5]) (st1 := []) rfl rfl (Nat.le_of_ble_eq_true rfl) (fun c30 M => ?_)
        refine v_ifne d_Reader_isReserved_33 ?_ ?_
        · refine v_sub (ls' := []) [] rfl ?_
          exact hj72 M
        · refine v_aloadn d_Reader_isReserved_36 rfl 0 rfl ?_
          refine v_ldcS (i := 4) d_Reader_isReserved_37 (by decide +kernel) (by decide) ?_
          refine v_cVi d_Reader_isReserved_39 ml_Reader_99 (q := (RX4, TX4, 5)) rfl (c_Reader_isWord l hfl a0 6 M) (fun _ => rfl) (by decide) (by decide) (as := [xA 6]) (st1 := []) rfl rfl (Nat.le_of_ble_eq_true rfl) (fun c39 M => ?_)
          refine v_ifne d_Reader_isReserved_42 ?_ ?_
          · refine v_sub (ls' := []) [] rfl ?_
            exact hj72 M
          · refine v_aloadn d_Reader_isReserved_45 rfl 0 rfl ?_
            refine v_ldcS (i := 5) d_Reader_isReserved_46 (by decide +kernel) (by decide) ?_
            refine v_cVi d_Reader_isReserved_48 ml_Reader_99 (q := (RX4, TX4, 5)) rfl (c_Reader_isWord l hfl a0 7 M) (fun _ => rfl) (by decide) (by decide) (as := [xA 7]) (st1 := []) rfl rfl (Nat.le_of_ble_eq_true rfl) (fun c48 M => ?_)
            refine v_ifne d_Reader_isReserved_51 ?_ ?_
            · refine v_sub (ls' := []) [] rfl ?_
              exact hj72 M
            · refine v_aloadn d_Reader_isReserved_54 rfl 0 rfl ?_
              refine v_ldcS (i := 6) d_Reader_isReserved_55 (by decide +kernel) (by decide) ?_
              refine v_cVi d_Reader_isReserved_57 ml_Reader_99 (q := (RX4, TX4, 5)) rfl (c_Reader_isWord l hfl a0 8 M) (fun _ => rfl) (by decide) (by decide) (as := [xA 8]) (st1 := []) rfl rfl (Nat.le_of_ble_eq_true rfl) (fun c57 M => ?_)
              refine v_ifne d_Reader_isReserved_60 ?_ ?_
              · refine v_sub (ls' := []) [] rfl ?_
                exact hj72 M
              · refine v_aloadn d_Reader_isReserved_63 rfl 0 rfl ?_
                refine v_ldcS (i := 7) d_Reader_isReserved_64 (by decide +kernel) (by decide) ?_
                refine v_cVi d_Reader_isReserved_66 ml_Reader_99 (q := (RX4, TX4, 5)) rfl (c_Reader_isWord l hfl a0 9 M) (fun _ => rfl) (by decide) (by decide) (as := [xA 9]) (st1 := []) rfl rfl (Nat.le_of_ble_eq_true rfl) (fun c66 M => ?_)
                refine v_ifeq d_Reader_isReserved_69 ?_ ?_
                · refine v_iconst d_Reader_isReserved_76 (by decide) ?_
                  exact v_zret d_Reader_isReserved_77 rfl
                · refine v_sub (ls' := []) [] rfl ?_
                  exact hj72 M
set_option maxHeartbeats 4000000 in
set_option maxRecDepth 100000 in
theorem c_Told_mapAt (l : Launch) (hfl : l.stackTraces = false) (a0 : Nat) (v1 : Int) (M : mm_T) : vm_Con l yX9_mapAt (.code yX9_mapAt cX9_mapAt 2 (some (.object "RepeatFree$Morph"))) 1 ex_A [xA a0, xI v1] M (k_Told_mapAt a0 v1 M) := by
  refine vm_con (y := q_Told_mapAt) hfl (by decide +kernel) rfl (fun h => by cases h) (Nat.le_of_ble_eq_true rfl) rfl (fun _ _ _ => ⟨_, rfl⟩) (fun r E h => by cases h) (fun w => ?_)
  show V_ l w q_Told_mapAt 1 ex_A 0 [(0, xA a0), (1, xI v1)] [] M (k_Told_mapAt a0 v1 M)
  unfold k_Told_mapAt
  refine v_iloadn d_Told_mapAt_0 rfl 1 rfl ?_
  refine v_join0 (pj := 22) (lj := []) (sj := []) (fun M => ?_) (fun j22 hj22 => ?_)
  · refine v_null d_Told_mapAt_22 ?_
    exact v_ret d_Told_mapAt_23 rfl
  refine v_iflt d_Told_mapAt_1 ?_ ?_
  · refine v_sub (ls' := []) [] rfl ?_
    exact hj22 M
  · refine v_iloadn d_Told_mapAt_4 rfl 1 rfl ?_
    refine v_aloadn d_Told_mapAt_5 rfl 0 rfl ?_
    refine v_gR d_Told_mapAt_6 fl_Told_11 rfl (fun r6 => ?_)
    refine v_alen (t := 6) d_Told_mapAt_9 rfl (fun x9 => ?_)
    refine v_icge d_Told_mapAt_10 ?_ ?_
    · refine v_sub (ls' := []) [] rfl ?_
      exact hj22 M
    · refine v_aloadn d_Told_mapAt_13 rfl 0 rfl ?_
      refine v_gR d_Told_mapAt_14 fl_Told_11 rfl (fun r14 => ?_)
      refine v_iloadn d_Told_mapAt_17 rfl 1 rfl ?_
      refine v_aald (t := 6) d_Told_mapAt_18 (by decide) rfl rfl (fun r18 => ?_)
      refine v_goto d_Told_mapAt_19 ?_
      exact v_ret d_Told_mapAt_23 rfl
set_option maxHeartbeats 4000000 in
set_option maxRecDepth 100000 in
theorem V_lp_Told_isNamed_3 {l : Launch} {w : vm_W} (hfl : l.stackTraces = false) (kx47 : mm_T → Option (Int × mm_T)) (a0 : Nat) (a1 : Nat) (v2 : Int) (v3 : Int) (hkx47 : ∀ (M : mm_T), V_ l w q_Told_isNamed 3 ex_Z 47 [(0, xA a0), (1, xA a1), (2, xI v2), (3, xI v3)] [] M (kx47 M)) : ∀ (f : Nat) (v4 : Int) (M : mm_T), V_ l w q_Told_isNamed 3 ex_Z 3 [(0, xA a0), (1, xA a1), (2, xI v2), (3, xI v3), (4, xI v4)] [] M (lp_Told_isNamed_3 kx47 a0 a1 v2 v3 f v4 M) := by
  intro f
  induction f with
  | zero => intros; exact V_.none
  | succ f ih =>
    intro v4 M
    unfold lp_Told_isNamed_3
    refine v_iload d_Told_isNamed_3 4 rfl ?_
    refine v_aloadn d_Told_isNamed_5 rfl 0 rfl ?_
    refine v_gI d_Told_isNamed_6 fl_Told_36 rfl (fun x6 => ?_)
    refine v_icge d_Told_isNamed_9 ?_ ?_
    · refine v_sub (ls' := [(0, xA a0), (1, xA a1), (2, xI v2), (3, xI v3)]) [0, 1, 2, 3] rfl ?_
      exact hkx47 M
    · refine v_aloadn d_Told_isNamed_12 rfl 0 rfl ?_
      refine v_iload d_Told_isNamed_13 4 rfl ?_
      refine v_cVq d_Told_isNamed_15 ml_Told_48 (q := (RX9, TX9, 8)) rfl (c_Told_mapAt l hfl a0 v4 M) (fun _ => rfl) (by decide) (by decide) (as := [xI v4]) (st1 := []) rfl rfl (Nat.le_of_ble_eq_true rfl) (fun c15 M => ?_)
      refine v_astore (lz := fun z => [(5, xA z), (0, xA a0), (1, xA a1), (2, xI v2), (3, xI v3), (4, xI v4)]) d_Told_isNamed_18 (Nat.le_of_ble_eq_true rfl) (fun _ => rfl) (fun a5_18 => ?_)
      refine v_aload d_Told_isNamed_20 0 rfl ?_
      refine v_join0 (pj := 41) (lj := [(0, xA a0), (1, xA a1), (2, xI v2), (3, xI v3), (4, xI v4)]) (sj := []) (fun M => ?_) (fun j41 hj41 => ?_)
      · refine v_iinc (lz := fun z => [(4, xI z), (0, xA a0), (1, xA a1), (2, xI v2), (3, xI v3)]) d_Told_isNamed_41 4 rfl (Nat.le_of_ble_eq_true rfl) (fun _ => rfl) (fun v4_41 => ?_)
        refine v_goto d_Told_isNamed_44 ?_
        refine v_sub (ls' := [(0, xA a0), (1, xA a1), (2, xI v2), (3, xI v3), (4, xI v4_41)]) [1, 2, 3, 4, 0] rfl ?_
        exact ih v4_41 M
      refine v_ifnull d_Told_isNamed_22 ?_ ?_
      · refine v_sub (ls' := [(0, xA a0), (1, xA a1), (2, xI v2), (3, xI v3), (4, xI v4)]) [1, 2, 3, 4, 5] rfl ?_
        exact hj41 M
      · refine v_aload d_Told_isNamed_25 0 rfl ?_
        refine v_gR d_Told_isNamed_27 fl_Told_52 rfl (fun r27 => ?_)
        refine v_aloadn d_Told_isNamed_30 rfl 2 rfl ?_
        refine v_iloadn d_Told_isNamed_31 rfl 3 rfl ?_
        refine v_iloadn d_Told_isNamed_32 rfl 4 rfl ?_
        refine v_cVi d_Told_isNamed_33 ml_Told_56 (q := (RX3, TX3, 2)) rfl (c_Name_isAt l hfl r27 a1 v2 v3 M) (fun _ => rfl) (by decide) (by decide) (as := [xA a1, xI v2, xI v3]) (st1 := []) rfl rfl (Nat.le_of_ble_eq_true rfl) (fun c33 M => ?_)
        refine v_ifeq d_Told_isNamed_36 ?_ ?_
        · refine v_sub (ls' := [(0, xA a0), (1, xA a1), (2, xI v2), (3, xI v3), (4, xI v4)]) [1, 2, 3, 4, 5] rfl ?_
          exact hj41 M
        · refine v_iconst d_Told_isNamed_39 (by decide) ?_
          exact v_zret d_Told_isNamed_40 rfl
set_option maxHeartbeats 4000000 in
set_option maxRecDepth 100000 in
theorem V_lp_Told_isNamed_50 {l : Launch} {w : vm_W} (hfl : l.stackTraces = false) (kx94 : mm_T → Option (Int × mm_T)) (a0 : Nat) (a1 : Nat) (v2 : Int) (v3 : Int) (hkx94 : ∀ (M : mm_T), V_ l w q_Told_isNamed 3 ex_Z 94 [] [] M (kx94 M)) : ∀ (f : Nat) (v4 : Int) (M : mm_T), V_ l w q_Told_isNamed 3 ex_Z 50 [(0, xA a0), (1, xA a1), (2, xI v2), (3, xI v3), (4, xI v4)] [] M (lp_Told_isNamed_50 kx94 a0 a1 v2 v3 f v4 M) := by
  intro f
  induction f with
  | zero => intros; exact V_.none
  | succ f ih =>
    intro v4 M
    unfold lp_Told_isNamed_50
    refine v_iload d_Told_isNamed_50 4 rfl ?_
    refine v_aloadn d_Told_isNamed_52 rfl 0 rfl ?_
    refine v_gI d_Told_isNamed_53 fl_Told_39 rfl (fun x53 => ?_)
    refine v_icge d_Told_isNamed_56 ?_ ?_
    · refine v_sub (ls' := []) [] rfl ?_
      exact hkx94 M
    · refine v_aloadn d_Told_isNamed_59 rfl 0 rfl ?_
      refine v_iload d_Told_isNamed_60 4 rfl ?_
      refine v_cVq d_Told_isNamed_62 ml_Told_62 (q := (RX9, TX9, 8)) rfl (c_Told_shapeAt l hfl a0 v4 M) (fun _ => rfl) (by decide) (by decide) (as := [xI v4]) (st1 := []) rfl rfl (Nat.le_of_ble_eq_true rfl) (fun c62 M => ?_)
      refine v_astore (lz := fun z => [(5, xA z), (0, xA a0), (1, xA a1), (2, xI v2), (3, xI v3), (4, xI v4)]) d_Told_isNamed_65 (Nat.le_of_ble_eq_true rfl) (fun _ => rfl) (fun a5_65 => ?_)
      refine v_aload d_Told_isNamed_67 0 rfl ?_
      refine v_join0 (pj := 88) (lj := [(0, xA a0), (1, xA a1), (2, xI v2), (3, xI v3), (4, xI v4)]) (sj := []) (fun M => ?_) (fun j88 hj88 => ?_)
      · refine v_iinc (lz := fun z => [(4, xI z), (0, xA a0), (1, xA a1), (2, xI v2), (3, xI v3)]) d_Told_isNamed_88 4 rfl (Nat.le_of_ble_eq_true rfl) (fun _ => rfl) (fun v4_88 => ?_)
        refine v_goto d_Told_isNamed_91 ?_
        refine v_sub (ls' := [(0, xA a0), (1, xA a1), (2, xI v2), (3, xI v3), (4, xI v4_88)]) [1, 2, 3, 4, 0] rfl ?_
        exact ih v4_88 M
      refine v_ifnull d_Told_isNamed_69 ?_ ?_
      · refine v_sub (ls' := [(0, xA a0), (1, xA a1), (2, xI v2), (3, xI v3), (4, xI v4)]) [1, 2, 3, 4, 5] rfl ?_
        exact hj88 M
      · refine v_aload d_Told_isNamed_72 0 rfl ?_
        refine v_gR d_Told_isNamed_74 fl_Told_66 rfl (fun r74 => ?_)
        refine v_aloadn d_Told_isNamed_77 rfl 2 rfl ?_
        refine v_iloadn d_Told_isNamed_78 rfl 3 rfl ?_
        refine v_iloadn d_Told_isNamed_79 rfl 4 rfl ?_
        refine v_cVi d_Told_isNamed_80 ml_Told_56 (q := (RX3, TX3, 2)) rfl (c_Name_isAt l hfl r74 a1 v2 v3 M) (fun _ => rfl) (by decide) (by decide) (as := [xA a1, xI v2, xI v3]) (st1 := []) rfl rfl (Nat.le_of_ble_eq_true rfl) (fun c80 M => ?_)
        refine v_ifeq d_Told_isNamed_83 ?_ ?_
        · refine v_sub (ls' := [(0, xA a0), (1, xA a1), (2, xI v2), (3, xI v3), (4, xI v4)]) [1, 2, 3, 4, 5] rfl ?_
          exact hj88 M
        · refine v_iconst d_Told_isNamed_86 (by decide) ?_
          exact v_zret d_Told_isNamed_87 rfl
set_option maxHeartbeats 4000000 in
set_option maxRecDepth 100000 in
theorem c_Told_isNamed (l : Launch) (hfl : l.stackTraces = false) (a0 : Nat) (a1 : Nat) (v2 : Int) (v3 : Int) (M : mm_T) : vm_Con l yX9_isNamed (.code yX9_isNamed cX9_isNamed 6 (some .boolean)) 3 ex_Z [xA a0, xA a1, xI v2, xI v3] M (k_Told_isNamed a0 a1 v2 v3 M) := by
  refine vm_con (y := q_Told_isNamed) hfl (by decide +kernel) rfl (fun h => by cases h) (Nat.le_of_ble_eq_true rfl) rfl (fun _ _ _ => rfl) (fun r E h => by cases h) (fun w => ?_)
  show V_ l w q_Told_isNamed 3 ex_Z 0 [(0, xA a0), (1, xA a1), (2, xI v2), (3, xI v3)] [] M (k_Told_isNamed a0 a1 v2 v3 M)
  unfold k_Told_isNamed
  refine v_iconst d_Told_isNamed_0 (by decide) ?_
  refine v_istore (lz := fun z => [(4, xI z), (0, xA a0), (1, xA a1), (2, xI v2), (3, xI v3)]) d_Told_isNamed_1 (Nat.le_of_ble_eq_true rfl) (fun _ => rfl) (fun v4_1 => ?_)
  refine v_sub (ls' := [(0, xA a0), (1, xA a1), (2, xI v2), (3, xI v3), (4, xI v4_1)]) [1, 2, 3, 4, 0] rfl ?_
  refine V_lp_Told_isNamed_3 hfl _ _ _ _ _ (fun M => ?_) _ _ _
  · refine v_iconst d_Told_isNamed_47 (by decide) ?_
    refine v_istore (lz := fun z => [(4, xI z), (0, xA a0), (1, xA a1), (2, xI v2), (3, xI v3)]) d_Told_isNamed_48 (Nat.le_of_ble_eq_true rfl) (fun _ => rfl) (fun v4_48 => ?_)
    refine v_sub (ls' := [(0, xA a0), (1, xA a1), (2, xI v2), (3, xI v3), (4, xI v4_48)]) [1, 2, 3, 4, 0] rfl ?_
    refine V_lp_Told_isNamed_50 hfl _ _ _ _ _ (fun M => ?_) _ _ _
    · refine v_iconst d_Told_isNamed_94 (by decide) ?_
      exact v_zret d_Told_isNamed_95 rfl
set_option maxHeartbeats 4000000 in
set_option maxRecDepth 100000 in
theorem c_Reader_takesNewName (l : Launch) (hfl : l.stackTraces = false) (a0 : Nat) (a1 : Nat) (a2 : Nat) (M : mm_T) : vm_Con l yX4_takesNewName (.code yX4_takesNewName cX4_takesNewName 3 (some .boolean)) 8 ex_Z [xA a0, xA a1, xA a2] M (k_Reader_takesNewName a0 a1 a2 M) := by
  refine vm_con (y := q_Reader_takesNewName) hfl (by decide +kernel) rfl (fun h => by cases h) (Nat.le_of_ble_eq_true rfl) rfl (fun _ _ _ => rfl) (fun r E h => by cases h) (fun w => ?_)
  show V_ l w q_Reader_takesNewName 8 ex_Z 0 [(0, xA a0), (1, xA a1), (2, xA a2)] [] M (k_Reader_takesNewName a0 a1 a2 M)
  unfold k_Reader_takesNewName
  refine v_aloadn d_Reader_takesNewName_0 rfl 0 rfl ?_
  refine v_cVi d_Reader_takesNewName_1 ml_Reader_95 (q := (RX4, TX4, 5)) rfl (c_Reader_takesWord l hfl a0 M) (fun _ => rfl) (by decide) (by decide) (as := []) (st1 := []) rfl rfl (Nat.le_of_ble_eq_true rfl) (fun c1 M => ?_)
  refine v_ifne d_Reader_takesNewName_4 ?_ ?_
  · refine v_aloadn d_Reader_takesNewName_9 rfl 0 rfl ?_
    refine v_gI d_Reader_takesNewName_10 fl_Reader_18 rfl (fun x10 => ?_)
    refine v_aloadn d_Reader_takesNewName_13 rfl 0 rfl ?_
    refine v_gI d_Reader_takesNewName_14 fl_Reader_25 rfl (fun x14 => ?_)
    refine v_isub d_Reader_takesNewName_17 (fun x17 => ?_)
    refine v_bipush d_Reader_takesNewName_18 (by decide) ?_
    refine v_join0 (pj := 49) (lj := [(0, xA a0)]) (sj := []) (fun M => ?_) (fun j49 hj49 => ?_)
    · refine v_aloadn d_Reader_takesNewName_49 rfl 0 rfl ?_
      refine v_aloadn d_Reader_takesNewName_50 rfl 0 rfl ?_
      refine v_gI d_Reader_takesNewName_51 fl_Reader_25 rfl (fun x51 => ?_)
      refine v_cVi d_Reader_takesNewName_54 ml_Reader_75 (q := (RX4, TX4, 5)) rfl (c_Reader_miss l hfl a0 x51 M) (fun _ => rfl) (by decide) (by decide) (as := [xI x51]) (st1 := []) rfl rfl (Nat.le_of_ble_eq_true rfl) (fun c54 M => ?_)
      exact v_zret d_Reader_takesNewName_57 rfl
    refine v_icgt d_Reader_takesNewName_20 ?_ ?_
    · refine v_sub (ls' := [(0, xA a0)]) [0] rfl ?_
      exact hj49 M
    · refine v_aloadn d_Reader_takesNewName_23 rfl 0 rfl ?_
      refine v_cVi d_Reader_takesNewName_24 ml_Reader_138 (q := (RX4, TX4, 5)) rfl (c_Reader_isReserved l hfl a0 M) (fun _ => rfl) (by decide) (by decide) (as := []) (st1 := []) rfl rfl (Nat.le_of_ble_eq_true rfl) (fun c24 M => ?_)
      refine v_ifne d_Reader_takesNewName_27 ?_ ?_
      · refine v_sub (ls' := [(0, xA a0)]) [0] rfl ?_
        exact hj49 M
      · refine v_aloadn d_Reader_takesNewName_30 rfl 1 rfl ?_
        refine v_aloadn d_Reader_takesNewName_31 rfl 0 rfl ?_
        refine v_gR d_Reader_takesNewName_32 fl_Reader_12 rfl (fun r32 => ?_)
        refine v_aloadn d_Reader_takesNewName_35 rfl 0 rfl ?_
        refine v_gI d_Reader_takesNewName_36 fl_Reader_25 rfl (fun x36 => ?_)
        refine v_aloadn d_Reader_takesNewName_39 rfl 0 rfl ?_
        refine v_gI d_Reader_takesNewName_40 fl_Reader_18 rfl (fun x40 => ?_)
        refine v_cVi d_Reader_takesNewName_43 ml_Reader_141 (q := (RX9, TX9, 8)) rfl (c_Told_isNamed l hfl a1 r32 x36 x40 M) (fun _ => rfl) (by decide) (by decide) (as := [xA r32, xI x36, xI x40]) (st1 := []) rfl rfl (Nat.le_of_ble_eq_true rfl) (fun c43 M => ?_)
        refine v_ifeq d_Reader_takesNewName_46 ?_ ?_
        · refine v_aloadn d_Reader_takesNewName_58 rfl 2 rfl ?_
          refine v_aloadn d_Reader_takesNewName_59 rfl 0 rfl ?_
          refine v_gR d_Reader_takesNewName_60 fl_Reader_12 rfl (fun r60 => ?_)
          refine v_aloadn d_Reader_takesNewName_63 rfl 0 rfl ?_
          refine v_gI d_Reader_takesNewName_64 fl_Reader_25 rfl (fun x64 => ?_)
          refine v_aloadn d_Reader_takesNewName_67 rfl 0 rfl ?_
          refine v_gI d_Reader_takesNewName_68 fl_Reader_18 rfl (fun x68 => ?_)
          refine v_cVv d_Reader_takesNewName_71 ml_Reader_145 (q := (RX3, TX3, 2)) rfl (c_Name_put l hfl a2 r60 x64 x68 M) (fun _ => rfl) (by decide) (by decide) (as := [xA r60, xI x64, xI x68]) (st1 := []) rfl rfl (Nat.le_of_ble_eq_true rfl) (fun _ M => ?_)
          refine v_iconst d_Reader_takesNewName_74 (by decide) ?_
          exact v_zret d_Reader_takesNewName_75 rfl
        · refine v_sub (ls' := [(0, xA a0)]) [0] rfl ?_
          exact hj49 M
  · refine v_iconst d_Reader_takesNewName_7 (by decide) ?_
    exact v_zret d_Reader_takesNewName_8 rfl
set_option maxHeartbeats 4000000 in
set_option maxRecDepth 100000 in
theorem V_lp_Reader_takesPart_35 {l : Launch} {w : vm_W} (hfl : l.stackTraces = false) (kx87 : Int → mm_T → Option (Int × mm_T)) (a0 : Nat) (v1 : Int) (v2 : Int) (hkx87 : ∀ (v4_e : Int) (M : mm_T), V_ l w q_Reader_takesPart 4 ex_Z 87 [(0, xA a0), (4, xI v4_e)] [] M (kx87 v4_e M)) : ∀ (f : Nat) (v4 : Int) (v5 : Int) (M : mm_T), V_ l w q_Reader_takesPart 4 ex_Z 35 [(0, xA a0), (1, xI v1), (2, xI v2), (4, xI v4), (5, xI v5)] [] M (lp_Reader_takesPart_35 kx87 a0 v1 v2 f v4 v5 M) := by
  intro f
  induction f with
  | zero => intros; exact V_.none
  | succ f ih =>
    intro v4 v5 M
    unfold lp_Reader_takesPart_35
    refine v_iload d_Reader_takesPart_35 4 rfl ?_
    refine v_aloadn d_Reader_takesPart_37 rfl 0 rfl ?_
    refine v_gI d_Reader_takesPart_38 fl_Reader_18 rfl (fun x38 => ?_)
    refine v_icge d_Reader_takesPart_41 ?_ ?_
    · refine v_sub (ls' := [(0, xA a0), (4, xI v4)]) [0, 3] rfl ?_
      exact hkx87 v4 M
    · refine v_aloadn d_Reader_takesPart_44 rfl 0 rfl ?_
      refine v_gR d_Reader_takesPart_45 fl_Reader_12 rfl (fun r45 => ?_)
      refine v_iload d_Reader_takesPart_48 4 rfl ?_
      refine v_cVi d_Reader_takesPart_50 ml_Reader_68 (q := (RX8, TX8, 2)) rfl (c_Tape_at l hfl r45 v5 M) (fun _ => rfl) (by decide) (by decide) (as := [xI v5]) (st1 := []) rfl rfl (Nat.le_of_ble_eq_true rfl) (fun c50 M => ?_)
      refine v_istore (lz := fun z => [(6, xI z), (0, xA a0), (1, xI v1), (2, xI v2), (4, xI v4), (5, xI v5)]) d_Reader_takesPart_53 (Nat.le_of_ble_eq_true rfl) (fun _ => rfl) (fun v6_53 => ?_)
      refine v_iload d_Reader_takesPart_55 4 rfl ?_
      refine v_join1 (pj := 79) (lj := fun s0_79 => [(0, xA a0), (1, xI v1), (2, xI v2), (5, xI v5)]) (sj := fun s0_79 => [xI s0_79]) (fun s0_79 M => ?_) (fun j79 hj79 => ?_)
      · refine v_istore (lz := fun z => [(4, xI z), (0, xA a0), (1, xI v1), (2, xI v2), (5, xI v5)]) d_Reader_takesPart_79 (Nat.le_of_ble_eq_true rfl) (fun _ => rfl) (fun v4_79 => ?_)
        refine v_iinc (lz := fun z => [(5, xI z), (4, xI v4_79), (0, xA a0), (1, xI v1), (2, xI v2)]) d_Reader_takesPart_81 4 rfl (Nat.le_of_ble_eq_true rfl) (fun _ => rfl) (fun v5_81 => ?_)
        refine v_goto d_Reader_takesPart_84 ?_
        refine v_sub (ls' := [(0, xA a0), (1, xI v1), (2, xI v2), (4, xI v4_79), (5, xI v5_81)]) [2, 3, 4, 1, 0] rfl ?_
        exact ih v4_79 v5_81 M
      refine v_join0 (pj := 78) (lj := [(0, xA a0), (1, xI v1), (2, xI v2), (5, xI v5)]) (sj := []) (fun M => ?_) (fun j78 hj78 => ?_)
      · refine v_iconst d_Reader_takesPart_78 (by decide) ?_
        exact hj79 0 M
      refine v_ifeq d_Reader_takesPart_57 ?_ ?_
      · refine v_sub (ls' := [(0, xA a0), (1, xI v1), (2, xI v2), (5, xI v5)]) [1, 2, 3, 5] rfl ?_
        exact hj78 M
      · refine v_iload d_Reader_takesPart_60 0 rfl ?_
        refine v_iloadn d_Reader_takesPart_62 rfl 2 rfl ?_
        refine v_iclt d_Reader_takesPart_63 ?_ ?_
        · refine v_sub (ls' := [(0, xA a0), (1, xI v1), (2, xI v2), (5, xI v5)]) [1, 2, 3, 5] rfl ?_
          exact hj78 M
        · refine v_iload d_Reader_takesPart_66 0 rfl ?_
          refine v_iloadn d_Reader_takesPart_68 rfl 2 rfl ?_
          refine v_iloadn d_Reader_takesPart_69 rfl 3 rfl ?_
          refine v_iadd d_Reader_takesPart_70 (fun x70 => ?_)
          refine v_icge d_Reader_takesPart_71 ?_ ?_
          · refine v_sub (ls' := [(0, xA a0), (1, xI v1), (2, xI v2), (5, xI v5)]) [1, 2, 3, 5] rfl ?_
            exact hj78 M
          · refine v_iconst d_Reader_takesPart_74 (by decide) ?_
            refine v_goto d_Reader_takesPart_75 ?_
            refine v_sub (ls' := [(0, xA a0), (1, xI v1), (2, xI v2), (5, xI v5)]) [1, 2, 3, 5] rfl ?_
            exact hj79 1 M
set_option maxHeartbeats 4000000 in
set_option maxRecDepth 100000 in
theorem c_Reader_takesPart (l : Launch) (hfl : l.stackTraces = false) (a0 : Nat) (v1 : Int) (v2 : Int) (v3 : Int) (M : mm_T) : vm_Con l yX4_takesPart (.code yX4_takesPart cX4_takesPart 7 (some .boolean)) 4 ex_Z [xA a0, xI v1, xI v2, xI v3] M (k_Reader_takesPart a0 v1 v2 v3 M) := by
  refine vm_con (y := q_Reader_takesPart) hfl (by decide +kernel) rfl (fun h => by cases h) (Nat.le_of_ble_eq_true rfl) rfl (fun _ _ _ => rfl) (fun r E h => by cases h) (fun w => ?_)
  show V_ l w q_Reader_takesPart 4 ex_Z 0 [(0, xA a0), (1, xI v1), (2, xI v2), (3, xI v3)] [] M (k_Reader_takesPart a0 v1 v2 v3 M)
  unfold k_Reader_takesPart
  refine v_aloadn d_Reader_takesPart_0 rfl 0 rfl ?_
  refine v_cVi d_Reader_takesPart_1 ml_Reader_95 (q := (RX4, TX4, 5)) rfl (c_Reader_takesWord l hfl a0 M) (fun _ => rfl) (by decide) (by decide) (as := []) (st1 := []) rfl rfl (Nat.le_of_ble_eq_true rfl) (fun c1 M => ?_)
  refine v_ifne d_Reader_takesPart_4 ?_ ?_
  · refine v_aloadn d_Reader_takesPart_9 rfl 0 rfl ?_
    refine v_gI d_Reader_takesPart_10 fl_Reader_18 rfl (fun x10 => ?_)
    refine v_aloadn d_Reader_takesPart_13 rfl 0 rfl ?_
    refine v_gI d_Reader_takesPart_14 fl_Reader_25 rfl (fun x14 => ?_)
    refine v_isub d_Reader_takesPart_17 (fun x17 => ?_)
    refine v_iloadn d_Reader_takesPart_18 rfl 3 rfl ?_
    refine v_join1 (pj := 27) (lj := fun s0_27 => [(0, xA a0), (1, xI v1), (2, xI v2)]) (sj := fun s0_27 => [xI s0_27]) (fun s0_27 M => ?_) (fun j27 hj27 => ?_)
    · refine v_istore (lz := fun z => [(4, xI z), (0, xA a0), (1, xI v1), (2, xI v2)]) d_Reader_takesPart_27 (Nat.le_of_ble_eq_true rfl) (fun _ => rfl) (fun v4_27 => ?_)
      refine v_aloadn d_Reader_takesPart_29 rfl 1 rfl ?_
      refine v_gI d_Reader_takesPart_30 fl_Reader_25 rfl (fun x30 => ?_)
      refine v_istore (lz := fun z => [(5, xI z), (4, xI v4_27), (0, xA a0), (1, xI v1), (2, xI v2)]) d_Reader_takesPart_33 (Nat.le_of_ble_eq_true rfl) (fun _ => rfl) (fun v5_33 => ?_)
      refine v_sub (ls' := [(0, xA a0), (1, xI v1), (2, xI v2), (4, xI v4_27), (5, xI v5_33)]) [2, 3, 4, 1, 0] rfl ?_
      refine V_lp_Reader_takesPart_35 hfl _ _ _ _ (fun v4_87 M => ?_) _ _ _ _
      · refine v_iload d_Reader_takesPart_87 1 rfl ?_
        refine v_join0 (pj := 103) (lj := []) (sj := []) (fun M => ?_) (fun j103 hj103 => ?_)
        · refine v_iconst d_Reader_takesPart_103 (by decide) ?_
          refine v_goto d_Reader_takesPart_104 ?_
          exact v_zret d_Reader_takesPart_108 rfl
        refine v_ifne d_Reader_takesPart_89 ?_ ?_
        · refine v_sub (ls' := []) [] rfl ?_
          exact hj103 M
        · refine v_aloadn d_Reader_takesPart_92 rfl 0 rfl ?_
          refine v_aloadn d_Reader_takesPart_93 rfl 0 rfl ?_
          refine v_gI d_Reader_takesPart_94 fl_Reader_25 rfl (fun x94 => ?_)
          refine v_cVi d_Reader_takesPart_97 ml_Reader_75 (q := (RX4, TX4, 5)) rfl (c_Reader_miss l hfl a0 x94 M) (fun _ => rfl) (by decide) (by decide) (as := [xI x94]) (st1 := []) rfl rfl (Nat.le_of_ble_eq_true rfl) (fun c97 M => ?_)
          refine v_ifeq d_Reader_takesPart_100 ?_ ?_
          · refine v_iconst d_Reader_takesPart_107 (by decide) ?_
            exact v_zret d_Reader_takesPart_108 rfl
          · refine v_sub (ls' := []) [] rfl ?_
            exact hj103 M
    refine v_icgt d_Reader_takesPart_19 ?_ ?_
    · refine v_iconst d_Reader_takesPart_26 (by decide) ?_
      refine v_sub (ls' := [(0, xA a0), (1, xI v1), (2, xI v2)]) [0, 1, 2] rfl ?_
      exact hj27 0 M
    · refine v_iconst d_Reader_takesPart_22 (by decide) ?_
      refine v_goto d_Reader_takesPart_23 ?_
      refine v_sub (ls' := [(0, xA a0), (1, xI v1), (2, xI v2)]) [0, 1, 2] rfl ?_
      exact hj27 1 M
  · refine v_iconst d_Reader_takesPart_7 (by decide) ?_
    exact v_zret d_Reader_takesPart_8 rfl
set_option maxHeartbeats 4000000 in
set_option maxRecDepth 100000 in
theorem V_lp_Reader_takesMap_38 {l : Launch} {w : vm_W} (hfl : l.stackTraces = false) (kx99 : mm_T → Option (Int × mm_T)) (a0 : Nat) (a1 : Nat) (a2 : Nat) (hkx99 : ∀ (M : mm_T), V_ l w q_Reader_takesMap 9 ex_Z 99 [(1, xA a1)] [] M (kx99 M)) : ∀ (f : Nat) (v3 : Int) (M : mm_T), V_ l w q_Reader_takesMap 9 ex_Z 38 [(0, xA a0), (1, xA a1), (2, xA a2), (3, xI v3)] [] M (lp_Reader_takesMap_38 kx99 a0 a1 a2 f v3 M) := by
  intro f
  induction f with
  | zero => intros; exact V_.none
  | succ f ih =>
    intro v3 M
    unfold lp_Reader_takesMap_38
    refine v_iloadn d_Reader_takesMap_38 rfl 3 rfl ?_
    refine v_aloadn d_Reader_takesMap_39 rfl 1 rfl ?_
    refine v_gI d_Reader_takesMap_40 fl_Reader_49 rfl (fun x40 => ?_)
    refine v_icge d_Reader_takesMap_43 ?_ ?_
    · refine v_sub (ls' := [(1, xA a1)]) [1] rfl ?_
      exact hkx99 M
    · refine v_aloadn d_Reader_takesMap_46 rfl 0 rfl ?_
      refine v_bipush d_Reader_takesMap_47 (by decide) ?_
      refine v_iloadn d_Reader_takesMap_49 rfl 3 rfl ?_
      refine v_iadd d_Reader_takesMap_50 (fun x50 => ?_)
      refine v_iconst d_Reader_takesMap_51 (by decide) ?_
      refine v_iconst d_Reader_takesMap_52 (by decide) ?_
      refine v_cVi d_Reader_takesMap_53 ml_Reader_168 (q := (RX4, TX4, 5)) rfl (c_Reader_takesPart l hfl a0 x50 1 1 M) (fun _ => rfl) (by decide) (by decide) (as := [xI x50, xI 1, xI 1]) (st1 := []) rfl rfl (Nat.le_of_ble_eq_true rfl) (fun c53 M => ?_)
      refine v_ifeq d_Reader_takesMap_56 ?_ ?_
      · refine v_iconst d_Reader_takesMap_74 (by decide) ?_
        exact v_zret d_Reader_takesMap_75 rfl
      · refine v_aloadn d_Reader_takesMap_59 rfl 0 rfl ?_
        refine v_bipush d_Reader_takesMap_60 (by decide) ?_
        refine v_aloadn d_Reader_takesMap_62 rfl 1 rfl ?_
        refine v_gI d_Reader_takesMap_63 fl_Reader_49 rfl (fun x63 => ?_)
        refine v_bipush d_Reader_takesMap_66 (by decide) ?_
        refine v_cVi d_Reader_takesMap_68 ml_Reader_168 (q := (RX4, TX4, 5)) rfl (c_Reader_takesPart l hfl a0 97 x63 6 M) (fun _ => rfl) (by decide) (by decide) (as := [xI 97, xI x63, xI 6]) (st1 := []) rfl rfl (Nat.le_of_ble_eq_true rfl) (fun c68 M => ?_)
        refine v_ifne d_Reader_takesMap_71 ?_ ?_
        · refine v_aloadn d_Reader_takesMap_76 rfl 2 rfl ?_
          refine v_iloadn d_Reader_takesMap_77 rfl 3 rfl ?_
          refine v_aloadn d_Reader_takesMap_78 rfl 0 rfl ?_
          refine v_gR d_Reader_takesMap_79 fl_Reader_12 rfl (fun r79 => ?_)
          refine v_aloadn d_Reader_takesMap_82 rfl 0 rfl ?_
          refine v_gI d_Reader_takesMap_83 fl_Reader_25 rfl (fun x83 => ?_)
          refine v_aloadn d_Reader_takesMap_86 rfl 0 rfl ?_
          refine v_gI d_Reader_takesMap_87 fl_Reader_18 rfl (fun x87 => ?_)
          refine v_cVv d_Reader_takesMap_90 ml_Reader_172 (q := (RX2, TX2, 3)) rfl (c_Morph_put l hfl a2 v3 r79 x83 x87 M) (fun _ => rfl) (by decide) (by decide) (as := [xI v3, xA r79, xI x83, xI x87]) (st1 := []) rfl rfl (Nat.le_of_ble_eq_true rfl) (fun _ M => ?_)
          refine v_iinc (lz := fun z => [(3, xI z), (0, xA a0), (1, xA a1), (2, xA a2)]) d_Reader_takesMap_93 3 rfl (Nat.le_of_ble_eq_true rfl) (fun _ => rfl) (fun v3_93 => ?_)
          refine v_goto d_Reader_takesMap_96 ?_
          refine v_sub (ls' := [(0, xA a0), (1, xA a1), (2, xA a2), (3, xI v3_93)]) [1, 2, 3, 0] rfl ?_
          exact ih v3_93 M
        · refine v_iconst d_Reader_takesMap_74 (by decide) ?_
          exact v_zret d_Reader_takesMap_75 rfl
set_option maxHeartbeats 4000000 in
set_option maxRecDepth 100000 in
theorem c_Reader_takesMap (l : Launch) (hfl : l.stackTraces = false) (a0 : Nat) (a1 : Nat) (M : mm_T) : vm_Con l yX4_takesMap (.code yX4_takesMap cX4_takesMap 4 (some .boolean)) 9 ex_Z [xA a0, xA a1] M (k_Reader_takesMap a0 a1 M) := by
  refine vm_con (y := q_Reader_takesMap) hfl (by decide +kernel) rfl (fun h => by cases h) (Nat.le_of_ble_eq_true rfl) rfl (fun _ _ _ => rfl) (fun r E h => by cases h) (fun w => ?_)
  show V_ l w q_Reader_takesMap 9 ex_Z 0 [(0, xA a0), (1, xA a1)] [] M (k_Reader_takesMap a0 a1 M)
  unfold k_Reader_takesMap
  refine v_aloadn d_Reader_takesMap_0 rfl 1 rfl ?_
  refine v_aloadn d_Reader_takesMap_1 rfl 1 rfl ?_
  refine v_gI d_Reader_takesMap_2 fl_Reader_151 rfl (fun x2 => ?_)
  refine v_cVq d_Reader_takesMap_5 ml_Reader_154 (q := (RX9, TX9, 8)) rfl (c_Told_mapAt l hfl a1 x2 M) (fun _ => rfl) (by decide) (by decide) (as := [xI x2]) (st1 := []) rfl rfl (Nat.le_of_ble_eq_true rfl) (fun c5 M => ?_)
  refine v_astoren (lz := fun z => [(2, xA z), (0, xA a0), (1, xA a1)]) d_Reader_takesMap_8 rfl (Nat.le_of_ble_eq_true rfl) (fun _ => rfl) (fun a2_8 => ?_)
  refine v_aloadn d_Reader_takesMap_9 rfl 0 rfl ?_
  refine v_ifnonnull d_Reader_takesMap_10 ?_ ?_
  · refine v_aloadn d_Reader_takesMap_22 rfl 1 rfl ?_
    refine v_aloadn d_Reader_takesMap_23 rfl 2 rfl ?_
    refine v_aloadn d_Reader_takesMap_24 rfl 0 rfl ?_
    refine v_gR d_Reader_takesMap_25 fl_Reader_158 rfl (fun r25 => ?_)
    refine v_cVi d_Reader_takesMap_28 ml_Reader_164 (q := (RX4, TX4, 5)) rfl (c_Reader_takesNewName l hfl a0 a1 r25 M) (fun _ => rfl) (by decide) (by decide) (as := [xA a1, xA r25]) (st1 := []) rfl rfl (Nat.le_of_ble_eq_true rfl) (fun c28 M => ?_)
    refine v_ifne d_Reader_takesMap_31 ?_ ?_
    · refine v_iconst d_Reader_takesMap_36 (by decide) ?_
      refine v_istoren (lz := fun z => [(3, xI z), (2, xA a2_8), (0, xA a0), (1, xA a1)]) d_Reader_takesMap_37 rfl (Nat.le_of_ble_eq_true rfl) (fun _ => rfl) (fun v3_37 => ?_)
      refine v_sub (ls' := [(0, xA a0), (1, xA a1), (2, xA a2_8), (3, xI v3_37)]) [2, 3, 1, 0] rfl ?_
      refine V_lp_Reader_takesMap_38 hfl _ _ _ _ (fun M => ?_) _ _ _
      · refine v_aloadn d_Reader_takesMap_99 rfl 0 rfl ?_
        refine v_dup d_Reader_takesMap_100 rfl ?_
        refine v_gI d_Reader_takesMap_101 fl_Reader_151 rfl (fun x101 => ?_)
        refine v_iconst d_Reader_takesMap_104 (by decide) ?_
        refine v_iadd d_Reader_takesMap_105 (fun x105 => ?_)
        refine v_pI d_Reader_takesMap_106 fl_Reader_151 (Or.inl rfl) rfl rfl (fun M => ?_)
        refine v_iconst d_Reader_takesMap_109 (by decide) ?_
        exact v_zret d_Reader_takesMap_110 rfl
    · refine v_iconst d_Reader_takesMap_34 (by decide) ?_
      exact v_zret d_Reader_takesMap_35 rfl
  · refine v_aloadn d_Reader_takesMap_13 rfl 1 rfl ?_
    refine v_aloadn d_Reader_takesMap_14 rfl 1 rfl ?_
    refine v_gI d_Reader_takesMap_15 fl_Reader_25 rfl (fun x15 => ?_)
    refine v_cVi d_Reader_takesMap_18 ml_Reader_75 (q := (RX4, TX4, 5)) rfl (c_Reader_miss l hfl a0 x15 M) (fun _ => rfl) (by decide) (by decide) (as := [xI x15]) (st1 := []) rfl rfl (Nat.le_of_ble_eq_true rfl) (fun c18 M => ?_)
    exact v_zret d_Reader_takesMap_21 rfl
set_option maxHeartbeats 4000000 in
set_option maxRecDepth 100000 in
theorem c_Shape_at (l : Launch) (hfl : l.stackTraces = false) (a0 : Nat) (v1 : Int) (M : mm_T) : vm_Con l yX6_at (.code yX6_at cX6_at 2 (some .int)) 1 ex_I [xA a0, xI v1] M (k_Shape_at a0 v1 M) := by
  refine vm_con (y := q_Shape_at) hfl (by decide +kernel) rfl (fun h => by cases h) (Nat.le_of_ble_eq_true rfl) rfl (fun _ _ _ => rfl) (fun r E h => by cases h) (fun w => ?_)
  show V_ l w q_Shape_at 1 ex_I 0 [(0, xA a0), (1, xI v1)] [] M (k_Shape_at a0 v1 M)
  unfold k_Shape_at
  refine v_iloadn d_Shape_at_0 rfl 1 rfl ?_
  refine v_join0 (pj := 30) (lj := []) (sj := []) (fun M => ?_) (fun j30 hj30 => ?_)
  · refine v_iconst d_Shape_at_30 (by decide) ?_
    exact v_ret d_Shape_at_31 rfl
  refine v_iflt d_Shape_at_1 ?_ ?_
  · refine v_sub (ls' := []) [] rfl ?_
    exact hj30 M
  · refine v_iloadn d_Shape_at_4 rfl 1 rfl ?_
    refine v_aloadn d_Shape_at_5 rfl 0 rfl ?_
    refine v_gI d_Shape_at_6 fl_Shape_22 rfl (fun x6 => ?_)
    refine v_icge d_Shape_at_9 ?_ ?_
    · refine v_sub (ls' := []) [] rfl ?_
      exact hj30 M
    · refine v_iloadn d_Shape_at_12 rfl 1 rfl ?_
      refine v_aloadn d_Shape_at_13 rfl 0 rfl ?_
      refine v_gR d_Shape_at_14 fl_Shape_18 rfl (fun r14 => ?_)
      refine v_alen (t := 0) d_Shape_at_17 rfl (fun x17 => ?_)
      refine v_icge d_Shape_at_18 ?_ ?_
      · refine v_sub (ls' := []) [] rfl ?_
        exact hj30 M
      · refine v_aloadn d_Shape_at_21 rfl 0 rfl ?_
        refine v_gR d_Shape_at_22 fl_Shape_18 rfl (fun r22 => ?_)
        refine v_iloadn d_Shape_at_25 rfl 1 rfl ?_
        refine v_iald d_Shape_at_26 (fun x26 => ?_)
        refine v_goto d_Shape_at_27 ?_
        exact v_ret d_Shape_at_31 rfl
set_option maxHeartbeats 4000000 in
set_option maxRecDepth 100000 in
theorem V_lp_Shape_times_4 {l : Launch} {w : vm_W} (hfl : l.stackTraces = false) (kx30 : Int → mm_T → Option (Int × mm_T)) (a0 : Nat) (v1 : Int) (hkx30 : ∀ (v2_e : Int) (M : mm_T), V_ l w q_Shape_times 2 ex_I 30 [(2, xI v2_e)] [] M (kx30 v2_e M)) : ∀ (f : Nat) (v2 : Int) (v3 : Int) (M : mm_T), V_ l w q_Shape_times 2 ex_I 4 [(0, xA a0), (1, xI v1), (2, xI v2), (3, xI v3)] [] M (lp_Shape_times_4 kx30 a0 v1 f v2 v3 M) := by
  intro f
  induction f with
  | zero => intros; exact V_.none
  | succ f ih =>
    intro v2 v3 M
    unfold lp_Shape_times_4
    refine v_iloadn d_Shape_times_4 rfl 3 rfl ?_
    refine v_aloadn d_Shape_times_5 rfl 0 rfl ?_
    refine v_gI d_Shape_times_6 fl_Shape_22 rfl (fun x6 => ?_)
    refine v_icge d_Shape_times_9 ?_ ?_
    · refine v_sub (ls' := [(2, xI v2)]) [2] rfl ?_
      exact hkx30 v2 M
    · refine v_aloadn d_Shape_times_12 rfl 0 rfl ?_
      refine v_iloadn d_Shape_times_13 rfl 3 rfl ?_
      refine v_cVi d_Shape_times_14 ml_Shape_43 (q := (RX6, TX6, 5)) rfl (c_Shape_at l hfl a0 v3 M) (fun _ => rfl) (by decide) (by decide) (as := [xI v3]) (st1 := []) rfl rfl (Nat.le_of_ble_eq_true rfl) (fun c14 M => ?_)
      refine v_iloadn d_Shape_times_17 rfl 1 rfl ?_
      refine v_join1 (pj := 24) (lj := fun v2_24 => [(0, xA a0), (1, xI v1), (2, xI v2_24), (3, xI v3)]) (sj := fun v2_24 => []) (fun v2_24 M => ?_) (fun j24 hj24 => ?_)
      · refine v_iinc (lz := fun z => [(3, xI z), (0, xA a0), (1, xI v1), (2, xI v2_24)]) d_Shape_times_24 3 rfl (Nat.le_of_ble_eq_true rfl) (fun _ => rfl) (fun v3_24 => ?_)
        refine v_goto d_Shape_times_27 ?_
        refine v_sub (ls' := [(0, xA a0), (1, xI v1), (2, xI v2_24), (3, xI v3_24)]) [1, 2, 3, 0] rfl ?_
        exact ih v2_24 v3_24 M
      refine v_icne d_Shape_times_18 ?_ ?_
      · exact hj24 v2 M
      · refine v_iinc (lz := fun z => [(2, xI z), (0, xA a0), (1, xI v1), (3, xI v3)]) d_Shape_times_21 2 rfl (Nat.le_of_ble_eq_true rfl) (fun _ => rfl) (fun v2_21 => ?_)
        refine v_sub (ls' := [(0, xA a0), (1, xI v1), (2, xI v2_21), (3, xI v3)]) [1, 2, 0, 3] rfl ?_
        exact hj24 v2_21 M
set_option maxHeartbeats 4000000 in
set_option maxRecDepth 100000 in
theorem c_Shape_times (l : Launch) (hfl : l.stackTraces = false) (a0 : Nat) (v1 : Int) (M : mm_T) : vm_Con l yX6_times (.code yX6_times cX6_times 4 (some .int)) 2 ex_I [xA a0, xI v1] M (k_Shape_times a0 v1 M) := by
  refine vm_con (y := q_Shape_times) hfl (by decide +kernel) rfl (fun h => by cases h) (Nat.le_of_ble_eq_true rfl) rfl (fun _ _ _ => rfl) (fun r E h => by cases h) (fun w => ?_)
  show V_ l w q_Shape_times 2 ex_I 0 [(0, xA a0), (1, xI v1)] [] M (k_Shape_times a0 v1 M)
  unfold k_Shape_times
  refine v_iconst d_Shape_times_0 (by decide) ?_
  refine v_istoren (lz := fun z => [(2, xI z), (0, xA a0), (1, xI v1)]) d_Shape_times_1 rfl (Nat.le_of_ble_eq_true rfl) (fun _ => rfl) (fun v2_1 => ?_)
  refine v_iconst d_Shape_times_2 (by decide) ?_
  refine v_istoren (lz := fun z => [(3, xI z), (2, xI v2_1), (0, xA a0), (1, xI v1)]) d_Shape_times_3 rfl (Nat.le_of_ble_eq_true rfl) (fun _ => rfl) (fun v3_3 => ?_)
  refine v_sub (ls' := [(0, xA a0), (1, xI v1), (2, xI v2_1), (3, xI v3_3)]) [2, 3, 1, 0] rfl ?_
  refine V_lp_Shape_times_4 hfl _ _ _ (fun v2_30 M => ?_) _ _ _ _
  · refine v_iloadn d_Shape_times_30 rfl 0 rfl ?_
    exact v_ret d_Shape_times_31 rfl
set_option maxHeartbeats 4000000 in
set_option maxRecDepth 100000 in
theorem V_lp_Shape_needingOne_4 {l : Launch} {w : vm_W} (hfl : l.stackTraces = false) (kx41 : Int → mm_T → Option (Int × mm_T)) (a0 : Nat) (hkx41 : ∀ (v1_e : Int) (M : mm_T), V_ l w q_Shape_needingOne 3 ex_I 41 [(0, xA a0), (1, xI v1_e)] [] M (kx41 v1_e M)) : ∀ (f : Nat) (v1 : Int) (v2 : Int) (M : mm_T), V_ l w q_Shape_needingOne 3 ex_I 4 [(0, xA a0), (1, xI v1), (2, xI v2)] [] M (lp_Shape_needingOne_4 kx41 a0 f v1 v2 M) := by
  intro f
  induction f with
  | zero => intros; exact V_.none
  | succ f ih =>
    intro v1 v2 M
    unfold lp_Shape_needingOne_4
    refine v_iloadn d_Shape_needingOne_4 rfl 2 rfl ?_
    refine v_aloadn d_Shape_needingOne_5 rfl 0 rfl ?_
    refine v_gI d_Shape_needingOne_6 fl_Shape_22 rfl (fun x6 => ?_)
    refine v_icge d_Shape_needingOne_9 ?_ ?_
    · refine v_sub (ls' := [(0, xA a0), (1, xI v1)]) [0, 1] rfl ?_
      exact hkx41 v1 M
    · refine v_iloadn d_Shape_needingOne_12 rfl 1 rfl ?_
      refine v_aloadn d_Shape_needingOne_13 rfl 0 rfl ?_
      refine v_aloadn d_Shape_needingOne_14 rfl 0 rfl ?_
      refine v_iloadn d_Shape_needingOne_15 rfl 2 rfl ?_
      refine v_cVi d_Shape_needingOne_16 ml_Shape_43 (q := (RX6, TX6, 5)) rfl (c_Shape_at l hfl a0 v2 M) (fun _ => rfl) (by decide) (by decide) (as := [xI v2]) (st1 := [xA a0, xI v1]) rfl rfl (Nat.le_of_ble_eq_true rfl) (fun c16 M => ?_)
      refine v_cVi d_Shape_needingOne_19 ml_Shape_44 (q := (RX6, TX6, 5)) rfl (c_Shape_times l hfl a0 c16 M) (fun _ => rfl) (by decide) (by decide) (as := [xI c16]) (st1 := [xI v1]) rfl rfl (Nat.le_of_ble_eq_true rfl) (fun c19 M => ?_)
      refine v_iconst d_Shape_needingOne_22 (by decide) ?_
      refine v_join2 (pj := 33) (lj := fun s0_33 s1_33 => [(0, xA a0), (2, xI v2)]) (sj := fun s0_33 s1_33 => [xI s1_33, xI s0_33]) (fun s0_33 s1_33 M => ?_) (fun j33 hj33 => ?_)
      · refine v_ior d_Shape_needingOne_33 ?_
        refine v_istoren (lz := fun z => [(1, xI z), (0, xA a0), (2, xI v2)]) d_Shape_needingOne_34 rfl (Nat.le_of_ble_eq_true rfl) (fun _ => rfl) (fun v1_34 => ?_)
        refine v_iinc (lz := fun z => [(2, xI z), (1, xI v1_34), (0, xA a0)]) d_Shape_needingOne_35 2 rfl (Nat.le_of_ble_eq_true rfl) (fun _ => rfl) (fun v2_35 => ?_)
        refine v_goto d_Shape_needingOne_38 ?_
        refine v_sub (ls' := [(0, xA a0), (1, xI v1_34), (2, xI v2_35)]) [2, 1, 0] rfl ?_
        exact ih v1_34 v2_35 M
      refine v_icne d_Shape_needingOne_23 ?_ ?_
      · refine v_iconst d_Shape_needingOne_32 (by decide) ?_
        refine v_sub (ls' := [(0, xA a0), (2, xI v2)]) [0, 2] rfl ?_
        exact hj33 v1 0 M
      · refine v_iconst d_Shape_needingOne_26 (by decide) ?_
        refine v_iloadn d_Shape_needingOne_27 rfl 2 rfl ?_
        refine v_ishl d_Shape_needingOne_28 ?_
        refine v_goto d_Shape_needingOne_29 ?_
        refine v_sub (ls' := [(0, xA a0), (2, xI v2)]) [0, 2] rfl ?_
        exact hj33 v1 (shl_ 1 v2) M
set_option maxHeartbeats 4000000 in
set_option maxRecDepth 100000 in
theorem V_lp_Shape_needingOne_49 {l : Launch} {w : vm_W} (hfl : l.stackTraces = false) (kx77 : Int → mm_T → Option (Int × mm_T)) (a0 : Nat) (v1 : Int) (hkx77 : ∀ (v2_e : Int) (M : mm_T), V_ l w q_Shape_needingOne 3 ex_I 77 [(0, xA a0), (1, xI v1), (2, xI v2_e)] [] M (kx77 v2_e M)) : ∀ (f : Nat) (v2 : Int) (v3 : Int) (M : mm_T), V_ l w q_Shape_needingOne 3 ex_I 49 [(0, xA a0), (1, xI v1), (2, xI v2), (3, xI v3)] [] M (lp_Shape_needingOne_49 kx77 a0 v1 f v2 v3 M) := by
  intro f
  induction f with
  | zero => intros; exact V_.none
  | succ f ih =>
    intro v2 v3 M
    unfold lp_Shape_needingOne_49
    refine v_iloadn d_Shape_needingOne_49 rfl 3 rfl ?_
    refine v_aloadn d_Shape_needingOne_50 rfl 0 rfl ?_
    refine v_gI d_Shape_needingOne_51 fl_Shape_22 rfl (fun x51 => ?_)
    refine v_icge d_Shape_needingOne_54 ?_ ?_
    · refine v_sub (ls' := [(0, xA a0), (1, xI v1), (2, xI v2)]) [0, 1, 2] rfl ?_
      exact hkx77 v2 M
    · refine v_iloadn d_Shape_needingOne_57 rfl 1 rfl ?_
      refine v_iloadn d_Shape_needingOne_58 rfl 3 rfl ?_
      refine v_ishr d_Shape_needingOne_59 ?_
      refine v_iconst d_Shape_needingOne_60 (by decide) ?_
      refine v_iand d_Shape_needingOne_61 ?_
      refine v_ifeq d_Shape_needingOne_62 ?_ ?_
      · refine v_sub (ls' := [(0, xA a0), (1, xI v1), (2, xI v2)]) [0, 1, 2] rfl ?_
        exact hkx77 v2 M
      · refine v_iloadn d_Shape_needingOne_65 rfl 2 rfl ?_
        refine v_iconst d_Shape_needingOne_66 (by decide) ?_
        refine v_iloadn d_Shape_needingOne_67 rfl 3 rfl ?_
        refine v_ishl d_Shape_needingOne_68 ?_
        refine v_ior d_Shape_needingOne_69 ?_
        refine v_istoren (lz := fun z => [(2, xI z), (0, xA a0), (1, xI v1), (3, xI v3)]) d_Shape_needingOne_70 rfl (Nat.le_of_ble_eq_true rfl) (fun _ => rfl) (fun v2_70 => ?_)
        refine v_iinc (lz := fun z => [(3, xI z), (2, xI v2_70), (0, xA a0), (1, xI v1)]) d_Shape_needingOne_71 3 rfl (Nat.le_of_ble_eq_true rfl) (fun _ => rfl) (fun v3_71 => ?_)
        refine v_goto d_Shape_needingOne_74 ?_
        refine v_sub (ls' := [(0, xA a0), (1, xI v1), (2, xI v2_70), (3, xI v3_71)]) [2, 3, 1, 0] rfl ?_
        exact ih v2_70 v3_71 M
set_option maxHeartbeats 4000000 in
set_option maxRecDepth 100000 in
theorem V_lp_Shape_needingOne_84 {l : Launch} {w : vm_W} (hfl : l.stackTraces = false) (kx108 : Int → mm_T → Option (Int × mm_T)) (v1 : Int) (hkx108 : ∀ (v2_e : Int) (M : mm_T), V_ l w q_Shape_needingOne 3 ex_I 108 [(2, xI v2_e)] [] M (kx108 v2_e M)) : ∀ (f : Nat) (v2 : Int) (v3 : Int) (M : mm_T), V_ l w q_Shape_needingOne 3 ex_I 84 [(1, xI v1), (2, xI v2), (3, xI v3)] [] M (lp_Shape_needingOne_84 kx108 v1 f v2 v3 M) := by
  intro f
  induction f with
  | zero => intros; exact V_.none
  | succ f ih =>
    intro v2 v3 M
    unfold lp_Shape_needingOne_84
    refine v_iloadn d_Shape_needingOne_84 rfl 2 rfl ?_
    refine v_iflt d_Shape_needingOne_85 ?_ ?_
    · refine v_sub (ls' := [(2, xI v2)]) [1] rfl ?_
      exact hkx108 v2 M
    · refine v_iloadn d_Shape_needingOne_88 rfl 0 rfl ?_
      refine v_iloadn d_Shape_needingOne_89 rfl 2 rfl ?_
      refine v_ishr d_Shape_needingOne_90 ?_
      refine v_iconst d_Shape_needingOne_91 (by decide) ?_
      refine v_iand d_Shape_needingOne_92 ?_
      refine v_ifeq d_Shape_needingOne_93 ?_ ?_
      · refine v_sub (ls' := [(2, xI v2)]) [1] rfl ?_
        exact hkx108 v2 M
      · refine v_iloadn d_Shape_needingOne_96 rfl 1 rfl ?_
        refine v_iconst d_Shape_needingOne_97 (by decide) ?_
        refine v_iloadn d_Shape_needingOne_98 rfl 2 rfl ?_
        refine v_ishl d_Shape_needingOne_99 ?_
        refine v_ior d_Shape_needingOne_100 ?_
        refine v_istoren (lz := fun z => [(2, xI z), (1, xI v1), (3, xI v3)]) d_Shape_needingOne_101 rfl (Nat.le_of_ble_eq_true rfl) (fun _ => rfl) (fun v2_101 => ?_)
        refine v_iinc (lz := fun z => [(3, xI z), (2, xI v2_101), (1, xI v1)]) d_Shape_needingOne_102 2 rfl (Nat.le_of_ble_eq_true rfl) (fun _ => rfl) (fun v3_102 => ?_)
        refine v_goto d_Shape_needingOne_105 ?_
        refine v_sub (ls' := [(1, xI v1), (2, xI v2_101), (3, xI v3_102)]) [2, 1, 0] rfl ?_
        exact ih v2_101 v3_102 M
set_option maxHeartbeats 4000000 in
set_option maxRecDepth 100000 in
theorem c_Shape_needingOne (l : Launch) (hfl : l.stackTraces = false) (a0 : Nat) (M : mm_T) : vm_Con l yX6_needingOne (.code yX6_needingOne cX6_needingOne 4 (some .int)) 3 ex_I [xA a0] M (k_Shape_needingOne a0 M) := by
  refine vm_con (y := q_Shape_needingOne) hfl (by decide +kernel) rfl (fun h => by cases h) (Nat.le_of_ble_eq_true rfl) rfl (fun _ _ _ => rfl) (fun r E h => by cases h) (fun w => ?_)
  show V_ l w q_Shape_needingOne 3 ex_I 0 [(0, xA a0)] [] M (k_Shape_needingOne a0 M)
  unfold k_Shape_needingOne
  refine v_iconst d_Shape_needingOne_0 (by decide) ?_
  refine v_istoren (lz := fun z => [(1, xI z), (0, xA a0)]) d_Shape_needingOne_1 rfl (Nat.le_of_ble_eq_true rfl) (fun _ => rfl) (fun v1_1 => ?_)
  refine v_iconst d_Shape_needingOne_2 (by decide) ?_
  refine v_istoren (lz := fun z => [(2, xI z), (1, xI v1_1), (0, xA a0)]) d_Shape_needingOne_3 rfl (Nat.le_of_ble_eq_true rfl) (fun _ => rfl) (fun v2_3 => ?_)
  refine v_sub (ls' := [(0, xA a0), (1, xI v1_1), (2, xI v2_3)]) [2, 1, 0] rfl ?_
  refine V_lp_Shape_needingOne_4 hfl _ _ (fun v1_41 M => ?_) _ _ _ _
  · refine v_iloadn d_Shape_needingOne_41 rfl 1 rfl ?_
    refine v_iloadn d_Shape_needingOne_42 rfl 1 rfl ?_
    refine v_iconst d_Shape_needingOne_43 (by decide) ?_
    refine v_ishl d_Shape_needingOne_44 ?_
    refine v_iand d_Shape_needingOne_45 ?_
    refine v_istoren (lz := fun z => [(2, xI z), (0, xA a0), (1, xI v1_41)]) d_Shape_needingOne_46 rfl (Nat.le_of_ble_eq_true rfl) (fun _ => rfl) (fun v2_46 => ?_)
    refine v_iconst d_Shape_needingOne_47 (by decide) ?_
    refine v_istoren (lz := fun z => [(3, xI z), (2, xI v2_46), (0, xA a0), (1, xI v1_41)]) d_Shape_needingOne_48 rfl (Nat.le_of_ble_eq_true rfl) (fun _ => rfl) (fun v3_48 => ?_)
    refine v_sub (ls' := [(0, xA a0), (1, xI v1_41), (2, xI v2_46), (3, xI v3_48)]) [2, 3, 1, 0] rfl ?_
    refine V_lp_Shape_needingOne_49 hfl _ _ _ (fun v2_77 M => ?_) _ _ _ _
    · refine v_aloadn d_Shape_needingOne_77 rfl 0 rfl ?_
      refine v_gI d_Shape_needingOne_78 fl_Shape_22 rfl (fun x78 => ?_)
      refine v_iconst d_Shape_needingOne_81 (by decide) ?_
      refine v_isub d_Shape_needingOne_82 (fun x82 => ?_)
      refine v_istoren (lz := fun z => [(3, xI z), (0, xA a0), (1, xI v1_41), (2, xI v2_77)]) d_Shape_needingOne_83 rfl (Nat.le_of_ble_eq_true rfl) (fun _ => rfl) (fun v3_83 => ?_)
      refine v_sub (ls' := [(1, xI v1_41), (2, xI v2_77), (3, xI v3_83)]) [2, 3, 0] rfl ?_
      refine V_lp_Shape_needingOne_84 hfl _ _ (fun v2_108 M => ?_) _ _ _ _
      · refine v_iloadn d_Shape_needingOne_108 rfl 0 rfl ?_
        exact v_ret d_Shape_needingOne_109 rfl
set_option maxHeartbeats 4000000 in
set_option maxRecDepth 100000 in
theorem V_lp_Shape_put_13 {l : Launch} {w : vm_W} (hfl : l.stackTraces = false) (kx65 : mm_T → Option (Unit × mm_T)) (a0 : Nat) (a1 : Nat) (v3 : Int) (hkx65 : ∀ (M : mm_T), V_ l w q_Shape_put 4 ex_V 65 [(0, xA a0)] [] M (kx65 M)) : ∀ (f : Nat) (v4 : Int) (M : mm_T), V_ l w q_Shape_put 4 ex_V 13 [(0, xA a0), (1, xA a1), (3, xI v3), (4, xI v4)] [] M (lp_Shape_put_13 kx65 a0 a1 v3 f v4 M) := by
  intro f
  induction f with
  | zero => intros; exact V_.none
  | succ f ih =>
    intro v4 M
    unfold lp_Shape_put_13
    refine v_iload d_Shape_put_13 3 rfl ?_
    refine v_iloadn d_Shape_put_15 rfl 2 rfl ?_
    refine v_icge d_Shape_put_16 ?_ ?_
    · refine v_sub (ls' := [(0, xA a0)]) [0] rfl ?_
      exact hkx65 M
    · refine v_aloadn d_Shape_put_19 rfl 0 rfl ?_
      refine v_gI d_Shape_put_20 fl_Shape_22 rfl (fun x20 => ?_)
      refine v_aloadn d_Shape_put_23 rfl 0 rfl ?_
      refine v_gR d_Shape_put_24 fl_Shape_18 rfl (fun r24 => ?_)
      refine v_alen (t := 0) d_Shape_put_27 rfl (fun x27 => ?_)
      refine v_icge d_Shape_put_28 ?_ ?_
      · refine v_sub (ls' := [(0, xA a0)]) [0] rfl ?_
        exact hkx65 M
      · refine v_aloadn d_Shape_put_31 rfl 0 rfl ?_
        refine v_gR d_Shape_put_32 fl_Shape_18 rfl (fun r32 => ?_)
        refine v_aloadn d_Shape_put_35 rfl 0 rfl ?_
        refine v_gI d_Shape_put_36 fl_Shape_22 rfl (fun x36 => ?_)
        refine v_aloadn d_Shape_put_39 rfl 1 rfl ?_
        refine v_iload d_Shape_put_40 3 rfl ?_
        refine v_cVi d_Shape_put_42 ml_Shape_33 (q := (RX8, TX8, 2)) rfl (c_Tape_at l hfl a1 v4 M) (fun _ => rfl) (by decide) (by decide) (as := [xI v4]) (st1 := [xI x36, xA r32]) rfl rfl (Nat.le_of_ble_eq_true rfl) (fun c42 M => ?_)
        refine v_bipush d_Shape_put_45 (by decide) ?_
        refine v_isub d_Shape_put_47 (fun x47 => ?_)
        refine v_iast d_Shape_put_48 (fun M => ?_)
        refine v_aloadn d_Shape_put_49 rfl 0 rfl ?_
        refine v_dup d_Shape_put_50 rfl ?_
        refine v_gI d_Shape_put_51 fl_Shape_22 rfl (fun x51 => ?_)
        refine v_iconst d_Shape_put_54 (by decide) ?_
        refine v_iadd d_Shape_put_55 (fun x55 => ?_)
        refine v_pI d_Shape_put_56 fl_Shape_22 (Or.inl rfl) rfl rfl (fun M => ?_)
        refine v_iinc (lz := fun z => [(4, xI z), (0, xA a0), (1, xA a1), (3, xI v3)]) d_Shape_put_59 3 rfl (Nat.le_of_ble_eq_true rfl) (fun _ => rfl) (fun v4_59 => ?_)
        refine v_goto d_Shape_put_62 ?_
        refine v_sub (ls' := [(0, xA a0), (1, xA a1), (3, xI v3), (4, xI v4_59)]) [1, 2, 3, 0] rfl ?_
        exact ih v4_59 M
set_option maxHeartbeats 4000000 in
set_option maxRecDepth 100000 in
theorem c_Shape_put (l : Launch) (hfl : l.stackTraces = false) (a0 : Nat) (a1 : Nat) (v2 : Int) (v3 : Int) (M : mm_T) : vm_Con l yX6_put (.code yX6_put cX6_put 5 none) 4 ex_V [xA a0, xA a1, xI v2, xI v3] M (k_Shape_put a0 a1 v2 v3 M) := by
  refine vm_con (y := q_Shape_put) hfl (by decide +kernel) rfl (fun h => by cases h) (Nat.le_of_ble_eq_true rfl) rfl (fun _ _ _ => rfl) (fun r E h => by cases h) (fun w => ?_)
  show V_ l w q_Shape_put 4 ex_V 0 [(0, xA a0), (1, xA a1), (2, xI v2), (3, xI v3)] [] M (k_Shape_put a0 a1 v2 v3 M)
  unfold k_Shape_put
  refine v_aloadn d_Shape_put_0 rfl 0 rfl ?_
  refine v_iconst d_Shape_put_1 (by decide) ?_
  refine v_pI d_Shape_put_2 fl_Shape_22 (Or.inl rfl) rfl rfl (fun M => ?_)
  refine v_aloadn d_Shape_put_5 rfl 0 rfl ?_
  refine v_iconst d_Shape_put_6 (by decide) ?_
  refine v_pZ d_Shape_put_7 fl_Shape_29 (Or.inl rfl) rfl rfl (fun M => ?_)
  refine v_iloadn d_Shape_put_10 rfl 2 rfl ?_
  refine v_istore (lz := fun z => [(4, xI z), (0, xA a0), (1, xA a1), (2, xI v2), (3, xI v3)]) d_Shape_put_11 (Nat.le_of_ble_eq_true rfl) (fun _ => rfl) (fun v4_11 => ?_)
  refine v_sub (ls' := [(0, xA a0), (1, xA a1), (3, xI v3), (4, xI v4_11)]) [1, 2, 4, 0] rfl ?_
  refine V_lp_Shape_put_13 hfl _ _ _ _ (fun M => ?_) _ _ _
  · refine v_aloadn d_Shape_put_65 rfl 0 rfl ?_
    refine v_aloadn d_Shape_put_66 rfl 0 rfl ?_
    refine v_cVi d_Shape_put_67 ml_Shape_39 (q := (RX6, TX6, 5)) rfl (c_Shape_needingOne l hfl a0 M) (fun _ => rfl) (by decide) (by decide) (as := []) (st1 := [xA a0]) rfl rfl (Nat.le_of_ble_eq_true rfl) (fun c67 M => ?_)
    refine v_pI d_Shape_put_70 fl_Shape_26 (Or.inl rfl) rfl rfl (fun M => ?_)
    exact v_vret d_Shape_put_73 rfl
set_option maxHeartbeats 4000000 in
set_option maxRecDepth 100000 in
theorem c_Reader_takesShape (l : Launch) (hfl : l.stackTraces = false) (a0 : Nat) (a1 : Nat) (M : mm_T) : vm_Con l yX4_takesShape (.code yX4_takesShape cX4_takesShape 3 (some .boolean)) 9 ex_Z [xA a0, xA a1] M (k_Reader_takesShape a0 a1 M) := by
  refine vm_con (y := q_Reader_takesShape) hfl (by decide +kernel) rfl (fun h => by cases h) (Nat.le_of_ble_eq_true rfl) rfl (fun _ _ _ => rfl) (fun r E h => by cases h) (fun w => ?_)
  show V_ l w q_Reader_takesShape 9 ex_Z 0 [(0, xA a0), (1, xA a1)] [] M (k_Reader_takesShape a0 a1 M)
  unfold k_Reader_takesShape
  refine v_aloadn d_Reader_takesShape_0 rfl 1 rfl ?_
  refine v_aloadn d_Reader_takesShape_1 rfl 1 rfl ?_
  refine v_gI d_Reader_takesShape_2 fl_Reader_175 rfl (fun x2 => ?_)
  refine v_cVq d_Reader_takesShape_5 ml_Reader_178 (q := (RX9, TX9, 8)) rfl (c_Told_shapeAt l hfl a1 x2 M) (fun _ => rfl) (by decide) (by decide) (as := [xI x2]) (st1 := []) rfl rfl (Nat.le_of_ble_eq_true rfl) (fun c5 M => ?_)
  refine v_astoren (lz := fun z => [(2, xA z), (0, xA a0), (1, xA a1)]) d_Reader_takesShape_8 rfl (Nat.le_of_ble_eq_true rfl) (fun _ => rfl) (fun a2_8 => ?_)
  refine v_aloadn d_Reader_takesShape_9 rfl 0 rfl ?_
  refine v_ifnonnull d_Reader_takesShape_10 ?_ ?_
  · refine v_aloadn d_Reader_takesShape_22 rfl 1 rfl ?_
    refine v_aloadn d_Reader_takesShape_23 rfl 2 rfl ?_
    refine v_aloadn d_Reader_takesShape_24 rfl 0 rfl ?_
    refine v_gR d_Reader_takesShape_25 fl_Reader_182 rfl (fun r25 => ?_)
    refine v_cVi d_Reader_takesShape_28 ml_Reader_164 (q := (RX4, TX4, 5)) rfl (c_Reader_takesNewName l hfl a0 a1 r25 M) (fun _ => rfl) (by decide) (by decide) (as := [xA a1, xA r25]) (st1 := []) rfl rfl (Nat.le_of_ble_eq_true rfl) (fun c28 M => ?_)
    refine v_ifeq d_Reader_takesShape_31 ?_ ?_
    · refine v_iconst d_Reader_takesShape_46 (by decide) ?_
      exact v_zret d_Reader_takesShape_47 rfl
    · refine v_aloadn d_Reader_takesShape_34 rfl 1 rfl ?_
      refine v_bipush d_Reader_takesShape_35 (by decide) ?_
      refine v_iconst d_Reader_takesShape_37 (by decide) ?_
      refine v_bipush d_Reader_takesShape_38 (by decide) ?_
      refine v_cVi d_Reader_takesShape_40 ml_Reader_168 (q := (RX4, TX4, 5)) rfl (c_Reader_takesPart l hfl a0 120 3 6 M) (fun _ => rfl) (by decide) (by decide) (as := [xI 120, xI 3, xI 6]) (st1 := []) rfl rfl (Nat.le_of_ble_eq_true rfl) (fun c40 M => ?_)
      refine v_ifne d_Reader_takesShape_43 ?_ ?_
      · refine v_aloadn d_Reader_takesShape_48 rfl 0 rfl ?_
        refine v_aloadn d_Reader_takesShape_49 rfl 1 rfl ?_
        refine v_gR d_Reader_takesShape_50 fl_Reader_12 rfl (fun r50 => ?_)
        refine v_aloadn d_Reader_takesShape_53 rfl 1 rfl ?_
        refine v_gI d_Reader_takesShape_54 fl_Reader_25 rfl (fun x54 => ?_)
        refine v_aloadn d_Reader_takesShape_57 rfl 1 rfl ?_
        refine v_gI d_Reader_takesShape_58 fl_Reader_18 rfl (fun x58 => ?_)
        refine v_cVv d_Reader_takesShape_61 ml_Reader_185 (q := (RX6, TX6, 5)) rfl (c_Shape_put l hfl a2_8 r50 x54 x58 M) (fun _ => rfl) (by decide) (by decide) (as := [xA r50, xI x54, xI x58]) (st1 := []) rfl rfl (Nat.le_of_ble_eq_true rfl) (fun _ M => ?_)
        refine v_aloadn d_Reader_takesShape_64 rfl 2 rfl ?_
        refine v_dup d_Reader_takesShape_65 rfl ?_
        refine v_gI d_Reader_takesShape_66 fl_Reader_175 rfl (fun x66 => ?_)
        refine v_iconst d_Reader_takesShape_69 (by decide) ?_
        refine v_iadd d_Reader_takesShape_70 (fun x70 => ?_)
        refine v_pI d_Reader_takesShape_71 fl_Reader_175 (Or.inl rfl) rfl rfl (fun M => ?_)
        refine v_iconst d_Reader_takesShape_74 (by decide) ?_
        exact v_zret d_Reader_takesShape_75 rfl
      · refine v_iconst d_Reader_takesShape_46 (by decide) ?_
        exact v_zret d_Reader_takesShape_47 rfl
  · refine v_aloadn d_Reader_takesShape_13 rfl 1 rfl ?_
    refine v_aloadn d_Reader_takesShape_14 rfl 1 rfl ?_
    refine v_gI d_Reader_takesShape_15 fl_Reader_25 rfl (fun x15 => ?_)
    refine v_cVi d_Reader_takesShape_18 ml_Reader_75 (q := (RX4, TX4, 5)) rfl (c_Reader_miss l hfl a0 x15 M) (fun _ => rfl) (by decide) (by decide) (as := [xI x15]) (st1 := []) rfl rfl (Nat.le_of_ble_eq_true rfl) (fun c18 M => ?_)
    exact v_zret d_Reader_takesShape_21 rfl
set_option maxHeartbeats 4000000 in
set_option maxRecDepth 100000 in
theorem c_Reader_takesLine (l : Launch) (hfl : l.stackTraces = false) (a0 : Nat) (a1 : Nat) (M : mm_T) : vm_Con l yX4_takesLine (.code yX4_takesLine cX4_takesLine 2 (some .boolean)) 10 ex_Z [xA a0, xA a1] M (k_Reader_takesLine a0 a1 M) := by
  refine vm_con (y := q_Reader_takesLine) hfl (by decide +kernel) rfl (fun h => by cases h) (Nat.le_of_ble_eq_true rfl) rfl (fun _ _ _ => rfl) (fun r E h => by cases h) (fun w => ?_)
  show V_ l w q_Reader_takesLine 10 ex_Z 0 [(0, xA a0), (1, xA a1)] [] M (k_Reader_takesLine a0 a1 M)
  unfold k_Reader_takesLine
  refine v_aloadn d_Reader_takesLine_0 rfl 0 rfl ?_
  refine v_cVi d_Reader_takesLine_1 ml_Reader_95 (q := (RX4, TX4, 5)) rfl (c_Reader_takesWord l hfl a0 M) (fun _ => rfl) (by decide) (by decide) (as := []) (st1 := []) rfl rfl (Nat.le_of_ble_eq_true rfl) (fun c1 M => ?_)
  refine v_ifne d_Reader_takesLine_4 ?_ ?_
  · refine v_aloadn d_Reader_takesLine_9 rfl 0 rfl ?_
    refine v_ldcS (i := 1) d_Reader_takesLine_10 (by decide +kernel) (by decide) ?_
    refine v_cVi d_Reader_takesLine_12 ml_Reader_99 (q := (RX4, TX4, 5)) rfl (c_Reader_isWord l hfl a0 3 M) (fun _ => rfl) (by decide) (by decide) (as := [xA 3]) (st1 := []) rfl rfl (Nat.le_of_ble_eq_true rfl) (fun c12 M => ?_)
    refine v_join0 (pj := 31) (lj := [(0, xA a0), (1, xA a1)]) (sj := []) (fun M => ?_) (fun j31 hj31 => ?_)
    · refine v_aloadn d_Reader_takesLine_31 rfl 0 rfl ?_
      refine v_ldcS (i := 5) d_Reader_takesLine_32 (by decide +kernel) (by decide) ?_
      refine v_cVi d_Reader_takesLine_34 ml_Reader_99 (q := (RX4, TX4, 5)) rfl (c_Reader_isWord l hfl a0 7 M) (fun _ => rfl) (by decide) (by decide) (as := [xA 7]) (st1 := []) rfl rfl (Nat.le_of_ble_eq_true rfl) (fun c34 M => ?_)
      refine v_ifeq d_Reader_takesLine_37 ?_ ?_
      · refine v_aloadn d_Reader_takesLine_46 rfl 0 rfl ?_
        refine v_ldcS (i := 6) d_Reader_takesLine_47 (by decide +kernel) (by decide) ?_
        refine v_cVi d_Reader_takesLine_49 ml_Reader_99 (q := (RX4, TX4, 5)) rfl (c_Reader_isWord l hfl a0 8 M) (fun _ => rfl) (by decide) (by decide) (as := [xA 8]) (st1 := []) rfl rfl (Nat.le_of_ble_eq_true rfl) (fun c49 M => ?_)
        refine v_ifeq d_Reader_takesLine_52 ?_ ?_
        · refine v_aloadn d_Reader_takesLine_61 rfl 0 rfl ?_
          refine v_ldcS (i := 7) d_Reader_takesLine_62 (by decide +kernel) (by decide) ?_
          refine v_cVi d_Reader_takesLine_64 ml_Reader_99 (q := (RX4, TX4, 5)) rfl (c_Reader_isWord l hfl a0 9 M) (fun _ => rfl) (by decide) (by decide) (as := [xA 9]) (st1 := []) rfl rfl (Nat.le_of_ble_eq_true rfl) (fun c64 M => ?_)
          refine v_ifeq d_Reader_takesLine_67 ?_ ?_
          · refine v_aloadn d_Reader_takesLine_78 rfl 0 rfl ?_
            refine v_aloadn d_Reader_takesLine_79 rfl 0 rfl ?_
            refine v_gI d_Reader_takesLine_80 fl_Reader_25 rfl (fun x80 => ?_)
            refine v_cVi d_Reader_takesLine_83 ml_Reader_75 (q := (RX4, TX4, 5)) rfl (c_Reader_miss l hfl a0 x80 M) (fun _ => rfl) (by decide) (by decide) (as := [xI x80]) (st1 := []) rfl rfl (Nat.le_of_ble_eq_true rfl) (fun c83 M => ?_)
            exact v_zret d_Reader_takesLine_86 rfl
          · refine v_aloadn d_Reader_takesLine_70 rfl 0 rfl ?_
            refine v_aloadn d_Reader_takesLine_71 rfl 1 rfl ?_
            refine v_cVi d_Reader_takesLine_72 ml_Reader_125 (q := (RX4, TX4, 5)) rfl (c_Reader_takesAvoid l hfl a0 a1 M) (fun _ => rfl) (by decide) (by decide) (as := [xA a1]) (st1 := []) rfl rfl (Nat.le_of_ble_eq_true rfl) (fun c72 M => ?_)
            refine v_goto d_Reader_takesLine_75 ?_
            exact v_zret d_Reader_takesLine_86 rfl
        · refine v_aloadn d_Reader_takesLine_55 rfl 0 rfl ?_
          refine v_aloadn d_Reader_takesLine_56 rfl 1 rfl ?_
          refine v_cVi d_Reader_takesLine_57 ml_Reader_120 (q := (RX4, TX4, 5)) rfl (c_Reader_takesShape l hfl a0 a1 M) (fun _ => rfl) (by decide) (by decide) (as := [xA a1]) (st1 := []) rfl rfl (Nat.le_of_ble_eq_true rfl) (fun c57 M => ?_)
          exact v_zret d_Reader_takesLine_60 rfl
      · refine v_aloadn d_Reader_takesLine_40 rfl 0 rfl ?_
        refine v_aloadn d_Reader_takesLine_41 rfl 1 rfl ?_
        refine v_cVi d_Reader_takesLine_42 ml_Reader_115 (q := (RX4, TX4, 5)) rfl (c_Reader_takesMap l hfl a0 a1 M) (fun _ => rfl) (by decide) (by decide) (as := [xA a1]) (st1 := []) rfl rfl (Nat.le_of_ble_eq_true rfl) (fun c42 M => ?_)
        exact v_zret d_Reader_takesLine_45 rfl
    refine v_ifeq d_Reader_takesLine_15 ?_ ?_
    · exact hj31 M
    · refine v_aloadn d_Reader_takesLine_18 rfl 1 rfl ?_
      refine v_gI d_Reader_takesLine_19 fl_Reader_107 rfl (fun x19 => ?_)
      refine v_ifne d_Reader_takesLine_22 ?_ ?_
      · exact hj31 M
      · refine v_aloadn d_Reader_takesLine_25 rfl 0 rfl ?_
        refine v_aloadn d_Reader_takesLine_26 rfl 1 rfl ?_
        refine v_cVi d_Reader_takesLine_27 ml_Reader_110 (q := (RX4, TX4, 5)) rfl (c_Reader_takesLimit l hfl a0 a1 M) (fun _ => rfl) (by decide) (by decide) (as := [xA a1]) (st1 := []) rfl rfl (Nat.le_of_ble_eq_true rfl) (fun c27 M => ?_)
        exact v_zret d_Reader_takesLine_30 rfl
  · refine v_iconst d_Reader_takesLine_7 (by decide) ?_
    exact v_zret d_Reader_takesLine_8 rfl
set_option maxHeartbeats 4000000 in
set_option maxRecDepth 100000 in
theorem c_Reader_takesSign (l : Launch) (hfl : l.stackTraces = false) (a0 : Nat) (v1 : Int) (M : mm_T) : vm_Con l yX4_takesSign (.code yX4_takesSign cX4_takesSign 2 (some .boolean)) 3 ex_Z [xA a0, xI v1] M (k_Reader_takesSign a0 v1 M) := by
  refine vm_con (y := q_Reader_takesSign) hfl (by decide +kernel) rfl (fun h => by cases h) (Nat.le_of_ble_eq_true rfl) rfl (fun _ _ _ => rfl) (fun r E h => by cases h) (fun w => ?_)
  show V_ l w q_Reader_takesSign 3 ex_Z 0 [(0, xA a0), (1, xI v1)] [] M (k_Reader_takesSign a0 v1 M)
  unfold k_Reader_takesSign
  refine v_aloadn d_Reader_takesSign_0 rfl 0 rfl ?_
  refine v_cVv d_Reader_takesSign_1 ml_Reader_55 (q := (RX4, TX4, 5)) rfl (c_Reader_skipBlanks l hfl a0 M) (fun _ => rfl) (by decide) (by decide) (as := []) (st1 := []) rfl rfl (Nat.le_of_ble_eq_true rfl) (fun _ M => ?_)
  refine v_aloadn d_Reader_takesSign_4 rfl 0 rfl ?_
  refine v_gR d_Reader_takesSign_5 fl_Reader_12 rfl (fun r5 => ?_)
  refine v_aloadn d_Reader_takesSign_8 rfl 0 rfl ?_
  refine v_gI d_Reader_takesSign_9 fl_Reader_18 rfl (fun x9 => ?_)
  refine v_cVi d_Reader_takesSign_12 ml_Reader_68 (q := (RX8, TX8, 2)) rfl (c_Tape_at l hfl r5 x9 M) (fun _ => rfl) (by decide) (by decide) (as := [xI x9]) (st1 := []) rfl rfl (Nat.le_of_ble_eq_true rfl) (fun c12 M => ?_)
  refine v_iloadn d_Reader_takesSign_15 rfl 1 rfl ?_
  refine v_iceq d_Reader_takesSign_16 ?_ ?_
  · refine v_aloadn d_Reader_takesSign_28 rfl 0 rfl ?_
    refine v_dup d_Reader_takesSign_29 rfl ?_
    refine v_gI d_Reader_takesSign_30 fl_Reader_18 rfl (fun x30 => ?_)
    refine v_iconst d_Reader_takesSign_33 (by decide) ?_
    refine v_iadd d_Reader_takesSign_34 (fun x34 => ?_)
    refine v_pI d_Reader_takesSign_35 fl_Reader_18 (Or.inl rfl) rfl rfl (fun M => ?_)
    refine v_iconst d_Reader_takesSign_38 (by decide) ?_
    exact v_zret d_Reader_takesSign_39 rfl
  · refine v_aloadn d_Reader_takesSign_19 rfl 0 rfl ?_
    refine v_aloadn d_Reader_takesSign_20 rfl 0 rfl ?_
    refine v_gI d_Reader_takesSign_21 fl_Reader_18 rfl (fun x21 => ?_)
    refine v_cVi d_Reader_takesSign_24 ml_Reader_75 (q := (RX4, TX4, 5)) rfl (c_Reader_miss l hfl a0 x21 M) (fun _ => rfl) (by decide) (by decide) (as := [xI x21]) (st1 := []) rfl rfl (Nat.le_of_ble_eq_true rfl) (fun c24 M => ?_)
    exact v_zret d_Reader_takesSign_27 rfl
set_option maxHeartbeats 4000000 in
set_option maxRecDepth 100000 in
theorem c_Told_clear (l : Launch) (hfl : l.stackTraces = false) (a0 : Nat) (M : mm_T) : vm_Con l yX9_clear (.code yX9_clear cX9_clear 1 none) 2 ex_V [xA a0] M (k_Told_clear a0 M) := by
  refine vm_con (y := q_Told_clear) hfl (by decide +kernel) rfl (fun h => by cases h) (Nat.le_of_ble_eq_true rfl) rfl (fun _ _ _ => rfl) (fun r E h => by cases h) (fun w => ?_)
  show V_ l w q_Told_clear 2 ex_V 0 [(0, xA a0)] [] M (k_Told_clear a0 M)
  unfold k_Told_clear
  refine v_aloadn d_Told_clear_0 rfl 0 rfl ?_
  refine v_iconst d_Told_clear_1 (by decide) ?_
  refine v_pI d_Told_clear_2 fl_Told_23 (Or.inl rfl) rfl rfl (fun M => ?_)
  refine v_aloadn d_Told_clear_5 rfl 0 rfl ?_
  refine v_iconst d_Told_clear_6 (by decide) ?_
  refine v_iconst d_Told_clear_7 (by decide) ?_
  refine v_iconst d_Told_clear_8 (by decide) ?_
  refine v_cVv d_Told_clear_9 ml_Told_44 (q := (RX9, TX9, 8)) rfl (c_Told_setLimit l hfl a0 0 0 0 M) (fun _ => rfl) (by decide) (by decide) (as := [xI 0, xI 0, xI 0]) (st1 := []) rfl rfl (Nat.le_of_ble_eq_true rfl) (fun _ M => ?_)
  refine v_aloadn d_Told_clear_12 rfl 0 rfl ?_
  refine v_iconst d_Told_clear_13 (by decide) ?_
  refine v_pI d_Told_clear_14 fl_Told_36 (Or.inl rfl) rfl rfl (fun M => ?_)
  refine v_aloadn d_Told_clear_17 rfl 0 rfl ?_
  refine v_iconst d_Told_clear_18 (by decide) ?_
  refine v_pI d_Told_clear_19 fl_Told_39 (Or.inl rfl) rfl rfl (fun M => ?_)
  exact v_vret d_Told_clear_22 rfl
set_option maxHeartbeats 4000000 in
set_option maxRecDepth 100000 in
theorem V_lp_Reader_takesText_49 {l : Launch} {w : vm_W} (hfl : l.stackTraces = false) (kx107 : Int → mm_T → Option (Int × mm_T)) (a0 : Nat) (a1 : Nat) (hkx107 : ∀ (v2_e : Int) (M : mm_T), V_ l w q_Reader_takesText 11 ex_Z 107 [(2, xI v2_e)] [] M (kx107 v2_e M)) : ∀ (f : Nat) (v2 : Int) (v3 : Int) (M : mm_T), V_ l w q_Reader_takesText 11 ex_Z 49 [(0, xA a0), (1, xA a1), (2, xI v2), (3, xI v3)] [] M (lp_Reader_takesText_49 kx107 a0 a1 f v2 v3 M) := by
  intro f
  induction f with
  | zero => intros; exact V_.none
  | succ f ih =>
    intro v2 v3 M
    unfold lp_Reader_takesText_49
    refine v_iloadn d_Reader_takesText_49 rfl 3 rfl ?_
    refine v_sipush d_Reader_takesText_50 (by decide) ?_
    refine v_icge d_Reader_takesText_53 ?_ ?_
    · refine v_sub (ls' := [(2, xI v2)]) [2] rfl ?_
      exact hkx107 v2 M
    · refine v_iloadn d_Reader_takesText_56 rfl 2 rfl ?_
      refine v_ifeq d_Reader_takesText_57 ?_ ?_
      · refine v_sub (ls' := [(2, xI v2)]) [2] rfl ?_
        exact hkx107 v2 M
      · refine v_aloadn d_Reader_takesText_60 rfl 0 rfl ?_
        refine v_gI d_Reader_takesText_61 fl_Reader_18 rfl (fun x61 => ?_)
        refine v_aloadn d_Reader_takesText_64 rfl 0 rfl ?_
        refine v_gR d_Reader_takesText_65 fl_Reader_12 rfl (fun r65 => ?_)
        refine v_gI d_Reader_takesText_68 fl_Reader_58 rfl (fun x68 => ?_)
        refine v_icge d_Reader_takesText_71 ?_ ?_
        · refine v_sub (ls' := [(2, xI v2)]) [2] rfl ?_
          exact hkx107 v2 M
        · refine v_aloadn d_Reader_takesText_74 rfl 0 rfl ?_
          refine v_aloadn d_Reader_takesText_75 rfl 1 rfl ?_
          refine v_cVi d_Reader_takesText_76 ml_Reader_61 (q := (RX4, TX4, 5)) rfl (c_Reader_takesLine l hfl a0 a1 M) (fun _ => rfl) (by decide) (by decide) (as := [xA a1]) (st1 := []) rfl rfl (Nat.le_of_ble_eq_true rfl) (fun c76 M => ?_)
          refine v_join1 (pj := 96) (lj := fun s0_96 => [(0, xA a0), (1, xA a1), (3, xI v3)]) (sj := fun s0_96 => [xI s0_96]) (fun s0_96 M => ?_) (fun j96 hj96 => ?_)
          · refine v_istoren (lz := fun z => [(2, xI z), (0, xA a0), (1, xA a1), (3, xI v3)]) d_Reader_takesText_96 rfl (Nat.le_of_ble_eq_true rfl) (fun _ => rfl) (fun v2_96 => ?_)
            refine v_aloadn d_Reader_takesText_97 rfl 1 rfl ?_
            refine v_cVv d_Reader_takesText_98 ml_Reader_55 (q := (RX4, TX4, 5)) rfl (c_Reader_skipBlanks l hfl a0 M) (fun _ => rfl) (by decide) (by decide) (as := []) (st1 := []) rfl rfl (Nat.le_of_ble_eq_true rfl) (fun _ M => ?_)
            refine v_iinc (lz := fun z => [(3, xI z), (2, xI v2_96), (0, xA a0), (1, xA a1)]) d_Reader_takesText_101 3 rfl (Nat.le_of_ble_eq_true rfl) (fun _ => rfl) (fun v3_101 => ?_)
            refine v_goto d_Reader_takesText_104 ?_
            refine v_sub (ls' := [(0, xA a0), (1, xA a1), (2, xI v2_96), (3, xI v3_101)]) [2, 3, 1, 0] rfl ?_
            exact ih v2_96 v3_101 M
          refine v_join0 (pj := 95) (lj := [(0, xA a0), (1, xA a1), (3, xI v3)]) (sj := []) (fun M => ?_) (fun j95 hj95 => ?_)
          · refine v_iconst d_Reader_takesText_95 (by decide) ?_
            exact hj96 0 M
          refine v_ifeq d_Reader_takesText_79 ?_ ?_
          · refine v_sub (ls' := [(0, xA a0), (1, xA a1), (3, xI v3)]) [0, 1, 3] rfl ?_
            exact hj95 M
          · refine v_aloadn d_Reader_takesText_82 rfl 0 rfl ?_
            refine v_bipush d_Reader_takesText_83 (by decide) ?_
            refine v_cVi d_Reader_takesText_85 ml_Reader_51 (q := (RX4, TX4, 5)) rfl (c_Reader_takesSign l hfl a0 59 M) (fun _ => rfl) (by decide) (by decide) (as := [xI 59]) (st1 := []) rfl rfl (Nat.le_of_ble_eq_true rfl) (fun c85 M => ?_)
            refine v_ifeq d_Reader_takesText_88 ?_ ?_
            · refine v_sub (ls' := [(0, xA a0), (1, xA a1), (3, xI v3)]) [0, 1, 3] rfl ?_
              exact hj95 M
            · refine v_iconst d_Reader_takesText_91 (by decide) ?_
              refine v_goto d_Reader_takesText_92 ?_
              refine v_sub (ls' := [(0, xA a0), (1, xA a1), (3, xI v3)]) [0, 1, 3] rfl ?_
              exact hj96 1 M
set_option maxHeartbeats 4000000 in
set_option maxRecDepth 100000 in
theorem c_Reader_takesText (l : Launch) (hfl : l.stackTraces = false) (a0 : Nat) (a1 : Nat) (M : mm_T) : vm_Con l yX4_takesText (.code yX4_takesText cX4_takesText 4 (some .boolean)) 11 ex_Z [xA a0, xA a1] M (k_Reader_takesText a0 a1 M) := by
  refine vm_con (y := q_Reader_takesText) hfl (by decide +kernel) rfl (fun h => by cases h) (Nat.le_of_ble_eq_true rfl) rfl (fun _ _ _ => rfl) (fun r E h => by cases h) (fun w => ?_)
  show V_ l w q_Reader_takesText 11 ex_Z 0 [(0, xA a0), (1, xA a1)] [] M (k_Reader_takesText a0 a1 M)
  unfold k_Reader_takesText
  refine v_aloadn d_Reader_takesText_0 rfl 0 rfl ?_
  refine v_cVv d_Reader_takesText_1 ml_Reader_31 (q := (RX4, TX4, 5)) rfl (c_Reader_begin l hfl a0 M) (fun _ => rfl) (by decide) (by decide) (as := []) (st1 := []) rfl rfl (Nat.le_of_ble_eq_true rfl) (fun _ M => ?_)
  refine v_aloadn d_Reader_takesText_4 rfl 1 rfl ?_
  refine v_cVv d_Reader_takesText_5 ml_Reader_34 (q := (RX9, TX9, 8)) rfl (c_Told_clear l hfl a1 M) (fun _ => rfl) (by decide) (by decide) (as := []) (st1 := []) rfl rfl (Nat.le_of_ble_eq_true rfl) (fun _ M => ?_)
  refine v_aloadn d_Reader_takesText_8 rfl 0 rfl ?_
  refine v_ldcS (i := 0) d_Reader_takesText_9 (by decide +kernel) (by decide) ?_
  refine v_cVi d_Reader_takesText_11 ml_Reader_41 (q := (RX4, TX4, 5)) rfl (c_Reader_takesKeyword l hfl a0 2 M) (fun _ => rfl) (by decide) (by decide) (as := [xA 2]) (st1 := []) rfl rfl (Nat.le_of_ble_eq_true rfl) (fun c11 M => ?_)
  refine v_ifeq d_Reader_takesText_14 ?_ ?_
  · refine v_iconst d_Reader_takesText_26 (by decide) ?_
    exact v_zret d_Reader_takesText_27 rfl
  · refine v_aloadn d_Reader_takesText_17 rfl 0 rfl ?_
    refine v_iconst d_Reader_takesText_18 (by decide) ?_
    refine v_iconst d_Reader_takesText_19 (by decide) ?_
    refine v_cVi d_Reader_takesText_20 ml_Reader_45 (q := (RX4, TX4, 5)) rfl (c_Reader_takesNumber l hfl a0 2 4 M) (fun _ => rfl) (by decide) (by decide) (as := [xI 2, xI 4]) (st1 := []) rfl rfl (Nat.le_of_ble_eq_true rfl) (fun c20 M => ?_)
    refine v_ifne d_Reader_takesText_23 ?_ ?_
    · refine v_aloadn d_Reader_takesText_28 rfl 1 rfl ?_
      refine v_aloadn d_Reader_takesText_29 rfl 0 rfl ?_
      refine v_gI d_Reader_takesText_30 fl_Reader_28 rfl (fun x30 => ?_)
      refine v_pI d_Reader_takesText_33 fl_Reader_49 (Or.inl rfl) rfl rfl (fun M => ?_)
      refine v_aloadn d_Reader_takesText_36 rfl 0 rfl ?_
      refine v_bipush d_Reader_takesText_37 (by decide) ?_
      refine v_cVi d_Reader_takesText_39 ml_Reader_51 (q := (RX4, TX4, 5)) rfl (c_Reader_takesSign l hfl a0 59 M) (fun _ => rfl) (by decide) (by decide) (as := [xI 59]) (st1 := []) rfl rfl (Nat.le_of_ble_eq_true rfl) (fun c39 M => ?_)
      refine v_istoren (lz := fun z => [(2, xI z), (0, xA a0), (1, xA a1)]) d_Reader_takesText_42 rfl (Nat.le_of_ble_eq_true rfl) (fun _ => rfl) (fun v2_42 => ?_)
      refine v_aloadn d_Reader_takesText_43 rfl 1 rfl ?_
      refine v_cVv d_Reader_takesText_44 ml_Reader_55 (q := (RX4, TX4, 5)) rfl (c_Reader_skipBlanks l hfl a0 M) (fun _ => rfl) (by decide) (by decide) (as := []) (st1 := []) rfl rfl (Nat.le_of_ble_eq_true rfl) (fun _ M => ?_)
      refine v_iconst d_Reader_takesText_47 (by decide) ?_
      refine v_istoren (lz := fun z => [(3, xI z), (2, xI v2_42), (0, xA a0), (1, xA a1)]) d_Reader_takesText_48 rfl (Nat.le_of_ble_eq_true rfl) (fun _ => rfl) (fun v3_48 => ?_)
      refine v_sub (ls' := [(0, xA a0), (1, xA a1), (2, xI v2_42), (3, xI v3_48)]) [2, 3, 1, 0] rfl ?_
      refine V_lp_Reader_takesText_49 hfl _ _ _ (fun v2_107 M => ?_) _ _ _ _
      · refine v_iloadn d_Reader_takesText_107 rfl 0 rfl ?_
        exact v_zret d_Reader_takesText_108 rfl
    · refine v_iconst d_Reader_takesText_26 (by decide) ?_
      exact v_zret d_Reader_takesText_27 rfl
set_option maxHeartbeats 4000000 in
set_option maxRecDepth 100000 in
theorem c_Line_at (l : Launch) (hfl : l.stackTraces = false) (a0 : Nat) (v1 : Int) (M : mm_T) : vm_Con l yX1_at (.code yX1_at cX1_at 2 (some .int)) 1 ex_I [xA a0, xI v1] M (k_Line_at a0 v1 M) := by
  refine vm_con (y := q_Line_at) hfl (by decide +kernel) rfl (fun h => by cases h) (Nat.le_of_ble_eq_true rfl) rfl (fun _ _ _ => rfl) (fun r E h => by cases h) (fun w => ?_)
  show V_ l w q_Line_at 1 ex_I 0 [(0, xA a0), (1, xI v1)] [] M (k_Line_at a0 v1 M)
  unfold k_Line_at
  refine v_iloadn d_Line_at_0 rfl 1 rfl ?_
  refine v_join0 (pj := 30) (lj := []) (sj := []) (fun M => ?_) (fun j30 hj30 => ?_)
  · refine v_iconst d_Line_at_30 (by decide) ?_
    exact v_ret d_Line_at_31 rfl
  refine v_iflt d_Line_at_1 ?_ ?_
  · refine v_sub (ls' := []) [] rfl ?_
    exact hj30 M
  · refine v_iloadn d_Line_at_4 rfl 1 rfl ?_
    refine v_aloadn d_Line_at_5 rfl 0 rfl ?_
    refine v_gI d_Line_at_6 fl_Line_30 rfl (fun x6 => ?_)
    refine v_icge d_Line_at_9 ?_ ?_
    · refine v_sub (ls' := []) [] rfl ?_
      exact hj30 M
    · refine v_iloadn d_Line_at_12 rfl 1 rfl ?_
      refine v_aloadn d_Line_at_13 rfl 0 rfl ?_
      refine v_gR d_Line_at_14 fl_Line_9 rfl (fun r14 => ?_)
      refine v_alen (t := 0) d_Line_at_17 rfl (fun x17 => ?_)
      refine v_icge d_Line_at_18 ?_ ?_
      · refine v_sub (ls' := []) [] rfl ?_
        exact hj30 M
      · refine v_aloadn d_Line_at_21 rfl 0 rfl ?_
        refine v_gR d_Line_at_22 fl_Line_9 rfl (fun r22 => ?_)
        refine v_iloadn d_Line_at_25 rfl 1 rfl ?_
        refine v_iald d_Line_at_26 (fun x26 => ?_)
        refine v_goto d_Line_at_27 ?_
        exact v_ret d_Line_at_31 rfl
set_option maxHeartbeats 4000000 in
set_option maxRecDepth 100000 in
theorem V_lp_Acts_keep_29 {l : Launch} {w : vm_W} (hfl : l.stackTraces = false) (kx57 : mm_T → Option (Unit × mm_T)) (a1 : Nat) (a2 : Nat) {a0 : Nat} (hkx57 : ∀ (M : mm_T), V_ l w q_Acts_keep 2 ex_V 57 [(0, xA a0), (1, xA a1)] [] M (kx57 M)) : ∀ (f : Nat) (v3 : Int) (M : mm_T), V_ l w q_Acts_keep 2 ex_V 29 [(0, xA a0), (1, xA a1), (2, xA a2), (3, xI v3)] [] M (lp_Acts_keep_29 kx57 a1 a2 f v3 M) := by
  intro f
  induction f with
  | zero => intros; exact V_.none
  | succ f ih =>
    intro v3 M
    unfold lp_Acts_keep_29
    refine v_iloadn d_Acts_keep_29 rfl 3 rfl ?_
    refine v_aloadn d_Acts_keep_30 rfl 1 rfl ?_
    refine v_gI d_Acts_keep_31 fl_Acts_27 rfl (fun x31 => ?_)
    refine v_icge d_Acts_keep_34 ?_ ?_
    · refine v_sub (ls' := [(0, xA a0), (1, xA a1)]) [0, 1] rfl ?_
      exact hkx57 M
    · refine v_iloadn d_Acts_keep_37 rfl 3 rfl ?_
      refine v_aloadn d_Acts_keep_38 rfl 2 rfl ?_
      refine v_alen (t := 0) d_Acts_keep_39 rfl (fun x39 => ?_)
      refine v_icge d_Acts_keep_40 ?_ ?_
      · refine v_sub (ls' := [(0, xA a0), (1, xA a1)]) [0, 1] rfl ?_
        exact hkx57 M
      · refine v_aloadn d_Acts_keep_43 rfl 2 rfl ?_
        refine v_iloadn d_Acts_keep_44 rfl 3 rfl ?_
        refine v_aloadn d_Acts_keep_45 rfl 1 rfl ?_
        refine v_iloadn d_Acts_keep_46 rfl 3 rfl ?_
        refine v_cVi d_Acts_keep_47 ml_Acts_32 (q := (RX1, TX1, 5)) rfl (c_Line_at l hfl a1 v3 M) (fun _ => rfl) (by decide) (by decide) (as := [xI v3]) (st1 := [xI v3, xA a2]) rfl rfl (Nat.le_of_ble_eq_true rfl) (fun c47 M => ?_)
        refine v_iast d_Acts_keep_50 (fun M => ?_)
        refine v_iinc (lz := fun z => [(3, xI z), (0, xA a0), (1, xA a1), (2, xA a2)]) d_Acts_keep_51 3 rfl (Nat.le_of_ble_eq_true rfl) (fun _ => rfl) (fun v3_51 => ?_)
        refine v_goto d_Acts_keep_54 ?_
        refine v_sub (ls' := [(0, xA a0), (1, xA a1), (2, xA a2), (3, xI v3_51)]) [1, 2, 3, 0] rfl ?_
        exact ih v3_51 M
set_option maxHeartbeats 4000000 in
set_option maxRecDepth 100000 in
theorem c_Acts_keep (l : Launch) (hfl : l.stackTraces = false) (a0 : Nat) (a1 : Nat) (M : mm_T) : vm_Con l yX0_keep (.code yX0_keep cX0_keep 4 none) 2 ex_V [xA a0, xA a1] M (k_Acts_keep a0 a1 M) := by
  refine vm_con (y := q_Acts_keep) hfl (by decide +kernel) rfl (fun h => by cases h) (Nat.le_of_ble_eq_true rfl) rfl (fun _ _ _ => rfl) (fun r E h => by cases h) (fun w => ?_)
  show V_ l w q_Acts_keep 2 ex_V 0 [(0, xA a0), (1, xA a1)] [] M (k_Acts_keep a0 a1 M)
  unfold k_Acts_keep
  refine v_aloadn d_Acts_keep_0 rfl 0 rfl ?_
  refine v_gI d_Acts_keep_1 fl_Acts_20 rfl (fun x1 => ?_)
  refine v_iflt d_Acts_keep_4 ?_ ?_
  · exact v_vret d_Acts_keep_16 rfl
  · refine v_aloadn d_Acts_keep_7 rfl 0 rfl ?_
    refine v_gI d_Acts_keep_8 fl_Acts_20 rfl (fun x8 => ?_)
    refine v_bipush d_Acts_keep_11 (by decide) ?_
    refine v_iclt d_Acts_keep_13 ?_ ?_
    · refine v_aloadn d_Acts_keep_17 rfl 0 rfl ?_
      refine v_gR d_Acts_keep_18 fl_Acts_11 rfl (fun r18 => ?_)
      refine v_aloadn d_Acts_keep_21 rfl 0 rfl ?_
      refine v_gI d_Acts_keep_22 fl_Acts_20 rfl (fun x22 => ?_)
      refine v_aald (t := 4) d_Acts_keep_25 (by decide) rfl rfl (fun r25 => ?_)
      refine v_astoren (lz := fun z => [(2, xA z), (0, xA a0), (1, xA a1)]) d_Acts_keep_26 rfl (Nat.le_of_ble_eq_true rfl) (fun _ => rfl) (fun a2_26 => ?_)
      refine v_iconst d_Acts_keep_27 (by decide) ?_
      refine v_istoren (lz := fun z => [(3, xI z), (2, xA a2_26), (0, xA a0), (1, xA a1)]) d_Acts_keep_28 rfl (Nat.le_of_ble_eq_true rfl) (fun _ => rfl) (fun v3_28 => ?_)
      refine v_sub (ls' := [(0, xA a0), (1, xA a1), (2, xA a2_26), (3, xI v3_28)]) [2, 3, 1, 0] rfl ?_
      refine V_lp_Acts_keep_29 hfl _ _ _ (fun M => ?_) _ _ _
      · refine v_aloadn d_Acts_keep_57 rfl 0 rfl ?_
        refine v_gR d_Acts_keep_58 fl_Acts_16 rfl (fun r58 => ?_)
        refine v_aloadn d_Acts_keep_61 rfl 0 rfl ?_
        refine v_gI d_Acts_keep_62 fl_Acts_20 rfl (fun x62 => ?_)
        refine v_aloadn d_Acts_keep_65 rfl 1 rfl ?_
        refine v_gI d_Acts_keep_66 fl_Acts_27 rfl (fun x66 => ?_)
        refine v_iast d_Acts_keep_69 (fun M => ?_)
        refine v_aloadn d_Acts_keep_70 rfl 0 rfl ?_
        refine v_aloadn d_Acts_keep_71 rfl 0 rfl ?_
        refine v_gI d_Acts_keep_72 fl_Acts_20 rfl (fun x72 => ?_)
        refine v_iconst d_Acts_keep_75 (by decide) ?_
        refine v_iadd d_Acts_keep_76 (fun x76 => ?_)
        refine v_bipush d_Acts_keep_77 (by decide) ?_
        refine v_irem d_Acts_keep_79 (fun x79 => ?_)
        refine v_pI d_Acts_keep_80 fl_Acts_20 (Or.inl rfl) rfl rfl (fun M => ?_)
        refine v_aloadn d_Acts_keep_83 rfl 0 rfl ?_
        refine v_bipush d_Acts_keep_84 (by decide) ?_
        refine v_aloadn d_Acts_keep_86 rfl 0 rfl ?_
        refine v_gI d_Acts_keep_87 fl_Acts_24 rfl (fun x87 => ?_)
        refine v_iconst d_Acts_keep_90 (by decide) ?_
        refine v_iadd d_Acts_keep_91 (fun x91 => ?_)
        refine v_mmin d_Acts_keep_92 gw_922 gw_588 gw_131 gw_589 (by first | decide | omega) (Nat.le_of_ble_eq_true rfl) ?_
        refine v_pI d_Acts_keep_95 fl_Acts_24 (Or.inl rfl) rfl rfl (fun M => ?_)
        exact v_vret d_Acts_keep_98 rfl
    · exact v_vret d_Acts_keep_16 rfl
set_option maxHeartbeats 4000000 in
set_option maxRecDepth 100000 in
theorem V_lp_Line_add_50 {l : Launch} {w : vm_W} (hfl : l.stackTraces = false) (kx113 : Int → mm_T → Option (Unit × mm_T)) (a0 : Nat) (v1 : Int) (v2 : Int) (a3 : Nat) (a4 : Nat) (hkx113 : ∀ (v5_e : Int) (M : mm_T), V_ l w q_Line_add 1 ex_V 113 [(0, xA a0), (2, xI v2), (5, xI v5_e)] [] M (kx113 v5_e M)) : ∀ (f : Nat) (v5 : Int) (v6 : Int) (M : mm_T), V_ l w q_Line_add 1 ex_V 50 [(0, xA a0), (1, xI v1), (2, xI v2), (3, xA a3), (4, xA a4), (5, xI v5), (6, xI v6)] [] M (lp_Line_add_50 kx113 a0 v1 v2 a3 a4 f v5 v6 M) := by
  intro f
  induction f with
  | zero => intros; exact V_.none
  | succ f ih =>
    intro v5 v6 M
    unfold lp_Line_add_50
    refine v_iload d_Line_add_50 6 rfl ?_
    refine v_iloadn d_Line_add_52 rfl 2 rfl ?_
    refine v_icge d_Line_add_53 ?_ ?_
    · refine v_sub (ls' := [(0, xA a0), (2, xI v2), (5, xI v5)]) [0, 2, 5] rfl ?_
      exact hkx113 v5 M
    · refine v_iconst d_Line_add_56 (by decide) ?_
      refine v_istore (lz := fun z => [(7, xI z), (0, xA a0), (1, xI v1), (2, xI v2), (3, xA a3), (4, xA a4), (5, xI v5), (6, xI v6)]) d_Line_add_57 (Nat.le_of_ble_eq_true rfl) (fun _ => rfl) (fun v7_57 => ?_)
      refine v_aloadn d_Line_add_59 rfl 1 rfl ?_
      refine v_gR d_Line_add_60 fl_Line_9 rfl (fun r60 => ?_)
      refine v_iload d_Line_add_63 7 rfl ?_
      refine v_iald d_Line_add_65 (fun x65 => ?_)
      refine v_iloadn d_Line_add_66 rfl 2 rfl ?_
      refine v_join1 (pj := 90) (lj := fun v7_90 => [(0, xA a0), (1, xI v1), (2, xI v2), (3, xA a3), (4, xA a4), (5, xI v5), (6, xI v6), (7, xI v7_90)]) (sj := fun v7_90 => []) (fun v7_90 M => ?_) (fun j90 hj90 => ?_)
      · refine v_aloadn d_Line_add_90 rfl 3 rfl ?_
        refine v_iload d_Line_add_91 6 rfl ?_
        refine v_iload d_Line_add_93 7 rfl ?_
        refine v_iast d_Line_add_95 (fun M => ?_)
        refine v_iload d_Line_add_96 7 rfl ?_
        refine v_iload d_Line_add_98 5 rfl ?_
        refine v_join1 (pj := 107) (lj := fun v5_107 => [(0, xA a0), (1, xI v1), (2, xI v2), (3, xA a3), (4, xA a4), (5, xI v5_107), (6, xI v6)]) (sj := fun v5_107 => []) (fun v5_107 M => ?_) (fun j107 hj107 => ?_)
        · refine v_iinc (lz := fun z => [(6, xI z), (0, xA a0), (1, xI v1), (2, xI v2), (3, xA a3), (4, xA a4), (5, xI v5_107)]) d_Line_add_107 6 rfl (Nat.le_of_ble_eq_true rfl) (fun _ => rfl) (fun v6_107 => ?_)
          refine v_goto d_Line_add_110 ?_
          refine v_sub (ls' := [(0, xA a0), (1, xI v1), (2, xI v2), (3, xA a3), (4, xA a4), (5, xI v5_107), (6, xI v6_107)]) [1, 2, 3, 4, 5, 6, 0] rfl ?_
          exact ih v5_107 v6_107 M
        refine v_icle d_Line_add_100 ?_ ?_
        · refine v_sub (ls' := [(0, xA a0), (1, xI v1), (2, xI v2), (3, xA a3), (4, xA a4), (5, xI v5), (6, xI v6)]) [0, 1, 2, 3, 4, 5, 6] rfl ?_
          exact hj107 v5 M
        · refine v_iload d_Line_add_103 7 rfl ?_
          refine v_istore (lz := fun z => [(5, xI z), (0, xA a0), (1, xI v1), (2, xI v2), (3, xA a3), (4, xA a4), (6, xI v6), (7, xI v7_90)]) d_Line_add_105 (Nat.le_of_ble_eq_true rfl) (fun _ => rfl) (fun v5_105 => ?_)
          refine v_sub (ls' := [(0, xA a0), (1, xI v1), (2, xI v2), (3, xA a3), (4, xA a4), (5, xI v5_105), (6, xI v6)]) [1, 2, 3, 4, 5, 0, 6] rfl ?_
          exact hj107 v5_105 M
      refine v_icne d_Line_add_67 ?_ ?_
      · refine v_sub (ls' := [(0, xA a0), (1, xI v1), (2, xI v2), (3, xA a3), (4, xA a4), (5, xI v5), (6, xI v6), (7, xI v7_57)]) [1, 2, 3, 4, 5, 6, 7, 0] rfl ?_
        exact hj90 v7_57 M
      · refine v_iload d_Line_add_70 7 rfl ?_
        refine v_join1 (pj := 88) (lj := fun s0_88 => [(0, xA a0), (1, xI v1), (2, xI v2), (3, xA a3), (4, xA a4), (5, xI v5), (6, xI v6)]) (sj := fun s0_88 => [xI s0_88]) (fun s0_88 M => ?_) (fun j88 hj88 => ?_)
        · refine v_istore (lz := fun z => [(7, xI z), (0, xA a0), (1, xI v1), (2, xI v2), (3, xA a3), (4, xA a4), (5, xI v5), (6, xI v6)]) d_Line_add_88 (Nat.le_of_ble_eq_true rfl) (fun _ => rfl) (fun v7_88 => ?_)
          refine v_sub (ls' := [(0, xA a0), (1, xI v1), (2, xI v2), (3, xA a3), (4, xA a4), (5, xI v5), (6, xI v6), (7, xI v7_88)]) [1, 2, 3, 4, 5, 6, 7, 0] rfl ?_
          exact hj90 v7_88 M
        refine v_ifne d_Line_add_72 ?_ ?_
        · refine v_aload d_Line_add_79 5 rfl ?_
          refine v_iload d_Line_add_81 7 rfl ?_
          refine v_iconst d_Line_add_83 (by decide) ?_
          refine v_isub d_Line_add_84 (fun x84 => ?_)
          refine v_iald d_Line_add_85 (fun x85 => ?_)
          refine v_iconst d_Line_add_86 (by decide) ?_
          refine v_iadd d_Line_add_87 (fun x87 => ?_)
          refine v_sub (ls' := [(0, xA a0), (1, xI v1), (2, xI v2), (3, xA a3), (4, xA a4), (5, xI v5), (6, xI v6)]) [1, 2, 3, 4, 5, 6, 7] rfl ?_
          exact hj88 x87 M
        · refine v_iconst d_Line_add_75 (by decide) ?_
          refine v_goto d_Line_add_76 ?_
          refine v_sub (ls' := [(0, xA a0), (1, xI v1), (2, xI v2), (3, xA a3), (4, xA a4), (5, xI v5), (6, xI v6)]) [1, 2, 3, 4, 5, 6, 7] rfl ?_
          exact hj88 1 M
set_option maxHeartbeats 4000000 in
set_option maxRecDepth 100000 in
theorem c_Line_add (l : Launch) (hfl : l.stackTraces = false) (a0 : Nat) (v1 : Int) (M : mm_T) : vm_Con l yX1_add (.code yX1_add cX1_add 8 none) 1 ex_V [xA a0, xI v1] M (k_Line_add a0 v1 M) := by
  refine vm_con (y := q_Line_add) hfl (by decide +kernel) rfl (fun h => by cases h) (Nat.le_of_ble_eq_true rfl) rfl (fun _ _ _ => rfl) (fun r E h => by cases h) (fun w => ?_)
  show V_ l w q_Line_add 1 ex_V 0 [(0, xA a0), (1, xI v1)] [] M (k_Line_add a0 v1 M)
  unfold k_Line_add
  refine v_aloadn d_Line_add_0 rfl 0 rfl ?_
  refine v_gI d_Line_add_1 fl_Line_30 rfl (fun x1 => ?_)
  refine v_istoren (lz := fun z => [(2, xI z), (0, xA a0), (1, xI v1)]) d_Line_add_4 rfl (Nat.le_of_ble_eq_true rfl) (fun _ => rfl) (fun v2_4 => ?_)
  refine v_iloadn d_Line_add_5 rfl 0 rfl ?_
  refine v_iflt d_Line_add_6 ?_ ?_
  · exact v_vret d_Line_add_15 rfl
  · refine v_iloadn d_Line_add_9 rfl 0 rfl ?_
    refine v_bipush d_Line_add_10 (by decide) ?_
    refine v_iclt d_Line_add_12 ?_ ?_
    · refine v_aloadn d_Line_add_16 rfl 1 rfl ?_
      refine v_gR d_Line_add_17 fl_Line_9 rfl (fun r17 => ?_)
      refine v_iloadn d_Line_add_20 rfl 0 rfl ?_
      refine v_iloadn d_Line_add_21 rfl 2 rfl ?_
      refine v_iast d_Line_add_22 (fun M => ?_)
      refine v_aloadn d_Line_add_23 rfl 1 rfl ?_
      refine v_gR d_Line_add_24 fl_Line_17 rfl (fun r24 => ?_)
      refine v_iloadn d_Line_add_27 rfl 0 rfl ?_
      refine v_aald (t := 4) d_Line_add_28 (by decide) rfl rfl (fun r28 => ?_)
      refine v_astoren (lz := fun z => [(3, xA z), (2, xI v2_4), (0, xA a0), (1, xI v1)]) d_Line_add_29 rfl (Nat.le_of_ble_eq_true rfl) (fun _ => rfl) (fun a3_29 => ?_)
      refine v_aloadn d_Line_add_30 rfl 2 rfl ?_
      refine v_gR d_Line_add_31 fl_Line_17 rfl (fun r31 => ?_)
      refine v_iconst d_Line_add_34 (by decide) ?_
      refine v_iloadn d_Line_add_35 rfl 1 rfl ?_
      refine v_iconst d_Line_add_36 (by decide) ?_
      refine v_isub d_Line_add_37 (fun x37 => ?_)
      refine v_mmax d_Line_add_38 gw_465 gw_466 gw_131 gw_467 (by first | decide | omega) (Nat.le_of_ble_eq_true rfl) ?_
      refine v_aald (t := 4) d_Line_add_41 (by decide) rfl rfl (fun r41 => ?_)
      refine v_astore (lz := fun z => [(4, xA z), (3, xA a3_29), (2, xI v2_4), (0, xA a0), (1, xI v1)]) d_Line_add_42 (Nat.le_of_ble_eq_true rfl) (fun _ => rfl) (fun a4_42 => ?_)
      refine v_iconst d_Line_add_44 (by decide) ?_
      refine v_istore (lz := fun z => [(5, xI z), (4, xA a4_42), (3, xA a3_29), (2, xI v2_4), (0, xA a0), (1, xI v1)]) d_Line_add_45 (Nat.le_of_ble_eq_true rfl) (fun _ => rfl) (fun v5_45 => ?_)
      refine v_iconst d_Line_add_47 (by decide) ?_
      refine v_istore (lz := fun z => [(6, xI z), (5, xI v5_45), (4, xA a4_42), (3, xA a3_29), (2, xI v2_4), (0, xA a0), (1, xI v1)]) d_Line_add_48 (Nat.le_of_ble_eq_true rfl) (fun _ => rfl) (fun v6_48 => ?_)
      refine v_sub (ls' := [(0, xA a0), (1, xI v1), (2, xI v2_4), (3, xA a3_29), (4, xA a4_42), (5, xI v5_45), (6, xI v6_48)]) [5, 6, 4, 3, 2, 1, 0] rfl ?_
      refine V_lp_Line_add_50 hfl _ _ _ _ _ _ (fun v5_113 M => ?_) _ _ _ _
      · refine v_aloadn d_Line_add_113 rfl 0 rfl ?_
        refine v_gR d_Line_add_114 fl_Line_20 rfl (fun r114 => ?_)
        refine v_iloadn d_Line_add_117 rfl 1 rfl ?_
        refine v_iload d_Line_add_118 2 rfl ?_
        refine v_iast d_Line_add_120 (fun M => ?_)
        refine v_aloadn d_Line_add_121 rfl 0 rfl ?_
        refine v_iloadn d_Line_add_122 rfl 1 rfl ?_
        refine v_iconst d_Line_add_123 (by decide) ?_
        refine v_iadd d_Line_add_124 (fun x124 => ?_)
        refine v_pI d_Line_add_125 fl_Line_30 (Or.inl rfl) rfl rfl (fun M => ?_)
        exact v_vret d_Line_add_128 rfl
    · exact v_vret d_Line_add_15 rfl
set_option maxHeartbeats 4000000 in
set_option maxRecDepth 100000 in
theorem V_lp_Line_copy_6 {l : Launch} {w : vm_W} (hfl : l.stackTraces = false) (kx26 : mm_T → Option (Unit × mm_T)) (a0 : Nat) (a1 : Nat) (v2 : Int) (hkx26 : ∀ (M : mm_T), V_ l w q_Line_copy 2 ex_V 26 [] [] M (kx26 M)) : ∀ (f : Nat) (v3 : Int) (M : mm_T), V_ l w q_Line_copy 2 ex_V 6 [(0, xA a0), (1, xA a1), (2, xI v2), (3, xI v3)] [] M (lp_Line_copy_6 kx26 a0 a1 v2 f v3 M) := by
  intro f
  induction f with
  | zero => intros; exact V_.none
  | succ f ih =>
    intro v3 M
    unfold lp_Line_copy_6
    refine v_iloadn d_Line_copy_6 rfl 3 rfl ?_
    refine v_iloadn d_Line_copy_7 rfl 2 rfl ?_
    refine v_icge d_Line_copy_8 ?_ ?_
    · refine v_sub (ls' := []) [] rfl ?_
      exact hkx26 M
    · refine v_aloadn d_Line_copy_11 rfl 0 rfl ?_
      refine v_aloadn d_Line_copy_12 rfl 1 rfl ?_
      refine v_iloadn d_Line_copy_13 rfl 3 rfl ?_
      refine v_cVi d_Line_copy_14 ml_Line_43 (q := (RX1, TX1, 5)) rfl (c_Line_at l hfl a1 v3 M) (fun _ => rfl) (by decide) (by decide) (as := [xI v3]) (st1 := [xA a0]) rfl rfl (Nat.le_of_ble_eq_true rfl) (fun c14 M => ?_)
      refine v_cVv d_Line_copy_17 ml_Line_51 (q := (RX1, TX1, 5)) rfl (c_Line_add l hfl a0 c14 M) (fun _ => rfl) (by decide) (by decide) (as := [xI c14]) (st1 := []) rfl rfl (Nat.le_of_ble_eq_true rfl) (fun _ M => ?_)
      refine v_iinc (lz := fun z => [(3, xI z), (0, xA a0), (1, xA a1), (2, xI v2)]) d_Line_copy_20 3 rfl (Nat.le_of_ble_eq_true rfl) (fun _ => rfl) (fun v3_20 => ?_)
      refine v_goto d_Line_copy_23 ?_
      refine v_sub (ls' := [(0, xA a0), (1, xA a1), (2, xI v2), (3, xI v3_20)]) [1, 2, 3, 0] rfl ?_
      exact ih v3_20 M
set_option maxHeartbeats 4000000 in
set_option maxRecDepth 100000 in
theorem c_Line_copy (l : Launch) (hfl : l.stackTraces = false) (a0 : Nat) (a1 : Nat) (v2 : Int) (M : mm_T) : vm_Con l yX1_copy (.code yX1_copy cX1_copy 4 none) 2 ex_V [xA a0, xA a1, xI v2] M (k_Line_copy a0 a1 v2 M) := by
  refine vm_con (y := q_Line_copy) hfl (by decide +kernel) rfl (fun h => by cases h) (Nat.le_of_ble_eq_true rfl) rfl (fun _ _ _ => rfl) (fun r E h => by cases h) (fun w => ?_)
  show V_ l w q_Line_copy 2 ex_V 0 [(0, xA a0), (1, xA a1), (2, xI v2)] [] M (k_Line_copy a0 a1 v2 M)
  unfold k_Line_copy
  refine v_aloadn d_Line_copy_0 rfl 0 rfl ?_
  refine v_cVv d_Line_copy_1 ml_Line_54 (q := (RX1, TX1, 5)) rfl (c_Line_clear l hfl a0 M) (fun _ => rfl) (by decide) (by decide) (as := []) (st1 := []) rfl rfl (Nat.le_of_ble_eq_true rfl) (fun _ M => ?_)
  refine v_iconst d_Line_copy_4 (by decide) ?_
  refine v_istoren (lz := fun z => [(3, xI z), (0, xA a0), (1, xA a1), (2, xI v2)]) d_Line_copy_5 rfl (Nat.le_of_ble_eq_true rfl) (fun _ => rfl) (fun v3_5 => ?_)
  refine v_sub (ls' := [(0, xA a0), (1, xA a1), (2, xI v2), (3, xI v3_5)]) [1, 2, 3, 0] rfl ?_
  refine V_lp_Line_copy_6 hfl _ _ _ _ (fun M => ?_) _ _ _
  · exact v_vret d_Line_copy_26 rfl
set_option maxHeartbeats 4000000 in
set_option maxRecDepth 100000 in
theorem V_lp_Reader_takesLetters_12 {l : Launch} {w : vm_W} (hfl : l.stackTraces = false) (kx110 : mm_T → Option (Int × mm_T)) (a0 : Nat) (v1 : Int) (a2 : Nat) (hkx110 : ∀ (M : mm_T), V_ l w q_Reader_takesLetters 3 ex_Z 110 [(0, xA a0)] [] M (kx110 M)) : ∀ (f : Nat) (M : mm_T), V_ l w q_Reader_takesLetters 3 ex_Z 12 [(0, xA a0), (1, xI v1), (2, xA a2)] [] M (lp_Reader_takesLetters_12 kx110 a0 v1 a2 f M) := by
  intro f
  induction f with
  | zero => intros; exact V_.none
  | succ f ih =>
    intro M
    unfold lp_Reader_takesLetters_12
    refine v_aloadn d_Reader_takesLetters_12 rfl 0 rfl ?_
    refine v_gI d_Reader_takesLetters_13 fl_Reader_18 rfl (fun x13 => ?_)
    refine v_aloadn d_Reader_takesLetters_16 rfl 0 rfl ?_
    refine v_gR d_Reader_takesLetters_17 fl_Reader_12 rfl (fun r17 => ?_)
    refine v_gI d_Reader_takesLetters_20 fl_Reader_58 rfl (fun x20 => ?_)
    refine v_icge d_Reader_takesLetters_23 ?_ ?_
    · refine v_sub (ls' := [(0, xA a0)]) [0] rfl ?_
      exact hkx110 M
    · refine v_aloadn d_Reader_takesLetters_26 rfl 0 rfl ?_
      refine v_gR d_Reader_takesLetters_27 fl_Reader_12 rfl (fun r27 => ?_)
      refine v_aloadn d_Reader_takesLetters_30 rfl 0 rfl ?_
      refine v_gI d_Reader_takesLetters_31 fl_Reader_18 rfl (fun x31 => ?_)
      refine v_cVi d_Reader_takesLetters_34 ml_Reader_68 (q := (RX8, TX8, 2)) rfl (c_Tape_at l hfl r27 x31 M) (fun _ => rfl) (by decide) (by decide) (as := [xI x31]) (st1 := []) rfl rfl (Nat.le_of_ble_eq_true rfl) (fun c34 M => ?_)
      refine v_cSi d_Reader_takesLetters_37 ml_Reader_71 (c_Tape_isSmall l hfl c34 M) (fun _ => rfl) (by decide) (by decide) (as := [xI c34]) (st1 := []) rfl rfl (Nat.le_of_ble_eq_true rfl) (fun c37 M => ?_)
      refine v_ifeq d_Reader_takesLetters_40 ?_ ?_
      · refine v_sub (ls' := [(0, xA a0)]) [0] rfl ?_
        exact hkx110 M
      · refine v_aloadn d_Reader_takesLetters_43 rfl 0 rfl ?_
        refine v_gR d_Reader_takesLetters_44 fl_Reader_12 rfl (fun r44 => ?_)
        refine v_aloadn d_Reader_takesLetters_47 rfl 0 rfl ?_
        refine v_gI d_Reader_takesLetters_48 fl_Reader_18 rfl (fun x48 => ?_)
        refine v_cVi d_Reader_takesLetters_51 ml_Reader_68 (q := (RX8, TX8, 2)) rfl (c_Tape_at l hfl r44 x48 M) (fun _ => rfl) (by decide) (by decide) (as := [xI x48]) (st1 := []) rfl rfl (Nat.le_of_ble_eq_true rfl) (fun c51 M => ?_)
        refine v_bipush d_Reader_takesLetters_54 (by decide) ?_
        refine v_isub d_Reader_takesLetters_56 (fun x56 => ?_)
        refine v_iloadn d_Reader_takesLetters_57 rfl 1 rfl ?_
        refine v_icge d_Reader_takesLetters_58 ?_ ?_
        · refine v_sub (ls' := [(0, xA a0)]) [0] rfl ?_
          exact hkx110 M
        · refine v_aloadn d_Reader_takesLetters_61 rfl 2 rfl ?_
          refine v_gI d_Reader_takesLetters_62 fl_Reader_74 rfl (fun x62 => ?_)
          refine v_bipush d_Reader_takesLetters_65 (by decide) ?_
          refine v_iclt d_Reader_takesLetters_67 ?_ ?_
          · refine v_aloadn d_Reader_takesLetters_79 rfl 2 rfl ?_
            refine v_aloadn d_Reader_takesLetters_80 rfl 0 rfl ?_
            refine v_gR d_Reader_takesLetters_81 fl_Reader_12 rfl (fun r81 => ?_)
            refine v_aloadn d_Reader_takesLetters_84 rfl 0 rfl ?_
            refine v_gI d_Reader_takesLetters_85 fl_Reader_18 rfl (fun x85 => ?_)
            refine v_cVi d_Reader_takesLetters_88 ml_Reader_68 (q := (RX8, TX8, 2)) rfl (c_Tape_at l hfl r81 x85 M) (fun _ => rfl) (by decide) (by decide) (as := [xI x85]) (st1 := [xA a2]) rfl rfl (Nat.le_of_ble_eq_true rfl) (fun c88 M => ?_)
            refine v_bipush d_Reader_takesLetters_91 (by decide) ?_
            refine v_isub d_Reader_takesLetters_93 (fun x93 => ?_)
            refine v_cVv d_Reader_takesLetters_94 ml_Reader_78 (q := (RX1, TX1, 5)) rfl (c_Line_add l hfl a2 x93 M) (fun _ => rfl) (by decide) (by decide) (as := [xI x93]) (st1 := []) rfl rfl (Nat.le_of_ble_eq_true rfl) (fun _ M => ?_)
            refine v_aloadn d_Reader_takesLetters_97 rfl 0 rfl ?_
            refine v_dup d_Reader_takesLetters_98 rfl ?_
            refine v_gI d_Reader_takesLetters_99 fl_Reader_18 rfl (fun x99 => ?_)
            refine v_iconst d_Reader_takesLetters_102 (by decide) ?_
            refine v_iadd d_Reader_takesLetters_103 (fun x103 => ?_)
            refine v_pI d_Reader_takesLetters_104 fl_Reader_18 (Or.inl rfl) rfl rfl (fun M => ?_)
            refine v_goto d_Reader_takesLetters_107 ?_
            exact ih M
          · refine v_aloadn d_Reader_takesLetters_70 rfl 0 rfl ?_
            refine v_aloadn d_Reader_takesLetters_71 rfl 0 rfl ?_
            refine v_gI d_Reader_takesLetters_72 fl_Reader_18 rfl (fun x72 => ?_)
            refine v_cVi d_Reader_takesLetters_75 ml_Reader_75 (q := (RX4, TX4, 5)) rfl (c_Reader_miss l hfl a0 x72 M) (fun _ => rfl) (by decide) (by decide) (as := [xI x72]) (st1 := []) rfl rfl (Nat.le_of_ble_eq_true rfl) (fun c75 M => ?_)
            exact v_zret d_Reader_takesLetters_78 rfl
set_option maxHeartbeats 4000000 in
set_option maxRecDepth 100000 in
theorem c_Reader_takesLetters (l : Launch) (hfl : l.stackTraces = false) (a0 : Nat) (v1 : Int) (a2 : Nat) (M : mm_T) : vm_Con l yX4_takesLetters (.code yX4_takesLetters cX4_takesLetters 3 (some .boolean)) 3 ex_Z [xA a0, xI v1, xA a2] M (k_Reader_takesLetters a0 v1 a2 M) := by
  refine vm_con (y := q_Reader_takesLetters) hfl (by decide +kernel) rfl (fun h => by cases h) (Nat.le_of_ble_eq_true rfl) rfl (fun _ _ _ => rfl) (fun r E h => by cases h) (fun w => ?_)
  show V_ l w q_Reader_takesLetters 3 ex_Z 0 [(0, xA a0), (1, xI v1), (2, xA a2)] [] M (k_Reader_takesLetters a0 v1 a2 M)
  unfold k_Reader_takesLetters
  refine v_aloadn d_Reader_takesLetters_0 rfl 0 rfl ?_
  refine v_cVv d_Reader_takesLetters_1 ml_Reader_31 (q := (RX4, TX4, 5)) rfl (c_Reader_begin l hfl a0 M) (fun _ => rfl) (by decide) (by decide) (as := []) (st1 := []) rfl rfl (Nat.le_of_ble_eq_true rfl) (fun _ M => ?_)
  refine v_aloadn d_Reader_takesLetters_4 rfl 2 rfl ?_
  refine v_cVv d_Reader_takesLetters_5 ml_Reader_65 (q := (RX1, TX1, 5)) rfl (c_Line_clear l hfl a2 M) (fun _ => rfl) (by decide) (by decide) (as := []) (st1 := []) rfl rfl (Nat.le_of_ble_eq_true rfl) (fun _ M => ?_)
  refine v_aloadn d_Reader_takesLetters_8 rfl 0 rfl ?_
  refine v_cVv d_Reader_takesLetters_9 ml_Reader_55 (q := (RX4, TX4, 5)) rfl (c_Reader_skipBlanks l hfl a0 M) (fun _ => rfl) (by decide) (by decide) (as := []) (st1 := []) rfl rfl (Nat.le_of_ble_eq_true rfl) (fun _ M => ?_)
  refine V_lp_Reader_takesLetters_12 hfl _ _ _ _ (fun M => ?_) _ _
  · refine v_aloadn d_Reader_takesLetters_110 rfl 0 rfl ?_
    refine v_cVv d_Reader_takesLetters_111 ml_Reader_55 (q := (RX4, TX4, 5)) rfl (c_Reader_skipBlanks l hfl a0 M) (fun _ => rfl) (by decide) (by decide) (as := []) (st1 := []) rfl rfl (Nat.le_of_ble_eq_true rfl) (fun _ M => ?_)
    refine v_aloadn d_Reader_takesLetters_114 rfl 0 rfl ?_
    refine v_gI d_Reader_takesLetters_115 fl_Reader_18 rfl (fun x115 => ?_)
    refine v_aloadn d_Reader_takesLetters_118 rfl 0 rfl ?_
    refine v_gR d_Reader_takesLetters_119 fl_Reader_12 rfl (fun r119 => ?_)
    refine v_gI d_Reader_takesLetters_122 fl_Reader_58 rfl (fun x122 => ?_)
    refine v_join0 (pj := 139) (lj := []) (sj := []) (fun M => ?_) (fun j139 hj139 => ?_)
    · refine v_iconst d_Reader_takesLetters_139 (by decide) ?_
      refine v_goto d_Reader_takesLetters_140 ?_
      exact v_zret d_Reader_takesLetters_144 rfl
    refine v_icge d_Reader_takesLetters_125 ?_ ?_
    · refine v_sub (ls' := []) [] rfl ?_
      exact hj139 M
    · refine v_aloadn d_Reader_takesLetters_128 rfl 0 rfl ?_
      refine v_aloadn d_Reader_takesLetters_129 rfl 0 rfl ?_
      refine v_gI d_Reader_takesLetters_130 fl_Reader_18 rfl (fun x130 => ?_)
      refine v_cVi d_Reader_takesLetters_133 ml_Reader_75 (q := (RX4, TX4, 5)) rfl (c_Reader_miss l hfl a0 x130 M) (fun _ => rfl) (by decide) (by decide) (as := [xI x130]) (st1 := []) rfl rfl (Nat.le_of_ble_eq_true rfl) (fun c133 M => ?_)
      refine v_ifeq d_Reader_takesLetters_136 ?_ ?_
      · refine v_iconst d_Reader_takesLetters_143 (by decide) ?_
        exact v_zret d_Reader_takesLetters_144 rfl
      · refine v_sub (ls' := []) [] rfl ?_
        exact hj139 M
set_option maxHeartbeats 4000000 in
set_option maxRecDepth 100000 in
theorem c_Line_cutTo (l : Launch) (hfl : l.stackTraces = false) (a0 : Nat) (v1 : Int) (M : mm_T) : vm_Con l yX1_cutTo (.code yX1_cutTo cX1_cutTo 2 none) 1 ex_V [xA a0, xI v1] M (k_Line_cutTo a0 v1 M) := by
  refine vm_con (y := q_Line_cutTo) hfl (by decide +kernel) rfl (fun h => by cases h) (Nat.le_of_ble_eq_true rfl) rfl (fun _ _ _ => rfl) (fun r E h => by cases h) (fun w => ?_)
  show V_ l w q_Line_cutTo 1 ex_V 0 [(0, xA a0), (1, xI v1)] [] M (k_Line_cutTo a0 v1 M)
  unfold k_Line_cutTo
  refine v_aloadn d_Line_cutTo_0 rfl 0 rfl ?_
  refine v_iconst d_Line_cutTo_1 (by decide) ?_
  refine v_aloadn d_Line_cutTo_2 rfl 0 rfl ?_
  refine v_gI d_Line_cutTo_3 fl_Line_30 rfl (fun x3 => ?_)
  refine v_iloadn d_Line_cutTo_6 rfl 1 rfl ?_
  refine v_mmin d_Line_cutTo_7 gw_587 gw_588 gw_131 gw_589 (by first | decide | omega) (Nat.le_of_ble_eq_true rfl) ?_
  refine v_mmax d_Line_cutTo_10 gw_465 gw_466 gw_131 gw_467 (by first | decide | omega) (Nat.le_of_ble_eq_true rfl) ?_
  refine v_pI d_Line_cutTo_13 fl_Line_30 (Or.inl rfl) rfl rfl (fun M => ?_)
  exact v_vret d_Line_cutTo_16 rfl
set_option maxHeartbeats 4000000 in
set_option maxRecDepth 100000 in
theorem c_Line_dropLast (l : Launch) (hfl : l.stackTraces = false) (a0 : Nat) (M : mm_T) : vm_Con l yX1_dropLast (.code yX1_dropLast cX1_dropLast 2 (some .int)) 2 ex_I [xA a0] M (k_Line_dropLast a0 M) := by
  refine vm_con (y := q_Line_dropLast) hfl (by decide +kernel) rfl (fun h => by cases h) (Nat.le_of_ble_eq_true rfl) rfl (fun _ _ _ => rfl) (fun r E h => by cases h) (fun w => ?_)
  show V_ l w q_Line_dropLast 2 ex_I 0 [(0, xA a0)] [] M (k_Line_dropLast a0 M)
  unfold k_Line_dropLast
  refine v_aloadn d_Line_dropLast_0 rfl 0 rfl ?_
  refine v_aloadn d_Line_dropLast_1 rfl 0 rfl ?_
  refine v_gI d_Line_dropLast_2 fl_Line_30 rfl (fun x2 => ?_)
  refine v_iconst d_Line_dropLast_5 (by decide) ?_
  refine v_isub d_Line_dropLast_6 (fun x6 => ?_)
  refine v_cVi d_Line_dropLast_7 ml_Line_43 (q := (RX1, TX1, 5)) rfl (c_Line_at l hfl a0 x6 M) (fun _ => rfl) (by decide) (by decide) (as := [xI x6]) (st1 := []) rfl rfl (Nat.le_of_ble_eq_true rfl) (fun c7 M => ?_)
  refine v_istoren (lz := fun z => [(1, xI z), (0, xA a0)]) d_Line_dropLast_10 rfl (Nat.le_of_ble_eq_true rfl) (fun _ => rfl) (fun v1_10 => ?_)
  refine v_aloadn d_Line_dropLast_11 rfl 1 rfl ?_
  refine v_aloadn d_Line_dropLast_12 rfl 1 rfl ?_
  refine v_gI d_Line_dropLast_13 fl_Line_30 rfl (fun x13 => ?_)
  refine v_iconst d_Line_dropLast_16 (by decide) ?_
  refine v_isub d_Line_dropLast_17 (fun x17 => ?_)
  refine v_cVv d_Line_dropLast_18 ml_Line_47 (q := (RX1, TX1, 5)) rfl (c_Line_cutTo l hfl a0 x17 M) (fun _ => rfl) (by decide) (by decide) (as := [xI x17]) (st1 := []) rfl rfl (Nat.le_of_ble_eq_true rfl) (fun _ M => ?_)
  refine v_iloadn d_Line_dropLast_21 rfl 0 rfl ?_
  exact v_ret d_Line_dropLast_22 rfl
set_option maxHeartbeats 4000000 in
set_option maxRecDepth 100000 in
theorem V_lp_Acts_takeBack_48 {l : Launch} {w : vm_W} (hfl : l.stackTraces = false) (kx80 : mm_T → Option (Int × mm_T)) (a0 : Nat) (a1 : Nat) (v2 : Int) (a3 : Nat) (hkx80 : ∀ (M : mm_T), V_ l w q_Acts_takeBack 2 ex_Z 80 [(0, xA a0), (2, xI v2)] [] M (kx80 M)) : ∀ (f : Nat) (v4 : Int) (M : mm_T), V_ l w q_Acts_takeBack 2 ex_Z 48 [(0, xA a0), (1, xA a1), (2, xI v2), (3, xA a3), (4, xI v4)] [] M (lp_Acts_takeBack_48 kx80 a0 a1 v2 a3 f v4 M) := by
  intro f
  induction f with
  | zero => intros; exact V_.none
  | succ f ih =>
    intro v4 M
    unfold lp_Acts_takeBack_48
    refine v_iload d_Acts_takeBack_48 4 rfl ?_
    refine v_aloadn d_Acts_takeBack_50 rfl 0 rfl ?_
    refine v_gR d_Acts_takeBack_51 fl_Acts_16 rfl (fun r51 => ?_)
    refine v_iloadn d_Acts_takeBack_54 rfl 2 rfl ?_
    refine v_iald d_Acts_takeBack_55 (fun x55 => ?_)
    refine v_icge d_Acts_takeBack_56 ?_ ?_
    · refine v_sub (ls' := [(0, xA a0), (2, xI v2)]) [0, 2] rfl ?_
      exact hkx80 M
    · refine v_iload d_Acts_takeBack_59 4 rfl ?_
      refine v_aloadn d_Acts_takeBack_61 rfl 3 rfl ?_
      refine v_alen (t := 0) d_Acts_takeBack_62 rfl (fun x62 => ?_)
      refine v_icge d_Acts_takeBack_63 ?_ ?_
      · refine v_sub (ls' := [(0, xA a0), (2, xI v2)]) [0, 2] rfl ?_
        exact hkx80 M
      · refine v_aloadn d_Acts_takeBack_66 rfl 1 rfl ?_
        refine v_aloadn d_Acts_takeBack_67 rfl 3 rfl ?_
        refine v_iload d_Acts_takeBack_68 4 rfl ?_
        refine v_iald d_Acts_takeBack_70 (fun x70 => ?_)
        refine v_cVv d_Acts_takeBack_71 ml_Acts_45 (q := (RX1, TX1, 5)) rfl (c_Line_add l hfl a1 x70 M) (fun _ => rfl) (by decide) (by decide) (as := [xI x70]) (st1 := []) rfl rfl (Nat.le_of_ble_eq_true rfl) (fun _ M => ?_)
        refine v_iinc (lz := fun z => [(4, xI z), (0, xA a0), (1, xA a1), (2, xI v2), (3, xA a3)]) d_Acts_takeBack_74 4 rfl (Nat.le_of_ble_eq_true rfl) (fun _ => rfl) (fun v4_74 => ?_)
        refine v_goto d_Acts_takeBack_77 ?_
        refine v_sub (ls' := [(0, xA a0), (1, xA a1), (2, xI v2), (3, xA a3), (4, xI v4_74)]) [1, 2, 3, 4, 0] rfl ?_
        exact ih v4_74 M
set_option maxHeartbeats 4000000 in
set_option maxRecDepth 100000 in
theorem c_Acts_takeBack (l : Launch) (hfl : l.stackTraces = false) (a0 : Nat) (a1 : Nat) (M : mm_T) : vm_Con l yX0_takeBack (.code yX0_takeBack cX0_takeBack 5 (some .boolean)) 2 ex_Z [xA a0, xA a1] M (k_Acts_takeBack a0 a1 M) := by
  refine vm_con (y := q_Acts_takeBack) hfl (by decide +kernel) rfl (fun h => by cases h) (Nat.le_of_ble_eq_true rfl) rfl (fun _ _ _ => rfl) (fun r E h => by cases h) (fun w => ?_)
  show V_ l w q_Acts_takeBack 2 ex_Z 0 [(0, xA a0), (1, xA a1)] [] M (k_Acts_takeBack a0 a1 M)
  unfold k_Acts_takeBack
  refine v_aloadn d_Acts_takeBack_0 rfl 0 rfl ?_
  refine v_gI d_Acts_takeBack_1 fl_Acts_24 rfl (fun x1 => ?_)
  refine v_ifne d_Acts_takeBack_4 ?_ ?_
  · refine v_aloadn d_Acts_takeBack_9 rfl 0 rfl ?_
    refine v_gI d_Acts_takeBack_10 fl_Acts_20 rfl (fun x10 => ?_)
    refine v_bipush d_Acts_takeBack_13 (by decide) ?_
    refine v_iadd d_Acts_takeBack_15 (fun x15 => ?_)
    refine v_iconst d_Acts_takeBack_16 (by decide) ?_
    refine v_isub d_Acts_takeBack_17 (fun x17 => ?_)
    refine v_bipush d_Acts_takeBack_18 (by decide) ?_
    refine v_irem d_Acts_takeBack_20 (fun x20 => ?_)
    refine v_istoren (lz := fun z => [(2, xI z), (0, xA a0), (1, xA a1)]) d_Acts_takeBack_21 rfl (Nat.le_of_ble_eq_true rfl) (fun _ => rfl) (fun v2_21 => ?_)
    refine v_iloadn d_Acts_takeBack_22 rfl 0 rfl ?_
    refine v_iflt d_Acts_takeBack_23 ?_ ?_
    · refine v_iconst d_Acts_takeBack_32 (by decide) ?_
      exact v_zret d_Acts_takeBack_33 rfl
    · refine v_iloadn d_Acts_takeBack_26 rfl 0 rfl ?_
      refine v_bipush d_Acts_takeBack_27 (by decide) ?_
      refine v_iclt d_Acts_takeBack_29 ?_ ?_
      · refine v_aloadn d_Acts_takeBack_34 rfl 1 rfl ?_
        refine v_gR d_Acts_takeBack_35 fl_Acts_11 rfl (fun r35 => ?_)
        refine v_iloadn d_Acts_takeBack_38 rfl 0 rfl ?_
        refine v_aald (t := 4) d_Acts_takeBack_39 (by decide) rfl rfl (fun r39 => ?_)
        refine v_astoren (lz := fun z => [(3, xA z), (2, xI v2_21), (0, xA a0), (1, xA a1)]) d_Acts_takeBack_40 rfl (Nat.le_of_ble_eq_true rfl) (fun _ => rfl) (fun a3_40 => ?_)
        refine v_aloadn d_Acts_takeBack_41 rfl 3 rfl ?_
        refine v_cVv d_Acts_takeBack_42 ml_Acts_42 (q := (RX1, TX1, 5)) rfl (c_Line_clear l hfl a1 M) (fun _ => rfl) (by decide) (by decide) (as := []) (st1 := []) rfl rfl (Nat.le_of_ble_eq_true rfl) (fun _ M => ?_)
        refine v_iconst d_Acts_takeBack_45 (by decide) ?_
        refine v_istore (lz := fun z => [(4, xI z), (3, xA a3_40), (2, xI v2_21), (0, xA a0), (1, xA a1)]) d_Acts_takeBack_46 (Nat.le_of_ble_eq_true rfl) (fun _ => rfl) (fun v4_46 => ?_)
        refine v_sub (ls' := [(0, xA a0), (1, xA a1), (2, xI v2_21), (3, xA a3_40), (4, xI v4_46)]) [3, 4, 2, 1, 0] rfl ?_
        refine V_lp_Acts_takeBack_48 hfl _ _ _ _ _ (fun M => ?_) _ _ _
        · refine v_aloadn d_Acts_takeBack_80 rfl 0 rfl ?_
          refine v_iloadn d_Acts_takeBack_81 rfl 1 rfl ?_
          refine v_pI d_Acts_takeBack_82 fl_Acts_20 (Or.inl rfl) rfl rfl (fun M => ?_)
          refine v_aloadn d_Acts_takeBack_85 rfl 0 rfl ?_
          refine v_dup d_Acts_takeBack_86 rfl ?_
          refine v_gI d_Acts_takeBack_87 fl_Acts_24 rfl (fun x87 => ?_)
          refine v_iconst d_Acts_takeBack_90 (by decide) ?_
          refine v_isub d_Acts_takeBack_91 (fun x91 => ?_)
          refine v_pI d_Acts_takeBack_92 fl_Acts_24 (Or.inl rfl) rfl rfl (fun M => ?_)
          refine v_iconst d_Acts_takeBack_95 (by decide) ?_
          exact v_zret d_Acts_takeBack_96 rfl
      · refine v_iconst d_Acts_takeBack_32 (by decide) ?_
        exact v_zret d_Acts_takeBack_33 rfl
  · refine v_iconst d_Acts_takeBack_7 (by decide) ?_
    exact v_zret d_Acts_takeBack_8 rfl
set_option maxHeartbeats 4000000 in
set_option maxRecDepth 100000 in
theorem c_Line_twiceAt (l : Launch) (hfl : l.stackTraces = false) (a0 : Nat) (v1 : Int) (M : mm_T) : vm_Con l yX1_twiceAt (.code yX1_twiceAt cX1_twiceAt 2 (some .int)) 1 ex_I [xA a0, xI v1] M (k_Line_twiceAt a0 v1 M) := by
  refine vm_con (y := q_Line_twiceAt) hfl (by decide +kernel) rfl (fun h => by cases h) (Nat.le_of_ble_eq_true rfl) rfl (fun _ _ _ => rfl) (fun r E h => by cases h) (fun w => ?_)
  show V_ l w q_Line_twiceAt 1 ex_I 0 [(0, xA a0), (1, xI v1)] [] M (k_Line_twiceAt a0 v1 M)
  unfold k_Line_twiceAt
  refine v_iloadn d_Line_twiceAt_0 rfl 1 rfl ?_
  refine v_join0 (pj := 30) (lj := []) (sj := []) (fun M => ?_) (fun j30 hj30 => ?_)
  · refine v_iconst d_Line_twiceAt_30 (by decide) ?_
    exact v_ret d_Line_twiceAt_31 rfl
  refine v_iflt d_Line_twiceAt_1 ?_ ?_
  · refine v_sub (ls' := []) [] rfl ?_
    exact hj30 M
  · refine v_iloadn d_Line_twiceAt_4 rfl 1 rfl ?_
    refine v_aloadn d_Line_twiceAt_5 rfl 0 rfl ?_
    refine v_gI d_Line_twiceAt_6 fl_Line_30 rfl (fun x6 => ?_)
    refine v_icge d_Line_twiceAt_9 ?_ ?_
    · refine v_sub (ls' := []) [] rfl ?_
      exact hj30 M
    · refine v_iloadn d_Line_twiceAt_12 rfl 1 rfl ?_
      refine v_aloadn d_Line_twiceAt_13 rfl 0 rfl ?_
      refine v_gR d_Line_twiceAt_14 fl_Line_20 rfl (fun r14 => ?_)
      refine v_alen (t := 0) d_Line_twiceAt_17 rfl (fun x17 => ?_)
      refine v_icge d_Line_twiceAt_18 ?_ ?_
      · refine v_sub (ls' := []) [] rfl ?_
        exact hj30 M
      · refine v_aloadn d_Line_twiceAt_21 rfl 0 rfl ?_
        refine v_gR d_Line_twiceAt_22 fl_Line_20 rfl (fun r22 => ?_)
        refine v_iloadn d_Line_twiceAt_25 rfl 1 rfl ?_
        refine v_iald d_Line_twiceAt_26 (fun x26 => ?_)
        refine v_goto d_Line_twiceAt_27 ?_
        exact v_ret d_Line_twiceAt_31 rfl
set_option maxHeartbeats 4000000 in
set_option maxRecDepth 100000 in
theorem c_Shape_isShort (l : Launch) (hfl : l.stackTraces = false) (a0 : Nat) (v1 : Int) (M : mm_T) : vm_Con l yX6_isShort (.code yX6_isShort cX6_isShort 2 (some .boolean)) 1 ex_Z [xA a0, xI v1] M (k_Shape_isShort a0 v1 M) := by
  refine vm_con (y := q_Shape_isShort) hfl (by decide +kernel) rfl (fun h => by cases h) (Nat.le_of_ble_eq_true rfl) rfl (fun _ _ _ => rfl) (fun r E h => by cases h) (fun w => ?_)
  show V_ l w q_Shape_isShort 1 ex_Z 0 [(0, xA a0), (1, xI v1)] [] M (k_Shape_isShort a0 v1 M)
  unfold k_Shape_isShort
  refine v_iloadn d_Shape_isShort_0 rfl 1 rfl ?_
  refine v_join0 (pj := 19) (lj := []) (sj := []) (fun M => ?_) (fun j19 hj19 => ?_)
  · refine v_iconst d_Shape_isShort_19 (by decide) ?_
    exact v_zret d_Shape_isShort_20 rfl
  refine v_iflt d_Shape_isShort_1 ?_ ?_
  · refine v_sub (ls' := []) [] rfl ?_
    exact hj19 M
  · refine v_aloadn d_Shape_isShort_4 rfl 0 rfl ?_
    refine v_gI d_Shape_isShort_5 fl_Shape_26 rfl (fun x5 => ?_)
    refine v_iloadn d_Shape_isShort_8 rfl 1 rfl ?_
    refine v_ishr d_Shape_isShort_9 ?_
    refine v_iconst d_Shape_isShort_10 (by decide) ?_
    refine v_iand d_Shape_isShort_11 ?_
    refine v_ifeq d_Shape_isShort_12 ?_ ?_
    · refine v_sub (ls' := []) [] rfl ?_
      exact hj19 M
    · refine v_iconst d_Shape_isShort_15 (by decide) ?_
      refine v_goto d_Shape_isShort_16 ?_
      exact v_zret d_Shape_isShort_20 rfl
set_option maxHeartbeats 4000000 in
set_option maxRecDepth 100000 in
theorem c_Sizes_set (l : Launch) (hfl : l.stackTraces = false) (a0 : Nat) (v1 : Int) (v2 : Int) (v3 : Int) (M : mm_T) : vm_Con l yX7_set (.code yX7_set cX7_set 4 none) 1 ex_V [xA a0, xI v1, xI v2, xI v3] M (k_Sizes_set a0 v1 v2 v3 M) := by
  refine vm_con (y := q_Sizes_set) hfl (by decide +kernel) rfl (fun h => by cases h) (Nat.le_of_ble_eq_true rfl) rfl (fun _ _ _ => rfl) (fun r E h => by cases h) (fun w => ?_)
  show V_ l w q_Sizes_set 1 ex_V 0 [(0, xA a0), (1, xI v1), (2, xI v2), (3, xI v3)] [] M (k_Sizes_set a0 v1 v2 v3 M)
  unfold k_Sizes_set
  refine v_iloadn d_Sizes_set_0 rfl 1 rfl ?_
  refine v_iflt d_Sizes_set_1 ?_ ?_
  · exact v_vret d_Sizes_set_23 rfl
  · refine v_iloadn d_Sizes_set_4 rfl 1 rfl ?_
    refine v_iconst d_Sizes_set_5 (by decide) ?_
    refine v_icge d_Sizes_set_6 ?_ ?_
    · exact v_vret d_Sizes_set_23 rfl
    · refine v_aloadn d_Sizes_set_9 rfl 0 rfl ?_
      refine v_gR d_Sizes_set_10 fl_Sizes_9 rfl (fun r10 => ?_)
      refine v_iloadn d_Sizes_set_13 rfl 1 rfl ?_
      refine v_iloadn d_Sizes_set_14 rfl 2 rfl ?_
      refine v_iast d_Sizes_set_15 (fun M => ?_)
      refine v_aloadn d_Sizes_set_16 rfl 0 rfl ?_
      refine v_gR d_Sizes_set_17 fl_Sizes_15 rfl (fun r17 => ?_)
      refine v_iloadn d_Sizes_set_20 rfl 1 rfl ?_
      refine v_iloadn d_Sizes_set_21 rfl 3 rfl ?_
      refine v_iast d_Sizes_set_22 (fun M => ?_)
      exact v_vret d_Sizes_set_23 rfl
set_option maxHeartbeats 4000000 in
set_option maxRecDepth 100000 in
theorem V_lp_Sizes_clear_2 {l : Launch} {w : vm_W} (hfl : l.stackTraces = false) (kx20 : mm_T → Option (Unit × mm_T)) (a0 : Nat) (hkx20 : ∀ (M : mm_T), V_ l w q_Sizes_clear 2 ex_V 20 [] [] M (kx20 M)) : ∀ (f : Nat) (v1 : Int) (M : mm_T), V_ l w q_Sizes_clear 2 ex_V 2 [(0, xA a0), (1, xI v1)] [] M (lp_Sizes_clear_2 kx20 a0 f v1 M) := by
  intro f
  induction f with
  | zero => intros; exact V_.none
  | succ f ih =>
    intro v1 M
    unfold lp_Sizes_clear_2
    refine v_iloadn d_Sizes_clear_2 rfl 1 rfl ?_
    refine v_iconst d_Sizes_clear_3 (by decide) ?_
    refine v_icge d_Sizes_clear_4 ?_ ?_
    · refine v_sub (ls' := []) [] rfl ?_
      exact hkx20 M
    · refine v_aloadn d_Sizes_clear_7 rfl 0 rfl ?_
      refine v_iloadn d_Sizes_clear_8 rfl 1 rfl ?_
      refine v_iconst d_Sizes_clear_9 (by decide) ?_
      refine v_iconst d_Sizes_clear_10 (by decide) ?_
      refine v_cVv d_Sizes_clear_11 ml_Sizes_18 (q := (RX7, TX7, 2)) rfl (c_Sizes_set l hfl a0 v1 0 (-1) M) (fun _ => rfl) (by decide) (by decide) (as := [xI v1, xI 0, xI (-1)]) (st1 := []) rfl rfl (Nat.le_of_ble_eq_true rfl) (fun _ M => ?_)
      refine v_iinc (lz := fun z => [(1, xI z), (0, xA a0)]) d_Sizes_clear_14 1 rfl (Nat.le_of_ble_eq_true rfl) (fun _ => rfl) (fun v1_14 => ?_)
      refine v_goto d_Sizes_clear_17 ?_
      refine v_sub (ls' := [(0, xA a0), (1, xI v1_14)]) [1, 0] rfl ?_
      exact ih v1_14 M
set_option maxHeartbeats 4000000 in
set_option maxRecDepth 100000 in
theorem c_Sizes_clear (l : Launch) (hfl : l.stackTraces = false) (a0 : Nat) (M : mm_T) : vm_Con l yX7_clear (.code yX7_clear cX7_clear 2 none) 2 ex_V [xA a0] M (k_Sizes_clear a0 M) := by
  refine vm_con (y := q_Sizes_clear) hfl (by decide +kernel) rfl (fun h => by cases h) (Nat.le_of_ble_eq_true rfl) rfl (fun _ _ _ => rfl) (fun r E h => by cases h) (fun w => ?_)
  show V_ l w q_Sizes_clear 2 ex_V 0 [(0, xA a0)] [] M (k_Sizes_clear a0 M)
  unfold k_Sizes_clear
  refine v_iconst d_Sizes_clear_0 (by decide) ?_
  refine v_istoren (lz := fun z => [(1, xI z), (0, xA a0)]) d_Sizes_clear_1 rfl (Nat.le_of_ble_eq_true rfl) (fun _ => rfl) (fun v1_1 => ?_)
  refine v_sub (ls' := [(0, xA a0), (1, xI v1_1)]) [1, 0] rfl ?_
  refine V_lp_Sizes_clear_2 hfl _ _ (fun M => ?_) _ _ _
  · exact v_vret d_Sizes_clear_20 rfl
set_option maxHeartbeats 4000000 in
set_option maxRecDepth 100000 in
theorem c_Line_alike (l : Launch) (hfl : l.stackTraces = false) (a0 : Nat) (v1 : Int) (v2 : Int) (M : mm_T) : vm_Con l yX1_alike (.code yX1_alike cX1_alike 5 (some .int)) 1 ex_I [xA a0, xI v1, xI v2] M (k_Line_alike a0 v1 v2 M) := by
  refine vm_con (y := q_Line_alike) hfl (by decide +kernel) rfl (fun h => by cases h) (Nat.le_of_ble_eq_true rfl) rfl (fun _ _ _ => rfl) (fun r E h => by cases h) (fun w => ?_)
  show V_ l w q_Line_alike 1 ex_I 0 [(0, xA a0), (1, xI v1), (2, xI v2)] [] M (k_Line_alike a0 v1 v2 M)
  unfold k_Line_alike
  refine v_iloadn d_Line_alike_0 rfl 1 rfl ?_
  refine v_iloadn d_Line_alike_1 rfl 2 rfl ?_
  refine v_join1 (pj := 10) (lj := fun s0_10 => [(0, xA a0), (1, xI v1), (2, xI v2)]) (sj := fun s0_10 => [xI s0_10]) (fun s0_10 M => ?_) (fun j10 hj10 => ?_)
  · refine v_istoren (lz := fun z => [(3, xI z), (0, xA a0), (1, xI v1), (2, xI v2)]) d_Line_alike_10 rfl (Nat.le_of_ble_eq_true rfl) (fun _ => rfl) (fun v3_10 => ?_)
    refine v_iloadn d_Line_alike_11 rfl 2 rfl ?_
    refine v_iloadn d_Line_alike_12 rfl 3 rfl ?_
    refine v_join1 (pj := 21) (lj := fun s0_21 => [(0, xA a0), (3, xI v3_10)]) (sj := fun s0_21 => [xI s0_21]) (fun s0_21 M => ?_) (fun j21 hj21 => ?_)
    · refine v_istore (lz := fun z => [(4, xI z), (0, xA a0), (3, xI v3_10)]) d_Line_alike_21 (Nat.le_of_ble_eq_true rfl) (fun _ => rfl) (fun v4_21 => ?_)
      refine v_iload d_Line_alike_23 0 rfl ?_
      refine v_iflt d_Line_alike_25 ?_ ?_
      · refine v_iconst d_Line_alike_48 (by decide) ?_
        exact v_ret d_Line_alike_49 rfl
      · refine v_iload d_Line_alike_28 0 rfl ?_
        refine v_iloadn d_Line_alike_30 rfl 2 rfl ?_
        refine v_icge d_Line_alike_31 ?_ ?_
        · refine v_iconst d_Line_alike_48 (by decide) ?_
          exact v_ret d_Line_alike_49 rfl
        · refine v_iloadn d_Line_alike_34 rfl 2 rfl ?_
          refine v_aloadn d_Line_alike_35 rfl 1 rfl ?_
          refine v_gI d_Line_alike_36 fl_Line_30 rfl (fun x36 => ?_)
          refine v_icge d_Line_alike_39 ?_ ?_
          · refine v_iconst d_Line_alike_48 (by decide) ?_
            exact v_ret d_Line_alike_49 rfl
          · refine v_iloadn d_Line_alike_42 rfl 2 rfl ?_
            refine v_bipush d_Line_alike_43 (by decide) ?_
            refine v_iclt d_Line_alike_45 ?_ ?_
            · refine v_aloadn d_Line_alike_50 rfl 1 rfl ?_
              refine v_gR d_Line_alike_51 fl_Line_17 rfl (fun r51 => ?_)
              refine v_iloadn d_Line_alike_54 rfl 2 rfl ?_
              refine v_aald (t := 4) d_Line_alike_55 (by decide) rfl rfl (fun r55 => ?_)
              refine v_iload d_Line_alike_56 0 rfl ?_
              refine v_iald d_Line_alike_58 (fun x58 => ?_)
              exact v_ret d_Line_alike_59 rfl
            · refine v_iconst d_Line_alike_48 (by decide) ?_
              exact v_ret d_Line_alike_49 rfl
    refine v_icle d_Line_alike_13 ?_ ?_
    · refine v_iloadn d_Line_alike_20 rfl 2 rfl ?_
      refine v_sub (ls' := [(0, xA a0), (3, xI v3_10)]) [1, 0] rfl ?_
      exact hj21 v1 M
    · refine v_iloadn d_Line_alike_16 rfl 3 rfl ?_
      refine v_goto d_Line_alike_17 ?_
      refine v_sub (ls' := [(0, xA a0), (3, xI v3_10)]) [1, 0] rfl ?_
      exact hj21 v2 M
  refine v_icle d_Line_alike_2 ?_ ?_
  · refine v_iloadn d_Line_alike_9 rfl 2 rfl ?_
    exact hj10 v2 M
  · refine v_iloadn d_Line_alike_5 rfl 1 rfl ?_
    refine v_goto d_Line_alike_6 ?_
    exact hj10 v1 M
set_option maxHeartbeats 4000000 in
set_option maxRecDepth 100000 in
theorem c_Sizes_edge (l : Launch) (hfl : l.stackTraces = false) (a0 : Nat) (v1 : Int) (M : mm_T) : vm_Con l yX7_edge (.code yX7_edge cX7_edge 2 (some .int)) 1 ex_I [xA a0, xI v1] M (k_Sizes_edge a0 v1 M) := by
  refine vm_con (y := q_Sizes_edge) hfl (by decide +kernel) rfl (fun h => by cases h) (Nat.le_of_ble_eq_true rfl) rfl (fun _ _ _ => rfl) (fun r E h => by cases h) (fun w => ?_)
  show V_ l w q_Sizes_edge 1 ex_I 0 [(0, xA a0), (1, xI v1)] [] M (k_Sizes_edge a0 v1 M)
  unfold k_Sizes_edge
  refine v_iloadn d_Sizes_edge_0 rfl 1 rfl ?_
  refine v_join0 (pj := 22) (lj := []) (sj := []) (fun M => ?_) (fun j22 hj22 => ?_)
  · refine v_iconst d_Sizes_edge_22 (by decide) ?_
    exact v_ret d_Sizes_edge_23 rfl
  refine v_iflt d_Sizes_edge_1 ?_ ?_
  · refine v_sub (ls' := []) [] rfl ?_
    exact hj22 M
  · refine v_iloadn d_Sizes_edge_4 rfl 1 rfl ?_
    refine v_aloadn d_Sizes_edge_5 rfl 0 rfl ?_
    refine v_gR d_Sizes_edge_6 fl_Sizes_15 rfl (fun r6 => ?_)
    refine v_alen (t := 0) d_Sizes_edge_9 rfl (fun x9 => ?_)
    refine v_icge d_Sizes_edge_10 ?_ ?_
    · refine v_sub (ls' := []) [] rfl ?_
      exact hj22 M
    · refine v_aloadn d_Sizes_edge_13 rfl 0 rfl ?_
      refine v_gR d_Sizes_edge_14 fl_Sizes_15 rfl (fun r14 => ?_)
      refine v_iloadn d_Sizes_edge_17 rfl 1 rfl ?_
      refine v_iald d_Sizes_edge_18 (fun x18 => ?_)
      refine v_goto d_Sizes_edge_19 ?_
      exact v_ret d_Sizes_edge_23 rfl
set_option maxHeartbeats 4000000 in
set_option maxRecDepth 100000 in
theorem c_Sizes_of (l : Launch) (hfl : l.stackTraces = false) (a0 : Nat) (v1 : Int) (M : mm_T) : vm_Con l yX7_of (.code yX7_of cX7_of 2 (some .int)) 1 ex_I [xA a0, xI v1] M (k_Sizes_of a0 v1 M) := by
  refine vm_con (y := q_Sizes_of) hfl (by decide +kernel) rfl (fun h => by cases h) (Nat.le_of_ble_eq_true rfl) rfl (fun _ _ _ => rfl) (fun r E h => by cases h) (fun w => ?_)
  show V_ l w q_Sizes_of 1 ex_I 0 [(0, xA a0), (1, xI v1)] [] M (k_Sizes_of a0 v1 M)
  unfold k_Sizes_of
  refine v_iloadn d_Sizes_of_0 rfl 1 rfl ?_
  refine v_join0 (pj := 22) (lj := []) (sj := []) (fun M => ?_) (fun j22 hj22 => ?_)
  · refine v_iconst d_Sizes_of_22 (by decide) ?_
    exact v_ret d_Sizes_of_23 rfl
  refine v_iflt d_Sizes_of_1 ?_ ?_
  · refine v_sub (ls' := []) [] rfl ?_
    exact hj22 M
  · refine v_iloadn d_Sizes_of_4 rfl 1 rfl ?_
    refine v_aloadn d_Sizes_of_5 rfl 0 rfl ?_
    refine v_gR d_Sizes_of_6 fl_Sizes_9 rfl (fun r6 => ?_)
    refine v_alen (t := 0) d_Sizes_of_9 rfl (fun x9 => ?_)
    refine v_icge d_Sizes_of_10 ?_ ?_
    · refine v_sub (ls' := []) [] rfl ?_
      exact hj22 M
    · refine v_aloadn d_Sizes_of_13 rfl 0 rfl ?_
      refine v_gR d_Sizes_of_14 fl_Sizes_9 rfl (fun r14 => ?_)
      refine v_iloadn d_Sizes_of_17 rfl 1 rfl ?_
      refine v_iald d_Sizes_of_18 (fun x18 => ?_)
      refine v_goto d_Sizes_of_19 ?_
      exact v_ret d_Sizes_of_23 rfl
set_option maxHeartbeats 4000000 in
set_option maxRecDepth 100000 in
theorem c_Sizes_isAgainAt (l : Launch) (hfl : l.stackTraces = false) (a0 : Nat) (a1 : Nat) (v2 : Int) (v3 : Int) (v4 : Int) (M : mm_T) : vm_Con l yX7_isAgainAt (.code yX7_isAgainAt cX7_isAgainAt 7 (some .boolean)) 2 ex_Z [xA a0, xA a1, xI v2, xI v3, xI v4] M (k_Sizes_isAgainAt a0 a1 v2 v3 v4 M) := by
  refine vm_con (y := q_Sizes_isAgainAt) hfl (by decide +kernel) rfl (fun h => by cases h) (Nat.le_of_ble_eq_true rfl) rfl (fun _ _ _ => rfl) (fun r E h => by cases h) (fun w => ?_)
  show V_ l w q_Sizes_isAgainAt 2 ex_Z 0 [(0, xA a0), (1, xA a1), (2, xI v2), (3, xI v3), (4, xI v4)] [] M (k_Sizes_isAgainAt a0 a1 v2 v3 v4 M)
  unfold k_Sizes_isAgainAt
  refine v_aloadn d_Sizes_isAgainAt_0 rfl 0 rfl ?_
  refine v_iloadn d_Sizes_isAgainAt_1 rfl 2 rfl ?_
  refine v_cVi d_Sizes_isAgainAt_2 ml_Sizes_35 (q := (RX7, TX7, 2)) rfl (c_Sizes_of l hfl a0 v2 M) (fun _ => rfl) (by decide) (by decide) (as := [xI v2]) (st1 := []) rfl rfl (Nat.le_of_ble_eq_true rfl) (fun c2 M => ?_)
  refine v_istore (lz := fun z => [(5, xI z), (0, xA a0), (1, xA a1), (2, xI v2), (3, xI v3), (4, xI v4)]) d_Sizes_isAgainAt_5 (Nat.le_of_ble_eq_true rfl) (fun _ => rfl) (fun v5_5 => ?_)
  refine v_iload d_Sizes_isAgainAt_7 5 rfl ?_
  refine v_join1 (pj := 20) (lj := fun s0_20 => [(0, xA a0), (1, xA a1), (2, xI v2), (3, xI v3), (5, xI v5_5)]) (sj := fun s0_20 => [xI s0_20]) (fun s0_20 M => ?_) (fun j20 hj20 => ?_)
  · refine v_istore (lz := fun z => [(6, xI z), (0, xA a0), (1, xA a1), (2, xI v2), (3, xI v3), (5, xI v5_5)]) d_Sizes_isAgainAt_20 (Nat.le_of_ble_eq_true rfl) (fun _ => rfl) (fun v6_20 => ?_)
    refine v_aloadn d_Sizes_isAgainAt_22 rfl 2 rfl ?_
    refine v_aloadn d_Sizes_isAgainAt_23 rfl 1 rfl ?_
    refine v_iloadn d_Sizes_isAgainAt_24 rfl 3 rfl ?_
    refine v_cVi d_Sizes_isAgainAt_25 ml_Sizes_62 (q := (RX7, TX7, 2)) rfl (c_Sizes_edge l hfl a0 v2 M) (fun _ => rfl) (by decide) (by decide) (as := [xI v2]) (st1 := [xA a1]) rfl rfl (Nat.le_of_ble_eq_true rfl) (fun c25 M => ?_)
    refine v_iload d_Sizes_isAgainAt_28 0 rfl ?_
    refine v_iadd d_Sizes_isAgainAt_30 (fun x30 => ?_)
    refine v_iloadn d_Sizes_isAgainAt_31 rfl 4 rfl ?_
    refine v_iload d_Sizes_isAgainAt_32 0 rfl ?_
    refine v_iadd d_Sizes_isAgainAt_34 (fun x34 => ?_)
    refine v_cVi d_Sizes_isAgainAt_35 ml_Sizes_65 (q := (RX1, TX1, 5)) rfl (c_Line_alike l hfl a1 x30 x34 M) (fun _ => rfl) (by decide) (by decide) (as := [xI x30, xI x34]) (st1 := []) rfl rfl (Nat.le_of_ble_eq_true rfl) (fun c35 M => ?_)
    refine v_iload d_Sizes_isAgainAt_38 5 rfl ?_
    refine v_iclt d_Sizes_isAgainAt_40 ?_ ?_
    · refine v_iconst d_Sizes_isAgainAt_47 (by decide) ?_
      exact v_zret d_Sizes_isAgainAt_48 rfl
    · refine v_iconst d_Sizes_isAgainAt_43 (by decide) ?_
      refine v_goto d_Sizes_isAgainAt_44 ?_
      exact v_zret d_Sizes_isAgainAt_48 rfl
  refine v_ifle d_Sizes_isAgainAt_9 ?_ ?_
  · refine v_iconst d_Sizes_isAgainAt_19 (by decide) ?_
    refine v_sub (ls' := [(0, xA a0), (1, xA a1), (2, xI v2), (3, xI v3), (5, xI v5_5)]) [1, 2, 3, 4, 0] rfl ?_
    exact hj20 0 M
  · refine v_iload d_Sizes_isAgainAt_12 0 rfl ?_
    refine v_iconst d_Sizes_isAgainAt_14 (by decide) ?_
    refine v_isub d_Sizes_isAgainAt_15 (fun x15 => ?_)
    refine v_goto d_Sizes_isAgainAt_16 ?_
    refine v_sub (ls' := [(0, xA a0), (1, xA a1), (2, xI v2), (3, xI v3), (5, xI v5_5)]) [1, 2, 3, 4, 0] rfl ?_
    exact hj20 x15 M
set_option maxHeartbeats 4000000 in
set_option maxRecDepth 100000 in
theorem V_lp_Sizes_lays_131 {l : Launch} {w : vm_W} (hfl : l.stackTraces = false) {d : Nat} (kx199 : Int → Int → mm_T → Option (Int × mm_T)) (a1 : Nat) (a2 : Nat) (v5 : Int) (v6 : Int) {a0 : Nat} {v3 : Int} {v4 : Int} (hkx199 : ∀ (v8_e : Int) (v9_e : Int) (M : mm_T), V_ l w q_Sizes_lays (3 + d) ex_Z 199 [(0, xA a0), (1, xA a1), (2, xA a2), (3, xI v3), (4, xI v4), (5, xI v5), (6, xI v6), (8, xI v8_e), (9, xI v9_e)] [] M (kx199 v8_e v9_e M)) : ∀ (f : Nat) (v8 : Int) (v9 : Int) (v10 : Int) (M : mm_T), V_ l w q_Sizes_lays (3 + d) ex_Z 131 [(0, xA a0), (1, xA a1), (2, xA a2), (3, xI v3), (4, xI v4), (5, xI v5), (6, xI v6), (8, xI v8), (9, xI v9), (10, xI v10)] [] M (lp_Sizes_lays_131 kx199 a1 a2 v5 v6 f v8 v9 v10 M) := by
  intro f
  induction f with
  | zero => intros; exact V_.none
  | succ f ih =>
    intro v8 v9 v10 M
    unfold lp_Sizes_lays_131
    refine v_iload d_Sizes_lays_131 9 rfl ?_
    refine v_aloadn d_Sizes_lays_133 rfl 1 rfl ?_
    refine v_gI d_Sizes_lays_134 fl_Sizes_22 rfl (fun x134 => ?_)
    refine v_icge d_Sizes_lays_137 ?_ ?_
    · refine v_sub (ls' := [(0, xA a0), (1, xA a1), (2, xA a2), (3, xI v3), (4, xI v4), (5, xI v5), (6, xI v6), (8, xI v8), (9, xI v9)]) [0, 1, 2, 3, 4, 5, 6, 7, 8] rfl ?_
      exact hkx199 v8 v9 M
    · refine v_aloadn d_Sizes_lays_140 rfl 1 rfl ?_
      refine v_iload d_Sizes_lays_141 5 rfl ?_
      refine v_join2 (pj := 160) (lj := fun sa0_160 s1_160 => [(0, xA a0), (1, xA a1), (2, xA a2), (3, xI v3), (4, xI v4), (5, xI v5), (6, xI v6), (8, xI v8), (9, xI v9), (10, xI v10)]) (sj := fun sa0_160 s1_160 => [xI s1_160, xA sa0_160]) (fun sa0_160 s1_160 M => ?_) (fun j160 hj160 => ?_)
      · refine v_cVi d_Sizes_lays_160 ml_Sizes_31 (q := (RX6, TX6, 5)) rfl (c_Shape_at l hfl sa0_160 s1_160 M) (fun _ => rfl) (by omega) (by decide) (as := [xI s1_160]) (st1 := []) rfl rfl (Nat.le_of_ble_eq_true rfl) (fun c160 M => ?_)
        refine v_istore (lz := fun z => [(11, xI z), (0, xA a0), (1, xA a1), (2, xA a2), (3, xI v3), (4, xI v4), (5, xI v5), (6, xI v6), (8, xI v8), (9, xI v9), (10, xI v10)]) d_Sizes_lays_163 (Nat.le_of_ble_eq_true rfl) (fun _ => rfl) (fun v11_163 => ?_)
        refine v_iload d_Sizes_lays_165 0 rfl ?_
        refine v_iload d_Sizes_lays_167 7 rfl ?_
        refine v_join2 (pj := 193) (lj := fun v8_193 v9_193 => [(0, xA a0), (1, xA a1), (2, xA a2), (3, xI v3), (4, xI v4), (5, xI v5), (6, xI v6), (8, xI v8_193), (9, xI v9_193), (10, xI v10)]) (sj := fun v8_193 v9_193 => []) (fun v8_193 v9_193 M => ?_) (fun j193 hj193 => ?_)
        · refine v_iinc (lz := fun z => [(10, xI z), (0, xA a0), (1, xA a1), (2, xA a2), (3, xI v3), (4, xI v4), (5, xI v5), (6, xI v6), (8, xI v8_193), (9, xI v9_193)]) d_Sizes_lays_193 9 rfl (Nat.le_of_ble_eq_true rfl) (fun _ => rfl) (fun v10_193 => ?_)
          refine v_goto d_Sizes_lays_196 ?_
          refine v_sub (ls' := [(0, xA a0), (1, xA a1), (2, xA a2), (3, xI v3), (4, xI v4), (5, xI v5), (6, xI v6), (8, xI v8_193), (9, xI v9_193), (10, xI v10_193)]) [1, 2, 3, 4, 5, 6, 7, 8, 9, 0] rfl ?_
          exact ih v8_193 v9_193 v10_193 M
        refine v_icne d_Sizes_lays_169 ?_ ?_
        · refine v_iload d_Sizes_lays_178 8 rfl ?_
          refine v_iconst d_Sizes_lays_180 (by decide) ?_
          refine v_aloadn d_Sizes_lays_181 rfl 3 rfl ?_
          refine v_iload d_Sizes_lays_182 0 rfl ?_
          refine v_cVi d_Sizes_lays_184 ml_Sizes_35 (q := (RX7, TX7, 2)) rfl (c_Sizes_of l hfl a2 v11_163 M) (fun _ => rfl) (by omega) (by decide) (as := [xI v11_163]) (st1 := [xI 1, xI v8]) rfl rfl (Nat.le_of_ble_eq_true rfl) (fun c184 M => ?_)
          refine v_mmax d_Sizes_lays_187 gw_520 gw_466 gw_131 gw_467 (by first | decide | omega) (Nat.le_of_ble_eq_true rfl) ?_
          refine v_isub d_Sizes_lays_190 (fun x190 => ?_)
          refine v_istore (lz := fun z => [(8, xI z), (11, xI v11_163), (0, xA a0), (1, xA a1), (2, xA a2), (3, xI v3), (4, xI v4), (5, xI v5), (6, xI v6), (9, xI v9), (10, xI v10)]) d_Sizes_lays_191 (Nat.le_of_ble_eq_true rfl) (fun _ => rfl) (fun v8_191 => ?_)
          refine v_sub (ls' := [(0, xA a0), (1, xA a1), (2, xA a2), (3, xI v3), (4, xI v4), (5, xI v5), (6, xI v6), (8, xI v8_191), (9, xI v9), (10, xI v10)]) [2, 3, 4, 5, 6, 7, 8, 0, 9, 10] rfl ?_
          exact hj193 v8_191 v9 M
        · refine v_iinc (lz := fun z => [(9, xI z), (11, xI v11_163), (0, xA a0), (1, xA a1), (2, xA a2), (3, xI v3), (4, xI v4), (5, xI v5), (6, xI v6), (8, xI v8), (10, xI v10)]) d_Sizes_lays_172 9 rfl (Nat.le_of_ble_eq_true rfl) (fun _ => rfl) (fun v9_172 => ?_)
          refine v_goto d_Sizes_lays_175 ?_
          refine v_sub (ls' := [(0, xA a0), (1, xA a1), (2, xA a2), (3, xI v3), (4, xI v4), (5, xI v5), (6, xI v6), (8, xI v8), (9, xI v9_172), (10, xI v10)]) [2, 3, 4, 5, 6, 7, 8, 9, 0, 10] rfl ?_
          exact hj193 v8 v9_172 M
      refine v_ifle d_Sizes_lays_143 ?_ ?_
      · refine v_aloadn d_Sizes_lays_151 rfl 1 rfl ?_
        refine v_gI d_Sizes_lays_152 fl_Sizes_22 rfl (fun x152 => ?_)
        refine v_iconst d_Sizes_lays_155 (by decide) ?_
        refine v_isub d_Sizes_lays_156 (fun x156 => ?_)
        refine v_iload d_Sizes_lays_157 9 rfl ?_
        refine v_isub d_Sizes_lays_159 (fun x159 => ?_)
        exact hj160 a1 x159 M
      · refine v_iload d_Sizes_lays_146 9 rfl ?_
        refine v_goto d_Sizes_lays_148 ?_
        exact hj160 a1 v10 M
set_option maxHeartbeats 4000000 in
set_option maxRecDepth 100000 in
theorem V_lp_Sizes_lays_249 {l : Launch} {w : vm_W} (hfl : l.stackTraces = false) {d : Nat} (kx306 : mm_T → Option (Int × mm_T)) (rec : Nat → Nat → Nat → Int → Int → Int → mm_T → Option (Int × mm_T)) (a0 : Nat) (a1 : Nat) (a2 : Nat) (v3 : Int) (v4 : Int) (v5 : Int) (v6 : Int) (v8 : Int) (v9 : Int) (v10 : Int) (hkx306 : ∀ (M : mm_T), V_ l w q_Sizes_lays (3 + d) ex_Z 306 [(2, xA a2), (6, xI v6)] [] M (kx306 M)) (hrec : ∀ (a0 : Nat) (a1 : Nat) (a2 : Nat) (v3 : Int) (v4 : Int) (v5 : Int) (M : mm_T), vm_Con l yX7_lays (.code yX7_lays cX7_lays 12 (some .boolean)) (3 + d - 1) ex_Z [xA a0, xA a1, xA a2, xI v3, xI v4, xI v5] M (rec a0 a1 a2 v3 v4 v5 M)) (hd0 : 1 ≤ d) : ∀ (f : Nat) (v11 : Int) (M : mm_T), V_ l w q_Sizes_lays (3 + d) ex_Z 249 [(0, xA a0), (1, xA a1), (2, xA a2), (3, xI v3), (4, xI v4), (5, xI v5), (6, xI v6), (8, xI v8), (9, xI v9), (10, xI v10), (11, xI v11)] [] M (lp_Sizes_lays_249 kx306 rec a0 a1 a2 v3 v4 v5 v6 v8 v9 v10 f v11 M) := by
  intro f
  induction f with
  | zero => intros; exact V_.none
  | succ f ih =>
    intro v11 M
    unfold lp_Sizes_lays_249
    refine v_iload d_Sizes_lays_249 10 rfl ?_
    refine v_iload d_Sizes_lays_251 8 rfl ?_
    refine v_imul d_Sizes_lays_253 (fun x253 => ?_)
    refine v_iload d_Sizes_lays_254 7 rfl ?_
    refine v_icgt d_Sizes_lays_256 ?_ ?_
    · refine v_sub (ls' := [(2, xA a2), (6, xI v6)]) [2, 6] rfl ?_
      exact hkx306 M
    · refine v_iload d_Sizes_lays_259 10 rfl ?_
      refine v_iload d_Sizes_lays_261 9 rfl ?_
      refine v_icgt d_Sizes_lays_263 ?_ ?_
      · refine v_sub (ls' := [(2, xA a2), (6, xI v6)]) [2, 6] rfl ?_
        exact hkx306 M
      · refine v_aloadn d_Sizes_lays_266 rfl 2 rfl ?_
        refine v_iload d_Sizes_lays_267 6 rfl ?_
        refine v_iload d_Sizes_lays_269 10 rfl ?_
        refine v_iload d_Sizes_lays_271 4 rfl ?_
        refine v_cVv d_Sizes_lays_273 ml_Sizes_18 (q := (RX7, TX7, 2)) rfl (c_Sizes_set l hfl a2 v6 v11 v4 M) (fun _ => rfl) (by omega) (by decide) (as := [xI v6, xI v11, xI v4]) (st1 := []) rfl rfl (Nat.le_of_ble_eq_true rfl) (fun _ M => ?_)
        refine v_aloadn d_Sizes_lays_276 rfl 0 rfl ?_
        refine v_aloadn d_Sizes_lays_277 rfl 1 rfl ?_
        refine v_aloadn d_Sizes_lays_278 rfl 2 rfl ?_
        refine v_iloadn d_Sizes_lays_279 rfl 3 rfl ?_
        refine v_iconst d_Sizes_lays_280 (by decide) ?_
        refine v_iadd d_Sizes_lays_281 (fun x281 => ?_)
        refine v_iload d_Sizes_lays_282 4 rfl ?_
        refine v_iload d_Sizes_lays_284 5 rfl ?_
        refine v_iload d_Sizes_lays_286 10 rfl ?_
        refine v_imul d_Sizes_lays_288 (fun x288 => ?_)
        refine v_iadd d_Sizes_lays_289 (fun x289 => ?_)
        refine v_iload d_Sizes_lays_290 5 rfl ?_
        refine v_cSi d_Sizes_lays_292 ml_Sizes_42 (hrec a0 a1 a2 x281 x289 v5 M) (fun _ => rfl) (by omega) (by decide) (as := [xA a0, xA a1, xA a2, xI x281, xI x289, xI v5]) (st1 := []) rfl rfl (Nat.le_of_ble_eq_true rfl) (fun c292 M => ?_)
        refine v_ifeq d_Sizes_lays_295 ?_ ?_
        · refine v_iinc (lz := fun z => [(11, xI z), (0, xA a0), (1, xA a1), (2, xA a2), (3, xI v3), (4, xI v4), (5, xI v5), (6, xI v6), (8, xI v8), (9, xI v9), (10, xI v10)]) d_Sizes_lays_300 10 rfl (Nat.le_of_ble_eq_true rfl) (fun _ => rfl) (fun v11_300 => ?_)
          refine v_goto d_Sizes_lays_303 ?_
          refine v_sub (ls' := [(0, xA a0), (1, xA a1), (2, xA a2), (3, xI v3), (4, xI v4), (5, xI v5), (6, xI v6), (8, xI v8), (9, xI v9), (10, xI v10), (11, xI v11_300)]) [1, 2, 3, 4, 5, 6, 7, 8, 9, 10, 0] rfl ?_
          exact ih v11_300 M
        · refine v_iconst d_Sizes_lays_298 (by decide) ?_
          exact v_zret d_Sizes_lays_299 rfl
set_option maxHeartbeats 4000000 in
set_option maxRecDepth 100000 in
theorem c_Sizes_lays (l : Launch) (hfl : l.stackTraces = false) : ∀ (d : Nat) (a0 : Nat) (a1 : Nat) (a2 : Nat) (v3 : Int) (v4 : Int) (v5 : Int) (M : mm_T), vm_Con l yX7_lays (.code yX7_lays cX7_lays 12 (some .boolean)) (3 + d) ex_Z [xA a0, xA a1, xA a2, xI v3, xI v4, xI v5] M (k_Sizes_lays d a0 a1 a2 v3 v4 v5 M) := by
  intro d
  induction d with
  | zero => intro a0 a1 a2 v3 v4 v5 M w r M' hk; cases hk
  | succ d ih =>
  intro a0 a1 a2 v3 v4 v5 M
  refine vm_con (y := q_Sizes_lays) hfl (by decide +kernel) rfl (fun h => by cases h) (Nat.le_of_ble_eq_true rfl) rfl (fun _ _ _ => rfl) (fun r E h => by cases h) (fun w => ?_)
  show V_ l w q_Sizes_lays (3 + (d + 1)) ex_Z 0 [(0, xA a0), (1, xA a1), (2, xA a2), (3, xI v3), (4, xI v4), (5, xI v5)] [] M (k_Sizes_lays (d + 1) a0 a1 a2 v3 v4 v5 M)
  unfold k_Sizes_lays
  have hrec : ∀ (a0 : Nat) (a1 : Nat) (a2 : Nat) (v3 : Int) (v4 : Int) (v5 : Int) (M : mm_T), vm_Con l yX7_lays (.code yX7_lays cX7_lays 12 (some .boolean)) (3 + (d + 1) - 1) ex_Z [xA a0, xA a1, xA a2, xI v3, xI v4, xI v5] M (k_Sizes_lays d a0 a1 a2 v3 v4 v5 M) := ih
  have hd0 : 1 ≤ d + 1 := by omega
  refine v_iloadn d_Sizes_lays_0 rfl 3 rfl ?_
  refine v_aloadn d_Sizes_lays_1 rfl 1 rfl ?_
  refine v_gI d_Sizes_lays_2 fl_Sizes_22 rfl (fun x2 => ?_)
  refine v_icge d_Sizes_lays_5 ?_ ?_
  · refine v_iconst d_Sizes_lays_14 (by decide) ?_
    exact v_zret d_Sizes_lays_15 rfl
  · refine v_iloadn d_Sizes_lays_8 rfl 3 rfl ?_
    refine v_bipush d_Sizes_lays_9 (by decide) ?_
    refine v_iclt d_Sizes_lays_11 ?_ ?_
    · refine v_iloadn d_Sizes_lays_16 rfl 3 rfl ?_
      refine v_join0 (pj := 24) (lj := [(0, xA a0), (1, xA a1), (2, xA a2), (3, xI v3), (4, xI v4), (5, xI v5)]) (sj := []) (fun M => ?_) (fun j24 hj24 => ?_)
      · refine v_aloadn d_Sizes_lays_24 rfl 1 rfl ?_
        refine v_iload d_Sizes_lays_25 5 rfl ?_
        refine v_join2 (pj := 42) (lj := fun sa0_42 s1_42 => [(0, xA a0), (1, xA a1), (2, xA a2), (3, xI v3), (4, xI v4), (5, xI v5)]) (sj := fun sa0_42 s1_42 => [xI s1_42, xA sa0_42]) (fun sa0_42 s1_42 M => ?_) (fun j42 hj42 => ?_)
        · refine v_cVi d_Sizes_lays_42 ml_Sizes_31 (q := (RX6, TX6, 5)) rfl (c_Shape_at l hfl sa0_42 s1_42 M) (fun _ => rfl) (by omega) (by decide) (as := [xI s1_42]) (st1 := []) rfl rfl (Nat.le_of_ble_eq_true rfl) (fun c42 M => ?_)
          refine v_istore (lz := fun z => [(6, xI z), (0, xA a0), (1, xA a1), (2, xA a2), (3, xI v3), (4, xI v4), (5, xI v5)]) d_Sizes_lays_45 (Nat.le_of_ble_eq_true rfl) (fun _ => rfl) (fun v6_45 => ?_)
          refine v_aloadn d_Sizes_lays_47 rfl 3 rfl ?_
          refine v_iload d_Sizes_lays_48 0 rfl ?_
          refine v_cVi d_Sizes_lays_50 ml_Sizes_35 (q := (RX7, TX7, 2)) rfl (c_Sizes_of l hfl a2 v6_45 M) (fun _ => rfl) (by omega) (by decide) (as := [xI v6_45]) (st1 := []) rfl rfl (Nat.le_of_ble_eq_true rfl) (fun c50 M => ?_)
          refine v_istore (lz := fun z => [(7, xI z), (6, xI v6_45), (0, xA a0), (1, xA a1), (2, xA a2), (3, xI v3), (4, xI v4), (5, xI v5)]) d_Sizes_lays_53 (Nat.le_of_ble_eq_true rfl) (fun _ => rfl) (fun v7_53 => ?_)
          refine v_iload d_Sizes_lays_55 0 rfl ?_
          refine v_ifle d_Sizes_lays_57 ?_ ?_
          · refine v_iload d_Sizes_lays_102 7 rfl ?_
            refine v_join1 (pj := 121) (lj := fun s0_121 => [(0, xA a0), (1, xA a1), (2, xA a2), (3, xI v3), (4, xI v4), (5, xI v5), (6, xI v6_45)]) (sj := fun s0_121 => [xI s0_121]) (fun s0_121 M => ?_) (fun j121 hj121 => ?_)
            · refine v_istore (lz := fun z => [(8, xI z), (0, xA a0), (1, xA a1), (2, xA a2), (3, xI v3), (4, xI v4), (5, xI v5), (6, xI v6_45)]) d_Sizes_lays_121 (Nat.le_of_ble_eq_true rfl) (fun _ => rfl) (fun v8_121 => ?_)
              refine v_iconst d_Sizes_lays_123 (by decide) ?_
              refine v_istore (lz := fun z => [(9, xI z), (8, xI v8_121), (0, xA a0), (1, xA a1), (2, xA a2), (3, xI v3), (4, xI v4), (5, xI v5), (6, xI v6_45)]) d_Sizes_lays_124 (Nat.le_of_ble_eq_true rfl) (fun _ => rfl) (fun v9_124 => ?_)
              refine v_iloadn d_Sizes_lays_126 rfl 5 rfl ?_
              refine v_iconst d_Sizes_lays_127 (by decide) ?_
              refine v_iadd d_Sizes_lays_128 (fun x128 => ?_)
              refine v_istore (lz := fun z => [(10, xI z), (9, xI v9_124), (8, xI v8_121), (0, xA a0), (1, xA a1), (2, xA a2), (3, xI v3), (4, xI v4), (5, xI v5), (6, xI v6_45)]) d_Sizes_lays_129 (Nat.le_of_ble_eq_true rfl) (fun _ => rfl) (fun v10_129 => ?_)
              refine v_sub (ls' := [(0, xA a0), (1, xA a1), (2, xA a2), (3, xI v3), (4, xI v4), (5, xI v5), (6, xI v6_45), (8, xI v8_121), (9, xI v9_124), (10, xI v10_129)]) [3, 4, 5, 6, 7, 8, 9, 2, 1, 0] rfl ?_
              refine V_lp_Sizes_lays_131 hfl _ _ _ _ _ (fun v8_199 v9_199 M => ?_) _ _ _ _ _
              · refine v_iload d_Sizes_lays_199 7 rfl ?_
                refine v_istore (lz := fun z => [(10, xI z), (0, xA a0), (1, xA a1), (2, xA a2), (3, xI v3), (4, xI v4), (5, xI v5), (6, xI v6_45), (8, xI v8_199), (9, xI v9_199)]) d_Sizes_lays_201 (Nat.le_of_ble_eq_true rfl) (fun _ => rfl) (fun v10_201 => ?_)
                refine v_iload d_Sizes_lays_203 6 rfl ?_
                refine v_join1 (pj := 246) (lj := fun v10_246 => [(0, xA a0), (1, xA a1), (2, xA a2), (3, xI v3), (4, xI v4), (5, xI v5), (6, xI v6_45), (8, xI v8_199), (9, xI v9_199), (10, xI v10_246)]) (sj := fun v10_246 => []) (fun v10_246 M => ?_) (fun j246 hj246 => ?_)
                · refine v_iconst d_Sizes_lays_246 (by decide) ?_
                  refine v_istore (lz := fun z => [(11, xI z), (0, xA a0), (1, xA a1), (2, xA a2), (3, xI v3), (4, xI v4), (5, xI v5), (6, xI v6_45), (8, xI v8_199), (9, xI v9_199), (10, xI v10_246)]) d_Sizes_lays_247 (Nat.le_of_ble_eq_true rfl) (fun _ => rfl) (fun v11_247 => ?_)
                  refine v_sub (ls' := [(0, xA a0), (1, xA a1), (2, xA a2), (3, xI v3), (4, xI v4), (5, xI v5), (6, xI v6_45), (8, xI v8_199), (9, xI v9_199), (10, xI v10_246), (11, xI v11_247)]) [1, 2, 3, 4, 5, 6, 7, 8, 9, 10, 0] rfl ?_
                  refine V_lp_Sizes_lays_249 hfl _ _ _ _ _ _ _ _ _ _ _ _ (fun M => ?_) (by exact hrec) (by omega) _ _ _
                  · refine v_aloadn d_Sizes_lays_306 rfl 0 rfl ?_
                    refine v_iload d_Sizes_lays_307 1 rfl ?_
                    refine v_iconst d_Sizes_lays_309 (by decide) ?_
                    refine v_iconst d_Sizes_lays_310 (by decide) ?_
                    refine v_cVv d_Sizes_lays_311 ml_Sizes_18 (q := (RX7, TX7, 2)) rfl (c_Sizes_set l hfl a2 v6_45 0 (-1) M) (fun _ => rfl) (by omega) (by decide) (as := [xI v6_45, xI 0, xI (-1)]) (st1 := []) rfl rfl (Nat.le_of_ble_eq_true rfl) (fun _ M => ?_)
                    refine v_iconst d_Sizes_lays_314 (by decide) ?_
                    exact v_zret d_Sizes_lays_315 rfl
                refine v_ifge d_Sizes_lays_205 ?_ ?_
                · refine v_sub (ls' := [(0, xA a0), (1, xA a1), (2, xA a2), (3, xI v3), (4, xI v4), (5, xI v5), (6, xI v6_45), (8, xI v8_199), (9, xI v9_199), (10, xI v10_201)]) [1, 2, 3, 4, 5, 6, 7, 8, 9, 0] rfl ?_
                  exact hj246 v10_201 M
                · refine v_iload d_Sizes_lays_208 9 rfl ?_
                  refine v_iconst d_Sizes_lays_210 (by decide) ?_
                  refine v_join1 (pj := 244) (lj := fun s0_244 => [(0, xA a0), (1, xA a1), (2, xA a2), (3, xI v3), (4, xI v4), (5, xI v5), (6, xI v6_45), (8, xI v8_199), (9, xI v9_199)]) (sj := fun s0_244 => [xI s0_244]) (fun s0_244 M => ?_) (fun j244 hj244 => ?_)
                  · refine v_istore (lz := fun z => [(10, xI z), (0, xA a0), (1, xA a1), (2, xA a2), (3, xI v3), (4, xI v4), (5, xI v5), (6, xI v6_45), (8, xI v8_199), (9, xI v9_199)]) d_Sizes_lays_244 (Nat.le_of_ble_eq_true rfl) (fun _ => rfl) (fun v10_244 => ?_)
                    refine v_sub (ls' := [(0, xA a0), (1, xA a1), (2, xA a2), (3, xI v3), (4, xI v4), (5, xI v5), (6, xI v6_45), (8, xI v8_199), (9, xI v9_199), (10, xI v10_244)]) [1, 2, 3, 4, 5, 6, 7, 8, 9, 0] rfl ?_
                    exact hj246 v10_244 M
                  refine v_icle d_Sizes_lays_211 ?_ ?_
                  · refine v_aloadn d_Sizes_lays_223 rfl 2 rfl ?_
                    refine v_aloadn d_Sizes_lays_224 rfl 2 rfl ?_
                    refine v_gI d_Sizes_lays_225 fl_Sizes_22 rfl (fun x225 => ?_)
                    refine v_iconst d_Sizes_lays_228 (by decide) ?_
                    refine v_isub d_Sizes_lays_229 (fun x229 => ?_)
                    refine v_iloadn d_Sizes_lays_230 rfl 4 rfl ?_
                    refine v_isub d_Sizes_lays_231 (fun x231 => ?_)
                    refine v_cVi d_Sizes_lays_232 ml_Sizes_58 (q := (RX6, TX6, 5)) rfl (c_Shape_isShort l hfl a1 x231 M) (fun _ => rfl) (by omega) (by decide) (as := [xI x231]) (st1 := []) rfl rfl (Nat.le_of_ble_eq_true rfl) (fun c232 M => ?_)
                    refine v_ifeq d_Sizes_lays_235 ?_ ?_
                    · refine v_iload d_Sizes_lays_242 8 rfl ?_
                      refine v_sub (ls' := [(0, xA a0), (1, xA a1), (2, xA a2), (3, xI v3), (4, xI v4), (5, xI v5), (6, xI v6_45), (8, xI v8_199), (9, xI v9_199)]) [1, 2, 3, 4, 5, 6, 7, 8, 9] rfl ?_
                      exact hj244 v8_199 M
                    · refine v_iconst d_Sizes_lays_238 (by decide) ?_
                      refine v_goto d_Sizes_lays_239 ?_
                      refine v_sub (ls' := [(0, xA a0), (1, xA a1), (2, xA a2), (3, xI v3), (4, xI v4), (5, xI v5), (6, xI v6_45), (8, xI v8_199), (9, xI v9_199)]) [1, 2, 3, 4, 5, 6, 7, 8, 9] rfl ?_
                      exact hj244 1 M
                  · refine v_aloadn d_Sizes_lays_214 rfl 1 rfl ?_
                    refine v_iload d_Sizes_lays_215 5 rfl ?_
                    refine v_cVi d_Sizes_lays_217 ml_Sizes_55 (q := (RX1, TX1, 5)) rfl (c_Line_twiceAt l hfl a0 v4 M) (fun _ => rfl) (by omega) (by decide) (as := [xI v4]) (st1 := []) rfl rfl (Nat.le_of_ble_eq_true rfl) (fun c217 M => ?_)
                    refine v_goto d_Sizes_lays_220 ?_
                    refine v_sub (ls' := [(0, xA a0), (1, xA a1), (2, xA a2), (3, xI v3), (4, xI v4), (5, xI v5), (6, xI v6_45), (8, xI v8_199), (9, xI v9_199)]) [1, 2, 3, 4, 5, 6, 7, 8, 9] rfl ?_
                    exact hj244 c217 M
            refine v_ifle d_Sizes_lays_104 ?_ ?_
            · refine v_iload d_Sizes_lays_117 6 rfl ?_
              refine v_iconst d_Sizes_lays_119 (by decide) ?_
              refine v_iadd d_Sizes_lays_120 (fun x120 => ?_)
              refine v_sub (ls' := [(0, xA a0), (1, xA a1), (2, xA a2), (3, xI v3), (4, xI v4), (5, xI v5), (6, xI v6_45)]) [2, 3, 4, 5, 6, 7, 1] rfl ?_
              exact hj121 x120 M
            · refine v_aloadn d_Sizes_lays_107 rfl 2 rfl ?_
              refine v_gI d_Sizes_lays_108 fl_Sizes_46 rfl (fun x108 => ?_)
              refine v_iload d_Sizes_lays_111 6 rfl ?_
              refine v_isub d_Sizes_lays_113 (fun x113 => ?_)
              refine v_goto d_Sizes_lays_114 ?_
              refine v_sub (ls' := [(0, xA a0), (1, xA a1), (2, xA a2), (3, xI v3), (4, xI v4), (5, xI v5), (6, xI v6_45)]) [2, 3, 4, 5, 6, 7, 1] rfl ?_
              exact hj121 x113 M
          · refine v_aloadn d_Sizes_lays_60 rfl 4 rfl ?_
            refine v_aloadn d_Sizes_lays_61 rfl 2 rfl ?_
            refine v_iload d_Sizes_lays_62 1 rfl ?_
            refine v_iload d_Sizes_lays_64 6 rfl ?_
            refine v_iload d_Sizes_lays_66 7 rfl ?_
            refine v_cVi d_Sizes_lays_68 ml_Sizes_38 (q := (RX7, TX7, 2)) rfl (c_Sizes_isAgainAt l hfl a2 a0 v6_45 v4 v5 M) (fun _ => rfl) (by omega) (by decide) (as := [xA a0, xI v6_45, xI v4, xI v5]) (st1 := []) rfl rfl (Nat.le_of_ble_eq_true rfl) (fun c68 M => ?_)
            refine v_join0 (pj := 100) (lj := []) (sj := []) (fun M => ?_) (fun j100 hj100 => ?_)
            · refine v_iconst d_Sizes_lays_100 (by decide) ?_
              exact v_zret d_Sizes_lays_101 rfl
            refine v_ifeq d_Sizes_lays_71 ?_ ?_
            · refine v_sub (ls' := []) [] rfl ?_
              exact hj100 M
            · refine v_aloadn d_Sizes_lays_74 rfl 2 rfl ?_
              refine v_aloadn d_Sizes_lays_75 rfl 3 rfl ?_
              refine v_aloadn d_Sizes_lays_76 rfl 4 rfl ?_
              refine v_iloadn d_Sizes_lays_77 rfl 5 rfl ?_
              refine v_iconst d_Sizes_lays_78 (by decide) ?_
              refine v_iadd d_Sizes_lays_79 (fun x79 => ?_)
              refine v_iload d_Sizes_lays_80 6 rfl ?_
              refine v_iload d_Sizes_lays_82 7 rfl ?_
              refine v_iload d_Sizes_lays_84 0 rfl ?_
              refine v_imul d_Sizes_lays_86 (fun x86 => ?_)
              refine v_iadd d_Sizes_lays_87 (fun x87 => ?_)
              refine v_iload d_Sizes_lays_88 7 rfl ?_
              refine v_cSi d_Sizes_lays_90 ml_Sizes_42 (hrec a0 a1 a2 x79 x87 v5 M) (fun _ => rfl) (by omega) (by decide) (as := [xA a0, xA a1, xA a2, xI x79, xI x87, xI v5]) (st1 := []) rfl rfl (Nat.le_of_ble_eq_true rfl) (fun c90 M => ?_)
              refine v_ifeq d_Sizes_lays_93 ?_ ?_
              · refine v_sub (ls' := []) [] rfl ?_
                exact hj100 M
              · refine v_iconst d_Sizes_lays_96 (by decide) ?_
                refine v_goto d_Sizes_lays_97 ?_
                exact v_zret d_Sizes_lays_101 rfl
        refine v_ifle d_Sizes_lays_27 ?_ ?_
        · refine v_aloadn d_Sizes_lays_34 rfl 1 rfl ?_
          refine v_gI d_Sizes_lays_35 fl_Sizes_22 rfl (fun x35 => ?_)
          refine v_iconst d_Sizes_lays_38 (by decide) ?_
          refine v_isub d_Sizes_lays_39 (fun x39 => ?_)
          refine v_iloadn d_Sizes_lays_40 rfl 3 rfl ?_
          refine v_isub d_Sizes_lays_41 (fun x41 => ?_)
          exact hj42 a1 x41 M
        · refine v_iloadn d_Sizes_lays_30 rfl 3 rfl ?_
          refine v_goto d_Sizes_lays_31 ?_
          exact hj42 a1 v3 M
      refine v_ifne d_Sizes_lays_17 ?_ ?_
      · exact hj24 M
      · refine v_aloadn d_Sizes_lays_20 rfl 2 rfl ?_
        refine v_cVv d_Sizes_lays_21 ml_Sizes_28 (q := (RX7, TX7, 2)) rfl (c_Sizes_clear l hfl a2 M) (fun _ => rfl) (by omega) (by decide) (as := []) (st1 := []) rfl rfl (Nat.le_of_ble_eq_true rfl) (fun _ M => ?_)
        exact hj24 M
    · refine v_iconst d_Sizes_lays_14 (by decide) ?_
      exact v_zret d_Sizes_lays_15 rfl
set_option maxHeartbeats 4000000 in
set_option maxRecDepth 100000 in
theorem c_Told_isBeyond (l : Launch) (hfl : l.stackTraces = false) (a0 : Nat) (v1 : Int) (v2 : Int) (M : mm_T) : vm_Con l yX9_isBeyond (.code yX9_isBeyond cX9_isBeyond 4 (some .boolean)) 1 ex_Z [xA a0, xI v1, xI v2] M (k_Told_isBeyond a0 v1 v2 M) := by
  refine vm_con (y := q_Told_isBeyond) hfl (by decide +kernel) rfl (fun h => by cases h) (Nat.le_of_ble_eq_true rfl) rfl (fun _ _ _ => rfl) (fun r E h => by cases h) (fun w => ?_)
  show V_ l w q_Told_isBeyond 1 ex_Z 0 [(0, xA a0), (1, xI v1), (2, xI v2)] [] M (k_Told_isBeyond a0 v1 v2 M)
  unfold k_Told_isBeyond
  refine v_iloadn d_Told_isBeyond_0 rfl 1 rfl ?_
  refine v_aloadn d_Told_isBeyond_1 rfl 0 rfl ?_
  refine v_gI d_Told_isBeyond_2 fl_Told_33 rfl (fun x2 => ?_)
  refine v_imul d_Told_isBeyond_5 (fun x5 => ?_)
  refine v_aloadn d_Told_isBeyond_6 rfl 0 rfl ?_
  refine v_gI d_Told_isBeyond_7 fl_Told_30 rfl (fun x7 => ?_)
  refine v_iloadn d_Told_isBeyond_10 rfl 2 rfl ?_
  refine v_imul d_Told_isBeyond_11 (fun x11 => ?_)
  refine v_isub d_Told_isBeyond_12 (fun x12 => ?_)
  refine v_istoren (lz := fun z => [(3, xI z), (0, xA a0), (1, xI v1), (2, xI v2)]) d_Told_isBeyond_13 rfl (Nat.le_of_ble_eq_true rfl) (fun _ => rfl) (fun v3_13 => ?_)
  refine v_aloadn d_Told_isBeyond_14 rfl 1 rfl ?_
  refine v_gI d_Told_isBeyond_15 fl_Told_27 rfl (fun x15 => ?_)
  refine v_iconst d_Told_isBeyond_18 (by decide) ?_
  refine v_join0 (pj := 38) (lj := []) (sj := []) (fun M => ?_) (fun j38 hj38 => ?_)
  · refine v_iconst d_Told_isBeyond_38 (by decide) ?_
    refine v_goto d_Told_isBeyond_39 ?_
    exact v_zret d_Told_isBeyond_43 rfl
  refine v_join0 (pj := 26) (lj := [(0, xA a0), (3, xI v3_13)]) (sj := []) (fun M => ?_) (fun j26 hj26 => ?_)
  · refine v_aloadn d_Told_isBeyond_26 rfl 0 rfl ?_
    refine v_gI d_Told_isBeyond_27 fl_Told_27 rfl (fun x27 => ?_)
    refine v_iconst d_Told_isBeyond_30 (by decide) ?_
    refine v_join0 (pj := 42) (lj := []) (sj := []) (fun M => ?_) (fun j42 hj42 => ?_)
    · refine v_iconst d_Told_isBeyond_42 (by decide) ?_
      exact v_zret d_Told_isBeyond_43 rfl
    refine v_icne d_Told_isBeyond_31 ?_ ?_
    · refine v_sub (ls' := []) [] rfl ?_
      exact hj42 M
    · refine v_iloadn d_Told_isBeyond_34 rfl 1 rfl ?_
      refine v_ifle d_Told_isBeyond_35 ?_ ?_
      · refine v_sub (ls' := []) [] rfl ?_
        exact hj42 M
      · refine v_sub (ls' := []) [] rfl ?_
        exact hj38 M
  refine v_icne d_Told_isBeyond_19 ?_ ?_
  · refine v_sub (ls' := [(0, xA a0), (3, xI v3_13)]) [1, 0] rfl ?_
    exact hj26 M
  · refine v_iloadn d_Told_isBeyond_22 rfl 0 rfl ?_
    refine v_ifge d_Told_isBeyond_23 ?_ ?_
    · refine v_sub (ls' := []) [] rfl ?_
      exact hj38 M
    · refine v_sub (ls' := [(0, xA a0), (3, xI v3_13)]) [1, 0] rfl ?_
      exact hj26 M
set_option maxHeartbeats 4000000 in
set_option maxRecDepth 100000 in
theorem V_lp_Line_isBadAt_33 {l : Launch} {w : vm_W} (hfl : l.stackTraces = false) (kx74 : mm_T → Option (Int × mm_T)) (a1 : Nat) (v2 : Int) (a3 : Nat) {a0 : Nat} (hkx74 : ∀ (M : mm_T), V_ l w q_Line_isBadAt 14 ex_Z 74 [(0, xA a0), (1, xA a1), (2, xI v2)] [] M (kx74 M)) : ∀ (f : Nat) (v4 : Int) (M : mm_T), V_ l w q_Line_isBadAt 14 ex_Z 33 [(0, xA a0), (1, xA a1), (2, xI v2), (3, xA a3), (4, xI v4)] [] M (lp_Line_isBadAt_33 kx74 a1 v2 a3 f v4 M) := by
  intro f
  induction f with
  | zero => intros; exact V_.none
  | succ f ih =>
    intro v4 M
    unfold lp_Line_isBadAt_33
    refine v_iload d_Line_isBadAt_33 4 rfl ?_
    refine v_iloadn d_Line_isBadAt_35 rfl 2 rfl ?_
    refine v_icgt d_Line_isBadAt_36 ?_ ?_
    · refine v_sub (ls' := [(0, xA a0), (1, xA a1), (2, xI v2)]) [0, 1, 2] rfl ?_
      exact hkx74 M
    · refine v_aloadn d_Line_isBadAt_39 rfl 3 rfl ?_
      refine v_iloadn d_Line_isBadAt_40 rfl 2 rfl ?_
      refine v_iload d_Line_isBadAt_41 4 rfl ?_
      refine v_isub d_Line_isBadAt_43 (fun x43 => ?_)
      refine v_iald d_Line_isBadAt_44 (fun x44 => ?_)
      refine v_istore (lz := fun z => [(5, xI z), (0, xA a0), (1, xA a1), (2, xI v2), (3, xA a3), (4, xI v4)]) d_Line_isBadAt_45 (Nat.le_of_ble_eq_true rfl) (fun _ => rfl) (fun v5_45 => ?_)
      refine v_iload d_Line_isBadAt_47 0 rfl ?_
      refine v_join0 (pj := 68) (lj := [(0, xA a0), (1, xA a1), (2, xI v2), (3, xA a3), (4, xI v4)]) (sj := []) (fun M => ?_) (fun j68 hj68 => ?_)
      · refine v_iinc (lz := fun z => [(4, xI z), (0, xA a0), (1, xA a1), (2, xI v2), (3, xA a3)]) d_Line_isBadAt_68 4 rfl (Nat.le_of_ble_eq_true rfl) (fun _ => rfl) (fun v4_68 => ?_)
        refine v_goto d_Line_isBadAt_71 ?_
        refine v_sub (ls' := [(0, xA a0), (1, xA a1), (2, xI v2), (3, xA a3), (4, xI v4_68)]) [1, 2, 3, 4, 0] rfl ?_
        exact ih v4_68 M
      refine v_ifle d_Line_isBadAt_49 ?_ ?_
      · refine v_sub (ls' := [(0, xA a0), (1, xA a1), (2, xI v2), (3, xA a3), (4, xI v4)]) [1, 2, 3, 4, 5] rfl ?_
        exact hj68 M
      · refine v_aloadn d_Line_isBadAt_52 rfl 2 rfl ?_
        refine v_iload d_Line_isBadAt_53 0 rfl ?_
        refine v_iload d_Line_isBadAt_55 5 rfl ?_
        refine v_iadd d_Line_isBadAt_57 (fun x57 => ?_)
        refine v_iload d_Line_isBadAt_58 5 rfl ?_
        refine v_cVi d_Line_isBadAt_60 ml_Line_60 (q := (RX9, TX9, 8)) rfl (c_Told_isBeyond l hfl a1 x57 v4 M) (fun _ => rfl) (by decide) (by decide) (as := [xI x57, xI v4]) (st1 := []) rfl rfl (Nat.le_of_ble_eq_true rfl) (fun c60 M => ?_)
        refine v_ifeq d_Line_isBadAt_63 ?_ ?_
        · refine v_sub (ls' := [(0, xA a0), (1, xA a1), (2, xI v2), (3, xA a3), (4, xI v4)]) [1, 2, 3, 4, 5] rfl ?_
          exact hj68 M
        · refine v_iconst d_Line_isBadAt_66 (by decide) ?_
          exact v_zret d_Line_isBadAt_67 rfl
set_option maxHeartbeats 4000000 in
set_option maxRecDepth 100000 in
theorem V_lp_Line_isBadAt_77 {l : Launch} {w : vm_W} (hfl : l.stackTraces = false) (kx131 : mm_T → Option (Int × mm_T)) (a0 : Nat) (a1 : Nat) (v2 : Int) (hkx131 : ∀ (M : mm_T), V_ l w q_Line_isBadAt 14 ex_Z 131 [] [] M (kx131 M)) : ∀ (f : Nat) (v4 : Int) (M : mm_T), V_ l w q_Line_isBadAt 14 ex_Z 77 [(0, xA a0), (1, xA a1), (2, xI v2), (4, xI v4)] [] M (lp_Line_isBadAt_77 kx131 a0 a1 v2 f v4 M) := by
  intro f
  induction f with
  | zero => intros; exact V_.none
  | succ f ih =>
    intro v4 M
    unfold lp_Line_isBadAt_77
    refine v_iload d_Line_isBadAt_77 3 rfl ?_
    refine v_aloadn d_Line_isBadAt_79 rfl 1 rfl ?_
    refine v_gI d_Line_isBadAt_80 fl_Line_66 rfl (fun x80 => ?_)
    refine v_icge d_Line_isBadAt_83 ?_ ?_
    · refine v_sub (ls' := []) [] rfl ?_
      exact hkx131 M
    · refine v_aloadn d_Line_isBadAt_86 rfl 1 rfl ?_
      refine v_iload d_Line_isBadAt_87 3 rfl ?_
      refine v_cVq d_Line_isBadAt_89 ml_Line_69 (q := (RX9, TX9, 8)) rfl (c_Told_shapeAt l hfl a1 v4 M) (fun _ => rfl) (by decide) (by decide) (as := [xI v4]) (st1 := []) rfl rfl (Nat.le_of_ble_eq_true rfl) (fun c89 M => ?_)
      refine v_astore (lz := fun z => [(5, xA z), (0, xA a0), (1, xA a1), (2, xI v2), (4, xI v4)]) d_Line_isBadAt_92 (Nat.le_of_ble_eq_true rfl) (fun _ => rfl) (fun a5_92 => ?_)
      refine v_aload d_Line_isBadAt_94 0 rfl ?_
      refine v_join0 (pj := 125) (lj := [(0, xA a0), (1, xA a1), (2, xI v2), (4, xI v4)]) (sj := []) (fun M => ?_) (fun j125 hj125 => ?_)
      · refine v_iinc (lz := fun z => [(4, xI z), (0, xA a0), (1, xA a1), (2, xI v2)]) d_Line_isBadAt_125 3 rfl (Nat.le_of_ble_eq_true rfl) (fun _ => rfl) (fun v4_125 => ?_)
        refine v_goto d_Line_isBadAt_128 ?_
        refine v_sub (ls' := [(0, xA a0), (1, xA a1), (2, xI v2), (4, xI v4_125)]) [1, 2, 3, 0] rfl ?_
        exact ih v4_125 M
      refine v_ifnull d_Line_isBadAt_96 ?_ ?_
      · refine v_sub (ls' := [(0, xA a0), (1, xA a1), (2, xI v2), (4, xI v4)]) [1, 2, 3, 4] rfl ?_
        exact hj125 M
      · refine v_aload d_Line_isBadAt_99 0 rfl ?_
        refine v_gI d_Line_isBadAt_101 fl_Line_73 rfl (fun x101 => ?_)
        refine v_ifeq d_Line_isBadAt_104 ?_ ?_
        · refine v_sub (ls' := [(0, xA a0), (1, xA a1), (2, xI v2), (4, xI v4)]) [1, 2, 3, 4] rfl ?_
          exact hj125 M
        · refine v_aloadn d_Line_isBadAt_107 rfl 1 rfl ?_
          refine v_aload d_Line_isBadAt_108 0 rfl ?_
          refine v_aloadn d_Line_isBadAt_110 rfl 1 rfl ?_
          refine v_gR d_Line_isBadAt_111 fl_Line_26 rfl (fun r111 => ?_)
          refine v_iconst d_Line_isBadAt_114 (by decide) ?_
          refine v_iloadn d_Line_isBadAt_115 rfl 3 rfl ?_
          refine v_iconst d_Line_isBadAt_116 (by decide) ?_
          refine v_cSNi d_Line_isBadAt_117 ml_Line_79 ml_Line_79_i (c_Sizes_lays l hfl 10 a0 a5_92 r111 0 v2 (-1) M) (fun _ => rfl) (by decide) (by decide) (as := [xA a0, xA a5_92, xA r111, xI 0, xI v2, xI (-1)]) (st1 := []) rfl rfl (Nat.le_of_ble_eq_true rfl) (fun c117 M => ?_)
          refine v_ifeq d_Line_isBadAt_120 ?_ ?_
          · refine v_sub (ls' := [(0, xA a0), (1, xA a1), (2, xI v2), (4, xI v4)]) [1, 2, 3, 4] rfl ?_
            exact hj125 M
          · refine v_iconst d_Line_isBadAt_123 (by decide) ?_
            exact v_zret d_Line_isBadAt_124 rfl
set_option maxHeartbeats 4000000 in
set_option maxRecDepth 100000 in
theorem c_Line_isBadAt (l : Launch) (hfl : l.stackTraces = false) (a0 : Nat) (a1 : Nat) (v2 : Int) (M : mm_T) : vm_Con l yX1_isBadAt (.code yX1_isBadAt cX1_isBadAt 6 (some .boolean)) 14 ex_Z [xA a0, xA a1, xI v2] M (k_Line_isBadAt a0 a1 v2 M) := by
  refine vm_con (y := q_Line_isBadAt) hfl (by decide +kernel) rfl (fun h => by cases h) (Nat.le_of_ble_eq_true rfl) rfl (fun _ _ _ => rfl) (fun r E h => by cases h) (fun w => ?_)
  show V_ l w q_Line_isBadAt 14 ex_Z 0 [(0, xA a0), (1, xA a1), (2, xI v2)] [] M (k_Line_isBadAt a0 a1 v2 M)
  unfold k_Line_isBadAt
  refine v_aloadn d_Line_isBadAt_0 rfl 1 rfl ?_
  refine v_iconst d_Line_isBadAt_1 (by decide) ?_
  refine v_iconst d_Line_isBadAt_2 (by decide) ?_
  refine v_cVi d_Line_isBadAt_3 ml_Line_60 (q := (RX9, TX9, 8)) rfl (c_Told_isBeyond l hfl a1 1 1 M) (fun _ => rfl) (by decide) (by decide) (as := [xI 1, xI 1]) (st1 := []) rfl rfl (Nat.le_of_ble_eq_true rfl) (fun c3 M => ?_)
  refine v_ifeq d_Line_isBadAt_6 ?_ ?_
  · refine v_iloadn d_Line_isBadAt_11 rfl 2 rfl ?_
    refine v_iflt d_Line_isBadAt_12 ?_ ?_
    · refine v_iconst d_Line_isBadAt_21 (by decide) ?_
      exact v_zret d_Line_isBadAt_22 rfl
    · refine v_iloadn d_Line_isBadAt_15 rfl 2 rfl ?_
      refine v_bipush d_Line_isBadAt_16 (by decide) ?_
      refine v_iclt d_Line_isBadAt_18 ?_ ?_
      · refine v_aloadn d_Line_isBadAt_23 rfl 0 rfl ?_
        refine v_gR d_Line_isBadAt_24 fl_Line_17 rfl (fun r24 => ?_)
        refine v_iloadn d_Line_isBadAt_27 rfl 2 rfl ?_
        refine v_aald (t := 4) d_Line_isBadAt_28 (by decide) rfl rfl (fun r28 => ?_)
        refine v_astoren (lz := fun z => [(3, xA z), (0, xA a0), (1, xA a1), (2, xI v2)]) d_Line_isBadAt_29 rfl (Nat.le_of_ble_eq_true rfl) (fun _ => rfl) (fun a3_29 => ?_)
        refine v_iconst d_Line_isBadAt_30 (by decide) ?_
        refine v_istore (lz := fun z => [(4, xI z), (3, xA a3_29), (0, xA a0), (1, xA a1), (2, xI v2)]) d_Line_isBadAt_31 (Nat.le_of_ble_eq_true rfl) (fun _ => rfl) (fun v4_31 => ?_)
        refine v_sub (ls' := [(0, xA a0), (1, xA a1), (2, xI v2), (3, xA a3_29), (4, xI v4_31)]) [2, 3, 4, 1, 0] rfl ?_
        refine V_lp_Line_isBadAt_33 hfl _ _ _ _ (fun M => ?_) _ _ _
        · refine v_iconst d_Line_isBadAt_74 (by decide) ?_
          refine v_istore (lz := fun z => [(4, xI z), (0, xA a0), (1, xA a1), (2, xI v2)]) d_Line_isBadAt_75 (Nat.le_of_ble_eq_true rfl) (fun _ => rfl) (fun v4_75 => ?_)
          refine v_sub (ls' := [(0, xA a0), (1, xA a1), (2, xI v2), (4, xI v4_75)]) [1, 2, 3, 0] rfl ?_
          refine V_lp_Line_isBadAt_77 hfl _ _ _ _ (fun M => ?_) _ _ _
          · refine v_iconst d_Line_isBadAt_131 (by decide) ?_
            exact v_zret d_Line_isBadAt_132 rfl
      · refine v_iconst d_Line_isBadAt_21 (by decide) ?_
        exact v_zret d_Line_isBadAt_22 rfl
  · refine v_iconst d_Line_isBadAt_9 (by decide) ?_
    exact v_zret d_Line_isBadAt_10 rfl
set_option maxHeartbeats 4000000 in
set_option maxRecDepth 100000 in
theorem V_lp_Line_firstBad_2 {l : Launch} {w : vm_W} (hfl : l.stackTraces = false) (kx27 : mm_T → Option (Int × mm_T)) (a0 : Nat) (a1 : Nat) (hkx27 : ∀ (M : mm_T), V_ l w q_Line_firstBad 15 ex_I 27 [] [] M (kx27 M)) : ∀ (f : Nat) (v2 : Int) (M : mm_T), V_ l w q_Line_firstBad 15 ex_I 2 [(0, xA a0), (1, xA a1), (2, xI v2)] [] M (lp_Line_firstBad_2 kx27 a0 a1 f v2 M) := by
  intro f
  induction f with
  | zero => intros; exact V_.none
  | succ f ih =>
    intro v2 M
    unfold lp_Line_firstBad_2
    refine v_iloadn d_Line_firstBad_2 rfl 2 rfl ?_
    refine v_aloadn d_Line_firstBad_3 rfl 0 rfl ?_
    refine v_gI d_Line_firstBad_4 fl_Line_30 rfl (fun x4 => ?_)
    refine v_icge d_Line_firstBad_7 ?_ ?_
    · refine v_sub (ls' := []) [] rfl ?_
      exact hkx27 M
    · refine v_aloadn d_Line_firstBad_10 rfl 0 rfl ?_
      refine v_aloadn d_Line_firstBad_11 rfl 1 rfl ?_
      refine v_iloadn d_Line_firstBad_12 rfl 2 rfl ?_
      refine v_cVi d_Line_firstBad_13 ml_Line_83 (q := (RX1, TX1, 5)) rfl (c_Line_isBadAt l hfl a0 a1 v2 M) (fun _ => rfl) (by decide) (by decide) (as := [xA a1, xI v2]) (st1 := []) rfl rfl (Nat.le_of_ble_eq_true rfl) (fun c13 M => ?_)
      refine v_ifeq d_Line_firstBad_16 ?_ ?_
      · refine v_iinc (lz := fun z => [(2, xI z), (0, xA a0), (1, xA a1)]) d_Line_firstBad_21 2 rfl (Nat.le_of_ble_eq_true rfl) (fun _ => rfl) (fun v2_21 => ?_)
        refine v_goto d_Line_firstBad_24 ?_
        refine v_sub (ls' := [(0, xA a0), (1, xA a1), (2, xI v2_21)]) [1, 2, 0] rfl ?_
        exact ih v2_21 M
      · refine v_iloadn d_Line_firstBad_19 rfl 2 rfl ?_
        exact v_ret d_Line_firstBad_20 rfl
set_option maxHeartbeats 4000000 in
set_option maxRecDepth 100000 in
theorem c_Line_firstBad (l : Launch) (hfl : l.stackTraces = false) (a0 : Nat) (a1 : Nat) (M : mm_T) : vm_Con l yX1_firstBad (.code yX1_firstBad cX1_firstBad 3 (some .int)) 15 ex_I [xA a0, xA a1] M (k_Line_firstBad a0 a1 M) := by
  refine vm_con (y := q_Line_firstBad) hfl (by decide +kernel) rfl (fun h => by cases h) (Nat.le_of_ble_eq_true rfl) rfl (fun _ _ _ => rfl) (fun r E h => by cases h) (fun w => ?_)
  show V_ l w q_Line_firstBad 15 ex_I 0 [(0, xA a0), (1, xA a1)] [] M (k_Line_firstBad a0 a1 M)
  unfold k_Line_firstBad
  refine v_iconst d_Line_firstBad_0 (by decide) ?_
  refine v_istoren (lz := fun z => [(2, xI z), (0, xA a0), (1, xA a1)]) d_Line_firstBad_1 rfl (Nat.le_of_ble_eq_true rfl) (fun _ => rfl) (fun v2_1 => ?_)
  refine v_sub (ls' := [(0, xA a0), (1, xA a1), (2, xI v2_1)]) [1, 2, 0] rfl ?_
  refine V_lp_Line_firstBad_2 hfl _ _ _ (fun M => ?_) _ _ _
  · refine v_iconst d_Line_firstBad_27 (by decide) ?_
    exact v_ret d_Line_firstBad_28 rfl
set_option maxHeartbeats 4000000 in
set_option maxRecDepth 100000 in
theorem V_lp_Line_leastPeriod_9 {l : Launch} {w : vm_W} (hfl : l.stackTraces = false) (kx37 : Int → mm_T → Option (Int × mm_T)) (a0 : Nat) (v2 : Int) (v3 : Int) (hkx37 : ∀ (v4_e : Int) (M : mm_T), V_ l w q_Line_leastPeriod 2 ex_I 37 [(4, xI v4_e)] [] M (kx37 v4_e M)) : ∀ (f : Nat) (v4 : Int) (M : mm_T), V_ l w q_Line_leastPeriod 2 ex_I 9 [(0, xA a0), (2, xI v2), (3, xI v3), (4, xI v4)] [] M (lp_Line_leastPeriod_9 kx37 a0 v2 v3 f v4 M) := by
  intro f
  induction f with
  | zero => intros; exact V_.none
  | succ f ih =>
    intro v4 M
    unfold lp_Line_leastPeriod_9
    refine v_iload d_Line_leastPeriod_9 3 rfl ?_
    refine v_iloadn d_Line_leastPeriod_11 rfl 1 rfl ?_
    refine v_icge d_Line_leastPeriod_12 ?_ ?_
    · refine v_sub (ls' := [(4, xI v4)]) [3] rfl ?_
      exact hkx37 v4 M
    · refine v_aloadn d_Line_leastPeriod_15 rfl 0 rfl ?_
      refine v_iloadn d_Line_leastPeriod_16 rfl 2 rfl ?_
      refine v_iloadn d_Line_leastPeriod_17 rfl 2 rfl ?_
      refine v_iload d_Line_leastPeriod_18 3 rfl ?_
      refine v_isub d_Line_leastPeriod_20 (fun x20 => ?_)
      refine v_cVi d_Line_leastPeriod_21 ml_Line_57 (q := (RX1, TX1, 5)) rfl (c_Line_alike l hfl a0 v3 x20 M) (fun _ => rfl) (by decide) (by decide) (as := [xI v3, xI x20]) (st1 := []) rfl rfl (Nat.le_of_ble_eq_true rfl) (fun c21 M => ?_)
      refine v_iloadn d_Line_leastPeriod_24 rfl 1 rfl ?_
      refine v_iload d_Line_leastPeriod_25 3 rfl ?_
      refine v_isub d_Line_leastPeriod_27 (fun x27 => ?_)
      refine v_icge d_Line_leastPeriod_28 ?_ ?_
      · refine v_sub (ls' := [(4, xI v4)]) [3] rfl ?_
        exact hkx37 v4 M
      · refine v_iinc (lz := fun z => [(4, xI z), (0, xA a0), (2, xI v2), (3, xI v3)]) d_Line_leastPeriod_31 3 rfl (Nat.le_of_ble_eq_true rfl) (fun _ => rfl) (fun v4_31 => ?_)
        refine v_goto d_Line_leastPeriod_34 ?_
        refine v_sub (ls' := [(0, xA a0), (2, xI v2), (3, xI v3), (4, xI v4_31)]) [1, 2, 3, 0] rfl ?_
        exact ih v4_31 M
set_option maxHeartbeats 4000000 in
set_option maxRecDepth 100000 in
theorem c_Line_leastPeriod (l : Launch) (hfl : l.stackTraces = false) (a0 : Nat) (v1 : Int) (v2 : Int) (M : mm_T) : vm_Con l yX1_leastPeriod (.code yX1_leastPeriod cX1_leastPeriod 5 (some .int)) 2 ex_I [xA a0, xI v1, xI v2] M (k_Line_leastPeriod a0 v1 v2 M) := by
  refine vm_con (y := q_Line_leastPeriod) hfl (by decide +kernel) rfl (fun h => by cases h) (Nat.le_of_ble_eq_true rfl) rfl (fun _ _ _ => rfl) (fun r E h => by cases h) (fun w => ?_)
  show V_ l w q_Line_leastPeriod 2 ex_I 0 [(0, xA a0), (1, xI v1), (2, xI v2)] [] M (k_Line_leastPeriod a0 v1 v2 M)
  unfold k_Line_leastPeriod
  refine v_iloadn d_Line_leastPeriod_0 rfl 1 rfl ?_
  refine v_iloadn d_Line_leastPeriod_1 rfl 2 rfl ?_
  refine v_iadd d_Line_leastPeriod_2 (fun x2 => ?_)
  refine v_iconst d_Line_leastPeriod_3 (by decide) ?_
  refine v_isub d_Line_leastPeriod_4 (fun x4 => ?_)
  refine v_istoren (lz := fun z => [(3, xI z), (0, xA a0), (1, xI v1), (2, xI v2)]) d_Line_leastPeriod_5 rfl (Nat.le_of_ble_eq_true rfl) (fun _ => rfl) (fun v3_5 => ?_)
  refine v_iconst d_Line_leastPeriod_6 (by decide) ?_
  refine v_istore (lz := fun z => [(4, xI z), (3, xI v3_5), (0, xA a0), (1, xI v1), (2, xI v2)]) d_Line_leastPeriod_7 (Nat.le_of_ble_eq_true rfl) (fun _ => rfl) (fun v4_7 => ?_)
  refine v_sub (ls' := [(0, xA a0), (2, xI v2), (3, xI v3_5), (4, xI v4_7)]) [2, 4, 1, 0] rfl ?_
  refine V_lp_Line_leastPeriod_9 hfl _ _ _ _ (fun v4_37 M => ?_) _ _ _
  · refine v_iload d_Line_leastPeriod_37 0 rfl ?_
    exact v_ret d_Line_leastPeriod_39 rfl
set_option maxHeartbeats 4000000 in
set_option maxRecDepth 100000 in
theorem V_lp_Line_endIsLess_2 {l : Launch} {w : vm_W} (hfl : l.stackTraces = false) (kx56 : mm_T → Option (Int × mm_T)) (a0 : Nat) (v1 : Int) (v2 : Int) (hkx56 : ∀ (M : mm_T), V_ l w q_Line_endIsLess 2 ex_Z 56 [] [] M (kx56 M)) : ∀ (f : Nat) (v3 : Int) (M : mm_T), V_ l w q_Line_endIsLess 2 ex_Z 2 [(0, xA a0), (1, xI v1), (2, xI v2), (3, xI v3)] [] M (lp_Line_endIsLess_2 kx56 a0 v1 v2 f v3 M) := by
  intro f
  induction f with
  | zero => intros; exact V_.none
  | succ f ih =>
    intro v3 M
    unfold lp_Line_endIsLess_2
    refine v_iloadn d_Line_endIsLess_2 rfl 3 rfl ?_
    refine v_aloadn d_Line_endIsLess_3 rfl 0 rfl ?_
    refine v_gI d_Line_endIsLess_4 fl_Line_30 rfl (fun x4 => ?_)
    refine v_icge d_Line_endIsLess_7 ?_ ?_
    · refine v_sub (ls' := []) [] rfl ?_
      exact hkx56 M
    · refine v_aloadn d_Line_endIsLess_10 rfl 0 rfl ?_
      refine v_iloadn d_Line_endIsLess_11 rfl 1 rfl ?_
      refine v_iloadn d_Line_endIsLess_12 rfl 3 rfl ?_
      refine v_iadd d_Line_endIsLess_13 (fun x13 => ?_)
      refine v_cVi d_Line_endIsLess_14 ml_Line_43 (q := (RX1, TX1, 5)) rfl (c_Line_at l hfl a0 x13 M) (fun _ => rfl) (by decide) (by decide) (as := [xI x13]) (st1 := []) rfl rfl (Nat.le_of_ble_eq_true rfl) (fun c14 M => ?_)
      refine v_aloadn d_Line_endIsLess_17 rfl 0 rfl ?_
      refine v_iloadn d_Line_endIsLess_18 rfl 2 rfl ?_
      refine v_iloadn d_Line_endIsLess_19 rfl 3 rfl ?_
      refine v_iadd d_Line_endIsLess_20 (fun x20 => ?_)
      refine v_cVi d_Line_endIsLess_21 ml_Line_43 (q := (RX1, TX1, 5)) rfl (c_Line_at l hfl a0 x20 M) (fun _ => rfl) (by decide) (by decide) (as := [xI x20]) (st1 := [xI c14]) rfl rfl (Nat.le_of_ble_eq_true rfl) (fun c21 M => ?_)
      refine v_iceq d_Line_endIsLess_24 ?_ ?_
      · refine v_iinc (lz := fun z => [(3, xI z), (0, xA a0), (1, xI v1), (2, xI v2)]) d_Line_endIsLess_50 3 rfl (Nat.le_of_ble_eq_true rfl) (fun _ => rfl) (fun v3_50 => ?_)
        refine v_goto d_Line_endIsLess_53 ?_
        refine v_sub (ls' := [(0, xA a0), (1, xI v1), (2, xI v2), (3, xI v3_50)]) [1, 2, 3, 0] rfl ?_
        exact ih v3_50 M
      · refine v_aloadn d_Line_endIsLess_27 rfl 0 rfl ?_
        refine v_iloadn d_Line_endIsLess_28 rfl 1 rfl ?_
        refine v_iloadn d_Line_endIsLess_29 rfl 3 rfl ?_
        refine v_iadd d_Line_endIsLess_30 (fun x30 => ?_)
        refine v_cVi d_Line_endIsLess_31 ml_Line_43 (q := (RX1, TX1, 5)) rfl (c_Line_at l hfl a0 x30 M) (fun _ => rfl) (by decide) (by decide) (as := [xI x30]) (st1 := []) rfl rfl (Nat.le_of_ble_eq_true rfl) (fun c31 M => ?_)
        refine v_aloadn d_Line_endIsLess_34 rfl 0 rfl ?_
        refine v_iloadn d_Line_endIsLess_35 rfl 2 rfl ?_
        refine v_iloadn d_Line_endIsLess_36 rfl 3 rfl ?_
        refine v_iadd d_Line_endIsLess_37 (fun x37 => ?_)
        refine v_cVi d_Line_endIsLess_38 ml_Line_43 (q := (RX1, TX1, 5)) rfl (c_Line_at l hfl a0 x37 M) (fun _ => rfl) (by decide) (by decide) (as := [xI x37]) (st1 := [xI c31]) rfl rfl (Nat.le_of_ble_eq_true rfl) (fun c38 M => ?_)
        refine v_icge d_Line_endIsLess_41 ?_ ?_
        · refine v_iconst d_Line_endIsLess_48 (by decide) ?_
          exact v_zret d_Line_endIsLess_49 rfl
        · refine v_iconst d_Line_endIsLess_44 (by decide) ?_
          refine v_goto d_Line_endIsLess_45 ?_
          exact v_zret d_Line_endIsLess_49 rfl
set_option maxHeartbeats 4000000 in
set_option maxRecDepth 100000 in
theorem c_Line_endIsLess (l : Launch) (hfl : l.stackTraces = false) (a0 : Nat) (v1 : Int) (v2 : Int) (M : mm_T) : vm_Con l yX1_endIsLess (.code yX1_endIsLess cX1_endIsLess 4 (some .boolean)) 2 ex_Z [xA a0, xI v1, xI v2] M (k_Line_endIsLess a0 v1 v2 M) := by
  refine vm_con (y := q_Line_endIsLess) hfl (by decide +kernel) rfl (fun h => by cases h) (Nat.le_of_ble_eq_true rfl) rfl (fun _ _ _ => rfl) (fun r E h => by cases h) (fun w => ?_)
  show V_ l w q_Line_endIsLess 2 ex_Z 0 [(0, xA a0), (1, xI v1), (2, xI v2)] [] M (k_Line_endIsLess a0 v1 v2 M)
  unfold k_Line_endIsLess
  refine v_iconst d_Line_endIsLess_0 (by decide) ?_
  refine v_istoren (lz := fun z => [(3, xI z), (0, xA a0), (1, xI v1), (2, xI v2)]) d_Line_endIsLess_1 rfl (Nat.le_of_ble_eq_true rfl) (fun _ => rfl) (fun v3_1 => ?_)
  refine v_sub (ls' := [(0, xA a0), (1, xI v1), (2, xI v2), (3, xI v3_1)]) [1, 2, 3, 0] rfl ?_
  refine V_lp_Line_endIsLess_2 hfl _ _ _ _ (fun M => ?_) _ _ _
  · refine v_iconst d_Line_endIsLess_56 (by decide) ?_
    exact v_zret d_Line_endIsLess_57 rfl
set_option maxHeartbeats 4000000 in
set_option maxRecDepth 100000 in
theorem V_lp_Line_turnIsLess_2 {l : Launch} {w : vm_W} (hfl : l.stackTraces = false) (kx64 : mm_T → Option (Int × mm_T)) (a0 : Nat) (v1 : Int) (v2 : Int) (hkx64 : ∀ (M : mm_T), V_ l w q_Line_turnIsLess 2 ex_Z 64 [] [] M (kx64 M)) : ∀ (f : Nat) (v3 : Int) (M : mm_T), V_ l w q_Line_turnIsLess 2 ex_Z 2 [(0, xA a0), (1, xI v1), (2, xI v2), (3, xI v3)] [] M (lp_Line_turnIsLess_2 kx64 a0 v1 v2 f v3 M) := by
  intro f
  induction f with
  | zero => intros; exact V_.none
  | succ f ih =>
    intro v3 M
    unfold lp_Line_turnIsLess_2
    refine v_iloadn d_Line_turnIsLess_2 rfl 3 rfl ?_
    refine v_aloadn d_Line_turnIsLess_3 rfl 0 rfl ?_
    refine v_gI d_Line_turnIsLess_4 fl_Line_30 rfl (fun x4 => ?_)
    refine v_icge d_Line_turnIsLess_7 ?_ ?_
    · refine v_sub (ls' := []) [] rfl ?_
      exact hkx64 M
    · refine v_aloadn d_Line_turnIsLess_10 rfl 0 rfl ?_
      refine v_iloadn d_Line_turnIsLess_11 rfl 1 rfl ?_
      refine v_iloadn d_Line_turnIsLess_12 rfl 3 rfl ?_
      refine v_iadd d_Line_turnIsLess_13 (fun x13 => ?_)
      refine v_aloadn d_Line_turnIsLess_14 rfl 0 rfl ?_
      refine v_gI d_Line_turnIsLess_15 fl_Line_30 rfl (fun x15 => ?_)
      refine v_irem d_Line_turnIsLess_18 (fun x18 => ?_)
      refine v_cVi d_Line_turnIsLess_19 ml_Line_43 (q := (RX1, TX1, 5)) rfl (c_Line_at l hfl a0 x18 M) (fun _ => rfl) (by decide) (by decide) (as := [xI x18]) (st1 := []) rfl rfl (Nat.le_of_ble_eq_true rfl) (fun c19 M => ?_)
      refine v_istore (lz := fun z => [(4, xI z), (0, xA a0), (1, xI v1), (2, xI v2), (3, xI v3)]) d_Line_turnIsLess_22 (Nat.le_of_ble_eq_true rfl) (fun _ => rfl) (fun v4_22 => ?_)
      refine v_aloadn d_Line_turnIsLess_24 rfl 1 rfl ?_
      refine v_iloadn d_Line_turnIsLess_25 rfl 3 rfl ?_
      refine v_iloadn d_Line_turnIsLess_26 rfl 4 rfl ?_
      refine v_iadd d_Line_turnIsLess_27 (fun x27 => ?_)
      refine v_aloadn d_Line_turnIsLess_28 rfl 1 rfl ?_
      refine v_gI d_Line_turnIsLess_29 fl_Line_30 rfl (fun x29 => ?_)
      refine v_irem d_Line_turnIsLess_32 (fun x32 => ?_)
      refine v_cVi d_Line_turnIsLess_33 ml_Line_43 (q := (RX1, TX1, 5)) rfl (c_Line_at l hfl a0 x32 M) (fun _ => rfl) (by decide) (by decide) (as := [xI x32]) (st1 := []) rfl rfl (Nat.le_of_ble_eq_true rfl) (fun c33 M => ?_)
      refine v_istore (lz := fun z => [(5, xI z), (4, xI v4_22), (0, xA a0), (1, xI v1), (2, xI v2), (3, xI v3)]) d_Line_turnIsLess_36 (Nat.le_of_ble_eq_true rfl) (fun _ => rfl) (fun v5_36 => ?_)
      refine v_iload d_Line_turnIsLess_38 1 rfl ?_
      refine v_iload d_Line_turnIsLess_40 0 rfl ?_
      refine v_iceq d_Line_turnIsLess_42 ?_ ?_
      · refine v_iinc (lz := fun z => [(3, xI z), (5, xI v5_36), (4, xI v4_22), (0, xA a0), (1, xI v1), (2, xI v2)]) d_Line_turnIsLess_58 5 rfl (Nat.le_of_ble_eq_true rfl) (fun _ => rfl) (fun v3_58 => ?_)
        refine v_goto d_Line_turnIsLess_61 ?_
        refine v_sub (ls' := [(0, xA a0), (1, xI v1), (2, xI v2), (3, xI v3_58)]) [3, 4, 5, 0] rfl ?_
        exact ih v3_58 M
      · refine v_iload d_Line_turnIsLess_45 1 rfl ?_
        refine v_iload d_Line_turnIsLess_47 0 rfl ?_
        refine v_icge d_Line_turnIsLess_49 ?_ ?_
        · refine v_iconst d_Line_turnIsLess_56 (by decide) ?_
          exact v_zret d_Line_turnIsLess_57 rfl
        · refine v_iconst d_Line_turnIsLess_52 (by decide) ?_
          refine v_goto d_Line_turnIsLess_53 ?_
          exact v_zret d_Line_turnIsLess_57 rfl
set_option maxHeartbeats 4000000 in
set_option maxRecDepth 100000 in
theorem c_Line_turnIsLess (l : Launch) (hfl : l.stackTraces = false) (a0 : Nat) (v1 : Int) (v2 : Int) (M : mm_T) : vm_Con l yX1_turnIsLess (.code yX1_turnIsLess cX1_turnIsLess 6 (some .boolean)) 2 ex_Z [xA a0, xI v1, xI v2] M (k_Line_turnIsLess a0 v1 v2 M) := by
  refine vm_con (y := q_Line_turnIsLess) hfl (by decide +kernel) rfl (fun h => by cases h) (Nat.le_of_ble_eq_true rfl) rfl (fun _ _ _ => rfl) (fun r E h => by cases h) (fun w => ?_)
  show V_ l w q_Line_turnIsLess 2 ex_Z 0 [(0, xA a0), (1, xI v1), (2, xI v2)] [] M (k_Line_turnIsLess a0 v1 v2 M)
  unfold k_Line_turnIsLess
  refine v_iconst d_Line_turnIsLess_0 (by decide) ?_
  refine v_istoren (lz := fun z => [(3, xI z), (0, xA a0), (1, xI v1), (2, xI v2)]) d_Line_turnIsLess_1 rfl (Nat.le_of_ble_eq_true rfl) (fun _ => rfl) (fun v3_1 => ?_)
  refine v_sub (ls' := [(0, xA a0), (1, xI v1), (2, xI v2), (3, xI v3_1)]) [1, 2, 3, 0] rfl ?_
  refine V_lp_Line_turnIsLess_2 hfl _ _ _ _ (fun M => ?_) _ _ _
  · refine v_iconst d_Line_turnIsLess_64 (by decide) ?_
    exact v_zret d_Line_turnIsLess_65 rfl
set_option maxHeartbeats 4000000 in
set_option maxRecDepth 100000 in
theorem V_lp_Line_repeatsAround_8 {l : Launch} {w : vm_W} (hfl : l.stackTraces = false) (kx46 : mm_T → Option (Int × mm_T)) (a0 : Nat) (v1 : Int) (v2 : Int) (hkx46 : ∀ (M : mm_T), V_ l w q_Line_repeatsAround 2 ex_Z 46 [] [] M (kx46 M)) : ∀ (f : Nat) (v3 : Int) (M : mm_T), V_ l w q_Line_repeatsAround 2 ex_Z 8 [(0, xA a0), (1, xI v1), (2, xI v2), (3, xI v3)] [] M (lp_Line_repeatsAround_8 kx46 a0 v1 v2 f v3 M) := by
  intro f
  induction f with
  | zero => intros; exact V_.none
  | succ f ih =>
    intro v3 M
    unfold lp_Line_repeatsAround_8
    refine v_iloadn d_Line_repeatsAround_8 rfl 3 rfl ?_
    refine v_iloadn d_Line_repeatsAround_9 rfl 1 rfl ?_
    refine v_icge d_Line_repeatsAround_10 ?_ ?_
    · refine v_sub (ls' := []) [] rfl ?_
      exact hkx46 M
    · refine v_iloadn d_Line_repeatsAround_13 rfl 3 rfl ?_
      refine v_iloadn d_Line_repeatsAround_14 rfl 2 rfl ?_
      refine v_iadd d_Line_repeatsAround_15 (fun x15 => ?_)
      refine v_aloadn d_Line_repeatsAround_16 rfl 0 rfl ?_
      refine v_gI d_Line_repeatsAround_17 fl_Line_30 rfl (fun x17 => ?_)
      refine v_icge d_Line_repeatsAround_20 ?_ ?_
      · refine v_sub (ls' := []) [] rfl ?_
        exact hkx46 M
      · refine v_aloadn d_Line_repeatsAround_23 rfl 0 rfl ?_
        refine v_iloadn d_Line_repeatsAround_24 rfl 3 rfl ?_
        refine v_cVi d_Line_repeatsAround_25 ml_Line_43 (q := (RX1, TX1, 5)) rfl (c_Line_at l hfl a0 v3 M) (fun _ => rfl) (by decide) (by decide) (as := [xI v3]) (st1 := []) rfl rfl (Nat.le_of_ble_eq_true rfl) (fun c25 M => ?_)
        refine v_aloadn d_Line_repeatsAround_28 rfl 0 rfl ?_
        refine v_iloadn d_Line_repeatsAround_29 rfl 3 rfl ?_
        refine v_iloadn d_Line_repeatsAround_30 rfl 2 rfl ?_
        refine v_iadd d_Line_repeatsAround_31 (fun x31 => ?_)
        refine v_cVi d_Line_repeatsAround_32 ml_Line_43 (q := (RX1, TX1, 5)) rfl (c_Line_at l hfl a0 x31 M) (fun _ => rfl) (by decide) (by decide) (as := [xI x31]) (st1 := [xI c25]) rfl rfl (Nat.le_of_ble_eq_true rfl) (fun c32 M => ?_)
        refine v_iceq d_Line_repeatsAround_35 ?_ ?_
        · refine v_iinc (lz := fun z => [(3, xI z), (0, xA a0), (1, xI v1), (2, xI v2)]) d_Line_repeatsAround_40 3 rfl (Nat.le_of_ble_eq_true rfl) (fun _ => rfl) (fun v3_40 => ?_)
          refine v_goto d_Line_repeatsAround_43 ?_
          refine v_sub (ls' := [(0, xA a0), (1, xI v1), (2, xI v2), (3, xI v3_40)]) [1, 2, 3, 0] rfl ?_
          exact ih v3_40 M
        · refine v_iconst d_Line_repeatsAround_38 (by decide) ?_
          exact v_zret d_Line_repeatsAround_39 rfl
set_option maxHeartbeats 4000000 in
set_option maxRecDepth 100000 in
theorem c_Line_repeatsAround (l : Launch) (hfl : l.stackTraces = false) (a0 : Nat) (v1 : Int) (v2 : Int) (M : mm_T) : vm_Con l yX1_repeatsAround (.code yX1_repeatsAround cX1_repeatsAround 4 (some .boolean)) 2 ex_Z [xA a0, xI v1, xI v2] M (k_Line_repeatsAround a0 v1 v2 M) := by
  refine vm_con (y := q_Line_repeatsAround) hfl (by decide +kernel) rfl (fun h => by cases h) (Nat.le_of_ble_eq_true rfl) rfl (fun _ _ _ => rfl) (fun r E h => by cases h) (fun w => ?_)
  show V_ l w q_Line_repeatsAround 2 ex_Z 0 [(0, xA a0), (1, xI v1), (2, xI v2)] [] M (k_Line_repeatsAround a0 v1 v2 M)
  unfold k_Line_repeatsAround
  refine v_iconst d_Line_repeatsAround_0 (by decide) ?_
  refine v_iloadn d_Line_repeatsAround_1 rfl 1 rfl ?_
  refine v_iloadn d_Line_repeatsAround_2 rfl 2 rfl ?_
  refine v_isub d_Line_repeatsAround_3 (fun x3 => ?_)
  refine v_mmax d_Line_repeatsAround_4 gw_465 gw_466 gw_131 gw_467 (by first | decide | omega) (Nat.le_of_ble_eq_true rfl) ?_
  refine v_istoren (lz := fun z => [(3, xI z), (0, xA a0), (1, xI v1), (2, xI v2)]) d_Line_repeatsAround_7 rfl (Nat.le_of_ble_eq_true rfl) (fun _ => rfl) (fun v3_7 => ?_)
  refine v_sub (ls' := [(0, xA a0), (1, xI v1), (2, xI v2), (3, xI v3_7)]) [1, 2, 3, 0] rfl ?_
  refine V_lp_Line_repeatsAround_8 hfl _ _ _ _ (fun M => ?_) _ _ _
  · refine v_iconst d_Line_repeatsAround_46 (by decide) ?_
    exact v_zret d_Line_repeatsAround_47 rfl
set_option maxHeartbeats 4000000 in
set_option maxRecDepth 100000 in
theorem V_lp_Sizes_fits_30 {l : Launch} {w : vm_W} (hfl : l.stackTraces = false) (kx106 : Int → mm_T → Option (Int × mm_T)) (a0 : Nat) (a1 : Nat) (a2 : Nat) (hkx106 : ∀ (v7_e : Int) (M : mm_T), V_ l w q_Sizes_fits 3 ex_Z 106 [(1, xA a1), (7, xI v7_e)] [] M (kx106 v7_e M)) : ∀ (f : Nat) (v7 : Int) (v8 : Int) (M : mm_T), V_ l w q_Sizes_fits 3 ex_Z 30 [(0, xA a0), (1, xA a1), (2, xA a2), (7, xI v7), (8, xI v8)] [] M (lp_Sizes_fits_30 kx106 a0 a1 a2 f v7 v8 M) := by
  intro f
  induction f with
  | zero => intros; exact V_.none
  | succ f ih =>
    intro v7 v8 M
    unfold lp_Sizes_fits_30
    refine v_iload d_Sizes_fits_30 4 rfl ?_
    refine v_aloadn d_Sizes_fits_32 rfl 2 rfl ?_
    refine v_gI d_Sizes_fits_33 fl_Sizes_22 rfl (fun x33 => ?_)
    refine v_icge d_Sizes_fits_36 ?_ ?_
    · refine v_sub (ls' := [(1, xA a1), (7, xI v7)]) [1, 3] rfl ?_
      exact hkx106 v7 M
    · refine v_aloadn d_Sizes_fits_39 rfl 2 rfl ?_
      refine v_iload d_Sizes_fits_40 4 rfl ?_
      refine v_cVi d_Sizes_fits_42 ml_Sizes_31 (q := (RX6, TX6, 5)) rfl (c_Shape_at l hfl a2 v8 M) (fun _ => rfl) (by decide) (by decide) (as := [xI v8]) (st1 := []) rfl rfl (Nat.le_of_ble_eq_true rfl) (fun c42 M => ?_)
      refine v_istore (lz := fun z => [(9, xI z), (0, xA a0), (1, xA a1), (2, xA a2), (7, xI v7), (8, xI v8)]) d_Sizes_fits_45 (Nat.le_of_ble_eq_true rfl) (fun _ => rfl) (fun v9_45 => ?_)
      refine v_aloadn d_Sizes_fits_47 rfl 1 rfl ?_
      refine v_iload d_Sizes_fits_48 0 rfl ?_
      refine v_cVi d_Sizes_fits_50 ml_Sizes_35 (q := (RX7, TX7, 2)) rfl (c_Sizes_of l hfl a0 v9_45 M) (fun _ => rfl) (by decide) (by decide) (as := [xI v9_45]) (st1 := []) rfl rfl (Nat.le_of_ble_eq_true rfl) (fun c50 M => ?_)
      refine v_istore (lz := fun z => [(10, xI z), (9, xI v9_45), (0, xA a0), (1, xA a1), (2, xA a2), (7, xI v7), (8, xI v8)]) d_Sizes_fits_53 (Nat.le_of_ble_eq_true rfl) (fun _ => rfl) (fun v10_53 => ?_)
      refine v_aloadn d_Sizes_fits_55 rfl 2 rfl ?_
      refine v_iload d_Sizes_fits_56 1 rfl ?_
      refine v_cVi d_Sizes_fits_58 ml_Sizes_62 (q := (RX7, TX7, 2)) rfl (c_Sizes_edge l hfl a0 v9_45 M) (fun _ => rfl) (by decide) (by decide) (as := [xI v9_45]) (st1 := []) rfl rfl (Nat.le_of_ble_eq_true rfl) (fun c58 M => ?_)
      refine v_iconst d_Sizes_fits_61 (by decide) ?_
      refine v_join0 (pj := 93) (lj := [(0, xA a0), (1, xA a1), (2, xA a2), (7, xI v7), (8, xI v8), (10, xI v10_53)]) (sj := []) (fun M => ?_) (fun j93 hj93 => ?_)
      · refine v_iload d_Sizes_fits_93 3 rfl ?_
        refine v_iload d_Sizes_fits_95 5 rfl ?_
        refine v_iadd d_Sizes_fits_97 (fun x97 => ?_)
        refine v_istore (lz := fun z => [(7, xI z), (0, xA a0), (1, xA a1), (2, xA a2), (8, xI v8), (10, xI v10_53)]) d_Sizes_fits_98 (Nat.le_of_ble_eq_true rfl) (fun _ => rfl) (fun v7_98 => ?_)
        refine v_iinc (lz := fun z => [(8, xI z), (7, xI v7_98), (0, xA a0), (1, xA a1), (2, xA a2), (10, xI v10_53)]) d_Sizes_fits_100 4 rfl (Nat.le_of_ble_eq_true rfl) (fun _ => rfl) (fun v8_100 => ?_)
        refine v_goto d_Sizes_fits_103 ?_
        refine v_sub (ls' := [(0, xA a0), (1, xA a1), (2, xA a2), (7, xI v7_98), (8, xI v8_100)]) [2, 3, 4, 1, 0] rfl ?_
        exact ih v7_98 v8_100 M
      refine v_icne d_Sizes_fits_62 ?_ ?_
      · refine v_aloadn d_Sizes_fits_78 rfl 2 rfl ?_
        refine v_aloadn d_Sizes_fits_79 rfl 3 rfl ?_
        refine v_iload d_Sizes_fits_80 1 rfl ?_
        refine v_iload d_Sizes_fits_82 5 rfl ?_
        refine v_iconst d_Sizes_fits_84 (by decide) ?_
        refine v_cVi d_Sizes_fits_85 ml_Sizes_38 (q := (RX7, TX7, 2)) rfl (c_Sizes_isAgainAt l hfl a0 a1 v9_45 v7 1 M) (fun _ => rfl) (by decide) (by decide) (as := [xA a1, xI v9_45, xI v7, xI 1]) (st1 := []) rfl rfl (Nat.le_of_ble_eq_true rfl) (fun c85 M => ?_)
        refine v_ifne d_Sizes_fits_88 ?_ ?_
        · refine v_sub (ls' := [(0, xA a0), (1, xA a1), (2, xA a2), (7, xI v7), (8, xI v8), (10, xI v10_53)]) [2, 3, 4, 5, 6, 0] rfl ?_
          exact hj93 M
        · refine v_iconst d_Sizes_fits_91 (by decide) ?_
          exact v_zret d_Sizes_fits_92 rfl
      · refine v_aloadn d_Sizes_fits_65 rfl 2 rfl ?_
        refine v_iload d_Sizes_fits_66 1 rfl ?_
        refine v_iload d_Sizes_fits_68 0 rfl ?_
        refine v_iload d_Sizes_fits_70 5 rfl ?_
        refine v_cVv d_Sizes_fits_72 ml_Sizes_18 (q := (RX7, TX7, 2)) rfl (c_Sizes_set l hfl a0 v9_45 v10_53 v7 M) (fun _ => rfl) (by decide) (by decide) (as := [xI v9_45, xI v10_53, xI v7]) (st1 := []) rfl rfl (Nat.le_of_ble_eq_true rfl) (fun _ M => ?_)
        refine v_goto d_Sizes_fits_75 ?_
        refine v_sub (ls' := [(0, xA a0), (1, xA a1), (2, xA a2), (7, xI v7), (8, xI v8), (10, xI v10_53)]) [2, 3, 4, 5, 6, 0] rfl ?_
        exact hj93 M
set_option maxHeartbeats 4000000 in
set_option maxRecDepth 100000 in
theorem c_Sizes_fits (l : Launch) (hfl : l.stackTraces = false) (a0 : Nat) (a1 : Nat) (a2 : Nat) (v3 : Int) (v4 : Int) (v5 : Int) (v6 : Int) (M : mm_T) : vm_Con l yX7_fits (.code yX7_fits cX7_fits 11 (some .boolean)) 3 ex_Z [xA a0, xA a1, xA a2, xI v3, xI v4, xI v5, xI v6] M (k_Sizes_fits a0 a1 a2 v3 v4 v5 v6 M) := by
  refine vm_con (y := q_Sizes_fits) hfl (by decide +kernel) rfl (fun h => by cases h) (Nat.le_of_ble_eq_true rfl) rfl (fun _ _ _ => rfl) (fun r E h => by cases h) (fun w => ?_)
  show V_ l w q_Sizes_fits 3 ex_Z 0 [(0, xA a0), (1, xA a1), (2, xA a2), (3, xI v3), (4, xI v4), (5, xI v5), (6, xI v6)] [] M (k_Sizes_fits a0 a1 a2 v3 v4 v5 v6 M)
  unfold k_Sizes_fits
  refine v_aloadn d_Sizes_fits_0 rfl 0 rfl ?_
  refine v_iconst d_Sizes_fits_1 (by decide) ?_
  refine v_iload d_Sizes_fits_2 4 rfl ?_
  refine v_iconst d_Sizes_fits_4 (by decide) ?_
  refine v_cVv d_Sizes_fits_5 ml_Sizes_18 (q := (RX7, TX7, 2)) rfl (c_Sizes_set l hfl a0 0 v4 (-1) M) (fun _ => rfl) (by decide) (by decide) (as := [xI 0, xI v4, xI (-1)]) (st1 := []) rfl rfl (Nat.le_of_ble_eq_true rfl) (fun _ M => ?_)
  refine v_aloadn d_Sizes_fits_8 rfl 0 rfl ?_
  refine v_iconst d_Sizes_fits_9 (by decide) ?_
  refine v_iload d_Sizes_fits_10 5 rfl ?_
  refine v_iconst d_Sizes_fits_12 (by decide) ?_
  refine v_cVv d_Sizes_fits_13 ml_Sizes_18 (q := (RX7, TX7, 2)) rfl (c_Sizes_set l hfl a0 1 v5 (-1) M) (fun _ => rfl) (by decide) (by decide) (as := [xI 1, xI v5, xI (-1)]) (st1 := []) rfl rfl (Nat.le_of_ble_eq_true rfl) (fun _ M => ?_)
  refine v_aloadn d_Sizes_fits_16 rfl 0 rfl ?_
  refine v_iconst d_Sizes_fits_17 (by decide) ?_
  refine v_iload d_Sizes_fits_18 6 rfl ?_
  refine v_iconst d_Sizes_fits_20 (by decide) ?_
  refine v_cVv d_Sizes_fits_21 ml_Sizes_18 (q := (RX7, TX7, 2)) rfl (c_Sizes_set l hfl a0 2 v6 (-1) M) (fun _ => rfl) (by decide) (by decide) (as := [xI 2, xI v6, xI (-1)]) (st1 := []) rfl rfl (Nat.le_of_ble_eq_true rfl) (fun _ M => ?_)
  refine v_iloadn d_Sizes_fits_24 rfl 3 rfl ?_
  refine v_istore (lz := fun z => [(7, xI z), (0, xA a0), (1, xA a1), (2, xA a2), (3, xI v3), (4, xI v4), (5, xI v5), (6, xI v6)]) d_Sizes_fits_25 (Nat.le_of_ble_eq_true rfl) (fun _ => rfl) (fun v7_25 => ?_)
  refine v_iconst d_Sizes_fits_27 (by decide) ?_
  refine v_istore (lz := fun z => [(8, xI z), (7, xI v7_25), (0, xA a0), (1, xA a1), (2, xA a2), (3, xI v3), (4, xI v4), (5, xI v5), (6, xI v6)]) d_Sizes_fits_28 (Nat.le_of_ble_eq_true rfl) (fun _ => rfl) (fun v8_28 => ?_)
  refine v_sub (ls' := [(0, xA a0), (1, xA a1), (2, xA a2), (7, xI v7_25), (8, xI v8_28)]) [2, 3, 4, 1, 0] rfl ?_
  refine V_lp_Sizes_fits_30 hfl _ _ _ _ (fun v7_106 M => ?_) _ _ _ _
  · refine v_iload d_Sizes_fits_106 1 rfl ?_
    refine v_aloadn d_Sizes_fits_108 rfl 0 rfl ?_
    refine v_gI d_Sizes_fits_109 fl_Sizes_46 rfl (fun x109 => ?_)
    refine v_icgt d_Sizes_fits_112 ?_ ?_
    · refine v_iconst d_Sizes_fits_119 (by decide) ?_
      exact v_zret d_Sizes_fits_120 rfl
    · refine v_iconst d_Sizes_fits_115 (by decide) ?_
      refine v_goto d_Sizes_fits_116 ?_
      exact v_zret d_Sizes_fits_120 rfl
set_option maxHeartbeats 4000000 in
set_option maxRecDepth 100000 in
theorem c_Sizes_leastZ (l : Launch) (hfl : l.stackTraces = false) (a0 : Nat) (v1 : Int) (v2 : Int) (v3 : Int) (M : mm_T) : vm_Con l yX7_leastZ (.code yX7_leastZ cX7_leastZ 4 (some .int)) 1 ex_I [xA a0, xI v1, xI v2, xI v3] M (k_Sizes_leastZ a0 v1 v2 v3 M) := by
  refine vm_con (y := q_Sizes_leastZ) hfl (by decide +kernel) rfl (fun h => by cases h) (Nat.le_of_ble_eq_true rfl) rfl (fun _ _ _ => rfl) (fun r E h => by cases h) (fun w => ?_)
  show V_ l w q_Sizes_leastZ 1 ex_I 0 [(0, xA a0), (1, xI v1), (2, xI v2), (3, xI v3)] [] M (k_Sizes_leastZ a0 v1 v2 v3 M)
  unfold k_Sizes_leastZ
  refine v_iloadn d_Sizes_leastZ_0 rfl 3 rfl ?_
  refine v_join0 (pj := 18) (lj := [(1, xI v1)]) (sj := []) (fun M => ?_) (fun j18 hj18 => ?_)
  · refine v_iconst d_Sizes_leastZ_18 (by decide) ?_
    refine v_iloadn d_Sizes_leastZ_19 rfl 0 rfl ?_
    refine v_mmin d_Sizes_leastZ_20 gw_1042 gw_588 gw_131 gw_589 (by first | decide | omega) (Nat.le_of_ble_eq_true rfl) ?_
    exact v_ret d_Sizes_leastZ_23 rfl
  refine v_ifeq d_Sizes_leastZ_1 ?_ ?_
  · refine v_sub (ls' := [(1, xI v1)]) [1] rfl ?_
    exact hj18 M
  · refine v_iloadn d_Sizes_leastZ_4 rfl 1 rfl ?_
    refine v_ifle d_Sizes_leastZ_5 ?_ ?_
    · refine v_sub (ls' := [(1, xI v1)]) [1] rfl ?_
      exact hj18 M
    · refine v_iconst d_Sizes_leastZ_8 (by decide) ?_
      refine v_iloadn d_Sizes_leastZ_9 rfl 2 rfl ?_
      refine v_iloadn d_Sizes_leastZ_10 rfl 1 rfl ?_
      refine v_idiv d_Sizes_leastZ_11 (fun x11 => ?_)
      refine v_mmax d_Sizes_leastZ_12 gw_520 gw_466 gw_131 gw_467 (by first | decide | omega) (Nat.le_of_ble_eq_true rfl) ?_
      refine v_goto d_Sizes_leastZ_15 ?_
      exact v_ret d_Sizes_leastZ_23 rfl
set_option maxHeartbeats 4000000 in
set_option maxRecDepth 100000 in
theorem V_lp_Sizes_choose_120 {l : Launch} {w : vm_W} (hfl : l.stackTraces = false) (kx195 : Int → mm_T → Option (Int × mm_T)) (a0 : Nat) (a1 : Nat) (a2 : Nat) (v3 : Int) (v4 : Int) (v5 : Int) (v10 : Int) (v11 : Int) (v13 : Int) (v14 : Int) {v6 : Int} {v8 : Int} {v9 : Int} {v12 : Int} (hkx195 : ∀ (v7_e : Int) (M : mm_T), V_ l w q_Sizes_choose 4 ex_I 195 [(0, xA a0), (1, xA a1), (2, xA a2), (3, xI v3), (4, xI v4), (5, xI v5), (6, xI v6), (7, xI v7_e), (8, xI v8), (9, xI v9), (10, xI v10), (11, xI v11), (12, xI v12), (13, xI v13)] [] M (kx195 v7_e M)) : ∀ (f : Nat) (v7 : Int) (v15 : Int) (M : mm_T), V_ l w q_Sizes_choose 4 ex_I 120 [(0, xA a0), (1, xA a1), (2, xA a2), (3, xI v3), (4, xI v4), (5, xI v5), (6, xI v6), (7, xI v7), (8, xI v8), (9, xI v9), (10, xI v10), (11, xI v11), (12, xI v12), (13, xI v13), (14, xI v14), (15, xI v15)] [] M (lp_Sizes_choose_120 kx195 a0 a1 a2 v3 v4 v5 v10 v11 v13 v14 f v7 v15 M) := by
  intro f
  induction f with
  | zero => intros; exact V_.none
  | succ f ih =>
    intro v7 v15 M
    unfold lp_Sizes_choose_120
    refine v_iload d_Sizes_choose_120 15 rfl ?_
    refine v_iload d_Sizes_choose_122 10 rfl ?_
    refine v_imul d_Sizes_choose_124 (fun x124 => ?_)
    refine v_iload d_Sizes_choose_125 14 rfl ?_
    refine v_icgt d_Sizes_choose_127 ?_ ?_
    · refine v_sub (ls' := [(0, xA a0), (1, xA a1), (2, xA a2), (3, xI v3), (4, xI v4), (5, xI v5), (6, xI v6), (7, xI v7), (8, xI v8), (9, xI v9), (10, xI v10), (11, xI v11), (12, xI v12), (13, xI v13)]) [0, 1, 2, 3, 4, 5, 6, 7, 8, 9, 10, 11, 12, 13] rfl ?_
      exact hkx195 v7 M
    · refine v_iload d_Sizes_choose_130 15 rfl ?_
      refine v_join0 (pj := 140) (lj := [(0, xA a0), (1, xA a1), (2, xA a2), (3, xI v3), (4, xI v4), (5, xI v5), (6, xI v6), (7, xI v7), (8, xI v8), (9, xI v9), (10, xI v10), (11, xI v11), (12, xI v12), (13, xI v13), (14, xI v14), (15, xI v15)]) (sj := []) (fun M => ?_) (fun j140 hj140 => ?_)
      · refine v_iload d_Sizes_choose_140 4 rfl ?_
        refine v_join1 (pj := 189) (lj := fun v7_189 => [(0, xA a0), (1, xA a1), (2, xA a2), (3, xI v3), (4, xI v4), (5, xI v5), (6, xI v6), (7, xI v7_189), (8, xI v8), (9, xI v9), (10, xI v10), (11, xI v11), (12, xI v12), (13, xI v13), (14, xI v14), (15, xI v15)]) (sj := fun v7_189 => []) (fun v7_189 M => ?_) (fun j189 hj189 => ?_)
        · refine v_iinc (lz := fun z => [(15, xI z), (0, xA a0), (1, xA a1), (2, xA a2), (3, xI v3), (4, xI v4), (5, xI v5), (6, xI v6), (7, xI v7_189), (8, xI v8), (9, xI v9), (10, xI v10), (11, xI v11), (12, xI v12), (13, xI v13), (14, xI v14)]) d_Sizes_choose_189 15 rfl (Nat.le_of_ble_eq_true rfl) (fun _ => rfl) (fun v15_189 => ?_)
          refine v_goto d_Sizes_choose_192 ?_
          refine v_sub (ls' := [(0, xA a0), (1, xA a1), (2, xA a2), (3, xI v3), (4, xI v4), (5, xI v5), (6, xI v6), (7, xI v7_189), (8, xI v8), (9, xI v9), (10, xI v10), (11, xI v11), (12, xI v12), (13, xI v13), (14, xI v14), (15, xI v15_189)]) [1, 2, 3, 4, 5, 6, 7, 8, 9, 10, 11, 12, 13, 14, 15, 0] rfl ?_
          exact ih v7_189 v15_189 M
        refine v_join0 (pj := 155) (lj := [(0, xA a0), (1, xA a1), (2, xA a2), (3, xI v3), (4, xI v4), (5, xI v5), (6, xI v6), (7, xI v7), (8, xI v8), (9, xI v9), (10, xI v10), (11, xI v11), (12, xI v12), (13, xI v13), (14, xI v14), (15, xI v15)]) (sj := []) (fun M => ?_) (fun j155 hj155 => ?_)
        · refine v_aloadn d_Sizes_choose_155 rfl 0 rfl ?_
          refine v_aloadn d_Sizes_choose_156 rfl 1 rfl ?_
          refine v_aloadn d_Sizes_choose_157 rfl 2 rfl ?_
          refine v_iloadn d_Sizes_choose_158 rfl 3 rfl ?_
          refine v_iload d_Sizes_choose_159 11 rfl ?_
          refine v_iload d_Sizes_choose_161 13 rfl ?_
          refine v_iload d_Sizes_choose_163 15 rfl ?_
          refine v_cVi d_Sizes_choose_165 ml_Sizes_78 (q := (RX7, TX7, 2)) rfl (c_Sizes_fits l hfl a0 a1 a2 v3 v11 v13 v15 M) (fun _ => rfl) (by decide) (by decide) (as := [xA a1, xA a2, xI v3, xI v11, xI v13, xI v15]) (st1 := []) rfl rfl (Nat.le_of_ble_eq_true rfl) (fun c165 M => ?_)
          refine v_ifne d_Sizes_choose_168 ?_ ?_
          · refine v_iinc (lz := fun z => [(7, xI z), (0, xA a0), (1, xA a1), (2, xA a2), (3, xI v3), (4, xI v4), (5, xI v5), (6, xI v6), (8, xI v8), (9, xI v9), (10, xI v10), (11, xI v11), (12, xI v12), (13, xI v13), (14, xI v14), (15, xI v15)]) d_Sizes_choose_174 7 rfl (Nat.le_of_ble_eq_true rfl) (fun _ => rfl) (fun v7_174 => ?_)
            refine v_iload d_Sizes_choose_177 0 rfl ?_
            refine v_iconst d_Sizes_choose_179 (by decide) ?_
            refine v_isub d_Sizes_choose_180 (fun x180 => ?_)
            refine v_iload d_Sizes_choose_181 6 rfl ?_
            refine v_icne d_Sizes_choose_183 ?_ ?_
            · refine v_sub (ls' := [(0, xA a0), (1, xA a1), (2, xA a2), (3, xI v3), (4, xI v4), (5, xI v5), (6, xI v6), (7, xI v7_174), (8, xI v8), (9, xI v9), (10, xI v10), (11, xI v11), (12, xI v12), (13, xI v13), (14, xI v14), (15, xI v15)]) [1, 2, 3, 4, 5, 6, 7, 0, 8, 9, 10, 11, 12, 13, 14, 15] rfl ?_
              exact hj189 v7_174 M
            · refine v_iload d_Sizes_choose_186 0 rfl ?_
              exact v_ret d_Sizes_choose_188 rfl
          · refine v_goto d_Sizes_choose_171 ?_
            exact hj189 v7 M
        refine v_ifeq d_Sizes_choose_142 ?_ ?_
        · exact hj155 M
        · refine v_iload d_Sizes_choose_145 15 rfl ?_
          refine v_iload d_Sizes_choose_147 10 rfl ?_
          refine v_imul d_Sizes_choose_149 (fun x149 => ?_)
          refine v_iload d_Sizes_choose_150 14 rfl ?_
          refine v_iclt d_Sizes_choose_152 ?_ ?_
          · exact hj189 v7 M
          · exact hj155 M
      refine v_ifeq d_Sizes_choose_132 ?_ ?_
      · exact hj140 M
      · refine v_iload d_Sizes_choose_135 10 rfl ?_
        refine v_ifle d_Sizes_choose_137 ?_ ?_
        · refine v_sub (ls' := [(0, xA a0), (1, xA a1), (2, xA a2), (3, xI v3), (4, xI v4), (5, xI v5), (6, xI v6), (7, xI v7), (8, xI v8), (9, xI v9), (10, xI v10), (11, xI v11), (12, xI v12), (13, xI v13)]) [0, 1, 2, 3, 4, 5, 6, 7, 8, 9, 10, 11, 12, 13] rfl ?_
          exact hkx195 v7 M
        · exact hj140 M
set_option maxHeartbeats 4000000 in
set_option maxRecDepth 100000 in
theorem V_lp_Sizes_choose_78 {l : Launch} {w : vm_W} (hfl : l.stackTraces = false) (kx201 : Int → mm_T → Option (Int × mm_T)) (a0 : Nat) (a1 : Nat) (a2 : Nat) (v3 : Int) (v4 : Int) (v5 : Int) (v9 : Int) (v10 : Int) (v11 : Int) (v12 : Int) {v6 : Int} {v8 : Int} (hkx201 : ∀ (v7_e : Int) (M : mm_T), V_ l w q_Sizes_choose 4 ex_I 201 [(0, xA a0), (1, xA a1), (2, xA a2), (3, xI v3), (4, xI v4), (5, xI v5), (6, xI v6), (7, xI v7_e), (8, xI v8), (9, xI v9), (10, xI v10), (11, xI v11)] [] M (kx201 v7_e M)) : ∀ (f : Nat) (v7 : Int) (v13 : Int) (M : mm_T), V_ l w q_Sizes_choose 4 ex_I 78 [(0, xA a0), (1, xA a1), (2, xA a2), (3, xI v3), (4, xI v4), (5, xI v5), (6, xI v6), (7, xI v7), (8, xI v8), (9, xI v9), (10, xI v10), (11, xI v11), (12, xI v12), (13, xI v13)] [] M (lp_Sizes_choose_78 kx201 a0 a1 a2 v3 v4 v5 v9 v10 v11 v12 f v7 v13 M) := by
  intro f
  induction f with
  | zero => intros; exact V_.none
  | succ f ih =>
    intro v7 v13 M
    unfold lp_Sizes_choose_78
    refine v_iload d_Sizes_choose_78 13 rfl ?_
    refine v_iload d_Sizes_choose_80 9 rfl ?_
    refine v_imul d_Sizes_choose_82 (fun x82 => ?_)
    refine v_iload d_Sizes_choose_83 12 rfl ?_
    refine v_icgt d_Sizes_choose_85 ?_ ?_
    · refine v_sub (ls' := [(0, xA a0), (1, xA a1), (2, xA a2), (3, xI v3), (4, xI v4), (5, xI v5), (6, xI v6), (7, xI v7), (8, xI v8), (9, xI v9), (10, xI v10), (11, xI v11)]) [0, 1, 2, 3, 4, 5, 6, 7, 8, 9, 10, 11] rfl ?_
      exact hkx201 v7 M
    · refine v_iload d_Sizes_choose_88 13 rfl ?_
      refine v_join0 (pj := 98) (lj := [(0, xA a0), (1, xA a1), (2, xA a2), (3, xI v3), (4, xI v4), (5, xI v5), (6, xI v6), (7, xI v7), (8, xI v8), (9, xI v9), (10, xI v10), (11, xI v11), (12, xI v12), (13, xI v13)]) (sj := []) (fun M => ?_) (fun j98 hj98 => ?_)
      · refine v_iload d_Sizes_choose_98 12 rfl ?_
        refine v_iload d_Sizes_choose_100 13 rfl ?_
        refine v_iload d_Sizes_choose_102 9 rfl ?_
        refine v_imul d_Sizes_choose_104 (fun x104 => ?_)
        refine v_isub d_Sizes_choose_105 (fun x105 => ?_)
        refine v_istore (lz := fun z => [(14, xI z), (0, xA a0), (1, xA a1), (2, xA a2), (3, xI v3), (4, xI v4), (5, xI v5), (6, xI v6), (7, xI v7), (8, xI v8), (9, xI v9), (10, xI v10), (11, xI v11), (12, xI v12), (13, xI v13)]) d_Sizes_choose_106 (Nat.le_of_ble_eq_true rfl) (fun _ => rfl) (fun v14_106 => ?_)
        refine v_aloadn d_Sizes_choose_108 rfl 1 rfl ?_
        refine v_iload d_Sizes_choose_109 11 rfl ?_
        refine v_iload d_Sizes_choose_111 0 rfl ?_
        refine v_iload d_Sizes_choose_113 5 rfl ?_
        refine v_cVi d_Sizes_choose_115 ml_Sizes_74 (q := (RX7, TX7, 2)) rfl (c_Sizes_leastZ l hfl a0 v10 v14_106 v4 M) (fun _ => rfl) (by decide) (by decide) (as := [xI v10, xI v14_106, xI v4]) (st1 := []) rfl rfl (Nat.le_of_ble_eq_true rfl) (fun c115 M => ?_)
        refine v_istore (lz := fun z => [(15, xI z), (14, xI v14_106), (0, xA a0), (1, xA a1), (2, xA a2), (3, xI v3), (4, xI v4), (5, xI v5), (6, xI v6), (7, xI v7), (8, xI v8), (9, xI v9), (10, xI v10), (11, xI v11), (12, xI v12), (13, xI v13)]) d_Sizes_choose_118 (Nat.le_of_ble_eq_true rfl) (fun _ => rfl) (fun v15_118 => ?_)
        refine v_sub (ls' := [(0, xA a0), (1, xA a1), (2, xA a2), (3, xI v3), (4, xI v4), (5, xI v5), (6, xI v6), (7, xI v7), (8, xI v8), (9, xI v9), (10, xI v10), (11, xI v11), (12, xI v12), (13, xI v13), (14, xI v14_106), (15, xI v15_118)]) [2, 3, 4, 5, 6, 7, 8, 9, 10, 11, 12, 13, 14, 15, 1, 0] rfl ?_
        refine V_lp_Sizes_choose_120 hfl _ _ _ _ _ _ _ _ _ _ _ (fun v7_195 M => ?_) _ _ _ _
        · refine v_iinc (lz := fun z => [(13, xI z), (0, xA a0), (1, xA a1), (2, xA a2), (3, xI v3), (4, xI v4), (5, xI v5), (6, xI v6), (7, xI v7_195), (8, xI v8), (9, xI v9), (10, xI v10), (11, xI v11), (12, xI v12)]) d_Sizes_choose_195 13 rfl (Nat.le_of_ble_eq_true rfl) (fun _ => rfl) (fun v13_195 => ?_)
          refine v_goto d_Sizes_choose_198 ?_
          refine v_sub (ls' := [(0, xA a0), (1, xA a1), (2, xA a2), (3, xI v3), (4, xI v4), (5, xI v5), (6, xI v6), (7, xI v7_195), (8, xI v8), (9, xI v9), (10, xI v10), (11, xI v11), (12, xI v12), (13, xI v13_195)]) [1, 2, 3, 4, 5, 6, 7, 8, 9, 10, 11, 12, 13, 0] rfl ?_
          exact ih v7_195 v13_195 M
      refine v_ifeq d_Sizes_choose_90 ?_ ?_
      · exact hj98 M
      · refine v_iload d_Sizes_choose_93 9 rfl ?_
        refine v_ifle d_Sizes_choose_95 ?_ ?_
        · refine v_sub (ls' := [(0, xA a0), (1, xA a1), (2, xA a2), (3, xI v3), (4, xI v4), (5, xI v5), (6, xI v6), (7, xI v7), (8, xI v8), (9, xI v9), (10, xI v10), (11, xI v11)]) [0, 1, 2, 3, 4, 5, 6, 7, 8, 9, 10, 11] rfl ?_
          exact hkx201 v7 M
        · exact hj98 M
set_option maxHeartbeats 4000000 in
set_option maxRecDepth 100000 in
theorem V_lp_Sizes_choose_40 {l : Launch} {w : vm_W} (hfl : l.stackTraces = false) (kx207 : Int → mm_T → Option (Int × mm_T)) (a0 : Nat) (a1 : Nat) (a2 : Nat) (v3 : Int) (v4 : Int) (v5 : Int) (v6 : Int) (v8 : Int) (v9 : Int) (v10 : Int) (hkx207 : ∀ (v7_e : Int) (M : mm_T), V_ l w q_Sizes_choose 4 ex_I 207 [(7, xI v7_e)] [] M (kx207 v7_e M)) : ∀ (f : Nat) (v7 : Int) (v11 : Int) (M : mm_T), V_ l w q_Sizes_choose 4 ex_I 40 [(0, xA a0), (1, xA a1), (2, xA a2), (3, xI v3), (4, xI v4), (5, xI v5), (6, xI v6), (7, xI v7), (8, xI v8), (9, xI v9), (10, xI v10), (11, xI v11)] [] M (lp_Sizes_choose_40 kx207 a0 a1 a2 v3 v4 v5 v6 v8 v9 v10 f v7 v11 M) := by
  intro f
  induction f with
  | zero => intros; exact V_.none
  | succ f ih =>
    intro v7 v11 M
    unfold lp_Sizes_choose_40
    refine v_iload d_Sizes_choose_40 11 rfl ?_
    refine v_iload d_Sizes_choose_42 8 rfl ?_
    refine v_imul d_Sizes_choose_44 (fun x44 => ?_)
    refine v_iload d_Sizes_choose_45 6 rfl ?_
    refine v_icgt d_Sizes_choose_47 ?_ ?_
    · refine v_sub (ls' := [(7, xI v7)]) [7] rfl ?_
      exact hkx207 v7 M
    · refine v_iload d_Sizes_choose_50 11 rfl ?_
      refine v_join0 (pj := 60) (lj := [(0, xA a0), (1, xA a1), (2, xA a2), (3, xI v3), (4, xI v4), (5, xI v5), (6, xI v6), (7, xI v7), (8, xI v8), (9, xI v9), (10, xI v10), (11, xI v11)]) (sj := []) (fun M => ?_) (fun j60 hj60 => ?_)
      · refine v_iload d_Sizes_choose_60 6 rfl ?_
        refine v_iload d_Sizes_choose_62 11 rfl ?_
        refine v_iload d_Sizes_choose_64 8 rfl ?_
        refine v_imul d_Sizes_choose_66 (fun x66 => ?_)
        refine v_isub d_Sizes_choose_67 (fun x67 => ?_)
        refine v_istore (lz := fun z => [(12, xI z), (0, xA a0), (1, xA a1), (2, xA a2), (3, xI v3), (4, xI v4), (5, xI v5), (6, xI v6), (7, xI v7), (8, xI v8), (9, xI v9), (10, xI v10), (11, xI v11)]) d_Sizes_choose_68 (Nat.le_of_ble_eq_true rfl) (fun _ => rfl) (fun v12_68 => ?_)
        refine v_iconst d_Sizes_choose_70 (by decide) ?_
        refine v_iload d_Sizes_choose_71 10 rfl ?_
        refine v_mmin d_Sizes_choose_73 gw_1042 gw_588 gw_131 gw_589 (by first | decide | omega) (Nat.le_of_ble_eq_true rfl) ?_
        refine v_istore (lz := fun z => [(13, xI z), (12, xI v12_68), (0, xA a0), (1, xA a1), (2, xA a2), (3, xI v3), (4, xI v4), (5, xI v5), (6, xI v6), (7, xI v7), (8, xI v8), (9, xI v9), (10, xI v10), (11, xI v11)]) d_Sizes_choose_76 (Nat.le_of_ble_eq_true rfl) (fun _ => rfl) (fun v13_76 => ?_)
        refine v_sub (ls' := [(0, xA a0), (1, xA a1), (2, xA a2), (3, xI v3), (4, xI v4), (5, xI v5), (6, xI v6), (7, xI v7), (8, xI v8), (9, xI v9), (10, xI v10), (11, xI v11), (12, xI v12_68), (13, xI v13_76)]) [2, 3, 4, 5, 6, 7, 8, 9, 10, 11, 12, 13, 1, 0] rfl ?_
        refine V_lp_Sizes_choose_78 hfl _ _ _ _ _ _ _ _ _ _ _ (fun v7_201 M => ?_) _ _ _ _
        · refine v_iinc (lz := fun z => [(11, xI z), (0, xA a0), (1, xA a1), (2, xA a2), (3, xI v3), (4, xI v4), (5, xI v5), (6, xI v6), (7, xI v7_201), (8, xI v8), (9, xI v9), (10, xI v10)]) d_Sizes_choose_201 11 rfl (Nat.le_of_ble_eq_true rfl) (fun _ => rfl) (fun v11_201 => ?_)
          refine v_goto d_Sizes_choose_204 ?_
          refine v_sub (ls' := [(0, xA a0), (1, xA a1), (2, xA a2), (3, xI v3), (4, xI v4), (5, xI v5), (6, xI v6), (7, xI v7_201), (8, xI v8), (9, xI v9), (10, xI v10), (11, xI v11_201)]) [1, 2, 3, 4, 5, 6, 7, 8, 9, 10, 11, 0] rfl ?_
          exact ih v7_201 v11_201 M
      refine v_ifeq d_Sizes_choose_52 ?_ ?_
      · exact hj60 M
      · refine v_iload d_Sizes_choose_55 8 rfl ?_
        refine v_ifle d_Sizes_choose_57 ?_ ?_
        · refine v_sub (ls' := [(7, xI v7)]) [7] rfl ?_
          exact hkx207 v7 M
        · exact hj60 M
set_option maxHeartbeats 4000000 in
set_option maxRecDepth 100000 in
theorem c_Sizes_choose (l : Launch) (hfl : l.stackTraces = false) (a0 : Nat) (a1 : Nat) (a2 : Nat) (v3 : Int) (v4 : Int) (v5 : Int) (M : mm_T) : vm_Con l yX7_choose (.code yX7_choose cX7_choose 16 (some .int)) 4 ex_I [xA a0, xA a1, xA a2, xI v3, xI v4, xI v5] M (k_Sizes_choose a0 a1 a2 v3 v4 v5 M) := by
  refine vm_con (y := q_Sizes_choose) hfl (by decide +kernel) rfl (fun h => by cases h) (Nat.le_of_ble_eq_true rfl) rfl (fun _ _ _ => rfl) (fun r E h => by cases h) (fun w => ?_)
  show V_ l w q_Sizes_choose 4 ex_I 0 [(0, xA a0), (1, xA a1), (2, xA a2), (3, xI v3), (4, xI v4), (5, xI v5)] [] M (k_Sizes_choose a0 a1 a2 v3 v4 v5 M)
  unfold k_Sizes_choose
  refine v_aloadn d_Sizes_choose_0 rfl 1 rfl ?_
  refine v_gI d_Sizes_choose_1 fl_Sizes_46 rfl (fun x1 => ?_)
  refine v_iloadn d_Sizes_choose_4 rfl 3 rfl ?_
  refine v_isub d_Sizes_choose_5 (fun x5 => ?_)
  refine v_istore (lz := fun z => [(6, xI z), (0, xA a0), (1, xA a1), (2, xA a2), (3, xI v3), (4, xI v4), (5, xI v5)]) d_Sizes_choose_6 (Nat.le_of_ble_eq_true rfl) (fun _ => rfl) (fun v6_6 => ?_)
  refine v_iconst d_Sizes_choose_8 (by decide) ?_
  refine v_istore (lz := fun z => [(7, xI z), (6, xI v6_6), (0, xA a0), (1, xA a1), (2, xA a2), (3, xI v3), (4, xI v4), (5, xI v5)]) d_Sizes_choose_9 (Nat.le_of_ble_eq_true rfl) (fun _ => rfl) (fun v7_9 => ?_)
  refine v_aloadn d_Sizes_choose_11 rfl 4 rfl ?_
  refine v_iconst d_Sizes_choose_12 (by decide) ?_
  refine v_cVi d_Sizes_choose_13 ml_Sizes_68 (q := (RX6, TX6, 5)) rfl (c_Shape_times l hfl a2 0 M) (fun _ => rfl) (by decide) (by decide) (as := [xI 0]) (st1 := []) rfl rfl (Nat.le_of_ble_eq_true rfl) (fun c13 M => ?_)
  refine v_istore (lz := fun z => [(8, xI z), (7, xI v7_9), (6, xI v6_6), (0, xA a0), (1, xA a1), (2, xA a2), (3, xI v3), (4, xI v4), (5, xI v5)]) d_Sizes_choose_16 (Nat.le_of_ble_eq_true rfl) (fun _ => rfl) (fun v8_16 => ?_)
  refine v_aloadn d_Sizes_choose_18 rfl 5 rfl ?_
  refine v_iconst d_Sizes_choose_19 (by decide) ?_
  refine v_cVi d_Sizes_choose_20 ml_Sizes_68 (q := (RX6, TX6, 5)) rfl (c_Shape_times l hfl a2 1 M) (fun _ => rfl) (by decide) (by decide) (as := [xI 1]) (st1 := []) rfl rfl (Nat.le_of_ble_eq_true rfl) (fun c20 M => ?_)
  refine v_istore (lz := fun z => [(9, xI z), (8, xI v8_16), (7, xI v7_9), (6, xI v6_6), (0, xA a0), (1, xA a1), (2, xA a2), (3, xI v3), (4, xI v4), (5, xI v5)]) d_Sizes_choose_23 (Nat.le_of_ble_eq_true rfl) (fun _ => rfl) (fun v9_23 => ?_)
  refine v_aloadn d_Sizes_choose_25 rfl 6 rfl ?_
  refine v_iconst d_Sizes_choose_26 (by decide) ?_
  refine v_cVi d_Sizes_choose_27 ml_Sizes_68 (q := (RX6, TX6, 5)) rfl (c_Shape_times l hfl a2 2 M) (fun _ => rfl) (by decide) (by decide) (as := [xI 2]) (st1 := []) rfl rfl (Nat.le_of_ble_eq_true rfl) (fun c27 M => ?_)
  refine v_istore (lz := fun z => [(10, xI z), (9, xI v9_23), (8, xI v8_16), (7, xI v7_9), (6, xI v6_6), (0, xA a0), (1, xA a1), (2, xA a2), (3, xI v3), (4, xI v4), (5, xI v5)]) d_Sizes_choose_30 (Nat.le_of_ble_eq_true rfl) (fun _ => rfl) (fun v10_30 => ?_)
  refine v_iconst d_Sizes_choose_32 (by decide) ?_
  refine v_iload d_Sizes_choose_33 2 rfl ?_
  refine v_mmin d_Sizes_choose_35 gw_1042 gw_588 gw_131 gw_589 (by first | decide | omega) (Nat.le_of_ble_eq_true rfl) ?_
  refine v_istore (lz := fun z => [(11, xI z), (10, xI v10_30), (9, xI v9_23), (8, xI v8_16), (7, xI v7_9), (6, xI v6_6), (0, xA a0), (1, xA a1), (2, xA a2), (3, xI v3), (4, xI v4), (5, xI v5)]) d_Sizes_choose_38 (Nat.le_of_ble_eq_true rfl) (fun _ => rfl) (fun v11_38 => ?_)
  refine v_sub (ls' := [(0, xA a0), (1, xA a1), (2, xA a2), (3, xI v3), (4, xI v4), (5, xI v5), (6, xI v6_6), (7, xI v7_9), (8, xI v8_16), (9, xI v9_23), (10, xI v10_30), (11, xI v11_38)]) [6, 7, 8, 9, 10, 11, 5, 4, 3, 2, 1, 0] rfl ?_
  refine V_lp_Sizes_choose_40 hfl _ _ _ _ _ _ _ _ _ _ _ (fun v7_207 M => ?_) _ _ _ _
  · refine v_iload d_Sizes_choose_207 0 rfl ?_
    exact v_ret d_Sizes_choose_209 rfl
set_option maxHeartbeats 4000000 in
set_option maxRecDepth 100000 in
theorem V_lp_Shape_isLoose_21 {l : Launch} {w : vm_W} (hfl : l.stackTraces = false) (kx107 : Int → Int → mm_T → Option (Int × mm_T)) (a0 : Nat) (v1 : Int) {v2 : Int} {v5 : Int} (hkx107 : ∀ (v3_e : Int) (v4_e : Int) (M : mm_T), V_ l w q_Shape_isLoose 2 ex_Z 107 [(0, xA a0), (1, xI v1), (2, xI v2), (3, xI v3_e), (4, xI v4_e), (5, xI v5)] [] M (kx107 v3_e v4_e M)) : ∀ (f : Nat) (v3 : Int) (v4 : Int) (v6 : Int) (v7 : Int) (M : mm_T), V_ l w q_Shape_isLoose 2 ex_Z 21 [(0, xA a0), (1, xI v1), (2, xI v2), (3, xI v3), (4, xI v4), (5, xI v5), (6, xI v6), (7, xI v7)] [] M (lp_Shape_isLoose_21 kx107 a0 v1 f v3 v4 v6 v7 M) := by
  intro f
  induction f with
  | zero => intros; exact V_.none
  | succ f ih =>
    intro v3 v4 v6 v7 M
    unfold lp_Shape_isLoose_21
    refine v_iload d_Shape_isLoose_21 7 rfl ?_
    refine v_aloadn d_Shape_isLoose_23 rfl 0 rfl ?_
    refine v_gI d_Shape_isLoose_24 fl_Shape_22 rfl (fun x24 => ?_)
    refine v_icge d_Shape_isLoose_27 ?_ ?_
    · refine v_sub (ls' := [(0, xA a0), (1, xI v1), (2, xI v2), (3, xI v3), (4, xI v4), (5, xI v5)]) [0, 1, 2, 3, 4, 5] rfl ?_
      exact hkx107 v3 v4 M
    · refine v_aloadn d_Shape_isLoose_30 rfl 0 rfl ?_
      refine v_iload d_Shape_isLoose_31 7 rfl ?_
      refine v_cVi d_Shape_isLoose_33 ml_Shape_43 (q := (RX6, TX6, 5)) rfl (c_Shape_at l hfl a0 v7 M) (fun _ => rfl) (by decide) (by decide) (as := [xI v7]) (st1 := []) rfl rfl (Nat.le_of_ble_eq_true rfl) (fun c33 M => ?_)
      refine v_istore (lz := fun z => [(8, xI z), (0, xA a0), (1, xI v1), (2, xI v2), (3, xI v3), (4, xI v4), (5, xI v5), (6, xI v6), (7, xI v7)]) d_Shape_isLoose_36 (Nat.le_of_ble_eq_true rfl) (fun _ => rfl) (fun v8_36 => ?_)
      refine v_iloadn d_Shape_isLoose_38 rfl 2 rfl ?_
      refine v_iload d_Shape_isLoose_39 0 rfl ?_
      refine v_ishr d_Shape_isLoose_41 ?_
      refine v_iconst d_Shape_isLoose_42 (by decide) ?_
      refine v_iand d_Shape_isLoose_43 ?_
      refine v_join3 (pj := 101) (lj := fun v3_101 v4_101 v6_101 => [(0, xA a0), (1, xI v1), (2, xI v2), (3, xI v3_101), (4, xI v4_101), (5, xI v5), (6, xI v6_101), (7, xI v7)]) (sj := fun v3_101 v4_101 v6_101 => []) (fun v3_101 v4_101 v6_101 M => ?_) (fun j101 hj101 => ?_)
      · refine v_iinc (lz := fun z => [(7, xI z), (0, xA a0), (1, xI v1), (2, xI v2), (3, xI v3_101), (4, xI v4_101), (5, xI v5), (6, xI v6_101)]) d_Shape_isLoose_101 7 rfl (Nat.le_of_ble_eq_true rfl) (fun _ => rfl) (fun v7_101 => ?_)
        refine v_goto d_Shape_isLoose_104 ?_
        refine v_sub (ls' := [(0, xA a0), (1, xI v1), (2, xI v2), (3, xI v3_101), (4, xI v4_101), (5, xI v5), (6, xI v6_101), (7, xI v7_101)]) [1, 2, 3, 4, 5, 6, 7, 0] rfl ?_
        exact ih v3_101 v4_101 v6_101 v7_101 M
      refine v_ifne d_Shape_isLoose_44 ?_ ?_
      · refine v_iload d_Shape_isLoose_50 7 rfl ?_
        refine v_iconst d_Shape_isLoose_52 (by decide) ?_
        refine v_join1 (pj := 74) (lj := fun v4_74 => [(0, xA a0), (1, xI v1), (2, xI v2), (3, xI v3), (4, xI v4_74), (5, xI v5), (6, xI v6), (7, xI v7), (8, xI v8_36)]) (sj := fun v4_74 => []) (fun v4_74 M => ?_) (fun j74 hj74 => ?_)
        · refine v_iload d_Shape_isLoose_74 6 rfl ?_
          refine v_iconst d_Shape_isLoose_76 (by decide) ?_
          refine v_join1 (pj := 97) (lj := fun v3_97 => [(0, xA a0), (1, xI v1), (2, xI v2), (3, xI v3_97), (4, xI v4_74), (5, xI v5), (7, xI v7), (8, xI v8_36)]) (sj := fun v3_97 => []) (fun v3_97 M => ?_) (fun j97 hj97 => ?_)
          · refine v_iload d_Shape_isLoose_97 7 rfl ?_
            refine v_istore (lz := fun z => [(6, xI z), (0, xA a0), (1, xI v1), (2, xI v2), (3, xI v3_97), (4, xI v4_74), (5, xI v5), (7, xI v7), (8, xI v8_36)]) d_Shape_isLoose_99 (Nat.le_of_ble_eq_true rfl) (fun _ => rfl) (fun v6_99 => ?_)
            refine v_sub (ls' := [(0, xA a0), (1, xI v1), (2, xI v2), (3, xI v3_97), (4, xI v4_74), (5, xI v5), (6, xI v6_99), (7, xI v7)]) [1, 2, 3, 4, 5, 6, 0, 7] rfl ?_
            exact hj101 v3_97 v4_74 v6_99 M
          refine v_iceq d_Shape_isLoose_77 ?_ ?_
          · refine v_sub (ls' := [(0, xA a0), (1, xI v1), (2, xI v2), (3, xI v3), (4, xI v4_74), (5, xI v5), (7, xI v7), (8, xI v8_36)]) [0, 1, 2, 3, 4, 5, 7, 8] rfl ?_
            exact hj97 v3 M
          · refine v_iload d_Shape_isLoose_80 4 rfl ?_
            refine v_iload d_Shape_isLoose_82 8 rfl ?_
            refine v_ishr d_Shape_isLoose_84 ?_
            refine v_iconst d_Shape_isLoose_85 (by decide) ?_
            refine v_iand d_Shape_isLoose_86 ?_
            refine v_ifeq d_Shape_isLoose_87 ?_ ?_
            · refine v_sub (ls' := [(0, xA a0), (1, xI v1), (2, xI v2), (3, xI v3), (4, xI v4_74), (5, xI v5), (7, xI v7), (8, xI v8_36)]) [0, 1, 2, 3, 4, 5, 7, 8] rfl ?_
              exact hj97 v3 M
            · refine v_iloadn d_Shape_isLoose_90 rfl 3 rfl ?_
              refine v_iconst d_Shape_isLoose_91 (by decide) ?_
              refine v_iload d_Shape_isLoose_92 6 rfl ?_
              refine v_ishl d_Shape_isLoose_94 ?_
              refine v_ior d_Shape_isLoose_95 ?_
              refine v_istoren (lz := fun z => [(3, xI z), (0, xA a0), (1, xI v1), (2, xI v2), (4, xI v4_74), (5, xI v5), (6, xI v6), (7, xI v7), (8, xI v8_36)]) d_Shape_isLoose_96 rfl (Nat.le_of_ble_eq_true rfl) (fun _ => rfl) (fun v3_96 => ?_)
              refine v_sub (ls' := [(0, xA a0), (1, xI v1), (2, xI v2), (3, xI v3_96), (4, xI v4_74), (5, xI v5), (7, xI v7), (8, xI v8_36)]) [1, 2, 3, 0, 4, 5, 7, 8] rfl ?_
              exact hj97 v3_96 M
        refine v_iceq d_Shape_isLoose_53 ?_ ?_
        · refine v_sub (ls' := [(0, xA a0), (1, xI v1), (2, xI v2), (3, xI v3), (4, xI v4), (5, xI v5), (6, xI v6), (7, xI v7), (8, xI v8_36)]) [1, 2, 3, 4, 5, 6, 7, 8, 0] rfl ?_
          exact hj74 v4 M
        · refine v_iloadn d_Shape_isLoose_56 rfl 4 rfl ?_
          refine v_iload d_Shape_isLoose_57 7 rfl ?_
          refine v_ishr d_Shape_isLoose_59 ?_
          refine v_iconst d_Shape_isLoose_60 (by decide) ?_
          refine v_iand d_Shape_isLoose_61 ?_
          refine v_ifeq d_Shape_isLoose_62 ?_ ?_
          · refine v_sub (ls' := [(0, xA a0), (1, xI v1), (2, xI v2), (3, xI v3), (4, xI v4), (5, xI v5), (6, xI v6), (7, xI v7), (8, xI v8_36)]) [1, 2, 3, 4, 5, 6, 7, 8, 0] rfl ?_
            exact hj74 v4 M
          · refine v_iload d_Shape_isLoose_65 5 rfl ?_
            refine v_iconst d_Shape_isLoose_67 (by decide) ?_
            refine v_iload d_Shape_isLoose_68 0 rfl ?_
            refine v_ishl d_Shape_isLoose_70 ?_
            refine v_ior d_Shape_isLoose_71 ?_
            refine v_istore (lz := fun z => [(4, xI z), (8, xI v8_36), (0, xA a0), (1, xI v1), (2, xI v2), (3, xI v3), (5, xI v5), (6, xI v6), (7, xI v7)]) d_Shape_isLoose_72 (Nat.le_of_ble_eq_true rfl) (fun _ => rfl) (fun v4_72 => ?_)
            refine v_sub (ls' := [(0, xA a0), (1, xI v1), (2, xI v2), (3, xI v3), (4, xI v4_72), (5, xI v5), (6, xI v6), (7, xI v7), (8, xI v8_36)]) [2, 3, 4, 5, 0, 6, 7, 8, 1] rfl ?_
            exact hj74 v4_72 M
      · refine v_goto d_Shape_isLoose_47 ?_
        refine v_sub (ls' := [(0, xA a0), (1, xI v1), (2, xI v2), (3, xI v3), (4, xI v4), (5, xI v5), (6, xI v6), (7, xI v7)]) [1, 2, 3, 4, 5, 6, 7, 8] rfl ?_
        exact hj101 v3 v4 v6 M
set_option maxHeartbeats 4000000 in
set_option maxRecDepth 100000 in
theorem V_lp_Shape_isLoose_8 {l : Launch} {w : vm_W} (hfl : l.stackTraces = false) (kx113 : Int → mm_T → Option (Int × mm_T)) (a0 : Nat) (v1 : Int) {v2 : Int} (hkx113 : ∀ (v4_e : Int) (M : mm_T), V_ l w q_Shape_isLoose 2 ex_Z 113 [(2, xI v2), (4, xI v4_e)] [] M (kx113 v4_e M)) : ∀ (f : Nat) (v3 : Int) (v4 : Int) (v5 : Int) (M : mm_T), V_ l w q_Shape_isLoose 2 ex_Z 8 [(0, xA a0), (1, xI v1), (2, xI v2), (3, xI v3), (4, xI v4), (5, xI v5)] [] M (lp_Shape_isLoose_8 kx113 a0 v1 f v3 v4 v5 M) := by
  intro f
  induction f with
  | zero => intros; exact V_.none
  | succ f ih =>
    intro v3 v4 v5 M
    unfold lp_Shape_isLoose_8
    refine v_iload d_Shape_isLoose_8 5 rfl ?_
    refine v_bipush d_Shape_isLoose_10 (by decide) ?_
    refine v_icge d_Shape_isLoose_12 ?_ ?_
    · refine v_sub (ls' := [(2, xI v2), (4, xI v4)]) [2, 4] rfl ?_
      exact hkx113 v4 M
    · refine v_iconst d_Shape_isLoose_15 (by decide) ?_
      refine v_istore (lz := fun z => [(6, xI z), (0, xA a0), (1, xI v1), (2, xI v2), (3, xI v3), (4, xI v4), (5, xI v5)]) d_Shape_isLoose_16 (Nat.le_of_ble_eq_true rfl) (fun _ => rfl) (fun v6_16 => ?_)
      refine v_iconst d_Shape_isLoose_18 (by decide) ?_
      refine v_istore (lz := fun z => [(7, xI z), (6, xI v6_16), (0, xA a0), (1, xI v1), (2, xI v2), (3, xI v3), (4, xI v4), (5, xI v5)]) d_Shape_isLoose_19 (Nat.le_of_ble_eq_true rfl) (fun _ => rfl) (fun v7_19 => ?_)
      refine v_sub (ls' := [(0, xA a0), (1, xI v1), (2, xI v2), (3, xI v3), (4, xI v4), (5, xI v5), (6, xI v6_16), (7, xI v7_19)]) [2, 3, 4, 5, 6, 7, 1, 0] rfl ?_
      refine V_lp_Shape_isLoose_21 hfl _ _ _ (fun v3_107 v4_107 M => ?_) _ _ _ _ _ _
      · refine v_iinc (lz := fun z => [(5, xI z), (0, xA a0), (1, xI v1), (2, xI v2), (3, xI v3_107), (4, xI v4_107)]) d_Shape_isLoose_107 5 rfl (Nat.le_of_ble_eq_true rfl) (fun _ => rfl) (fun v5_107 => ?_)
        refine v_goto d_Shape_isLoose_110 ?_
        refine v_sub (ls' := [(0, xA a0), (1, xI v1), (2, xI v2), (3, xI v3_107), (4, xI v4_107), (5, xI v5_107)]) [1, 2, 3, 4, 5, 0] rfl ?_
        exact ih v3_107 v4_107 v5_107 M
set_option maxHeartbeats 4000000 in
set_option maxRecDepth 100000 in
theorem c_Shape_isLoose (l : Launch) (hfl : l.stackTraces = false) (a0 : Nat) (v1 : Int) (v2 : Int) (M : mm_T) : vm_Con l yX6_isLoose (.code yX6_isLoose cX6_isLoose 9 (some .boolean)) 2 ex_Z [xA a0, xI v1, xI v2] M (k_Shape_isLoose a0 v1 v2 M) := by
  refine vm_con (y := q_Shape_isLoose) hfl (by decide +kernel) rfl (fun h => by cases h) (Nat.le_of_ble_eq_true rfl) rfl (fun _ _ _ => rfl) (fun r E h => by cases h) (fun w => ?_)
  show V_ l w q_Shape_isLoose 2 ex_Z 0 [(0, xA a0), (1, xI v1), (2, xI v2)] [] M (k_Shape_isLoose a0 v1 v2 M)
  unfold k_Shape_isLoose
  refine v_iloadn d_Shape_isLoose_0 rfl 2 rfl ?_
  refine v_istoren (lz := fun z => [(3, xI z), (0, xA a0), (1, xI v1), (2, xI v2)]) d_Shape_isLoose_1 rfl (Nat.le_of_ble_eq_true rfl) (fun _ => rfl) (fun v3_1 => ?_)
  refine v_iconst d_Shape_isLoose_2 (by decide) ?_
  refine v_istore (lz := fun z => [(4, xI z), (3, xI v3_1), (0, xA a0), (1, xI v1), (2, xI v2)]) d_Shape_isLoose_3 (Nat.le_of_ble_eq_true rfl) (fun _ => rfl) (fun v4_3 => ?_)
  refine v_iconst d_Shape_isLoose_5 (by decide) ?_
  refine v_istore (lz := fun z => [(5, xI z), (4, xI v4_3), (3, xI v3_1), (0, xA a0), (1, xI v1), (2, xI v2)]) d_Shape_isLoose_6 (Nat.le_of_ble_eq_true rfl) (fun _ => rfl) (fun v5_6 => ?_)
  refine v_sub (ls' := [(0, xA a0), (1, xI v1), (2, xI v2), (3, xI v3_1), (4, xI v4_3), (5, xI v5_6)]) [3, 4, 5, 2, 1, 0] rfl ?_
  refine V_lp_Shape_isLoose_8 hfl _ _ _ (fun v4_113 M => ?_) _ _ _ _ _
  · refine v_iload d_Shape_isLoose_113 1 rfl ?_
    refine v_iloadn d_Shape_isLoose_115 rfl 0 rfl ?_
    refine v_iand d_Shape_isLoose_116 ?_
    refine v_ifne d_Shape_isLoose_117 ?_ ?_
    · refine v_iconst d_Shape_isLoose_124 (by decide) ?_
      exact v_zret d_Shape_isLoose_125 rfl
    · refine v_iconst d_Shape_isLoose_120 (by decide) ?_
      refine v_goto d_Shape_isLoose_121 ?_
      exact v_zret d_Shape_isLoose_125 rfl
set_option maxHeartbeats 4000000 in
set_option maxRecDepth 100000 in
theorem V_lp_Shape_losesSome_2 {l : Launch} {w : vm_W} (hfl : l.stackTraces = false) (kx44 : mm_T → Option (Int × mm_T)) (a0 : Nat) (v1 : Int) (v2 : Int) (hkx44 : ∀ (M : mm_T), V_ l w q_Shape_losesSome 3 ex_Z 44 [] [] M (kx44 M)) : ∀ (f : Nat) (v3 : Int) (M : mm_T), V_ l w q_Shape_losesSome 3 ex_Z 2 [(0, xA a0), (1, xI v1), (2, xI v2), (3, xI v3)] [] M (lp_Shape_losesSome_2 kx44 a0 v1 v2 f v3 M) := by
  intro f
  induction f with
  | zero => intros; exact V_.none
  | succ f ih =>
    intro v3 M
    unfold lp_Shape_losesSome_2
    refine v_iloadn d_Shape_losesSome_2 rfl 3 rfl ?_
    refine v_iloadn d_Shape_losesSome_3 rfl 1 rfl ?_
    refine v_icge d_Shape_losesSome_4 ?_ ?_
    · refine v_sub (ls' := []) [] rfl ?_
      exact hkx44 M
    · refine v_iloadn d_Shape_losesSome_7 rfl 3 rfl ?_
      refine v_iloadn d_Shape_losesSome_8 rfl 1 rfl ?_
      refine v_iconst d_Shape_losesSome_9 (by decide) ?_
      refine v_ixor d_Shape_losesSome_10 ?_
      refine v_iand d_Shape_losesSome_11 ?_
      refine v_join0 (pj := 38) (lj := [(0, xA a0), (1, xI v1), (2, xI v2), (3, xI v3)]) (sj := []) (fun M => ?_) (fun j38 hj38 => ?_)
      · refine v_iinc (lz := fun z => [(3, xI z), (0, xA a0), (1, xI v1), (2, xI v2)]) d_Shape_losesSome_38 3 rfl (Nat.le_of_ble_eq_true rfl) (fun _ => rfl) (fun v3_38 => ?_)
        refine v_goto d_Shape_losesSome_41 ?_
        refine v_sub (ls' := [(0, xA a0), (1, xI v1), (2, xI v2), (3, xI v3_38)]) [1, 2, 3, 0] rfl ?_
        exact ih v3_38 M
      refine v_ifne d_Shape_losesSome_12 ?_ ?_
      · exact hj38 M
      · refine v_iloadn d_Shape_losesSome_15 rfl 2 rfl ?_
        refine v_iloadn d_Shape_losesSome_16 rfl 1 rfl ?_
        refine v_iloadn d_Shape_losesSome_17 rfl 3 rfl ?_
        refine v_iconst d_Shape_losesSome_18 (by decide) ?_
        refine v_ixor d_Shape_losesSome_19 ?_
        refine v_iand d_Shape_losesSome_20 ?_
        refine v_ishr d_Shape_losesSome_21 ?_
        refine v_iconst d_Shape_losesSome_22 (by decide) ?_
        refine v_iand d_Shape_losesSome_23 ?_
        refine v_ifeq d_Shape_losesSome_24 ?_ ?_
        · exact hj38 M
        · refine v_aloadn d_Shape_losesSome_27 rfl 0 rfl ?_
          refine v_iloadn d_Shape_losesSome_28 rfl 1 rfl ?_
          refine v_iloadn d_Shape_losesSome_29 rfl 3 rfl ?_
          refine v_cVi d_Shape_losesSome_30 ml_Shape_57 (q := (RX6, TX6, 5)) rfl (c_Shape_isLoose l hfl a0 v1 v3 M) (fun _ => rfl) (by decide) (by decide) (as := [xI v1, xI v3]) (st1 := []) rfl rfl (Nat.le_of_ble_eq_true rfl) (fun c30 M => ?_)
          refine v_ifeq d_Shape_losesSome_33 ?_ ?_
          · exact hj38 M
          · refine v_iconst d_Shape_losesSome_36 (by decide) ?_
            exact v_zret d_Shape_losesSome_37 rfl
set_option maxHeartbeats 4000000 in
set_option maxRecDepth 100000 in
theorem c_Shape_losesSome (l : Launch) (hfl : l.stackTraces = false) (a0 : Nat) (v1 : Int) (v2 : Int) (M : mm_T) : vm_Con l yX6_losesSome (.code yX6_losesSome cX6_losesSome 4 (some .boolean)) 3 ex_Z [xA a0, xI v1, xI v2] M (k_Shape_losesSome a0 v1 v2 M) := by
  refine vm_con (y := q_Shape_losesSome) hfl (by decide +kernel) rfl (fun h => by cases h) (Nat.le_of_ble_eq_true rfl) rfl (fun _ _ _ => rfl) (fun r E h => by cases h) (fun w => ?_)
  show V_ l w q_Shape_losesSome 3 ex_Z 0 [(0, xA a0), (1, xI v1), (2, xI v2)] [] M (k_Shape_losesSome a0 v1 v2 M)
  unfold k_Shape_losesSome
  refine v_iconst d_Shape_losesSome_0 (by decide) ?_
  refine v_istoren (lz := fun z => [(3, xI z), (0, xA a0), (1, xI v1), (2, xI v2)]) d_Shape_losesSome_1 rfl (Nat.le_of_ble_eq_true rfl) (fun _ => rfl) (fun v3_1 => ?_)
  refine v_sub (ls' := [(0, xA a0), (1, xI v1), (2, xI v2), (3, xI v3_1)]) [1, 2, 3, 0] rfl ?_
  refine V_lp_Shape_losesSome_2 hfl _ _ _ _ (fun M => ?_) _ _ _
  · refine v_iconst d_Shape_losesSome_44 (by decide) ?_
    exact v_zret d_Shape_losesSome_45 rfl
set_option maxHeartbeats 4000000 in
set_option maxRecDepth 100000 in
theorem V_lp_Shape_sizeWithin_4 {l : Launch} {w : vm_W} (hfl : l.stackTraces = false) (kx30 : Int → mm_T → Option (Int × mm_T)) (a0 : Nat) (v1 : Int) (hkx30 : ∀ (v2_e : Int) (M : mm_T), V_ l w q_Shape_sizeWithin 2 ex_I 30 [(2, xI v2_e)] [] M (kx30 v2_e M)) : ∀ (f : Nat) (v2 : Int) (v3 : Int) (M : mm_T), V_ l w q_Shape_sizeWithin 2 ex_I 4 [(0, xA a0), (1, xI v1), (2, xI v2), (3, xI v3)] [] M (lp_Shape_sizeWithin_4 kx30 a0 v1 f v2 v3 M) := by
  intro f
  induction f with
  | zero => intros; exact V_.none
  | succ f ih =>
    intro v2 v3 M
    unfold lp_Shape_sizeWithin_4
    refine v_iloadn d_Shape_sizeWithin_4 rfl 3 rfl ?_
    refine v_aloadn d_Shape_sizeWithin_5 rfl 0 rfl ?_
    refine v_gI d_Shape_sizeWithin_6 fl_Shape_22 rfl (fun x6 => ?_)
    refine v_icge d_Shape_sizeWithin_9 ?_ ?_
    · refine v_sub (ls' := [(2, xI v2)]) [2] rfl ?_
      exact hkx30 v2 M
    · refine v_iloadn d_Shape_sizeWithin_12 rfl 2 rfl ?_
      refine v_iloadn d_Shape_sizeWithin_13 rfl 1 rfl ?_
      refine v_aloadn d_Shape_sizeWithin_14 rfl 0 rfl ?_
      refine v_iloadn d_Shape_sizeWithin_15 rfl 3 rfl ?_
      refine v_cVi d_Shape_sizeWithin_16 ml_Shape_43 (q := (RX6, TX6, 5)) rfl (c_Shape_at l hfl a0 v3 M) (fun _ => rfl) (by decide) (by decide) (as := [xI v3]) (st1 := [xI v1, xI v2]) rfl rfl (Nat.le_of_ble_eq_true rfl) (fun c16 M => ?_)
      refine v_ishr d_Shape_sizeWithin_19 ?_
      refine v_iconst d_Shape_sizeWithin_20 (by decide) ?_
      refine v_iand d_Shape_sizeWithin_21 ?_
      refine v_iadd d_Shape_sizeWithin_22 (fun x22 => ?_)
      refine v_istoren (lz := fun z => [(2, xI z), (0, xA a0), (1, xI v1), (3, xI v3)]) d_Shape_sizeWithin_23 rfl (Nat.le_of_ble_eq_true rfl) (fun _ => rfl) (fun v2_23 => ?_)
      refine v_iinc (lz := fun z => [(3, xI z), (2, xI v2_23), (0, xA a0), (1, xI v1)]) d_Shape_sizeWithin_24 3 rfl (Nat.le_of_ble_eq_true rfl) (fun _ => rfl) (fun v3_24 => ?_)
      refine v_goto d_Shape_sizeWithin_27 ?_
      refine v_sub (ls' := [(0, xA a0), (1, xI v1), (2, xI v2_23), (3, xI v3_24)]) [2, 3, 1, 0] rfl ?_
      exact ih v2_23 v3_24 M
set_option maxHeartbeats 4000000 in
set_option maxRecDepth 100000 in
theorem c_Shape_sizeWithin (l : Launch) (hfl : l.stackTraces = false) (a0 : Nat) (v1 : Int) (M : mm_T) : vm_Con l yX6_sizeWithin (.code yX6_sizeWithin cX6_sizeWithin 4 (some .int)) 2 ex_I [xA a0, xI v1] M (k_Shape_sizeWithin a0 v1 M) := by
  refine vm_con (y := q_Shape_sizeWithin) hfl (by decide +kernel) rfl (fun h => by cases h) (Nat.le_of_ble_eq_true rfl) rfl (fun _ _ _ => rfl) (fun r E h => by cases h) (fun w => ?_)
  show V_ l w q_Shape_sizeWithin 2 ex_I 0 [(0, xA a0), (1, xI v1)] [] M (k_Shape_sizeWithin a0 v1 M)
  unfold k_Shape_sizeWithin
  refine v_iconst d_Shape_sizeWithin_0 (by decide) ?_
  refine v_istoren (lz := fun z => [(2, xI z), (0, xA a0), (1, xI v1)]) d_Shape_sizeWithin_1 rfl (Nat.le_of_ble_eq_true rfl) (fun _ => rfl) (fun v2_1 => ?_)
  refine v_iconst d_Shape_sizeWithin_2 (by decide) ?_
  refine v_istoren (lz := fun z => [(3, xI z), (2, xI v2_1), (0, xA a0), (1, xI v1)]) d_Shape_sizeWithin_3 rfl (Nat.le_of_ble_eq_true rfl) (fun _ => rfl) (fun v3_3 => ?_)
  refine v_sub (ls' := [(0, xA a0), (1, xI v1), (2, xI v2_1), (3, xI v3_3)]) [2, 3, 1, 0] rfl ?_
  refine V_lp_Shape_sizeWithin_4 hfl _ _ _ (fun v2_30 M => ?_) _ _ _ _
  · refine v_iloadn d_Shape_sizeWithin_30 rfl 0 rfl ?_
    exact v_ret d_Shape_sizeWithin_31 rfl
set_option maxHeartbeats 4000000 in
set_option maxRecDepth 100000 in
theorem V_lp_Shape_variables_4 {l : Launch} {w : vm_W} (hfl : l.stackTraces = false) (kx28 : Int → mm_T → Option (Int × mm_T)) (a0 : Nat) (hkx28 : ∀ (v1_e : Int) (M : mm_T), V_ l w q_Shape_variables 2 ex_I 28 [(1, xI v1_e)] [] M (kx28 v1_e M)) : ∀ (f : Nat) (v1 : Int) (v2 : Int) (M : mm_T), V_ l w q_Shape_variables 2 ex_I 4 [(0, xA a0), (1, xI v1), (2, xI v2)] [] M (lp_Shape_variables_4 kx28 a0 f v1 v2 M) := by
  intro f
  induction f with
  | zero => intros; exact V_.none
  | succ f ih =>
    intro v1 v2 M
    unfold lp_Shape_variables_4
    refine v_iloadn d_Shape_variables_4 rfl 2 rfl ?_
    refine v_aloadn d_Shape_variables_5 rfl 0 rfl ?_
    refine v_gI d_Shape_variables_6 fl_Shape_22 rfl (fun x6 => ?_)
    refine v_icge d_Shape_variables_9 ?_ ?_
    · refine v_sub (ls' := [(1, xI v1)]) [1] rfl ?_
      exact hkx28 v1 M
    · refine v_iloadn d_Shape_variables_12 rfl 1 rfl ?_
      refine v_iconst d_Shape_variables_13 (by decide) ?_
      refine v_aloadn d_Shape_variables_14 rfl 0 rfl ?_
      refine v_iloadn d_Shape_variables_15 rfl 2 rfl ?_
      refine v_cVi d_Shape_variables_16 ml_Shape_43 (q := (RX6, TX6, 5)) rfl (c_Shape_at l hfl a0 v2 M) (fun _ => rfl) (by decide) (by decide) (as := [xI v2]) (st1 := [xI 1, xI v1]) rfl rfl (Nat.le_of_ble_eq_true rfl) (fun c16 M => ?_)
      refine v_ishl d_Shape_variables_19 ?_
      refine v_ior d_Shape_variables_20 ?_
      refine v_istoren (lz := fun z => [(1, xI z), (0, xA a0), (2, xI v2)]) d_Shape_variables_21 rfl (Nat.le_of_ble_eq_true rfl) (fun _ => rfl) (fun v1_21 => ?_)
      refine v_iinc (lz := fun z => [(2, xI z), (1, xI v1_21), (0, xA a0)]) d_Shape_variables_22 2 rfl (Nat.le_of_ble_eq_true rfl) (fun _ => rfl) (fun v2_22 => ?_)
      refine v_goto d_Shape_variables_25 ?_
      refine v_sub (ls' := [(0, xA a0), (1, xI v1_21), (2, xI v2_22)]) [2, 1, 0] rfl ?_
      exact ih v1_21 v2_22 M
set_option maxHeartbeats 4000000 in
set_option maxRecDepth 100000 in
theorem c_Shape_variables (l : Launch) (hfl : l.stackTraces = false) (a0 : Nat) (M : mm_T) : vm_Con l yX6_variables (.code yX6_variables cX6_variables 3 (some .int)) 2 ex_I [xA a0] M (k_Shape_variables a0 M) := by
  refine vm_con (y := q_Shape_variables) hfl (by decide +kernel) rfl (fun h => by cases h) (Nat.le_of_ble_eq_true rfl) rfl (fun _ _ _ => rfl) (fun r E h => by cases h) (fun w => ?_)
  show V_ l w q_Shape_variables 2 ex_I 0 [(0, xA a0)] [] M (k_Shape_variables a0 M)
  unfold k_Shape_variables
  refine v_iconst d_Shape_variables_0 (by decide) ?_
  refine v_istoren (lz := fun z => [(1, xI z), (0, xA a0)]) d_Shape_variables_1 rfl (Nat.le_of_ble_eq_true rfl) (fun _ => rfl) (fun v1_1 => ?_)
  refine v_iconst d_Shape_variables_2 (by decide) ?_
  refine v_istoren (lz := fun z => [(2, xI z), (1, xI v1_1), (0, xA a0)]) d_Shape_variables_3 rfl (Nat.le_of_ble_eq_true rfl) (fun _ => rfl) (fun v2_3 => ?_)
  refine v_sub (ls' := [(0, xA a0), (1, xI v1_1), (2, xI v2_3)]) [2, 1, 0] rfl ?_
  refine V_lp_Shape_variables_4 hfl _ _ (fun v1_28 M => ?_) _ _ _ _
  · refine v_iloadn d_Shape_variables_28 rfl 0 rfl ?_
    exact v_ret d_Shape_variables_29 rfl
set_option maxHeartbeats 4000000 in
set_option maxRecDepth 100000 in
theorem V_lp_Shape_cannotBeAvoided_9 {l : Launch} {w : vm_W} (hfl : l.stackTraces = false) (kx52 : Int → mm_T → Option (Int × mm_T)) (a0 : Nat) (v1 : Int) (hkx52 : ∀ (v2_e : Int) (M : mm_T), V_ l w q_Shape_cannotBeAvoided 4 ex_Z 52 [(1, xI v1), (2, xI v2_e)] [] M (kx52 v2_e M)) : ∀ (f : Nat) (v2 : Int) (v3 : Int) (M : mm_T), V_ l w q_Shape_cannotBeAvoided 4 ex_Z 9 [(0, xA a0), (1, xI v1), (2, xI v2), (3, xI v3)] [] M (lp_Shape_cannotBeAvoided_9 kx52 a0 v1 f v2 v3 M) := by
  intro f
  induction f with
  | zero => intros; exact V_.none
  | succ f ih =>
    intro v2 v3 M
    unfold lp_Shape_cannotBeAvoided_9
    refine v_iloadn d_Shape_cannotBeAvoided_9 rfl 3 rfl ?_
    refine v_iloadn d_Shape_cannotBeAvoided_10 rfl 1 rfl ?_
    refine v_icgt d_Shape_cannotBeAvoided_11 ?_ ?_
    · refine v_sub (ls' := [(1, xI v1), (2, xI v2)]) [1, 2] rfl ?_
      exact hkx52 v2 M
    · refine v_iloadn d_Shape_cannotBeAvoided_14 rfl 3 rfl ?_
      refine v_iloadn d_Shape_cannotBeAvoided_15 rfl 1 rfl ?_
      refine v_iconst d_Shape_cannotBeAvoided_16 (by decide) ?_
      refine v_ixor d_Shape_cannotBeAvoided_17 ?_
      refine v_iand d_Shape_cannotBeAvoided_18 ?_
      refine v_join1 (pj := 46) (lj := fun v2_46 => [(0, xA a0), (1, xI v1), (2, xI v2_46), (3, xI v3)]) (sj := fun v2_46 => []) (fun v2_46 M => ?_) (fun j46 hj46 => ?_)
      · refine v_iinc (lz := fun z => [(3, xI z), (0, xA a0), (1, xI v1), (2, xI v2_46)]) d_Shape_cannotBeAvoided_46 3 rfl (Nat.le_of_ble_eq_true rfl) (fun _ => rfl) (fun v3_46 => ?_)
        refine v_goto d_Shape_cannotBeAvoided_49 ?_
        refine v_sub (ls' := [(0, xA a0), (1, xI v1), (2, xI v2_46), (3, xI v3_46)]) [1, 2, 3, 0] rfl ?_
        exact ih v2_46 v3_46 M
      refine v_ifne d_Shape_cannotBeAvoided_19 ?_ ?_
      · exact hj46 v2 M
      · refine v_aloadn d_Shape_cannotBeAvoided_22 rfl 0 rfl ?_
        refine v_iloadn d_Shape_cannotBeAvoided_23 rfl 3 rfl ?_
        refine v_cVi d_Shape_cannotBeAvoided_24 ml_Shape_50 (q := (RX6, TX6, 5)) rfl (c_Shape_sizeWithin l hfl a0 v3 M) (fun _ => rfl) (by decide) (by decide) (as := [xI v3]) (st1 := []) rfl rfl (Nat.le_of_ble_eq_true rfl) (fun c24 M => ?_)
        refine v_iconst d_Shape_cannotBeAvoided_27 (by decide) ?_
        refine v_join0 (pj := 40) (lj := [(0, xA a0), (1, xI v1), (2, xI v2), (3, xI v3)]) (sj := []) (fun M => ?_) (fun j40 hj40 => ?_)
        · refine v_iloadn d_Shape_cannotBeAvoided_40 rfl 2 rfl ?_
          refine v_iconst d_Shape_cannotBeAvoided_41 (by decide) ?_
          refine v_iloadn d_Shape_cannotBeAvoided_42 rfl 3 rfl ?_
          refine v_ishl d_Shape_cannotBeAvoided_43 ?_
          refine v_ior d_Shape_cannotBeAvoided_44 ?_
          refine v_istoren (lz := fun z => [(2, xI z), (0, xA a0), (1, xI v1), (3, xI v3)]) d_Shape_cannotBeAvoided_45 rfl (Nat.le_of_ble_eq_true rfl) (fun _ => rfl) (fun v2_45 => ?_)
          refine v_sub (ls' := [(0, xA a0), (1, xI v1), (2, xI v2_45), (3, xI v3)]) [1, 2, 0, 3] rfl ?_
          exact hj46 v2_45 M
        refine v_iceq d_Shape_cannotBeAvoided_28 ?_ ?_
        · exact hj40 M
        · refine v_aloadn d_Shape_cannotBeAvoided_31 rfl 0 rfl ?_
          refine v_iloadn d_Shape_cannotBeAvoided_32 rfl 3 rfl ?_
          refine v_iloadn d_Shape_cannotBeAvoided_33 rfl 2 rfl ?_
          refine v_cVi d_Shape_cannotBeAvoided_34 ml_Shape_53 (q := (RX6, TX6, 5)) rfl (c_Shape_losesSome l hfl a0 v3 v2 M) (fun _ => rfl) (by decide) (by decide) (as := [xI v3, xI v2]) (st1 := []) rfl rfl (Nat.le_of_ble_eq_true rfl) (fun c34 M => ?_)
          refine v_ifeq d_Shape_cannotBeAvoided_37 ?_ ?_
          · exact hj46 v2 M
          · exact hj40 M
set_option maxHeartbeats 4000000 in
set_option maxRecDepth 100000 in
theorem c_Shape_cannotBeAvoided (l : Launch) (hfl : l.stackTraces = false) (a0 : Nat) (M : mm_T) : vm_Con l yX6_cannotBeAvoided (.code yX6_cannotBeAvoided cX6_cannotBeAvoided 4 (some .boolean)) 4 ex_Z [xA a0] M (k_Shape_cannotBeAvoided a0 M) := by
  refine vm_con (y := q_Shape_cannotBeAvoided) hfl (by decide +kernel) rfl (fun h => by cases h) (Nat.le_of_ble_eq_true rfl) rfl (fun _ _ _ => rfl) (fun r E h => by cases h) (fun w => ?_)
  show V_ l w q_Shape_cannotBeAvoided 4 ex_Z 0 [(0, xA a0)] [] M (k_Shape_cannotBeAvoided a0 M)
  unfold k_Shape_cannotBeAvoided
  refine v_aloadn d_Shape_cannotBeAvoided_0 rfl 0 rfl ?_
  refine v_cVi d_Shape_cannotBeAvoided_1 ml_Shape_47 (q := (RX6, TX6, 5)) rfl (c_Shape_variables l hfl a0 M) (fun _ => rfl) (by decide) (by decide) (as := []) (st1 := []) rfl rfl (Nat.le_of_ble_eq_true rfl) (fun c1 M => ?_)
  refine v_istoren (lz := fun z => [(1, xI z), (0, xA a0)]) d_Shape_cannotBeAvoided_4 rfl (Nat.le_of_ble_eq_true rfl) (fun _ => rfl) (fun v1_4 => ?_)
  refine v_iconst d_Shape_cannotBeAvoided_5 (by decide) ?_
  refine v_istoren (lz := fun z => [(2, xI z), (1, xI v1_4), (0, xA a0)]) d_Shape_cannotBeAvoided_6 rfl (Nat.le_of_ble_eq_true rfl) (fun _ => rfl) (fun v2_6 => ?_)
  refine v_iconst d_Shape_cannotBeAvoided_7 (by decide) ?_
  refine v_istoren (lz := fun z => [(3, xI z), (2, xI v2_6), (1, xI v1_4), (0, xA a0)]) d_Shape_cannotBeAvoided_8 rfl (Nat.le_of_ble_eq_true rfl) (fun _ => rfl) (fun v3_8 => ?_)
  refine v_sub (ls' := [(0, xA a0), (1, xI v1_4), (2, xI v2_6), (3, xI v3_8)]) [3, 2, 1, 0] rfl ?_
  refine V_lp_Shape_cannotBeAvoided_9 hfl _ _ _ (fun v2_52 M => ?_) _ _ _ _
  · refine v_iloadn d_Shape_cannotBeAvoided_52 rfl 1 rfl ?_
    refine v_iloadn d_Shape_cannotBeAvoided_53 rfl 0 rfl ?_
    refine v_ishr d_Shape_cannotBeAvoided_54 ?_
    refine v_iconst d_Shape_cannotBeAvoided_55 (by decide) ?_
    refine v_iand d_Shape_cannotBeAvoided_56 ?_
    refine v_ifeq d_Shape_cannotBeAvoided_57 ?_ ?_
    · refine v_iconst d_Shape_cannotBeAvoided_64 (by decide) ?_
      exact v_zret d_Shape_cannotBeAvoided_65 rfl
    · refine v_iconst d_Shape_cannotBeAvoided_60 (by decide) ?_
      refine v_goto d_Shape_cannotBeAvoided_61 ?_
      exact v_zret d_Shape_cannotBeAvoided_65 rfl
set_option maxHeartbeats 4000000 in
set_option maxRecDepth 100000 in
theorem V_lp_Search_behind_5 {l : Launch} {w : vm_W} (hfl : l.stackTraces = false) (kx61 : Int → mm_T → Option (Int × mm_T)) (a1 : Nat) (a2 : Nat) (hkx61 : ∀ (v3_e : Int) (M : mm_T), V_ l w q_Search_behind 15 ex_I 61 [(3, xI v3_e)] [] M (kx61 v3_e M)) : ∀ (f : Nat) (v3 : Int) (v4 : Int) (M : mm_T), V_ l w q_Search_behind 15 ex_I 5 [(1, xA a1), (2, xA a2), (3, xI v3), (4, xI v4)] [] M (lp_Search_behind_5 kx61 a1 a2 f v3 v4 M) := by
  intro f
  induction f with
  | zero => intros; exact V_.none
  | succ f ih =>
    intro v3 v4 M
    unfold lp_Search_behind_5
    refine v_iload d_Search_behind_5 3 rfl ?_
    refine v_aloadn d_Search_behind_7 rfl 0 rfl ?_
    refine v_gI d_Search_behind_8 fl_Search_50 rfl (fun x8 => ?_)
    refine v_icge d_Search_behind_11 ?_ ?_
    · refine v_sub (ls' := [(3, xI v3)]) [2] rfl ?_
      exact hkx61 v3 M
    · refine v_aloadn d_Search_behind_14 rfl 1 rfl ?_
      refine v_gI d_Search_behind_15 fl_Search_42 rfl (fun x15 => ?_)
      refine v_bipush d_Search_behind_18 (by decide) ?_
      refine v_icge d_Search_behind_20 ?_ ?_
      · refine v_sub (ls' := [(3, xI v3)]) [2] rfl ?_
        exact hkx61 v3 M
      · refine v_aloadn d_Search_behind_23 rfl 1 rfl ?_
        refine v_iload d_Search_behind_24 3 rfl ?_
        refine v_cVv d_Search_behind_26 ml_Search_55 (q := (RX1, TX1, 5)) rfl (c_Line_add l hfl a2 v4 M) (fun _ => rfl) (by decide) (by decide) (as := [xI v4]) (st1 := []) rfl rfl (Nat.le_of_ble_eq_true rfl) (fun _ M => ?_)
        refine v_aloadn d_Search_behind_29 rfl 1 rfl ?_
        refine v_aloadn d_Search_behind_30 rfl 0 rfl ?_
        refine v_aloadn d_Search_behind_31 rfl 1 rfl ?_
        refine v_gI d_Search_behind_32 fl_Search_42 rfl (fun x32 => ?_)
        refine v_iconst d_Search_behind_35 (by decide) ?_
        refine v_isub d_Search_behind_36 (fun x36 => ?_)
        refine v_cVi d_Search_behind_37 ml_Search_59 (q := (RX1, TX1, 5)) rfl (c_Line_isBadAt l hfl a2 a1 x36 M) (fun _ => rfl) (by decide) (by decide) (as := [xA a1, xI x36]) (st1 := []) rfl rfl (Nat.le_of_ble_eq_true rfl) (fun c37 M => ?_)
        refine v_join1 (pj := 50) (lj := fun v3_50 => [(1, xA a1), (2, xA a2), (3, xI v3_50), (4, xI v4)]) (sj := fun v3_50 => []) (fun v3_50 M => ?_) (fun j50 hj50 => ?_)
        · refine v_aloadn d_Search_behind_50 rfl 1 rfl ?_
          refine v_cVi d_Search_behind_51 ml_Search_45 (q := (RX1, TX1, 5)) rfl (c_Line_dropLast l hfl a2 M) (fun _ => rfl) (by decide) (by decide) (as := []) (st1 := []) rfl rfl (Nat.le_of_ble_eq_true rfl) (fun c51 M => ?_)
          refine v_pop d_Search_behind_54 rfl ?_
          refine v_iinc (lz := fun z => [(4, xI z), (1, xA a1), (2, xA a2), (3, xI v3_50)]) d_Search_behind_55 3 rfl (Nat.le_of_ble_eq_true rfl) (fun _ => rfl) (fun v4_55 => ?_)
          refine v_goto d_Search_behind_58 ?_
          refine v_sub (ls' := [(1, xA a1), (2, xA a2), (3, xI v3_50), (4, xI v4_55)]) [1, 2, 3, 0] rfl ?_
          exact ih v3_50 v4_55 M
        refine v_ifne d_Search_behind_40 ?_ ?_
        · exact hj50 v3 M
        · refine v_iloadn d_Search_behind_43 rfl 2 rfl ?_
          refine v_iconst d_Search_behind_44 (by decide) ?_
          refine v_iload d_Search_behind_45 3 rfl ?_
          refine v_ishl d_Search_behind_47 ?_
          refine v_ior d_Search_behind_48 ?_
          refine v_istoren (lz := fun z => [(3, xI z), (1, xA a1), (2, xA a2), (4, xI v4)]) d_Search_behind_49 rfl (Nat.le_of_ble_eq_true rfl) (fun _ => rfl) (fun v3_49 => ?_)
          refine v_sub (ls' := [(1, xA a1), (2, xA a2), (3, xI v3_49), (4, xI v4)]) [1, 2, 0, 3] rfl ?_
          exact hj50 v3_49 M
set_option maxHeartbeats 4000000 in
set_option maxRecDepth 100000 in
theorem c_Search_behind (l : Launch) (hfl : l.stackTraces = false) (a0 : Nat) (a1 : Nat) (a2 : Nat) (M : mm_T) : vm_Con l yX5_behind (.code yX5_behind cX5_behind 5 (some .int)) 15 ex_I [xA a0, xA a1, xA a2] M (k_Search_behind a0 a1 a2 M) := by
  refine vm_con (y := q_Search_behind) hfl (by decide +kernel) rfl (fun h => by cases h) (Nat.le_of_ble_eq_true rfl) rfl (fun _ _ _ => rfl) (fun r E h => by cases h) (fun w => ?_)
  show V_ l w q_Search_behind 15 ex_I 0 [(0, xA a0), (1, xA a1), (2, xA a2)] [] M (k_Search_behind a0 a1 a2 M)
  unfold k_Search_behind
  refine v_iconst d_Search_behind_0 (by decide) ?_
  refine v_istoren (lz := fun z => [(3, xI z), (0, xA a0), (1, xA a1), (2, xA a2)]) d_Search_behind_1 rfl (Nat.le_of_ble_eq_true rfl) (fun _ => rfl) (fun v3_1 => ?_)
  refine v_iconst d_Search_behind_2 (by decide) ?_
  refine v_istore (lz := fun z => [(4, xI z), (3, xI v3_1), (0, xA a0), (1, xA a1), (2, xA a2)]) d_Search_behind_3 (Nat.le_of_ble_eq_true rfl) (fun _ => rfl) (fun v4_3 => ?_)
  refine v_sub (ls' := [(1, xA a1), (2, xA a2), (3, xI v3_1), (4, xI v4_3)]) [3, 4, 1, 0] rfl ?_
  refine V_lp_Search_behind_5 hfl _ _ _ (fun v3_61 M => ?_) _ _ _ _
  · refine v_iloadn d_Search_behind_61 rfl 0 rfl ?_
    exact v_ret d_Search_behind_62 rfl
set_option maxHeartbeats 4000000 in
set_option maxRecDepth 100000 in
theorem c_Search_begin (l : Launch) (hfl : l.stackTraces = false) (a0 : Nat) (a1 : Nat) (v2 : Int) (v3 : Int) (v4 : Int) (M : mm_T) : vm_Con l yX5_begin (.code yX5_begin cX5_begin 5 none) 3 ex_V [xA a0, xA a1, xI v2, xI v3, xI v4] M (k_Search_begin a0 a1 v2 v3 v4 M) := by
  refine vm_con (y := q_Search_begin) hfl (by decide +kernel) rfl (fun h => by cases h) (Nat.le_of_ble_eq_true rfl) rfl (fun _ _ _ => rfl) (fun r E h => by cases h) (fun w => ?_)
  show V_ l w q_Search_begin 3 ex_V 0 [(0, xA a0), (1, xA a1), (2, xI v2), (3, xI v3), (4, xI v4)] [] M (k_Search_begin a0 a1 v2 v3 v4 M)
  unfold k_Search_begin
  refine v_aloadn d_Search_begin_0 rfl 0 rfl ?_
  refine v_gR d_Search_begin_1 fl_Search_12 rfl (fun r1 => ?_)
  refine v_aloadn d_Search_begin_4 rfl 1 rfl ?_
  refine v_iloadn d_Search_begin_5 rfl 2 rfl ?_
  refine v_cVv d_Search_begin_6 ml_Search_38 (q := (RX1, TX1, 5)) rfl (c_Line_copy l hfl r1 a1 v2 M) (fun _ => rfl) (by decide) (by decide) (as := [xA a1, xI v2]) (st1 := []) rfl rfl (Nat.le_of_ble_eq_true rfl) (fun _ M => ?_)
  refine v_aloadn d_Search_begin_9 rfl 0 rfl ?_
  refine v_iloadn d_Search_begin_10 rfl 3 rfl ?_
  refine v_pI d_Search_begin_11 fl_Search_22 (Or.inl rfl) rfl rfl (fun M => ?_)
  refine v_aloadn d_Search_begin_14 rfl 0 rfl ?_
  refine v_iload d_Search_begin_15 4 rfl ?_
  refine v_pI d_Search_begin_17 fl_Search_26 (Or.inl rfl) rfl rfl (fun M => ?_)
  refine v_aloadn d_Search_begin_20 rfl 0 rfl ?_
  refine v_iconst d_Search_begin_21 (by decide) ?_
  refine v_pI d_Search_begin_22 fl_Search_29 (Or.inl rfl) rfl rfl (fun M => ?_)
  refine v_aloadn d_Search_begin_25 rfl 0 rfl ?_
  refine v_iloadn d_Search_begin_26 rfl 2 rfl ?_
  refine v_pI d_Search_begin_27 fl_Search_35 (Or.inl rfl) rfl rfl (fun M => ?_)
  exact v_vret d_Search_begin_30 rfl
set_option maxHeartbeats 4000000 in
set_option maxRecDepth 100000 in
theorem V_lp_Search_seek_52 {l : Launch} {w : vm_W} (hfl : l.stackTraces = false) (kx222 : mm_T → Option (Int × mm_T)) (a0 : Nat) (hkx222 : ∀ (M : mm_T), V_ l w q_Search_seek 15 ex_I 222 [] [] M (kx222 M)) : ∀ (f : Nat) (v1 : Int) (M : mm_T), V_ l w q_Search_seek 15 ex_I 52 [(0, xA a0), (1, xI v1)] [] M (lp_Search_seek_52 kx222 a0 f v1 M) := by
  intro f
  induction f with
  | zero => intros; exact V_.none
  | succ f ih =>
    intro v1 M
    unfold lp_Search_seek_52
    refine v_iloadn d_Search_seek_52 rfl 1 rfl ?_
    refine v_ldc (n := 1000000) d_Search_seek_53 rfl (by decide) gw_623 ?_
    refine v_icge d_Search_seek_55 ?_ ?_
    · refine v_sub (ls' := []) [] rfl ?_
      exact hkx222 M
    · refine v_aloadn d_Search_seek_58 rfl 0 rfl ?_
      refine v_gI d_Search_seek_59 fl_Search_29 rfl (fun x59 => ?_)
      refine v_aloadn d_Search_seek_62 rfl 0 rfl ?_
      refine v_gR d_Search_seek_63 fl_Search_18 rfl (fun r63 => ?_)
      refine v_gI d_Search_seek_66 fl_Search_50 rfl (fun x66 => ?_)
      refine v_join0 (pj := 216) (lj := [(0, xA a0), (1, xI v1)]) (sj := []) (fun M => ?_) (fun j216 hj216 => ?_)
      · refine v_iinc (lz := fun z => [(1, xI z), (0, xA a0)]) d_Search_seek_216 1 rfl (Nat.le_of_ble_eq_true rfl) (fun _ => rfl) (fun v1_216 => ?_)
        refine v_goto d_Search_seek_219 ?_
        refine v_sub (ls' := [(0, xA a0), (1, xI v1_216)]) [1, 0] rfl ?_
        exact ih v1_216 M
      refine v_iclt d_Search_seek_69 ?_ ?_
      · refine v_aloadn d_Search_seek_104 rfl 0 rfl ?_
        refine v_gI d_Search_seek_105 fl_Search_32 rfl (fun x105 => ?_)
        refine v_sipush d_Search_seek_108 (by decide) ?_
        refine v_iclt d_Search_seek_111 ?_ ?_
        · refine v_aloadn d_Search_seek_117 rfl 0 rfl ?_
          refine v_dup d_Search_seek_118 rfl ?_
          refine v_gI d_Search_seek_119 fl_Search_32 rfl (fun x119 => ?_)
          refine v_iconst d_Search_seek_122 (by decide) ?_
          refine v_iadd d_Search_seek_123 (fun x123 => ?_)
          refine v_pI d_Search_seek_124 fl_Search_32 (Or.inl rfl) rfl rfl (fun M => ?_)
          refine v_aloadn d_Search_seek_127 rfl 0 rfl ?_
          refine v_gR d_Search_seek_128 fl_Search_12 rfl (fun r128 => ?_)
          refine v_aloadn d_Search_seek_131 rfl 0 rfl ?_
          refine v_gI d_Search_seek_132 fl_Search_29 rfl (fun x132 => ?_)
          refine v_cVv d_Search_seek_135 ml_Search_55 (q := (RX1, TX1, 5)) rfl (c_Line_add l hfl r128 x132 M) (fun _ => rfl) (by decide) (by decide) (as := [xI x132]) (st1 := []) rfl rfl (Nat.le_of_ble_eq_true rfl) (fun _ M => ?_)
          refine v_aloadn d_Search_seek_138 rfl 0 rfl ?_
          refine v_gR d_Search_seek_139 fl_Search_12 rfl (fun r139 => ?_)
          refine v_aloadn d_Search_seek_142 rfl 0 rfl ?_
          refine v_gR d_Search_seek_143 fl_Search_18 rfl (fun r143 => ?_)
          refine v_aloadn d_Search_seek_146 rfl 0 rfl ?_
          refine v_gR d_Search_seek_147 fl_Search_12 rfl (fun r147 => ?_)
          refine v_gI d_Search_seek_150 fl_Search_42 rfl (fun x150 => ?_)
          refine v_iconst d_Search_seek_153 (by decide) ?_
          refine v_isub d_Search_seek_154 (fun x154 => ?_)
          refine v_cVi d_Search_seek_155 ml_Search_59 (q := (RX1, TX1, 5)) rfl (c_Line_isBadAt l hfl r139 r143 x154 M) (fun _ => rfl) (by decide) (by decide) (as := [xA r143, xI x154]) (st1 := []) rfl rfl (Nat.le_of_ble_eq_true rfl) (fun c155 M => ?_)
          refine v_ifeq d_Search_seek_158 ?_ ?_
          · refine v_aloadn d_Search_seek_177 rfl 0 rfl ?_
            refine v_iconst d_Search_seek_178 (by decide) ?_
            refine v_pI d_Search_seek_179 fl_Search_29 (Or.inl rfl) rfl rfl (fun M => ?_)
            refine v_aloadn d_Search_seek_182 rfl 0 rfl ?_
            refine v_aloadn d_Search_seek_183 rfl 0 rfl ?_
            refine v_gI d_Search_seek_184 fl_Search_35 rfl (fun x184 => ?_)
            refine v_aloadn d_Search_seek_187 rfl 0 rfl ?_
            refine v_gR d_Search_seek_188 fl_Search_12 rfl (fun r188 => ?_)
            refine v_gI d_Search_seek_191 fl_Search_42 rfl (fun x191 => ?_)
            refine v_mmax d_Search_seek_194 gw_624 gw_466 gw_131 gw_467 (by first | decide | omega) (Nat.le_of_ble_eq_true rfl) ?_
            refine v_pI d_Search_seek_197 fl_Search_35 (Or.inl rfl) rfl rfl (fun M => ?_)
            refine v_aloadn d_Search_seek_200 rfl 0 rfl ?_
            refine v_gR d_Search_seek_201 fl_Search_12 rfl (fun r201 => ?_)
            refine v_gI d_Search_seek_204 fl_Search_42 rfl (fun x204 => ?_)
            refine v_aloadn d_Search_seek_207 rfl 0 rfl ?_
            refine v_gI d_Search_seek_208 fl_Search_26 rfl (fun x208 => ?_)
            refine v_iclt d_Search_seek_211 ?_ ?_
            · exact hj216 M
            · refine v_iconst d_Search_seek_214 (by decide) ?_
              exact v_ret d_Search_seek_215 rfl
          · refine v_aloadn d_Search_seek_161 rfl 0 rfl ?_
            refine v_aloadn d_Search_seek_162 rfl 0 rfl ?_
            refine v_gR d_Search_seek_163 fl_Search_12 rfl (fun r163 => ?_)
            refine v_cVi d_Search_seek_166 ml_Search_45 (q := (RX1, TX1, 5)) rfl (c_Line_dropLast l hfl r163 M) (fun _ => rfl) (by decide) (by decide) (as := []) (st1 := [xA a0]) rfl rfl (Nat.le_of_ble_eq_true rfl) (fun c166 M => ?_)
            refine v_iconst d_Search_seek_169 (by decide) ?_
            refine v_iadd d_Search_seek_170 (fun x170 => ?_)
            refine v_pI d_Search_seek_171 fl_Search_29 (Or.inl rfl) rfl rfl (fun M => ?_)
            refine v_goto d_Search_seek_174 ?_
            exact hj216 M
        · refine v_bipush d_Search_seek_114 (by decide) ?_
          exact v_ret d_Search_seek_116 rfl
      · refine v_aloadn d_Search_seek_72 rfl 0 rfl ?_
        refine v_gR d_Search_seek_73 fl_Search_12 rfl (fun r73 => ?_)
        refine v_gI d_Search_seek_76 fl_Search_42 rfl (fun x76 => ?_)
        refine v_aloadn d_Search_seek_79 rfl 0 rfl ?_
        refine v_gI d_Search_seek_80 fl_Search_22 rfl (fun x80 => ?_)
        refine v_icgt d_Search_seek_83 ?_ ?_
        · refine v_aloadn d_Search_seek_88 rfl 0 rfl ?_
          refine v_aloadn d_Search_seek_89 rfl 0 rfl ?_
          refine v_gR d_Search_seek_90 fl_Search_12 rfl (fun r90 => ?_)
          refine v_cVi d_Search_seek_93 ml_Search_45 (q := (RX1, TX1, 5)) rfl (c_Line_dropLast l hfl r90 M) (fun _ => rfl) (by decide) (by decide) (as := []) (st1 := [xA a0]) rfl rfl (Nat.le_of_ble_eq_true rfl) (fun c93 M => ?_)
          refine v_iconst d_Search_seek_96 (by decide) ?_
          refine v_iadd d_Search_seek_97 (fun x97 => ?_)
          refine v_pI d_Search_seek_98 fl_Search_29 (Or.inl rfl) rfl rfl (fun M => ?_)
          refine v_goto d_Search_seek_101 ?_
          exact hj216 M
        · refine v_iconst d_Search_seek_86 (by decide) ?_
          exact v_ret d_Search_seek_87 rfl
set_option maxHeartbeats 4000000 in
set_option maxRecDepth 100000 in
theorem c_Search_seek (l : Launch) (hfl : l.stackTraces = false) (a0 : Nat) (M : mm_T) : vm_Con l yX5_seek (.code yX5_seek cX5_seek 2 (some .int)) 15 ex_I [xA a0] M (k_Search_seek a0 M) := by
  refine vm_con (y := q_Search_seek) hfl (by decide +kernel) rfl (fun h => by cases h) (Nat.le_of_ble_eq_true rfl) rfl (fun _ _ _ => rfl) (fun r E h => by cases h) (fun w => ?_)
  show V_ l w q_Search_seek 15 ex_I 0 [(0, xA a0)] [] M (k_Search_seek a0 M)
  unfold k_Search_seek
  refine v_aloadn d_Search_seek_0 rfl 0 rfl ?_
  refine v_gR d_Search_seek_1 fl_Search_18 rfl (fun r1 => ?_)
  refine v_ifnonnull d_Search_seek_4 ?_ ?_
  · refine v_aloadn d_Search_seek_9 rfl 0 rfl ?_
    refine v_gR d_Search_seek_10 fl_Search_12 rfl (fun r10 => ?_)
    refine v_gI d_Search_seek_13 fl_Search_42 rfl (fun x13 => ?_)
    refine v_aloadn d_Search_seek_16 rfl 0 rfl ?_
    refine v_gI d_Search_seek_17 fl_Search_26 rfl (fun x17 => ?_)
    refine v_join0 (pj := 50) (lj := [(0, xA a0)]) (sj := []) (fun M => ?_) (fun j50 hj50 => ?_)
    · refine v_iconst d_Search_seek_50 (by decide) ?_
      refine v_istoren (lz := fun z => [(1, xI z), (0, xA a0)]) d_Search_seek_51 rfl (Nat.le_of_ble_eq_true rfl) (fun _ => rfl) (fun v1_51 => ?_)
      refine v_sub (ls' := [(0, xA a0), (1, xI v1_51)]) [1, 0] rfl ?_
      refine V_lp_Search_seek_52 hfl _ _ (fun M => ?_) _ _ _
      · refine v_bipush d_Search_seek_222 (by decide) ?_
        exact v_ret d_Search_seek_224 rfl
    refine v_iclt d_Search_seek_20 ?_ ?_
    · exact hj50 M
    · refine v_aloadn d_Search_seek_23 rfl 0 rfl ?_
      refine v_gR d_Search_seek_24 fl_Search_12 rfl (fun r24 => ?_)
      refine v_gI d_Search_seek_27 fl_Search_42 rfl (fun x27 => ?_)
      refine v_aloadn d_Search_seek_30 rfl 0 rfl ?_
      refine v_gI d_Search_seek_31 fl_Search_22 rfl (fun x31 => ?_)
      refine v_icle d_Search_seek_34 ?_ ?_
      · exact hj50 M
      · refine v_aloadn d_Search_seek_37 rfl 0 rfl ?_
        refine v_aloadn d_Search_seek_38 rfl 0 rfl ?_
        refine v_gR d_Search_seek_39 fl_Search_12 rfl (fun r39 => ?_)
        refine v_cVi d_Search_seek_42 ml_Search_45 (q := (RX1, TX1, 5)) rfl (c_Line_dropLast l hfl r39 M) (fun _ => rfl) (by decide) (by decide) (as := []) (st1 := [xA a0]) rfl rfl (Nat.le_of_ble_eq_true rfl) (fun c42 M => ?_)
        refine v_iconst d_Search_seek_45 (by decide) ?_
        refine v_iadd d_Search_seek_46 (fun x46 => ?_)
        refine v_pI d_Search_seek_47 fl_Search_29 (Or.inl rfl) rfl rfl (fun M => ?_)
        exact hj50 M
  · refine v_iconst d_Search_seek_7 (by decide) ?_
    exact v_ret d_Search_seek_8 rfl
set_option maxHeartbeats 4000000 in
set_option maxRecDepth 100000 in
theorem c_Search_deepestBehind (l : Launch) (hfl : l.stackTraces = false) (a0 : Nat) (M : mm_T) : vm_Con l yX5_deepestBehind (.code yX5_deepestBehind cX5_deepestBehind 2 (some .int)) 16 ex_I [xA a0] M (k_Search_deepestBehind a0 M) := by
  refine vm_con (y := q_Search_deepestBehind) hfl (by decide +kernel) rfl (fun h => by cases h) (Nat.le_of_ble_eq_true rfl) rfl (fun _ _ _ => rfl) (fun r E h => by cases h) (fun w => ?_)
  show V_ l w q_Search_deepestBehind 16 ex_I 0 [(0, xA a0)] [] M (k_Search_deepestBehind a0 M)
  unfold k_Search_deepestBehind
  refine v_aloadn d_Search_deepestBehind_0 rfl 0 rfl ?_
  refine v_cVi d_Search_deepestBehind_1 ml_Search_69 (q := (RX5, TX5, 7)) rfl (c_Search_seek l hfl a0 M) (fun _ => rfl) (by decide) (by decide) (as := []) (st1 := []) rfl rfl (Nat.le_of_ble_eq_true rfl) (fun c1 M => ?_)
  refine v_istoren (lz := fun z => [(1, xI z), (0, xA a0)]) d_Search_deepestBehind_4 rfl (Nat.le_of_ble_eq_true rfl) (fun _ => rfl) (fun v1_4 => ?_)
  refine v_iloadn d_Search_deepestBehind_5 rfl 0 rfl ?_
  refine v_bipush d_Search_deepestBehind_6 (by decide) ?_
  refine v_icne d_Search_deepestBehind_8 ?_ ?_
  · refine v_aloadn d_Search_deepestBehind_16 rfl 1 rfl ?_
    refine v_gI d_Search_deepestBehind_17 fl_Search_35 rfl (fun x17 => ?_)
    refine v_aloadn d_Search_deepestBehind_20 rfl 1 rfl ?_
    refine v_gI d_Search_deepestBehind_21 fl_Search_22 rfl (fun x21 => ?_)
    refine v_isub d_Search_deepestBehind_24 (fun x24 => ?_)
    exact v_ret d_Search_deepestBehind_25 rfl
  · refine v_bipush d_Search_deepestBehind_11 (by decide) ?_
    refine v_goto d_Search_deepestBehind_13 ?_
    exact v_ret d_Search_deepestBehind_25 rfl
set_option maxHeartbeats 4000000 in
set_option maxRecDepth 100000 in
theorem c_Search_reset (l : Launch) (hfl : l.stackTraces = false) (a0 : Nat) (a1 : Nat) (M : mm_T) : vm_Con l yX5_reset (.code yX5_reset cX5_reset 2 none) 1 ex_V [xA a0, xA a1] M (k_Search_reset a0 a1 M) := by
  refine vm_con (y := q_Search_reset) hfl (by decide +kernel) rfl (fun h => by cases h) (Nat.le_of_ble_eq_true rfl) rfl (fun _ _ _ => rfl) (fun r E h => by cases h) (fun w => ?_)
  show V_ l w q_Search_reset 1 ex_V 0 [(0, xA a0), (1, xA a1)] [] M (k_Search_reset a0 a1 M)
  unfold k_Search_reset
  refine v_aloadn d_Search_reset_0 rfl 0 rfl ?_
  refine v_aloadn d_Search_reset_1 rfl 1 rfl ?_
  refine v_pR (ty := .object "RepeatFree$Told") d_Search_reset_2 fl_Search_18 (Or.inl rfl) rfl rfl (fun v hv => by rcases hv with rfl | ⟨b, rfl⟩ <;> exact ⟨rfl, rfl⟩) (fun M => ?_)
  refine v_aloadn d_Search_reset_5 rfl 0 rfl ?_
  refine v_iconst d_Search_reset_6 (by decide) ?_
  refine v_pI d_Search_reset_7 fl_Search_32 (Or.inl rfl) rfl rfl (fun M => ?_)
  exact v_vret d_Search_reset_10 rfl
set_option maxHeartbeats 4000000 in
set_option maxRecDepth 100000 in
theorem V_lp_Line_firstUnlike_2 {l : Launch} {w : vm_W} (hfl : l.stackTraces = false) (kx31 : mm_T → Option (Int × mm_T)) (a0 : Nat) (a1 : Nat) (hkx31 : ∀ (M : mm_T), V_ l w q_Line_firstUnlike 2 ex_I 31 [] [] M (kx31 M)) : ∀ (f : Nat) (v2 : Int) (M : mm_T), V_ l w q_Line_firstUnlike 2 ex_I 2 [(0, xA a0), (1, xA a1), (2, xI v2)] [] M (lp_Line_firstUnlike_2 kx31 a0 a1 f v2 M) := by
  intro f
  induction f with
  | zero => intros; exact V_.none
  | succ f ih =>
    intro v2 M
    unfold lp_Line_firstUnlike_2
    refine v_iloadn d_Line_firstUnlike_2 rfl 2 rfl ?_
    refine v_aloadn d_Line_firstUnlike_3 rfl 0 rfl ?_
    refine v_gI d_Line_firstUnlike_4 fl_Line_30 rfl (fun x4 => ?_)
    refine v_icge d_Line_firstUnlike_7 ?_ ?_
    · refine v_sub (ls' := []) [] rfl ?_
      exact hkx31 M
    · refine v_aloadn d_Line_firstUnlike_10 rfl 0 rfl ?_
      refine v_iloadn d_Line_firstUnlike_11 rfl 2 rfl ?_
      refine v_cVi d_Line_firstUnlike_12 ml_Line_43 (q := (RX1, TX1, 5)) rfl (c_Line_at l hfl a0 v2 M) (fun _ => rfl) (by decide) (by decide) (as := [xI v2]) (st1 := []) rfl rfl (Nat.le_of_ble_eq_true rfl) (fun c12 M => ?_)
      refine v_aloadn d_Line_firstUnlike_15 rfl 1 rfl ?_
      refine v_iloadn d_Line_firstUnlike_16 rfl 2 rfl ?_
      refine v_cVi d_Line_firstUnlike_17 ml_Line_43 (q := (RX1, TX1, 5)) rfl (c_Line_at l hfl a1 v2 M) (fun _ => rfl) (by decide) (by decide) (as := [xI v2]) (st1 := [xI c12]) rfl rfl (Nat.le_of_ble_eq_true rfl) (fun c17 M => ?_)
      refine v_iceq d_Line_firstUnlike_20 ?_ ?_
      · refine v_iinc (lz := fun z => [(2, xI z), (0, xA a0), (1, xA a1)]) d_Line_firstUnlike_25 2 rfl (Nat.le_of_ble_eq_true rfl) (fun _ => rfl) (fun v2_25 => ?_)
        refine v_goto d_Line_firstUnlike_28 ?_
        refine v_sub (ls' := [(0, xA a0), (1, xA a1), (2, xI v2_25)]) [1, 2, 0] rfl ?_
        exact ih v2_25 M
      · refine v_iloadn d_Line_firstUnlike_23 rfl 2 rfl ?_
        exact v_ret d_Line_firstUnlike_24 rfl
set_option maxHeartbeats 4000000 in
set_option maxRecDepth 100000 in
theorem c_Line_firstUnlike (l : Launch) (hfl : l.stackTraces = false) (a0 : Nat) (a1 : Nat) (M : mm_T) : vm_Con l yX1_firstUnlike (.code yX1_firstUnlike cX1_firstUnlike 3 (some .int)) 2 ex_I [xA a0, xA a1] M (k_Line_firstUnlike a0 a1 M) := by
  refine vm_con (y := q_Line_firstUnlike) hfl (by decide +kernel) rfl (fun h => by cases h) (Nat.le_of_ble_eq_true rfl) rfl (fun _ _ _ => rfl) (fun r E h => by cases h) (fun w => ?_)
  show V_ l w q_Line_firstUnlike 2 ex_I 0 [(0, xA a0), (1, xA a1)] [] M (k_Line_firstUnlike a0 a1 M)
  unfold k_Line_firstUnlike
  refine v_iconst d_Line_firstUnlike_0 (by decide) ?_
  refine v_istoren (lz := fun z => [(2, xI z), (0, xA a0), (1, xA a1)]) d_Line_firstUnlike_1 rfl (Nat.le_of_ble_eq_true rfl) (fun _ => rfl) (fun v2_1 => ?_)
  refine v_sub (ls' := [(0, xA a0), (1, xA a1), (2, xI v2_1)]) [1, 2, 0] rfl ?_
  refine V_lp_Line_firstUnlike_2 hfl _ _ _ (fun M => ?_) _ _ _
  · refine v_iconst d_Line_firstUnlike_31 (by decide) ?_
    exact v_ret d_Line_firstUnlike_32 rfl
set_option maxHeartbeats 4000000 in
set_option maxRecDepth 100000 in
theorem c_Line_isAheadOf (l : Launch) (hfl : l.stackTraces = false) (a0 : Nat) (a1 : Nat) (M : mm_T) : vm_Con l yX1_isAheadOf (.code yX1_isAheadOf cX1_isAheadOf 3 (some .boolean)) 3 ex_Z [xA a0, xA a1] M (k_Line_isAheadOf a0 a1 M) := by
  refine vm_con (y := q_Line_isAheadOf) hfl (by decide +kernel) rfl (fun h => by cases h) (Nat.le_of_ble_eq_true rfl) rfl (fun _ _ _ => rfl) (fun r E h => by cases h) (fun w => ?_)
  show V_ l w q_Line_isAheadOf 3 ex_Z 0 [(0, xA a0), (1, xA a1)] [] M (k_Line_isAheadOf a0 a1 M)
  unfold k_Line_isAheadOf
  refine v_aloadn d_Line_isAheadOf_0 rfl 0 rfl ?_
  refine v_aloadn d_Line_isAheadOf_1 rfl 1 rfl ?_
  refine v_cVi d_Line_isAheadOf_2 ml_Line_87 (q := (RX1, TX1, 5)) rfl (c_Line_firstUnlike l hfl a0 a1 M) (fun _ => rfl) (by decide) (by decide) (as := [xA a1]) (st1 := []) rfl rfl (Nat.le_of_ble_eq_true rfl) (fun c2 M => ?_)
  refine v_istoren (lz := fun z => [(2, xI z), (0, xA a0), (1, xA a1)]) d_Line_isAheadOf_5 rfl (Nat.le_of_ble_eq_true rfl) (fun _ => rfl) (fun v2_5 => ?_)
  refine v_iloadn d_Line_isAheadOf_6 rfl 0 rfl ?_
  refine v_iconst d_Line_isAheadOf_7 (by decide) ?_
  refine v_join0 (pj := 28) (lj := []) (sj := []) (fun M => ?_) (fun j28 hj28 => ?_)
  · refine v_iconst d_Line_isAheadOf_28 (by decide) ?_
    exact v_zret d_Line_isAheadOf_29 rfl
  refine v_iceq d_Line_isAheadOf_8 ?_ ?_
  · refine v_sub (ls' := []) [] rfl ?_
    exact hj28 M
  · refine v_aloadn d_Line_isAheadOf_11 rfl 1 rfl ?_
    refine v_iloadn d_Line_isAheadOf_12 rfl 0 rfl ?_
    refine v_cVi d_Line_isAheadOf_13 ml_Line_43 (q := (RX1, TX1, 5)) rfl (c_Line_at l hfl a0 v2_5 M) (fun _ => rfl) (by decide) (by decide) (as := [xI v2_5]) (st1 := []) rfl rfl (Nat.le_of_ble_eq_true rfl) (fun c13 M => ?_)
    refine v_aloadn d_Line_isAheadOf_16 rfl 2 rfl ?_
    refine v_iloadn d_Line_isAheadOf_17 rfl 0 rfl ?_
    refine v_cVi d_Line_isAheadOf_18 ml_Line_43 (q := (RX1, TX1, 5)) rfl (c_Line_at l hfl a1 v2_5 M) (fun _ => rfl) (by decide) (by decide) (as := [xI v2_5]) (st1 := [xI c13]) rfl rfl (Nat.le_of_ble_eq_true rfl) (fun c18 M => ?_)
    refine v_icge d_Line_isAheadOf_21 ?_ ?_
    · refine v_sub (ls' := []) [] rfl ?_
      exact hj28 M
    · refine v_iconst d_Line_isAheadOf_24 (by decide) ?_
      refine v_goto d_Line_isAheadOf_25 ?_
      exact v_zret d_Line_isAheadOf_29 rfl
set_option maxHeartbeats 4000000 in
set_option maxRecDepth 100000 in
theorem c_Line_lay (l : Launch) (hfl : l.stackTraces = false) (a0 : Nat) (v1 : Int) (v2 : Int) (M : mm_T) : vm_Con l yX1_lay (.code yX1_lay cX1_lay 3 none) 2 ex_V [xA a0, xI v1, xI v2] M (k_Line_lay a0 v1 v2 M) := by
  refine vm_con (y := q_Line_lay) hfl (by decide +kernel) rfl (fun h => by cases h) (Nat.le_of_ble_eq_true rfl) rfl (fun _ _ _ => rfl) (fun r E h => by cases h) (fun w => ?_)
  show V_ l w q_Line_lay 2 ex_V 0 [(0, xA a0), (1, xI v1), (2, xI v2)] [] M (k_Line_lay a0 v1 v2 M)
  unfold k_Line_lay
  refine v_aloadn d_Line_lay_0 rfl 0 rfl ?_
  refine v_iloadn d_Line_lay_1 rfl 1 rfl ?_
  refine v_cVi d_Line_lay_2 ml_Line_43 (q := (RX1, TX1, 5)) rfl (c_Line_at l hfl a0 v1 M) (fun _ => rfl) (by decide) (by decide) (as := [xI v1]) (st1 := []) rfl rfl (Nat.le_of_ble_eq_true rfl) (fun c2 M => ?_)
  refine v_iloadn d_Line_lay_5 rfl 2 rfl ?_
  refine v_iceq d_Line_lay_6 ?_ ?_
  · exact v_vret d_Line_lay_19 rfl
  · refine v_aloadn d_Line_lay_9 rfl 0 rfl ?_
    refine v_iloadn d_Line_lay_10 rfl 1 rfl ?_
    refine v_cVv d_Line_lay_11 ml_Line_47 (q := (RX1, TX1, 5)) rfl (c_Line_cutTo l hfl a0 v1 M) (fun _ => rfl) (by decide) (by decide) (as := [xI v1]) (st1 := []) rfl rfl (Nat.le_of_ble_eq_true rfl) (fun _ M => ?_)
    refine v_aloadn d_Line_lay_14 rfl 0 rfl ?_
    refine v_iloadn d_Line_lay_15 rfl 2 rfl ?_
    refine v_cVv d_Line_lay_16 ml_Line_51 (q := (RX1, TX1, 5)) rfl (c_Line_add l hfl a0 v2 M) (fun _ => rfl) (by decide) (by decide) (as := [xI v2]) (st1 := []) rfl rfl (Nat.le_of_ble_eq_true rfl) (fun _ M => ?_)
    exact v_vret d_Line_lay_19 rfl
set_option maxHeartbeats 4000000 in
set_option maxRecDepth 100000 in
theorem c_Morph_sizeOf (l : Launch) (hfl : l.stackTraces = false) (a0 : Nat) (v1 : Int) (M : mm_T) : vm_Con l yX2_sizeOf (.code yX2_sizeOf cX2_sizeOf 2 (some .int)) 1 ex_I [xA a0, xI v1] M (k_Morph_sizeOf a0 v1 M) := by
  refine vm_con (y := q_Morph_sizeOf) hfl (by decide +kernel) rfl (fun h => by cases h) (Nat.le_of_ble_eq_true rfl) rfl (fun _ _ _ => rfl) (fun r E h => by cases h) (fun w => ?_)
  show V_ l w q_Morph_sizeOf 1 ex_I 0 [(0, xA a0), (1, xI v1)] [] M (k_Morph_sizeOf a0 v1 M)
  unfold k_Morph_sizeOf
  refine v_iloadn d_Morph_sizeOf_0 rfl 1 rfl ?_
  refine v_join0 (pj := 22) (lj := []) (sj := []) (fun M => ?_) (fun j22 hj22 => ?_)
  · refine v_iconst d_Morph_sizeOf_22 (by decide) ?_
    exact v_ret d_Morph_sizeOf_23 rfl
  refine v_iflt d_Morph_sizeOf_1 ?_ ?_
  · refine v_sub (ls' := []) [] rfl ?_
    exact hj22 M
  · refine v_iloadn d_Morph_sizeOf_4 rfl 1 rfl ?_
    refine v_aloadn d_Morph_sizeOf_5 rfl 0 rfl ?_
    refine v_gR d_Morph_sizeOf_6 fl_Morph_23 rfl (fun r6 => ?_)
    refine v_alen (t := 0) d_Morph_sizeOf_9 rfl (fun x9 => ?_)
    refine v_icge d_Morph_sizeOf_10 ?_ ?_
    · refine v_sub (ls' := []) [] rfl ?_
      exact hj22 M
    · refine v_aloadn d_Morph_sizeOf_13 rfl 0 rfl ?_
      refine v_gR d_Morph_sizeOf_14 fl_Morph_23 rfl (fun r14 => ?_)
      refine v_iloadn d_Morph_sizeOf_17 rfl 1 rfl ?_
      refine v_iald d_Morph_sizeOf_18 (fun x18 => ?_)
      refine v_goto d_Morph_sizeOf_19 ?_
      exact v_ret d_Morph_sizeOf_23 rfl
set_option maxHeartbeats 4000000 in
set_option maxRecDepth 100000 in
theorem c_Morph_at (l : Launch) (hfl : l.stackTraces = false) (a0 : Nat) (v1 : Int) (v2 : Int) (M : mm_T) : vm_Con l yX2_at (.code yX2_at cX2_at 3 (some .int)) 2 ex_I [xA a0, xI v1, xI v2] M (k_Morph_at a0 v1 v2 M) := by
  refine vm_con (y := q_Morph_at) hfl (by decide +kernel) rfl (fun h => by cases h) (Nat.le_of_ble_eq_true rfl) rfl (fun _ _ _ => rfl) (fun r E h => by cases h) (fun w => ?_)
  show V_ l w q_Morph_at 2 ex_I 0 [(0, xA a0), (1, xI v1), (2, xI v2)] [] M (k_Morph_at a0 v1 v2 M)
  unfold k_Morph_at
  refine v_iloadn d_Morph_at_0 rfl 2 rfl ?_
  refine v_join0 (pj := 30) (lj := []) (sj := []) (fun M => ?_) (fun j30 hj30 => ?_)
  · refine v_iconst d_Morph_at_30 (by decide) ?_
    exact v_ret d_Morph_at_31 rfl
  refine v_iflt d_Morph_at_1 ?_ ?_
  · refine v_sub (ls' := []) [] rfl ?_
    exact hj30 M
  · refine v_iloadn d_Morph_at_4 rfl 2 rfl ?_
    refine v_aloadn d_Morph_at_5 rfl 0 rfl ?_
    refine v_iloadn d_Morph_at_6 rfl 1 rfl ?_
    refine v_cVi d_Morph_at_7 ml_Morph_33 (q := (RX2, TX2, 3)) rfl (c_Morph_sizeOf l hfl a0 v1 M) (fun _ => rfl) (by decide) (by decide) (as := [xI v1]) (st1 := [xI v2]) rfl rfl (Nat.le_of_ble_eq_true rfl) (fun c7 M => ?_)
    refine v_icge d_Morph_at_10 ?_ ?_
    · refine v_sub (ls' := []) [] rfl ?_
      exact hj30 M
    · refine v_iloadn d_Morph_at_13 rfl 2 rfl ?_
      refine v_bipush d_Morph_at_14 (by decide) ?_
      refine v_icge d_Morph_at_16 ?_ ?_
      · refine v_sub (ls' := []) [] rfl ?_
        exact hj30 M
      · refine v_aloadn d_Morph_at_19 rfl 0 rfl ?_
        refine v_gR d_Morph_at_20 fl_Morph_20 rfl (fun r20 => ?_)
        refine v_iloadn d_Morph_at_23 rfl 1 rfl ?_
        refine v_aald (t := 4) d_Morph_at_24 (by decide) rfl rfl (fun r24 => ?_)
        refine v_iloadn d_Morph_at_25 rfl 2 rfl ?_
        refine v_iald d_Morph_at_26 (fun x26 => ?_)
        refine v_goto d_Morph_at_27 ?_
        exact v_ret d_Morph_at_31 rfl
set_option maxHeartbeats 4000000 in
set_option maxRecDepth 100000 in
theorem V_lp_Morph_draw_25 {l : Launch} {w : vm_W} (hfl : l.stackTraces = false) (kx58 : Int → mm_T → Option (Unit × mm_T)) (a0 : Nat) (a2 : Nat) (v5 : Int) {a1 : Nat} {v4 : Int} (hkx58 : ∀ (v3_e : Int) (M : mm_T), V_ l w q_Morph_draw 3 ex_V 58 [(0, xA a0), (1, xA a1), (2, xA a2), (3, xI v3_e), (4, xI v4)] [] M (kx58 v3_e M)) : ∀ (f : Nat) (v3 : Int) (v6 : Int) (M : mm_T), V_ l w q_Morph_draw 3 ex_V 25 [(0, xA a0), (1, xA a1), (2, xA a2), (3, xI v3), (4, xI v4), (5, xI v5), (6, xI v6)] [] M (lp_Morph_draw_25 kx58 a0 a2 v5 f v3 v6 M) := by
  intro f
  induction f with
  | zero => intros; exact V_.none
  | succ f ih =>
    intro v3 v6 M
    unfold lp_Morph_draw_25
    refine v_iload d_Morph_draw_25 6 rfl ?_
    refine v_aloadn d_Morph_draw_27 rfl 0 rfl ?_
    refine v_iload d_Morph_draw_28 5 rfl ?_
    refine v_cVi d_Morph_draw_30 ml_Morph_33 (q := (RX2, TX2, 3)) rfl (c_Morph_sizeOf l hfl a0 v5 M) (fun _ => rfl) (by decide) (by decide) (as := [xI v5]) (st1 := [xI v6]) rfl rfl (Nat.le_of_ble_eq_true rfl) (fun c30 M => ?_)
    refine v_icge d_Morph_draw_33 ?_ ?_
    · refine v_sub (ls' := [(0, xA a0), (1, xA a1), (2, xA a2), (3, xI v3), (4, xI v4)]) [0, 1, 2, 3, 4] rfl ?_
      exact hkx58 v3 M
    · refine v_aloadn d_Morph_draw_36 rfl 2 rfl ?_
      refine v_iloadn d_Morph_draw_37 rfl 3 rfl ?_
      refine v_aloadn d_Morph_draw_38 rfl 0 rfl ?_
      refine v_iload d_Morph_draw_39 5 rfl ?_
      refine v_iload d_Morph_draw_41 6 rfl ?_
      refine v_cVi d_Morph_draw_43 ml_Morph_36 (q := (RX2, TX2, 3)) rfl (c_Morph_at l hfl a0 v5 v6 M) (fun _ => rfl) (by decide) (by decide) (as := [xI v5, xI v6]) (st1 := [xI v3, xA a2]) rfl rfl (Nat.le_of_ble_eq_true rfl) (fun c43 M => ?_)
      refine v_cVv d_Morph_draw_46 ml_Morph_46 (q := (RX1, TX1, 5)) rfl (c_Line_lay l hfl a2 v3 c43 M) (fun _ => rfl) (by decide) (by decide) (as := [xI v3, xI c43]) (st1 := []) rfl rfl (Nat.le_of_ble_eq_true rfl) (fun _ M => ?_)
      refine v_iinc (lz := fun z => [(3, xI z), (0, xA a0), (1, xA a1), (2, xA a2), (4, xI v4), (5, xI v5), (6, xI v6)]) d_Morph_draw_49 3 rfl (Nat.le_of_ble_eq_true rfl) (fun _ => rfl) (fun v3_49 => ?_)
      refine v_iinc (lz := fun z => [(6, xI z), (3, xI v3_49), (0, xA a0), (1, xA a1), (2, xA a2), (4, xI v4), (5, xI v5)]) d_Morph_draw_52 6 rfl (Nat.le_of_ble_eq_true rfl) (fun _ => rfl) (fun v6_52 => ?_)
      refine v_goto d_Morph_draw_55 ?_
      refine v_sub (ls' := [(0, xA a0), (1, xA a1), (2, xA a2), (3, xI v3_49), (4, xI v4), (5, xI v5), (6, xI v6_52)]) [2, 3, 4, 1, 5, 6, 0] rfl ?_
      exact ih v3_49 v6_52 M
set_option maxHeartbeats 4000000 in
set_option maxRecDepth 100000 in
theorem V_lp_Morph_draw_5 {l : Launch} {w : vm_W} (hfl : l.stackTraces = false) (kx64 : Int → mm_T → Option (Unit × mm_T)) (a0 : Nat) (a1 : Nat) (a2 : Nat) (hkx64 : ∀ (v3_e : Int) (M : mm_T), V_ l w q_Morph_draw 3 ex_V 64 [(2, xA a2), (3, xI v3_e)] [] M (kx64 v3_e M)) : ∀ (f : Nat) (v3 : Int) (v4 : Int) (M : mm_T), V_ l w q_Morph_draw 3 ex_V 5 [(0, xA a0), (1, xA a1), (2, xA a2), (3, xI v3), (4, xI v4)] [] M (lp_Morph_draw_5 kx64 a0 a1 a2 f v3 v4 M) := by
  intro f
  induction f with
  | zero => intros; exact V_.none
  | succ f ih =>
    intro v3 v4 M
    unfold lp_Morph_draw_5
    refine v_iload d_Morph_draw_5 4 rfl ?_
    refine v_aloadn d_Morph_draw_7 rfl 1 rfl ?_
    refine v_gI d_Morph_draw_8 fl_Morph_42 rfl (fun x8 => ?_)
    refine v_icge d_Morph_draw_11 ?_ ?_
    · refine v_sub (ls' := [(2, xA a2), (3, xI v3)]) [2, 3] rfl ?_
      exact hkx64 v3 M
    · refine v_aloadn d_Morph_draw_14 rfl 1 rfl ?_
      refine v_iload d_Morph_draw_15 4 rfl ?_
      refine v_cVi d_Morph_draw_17 ml_Morph_39 (q := (RX1, TX1, 5)) rfl (c_Line_at l hfl a1 v4 M) (fun _ => rfl) (by decide) (by decide) (as := [xI v4]) (st1 := []) rfl rfl (Nat.le_of_ble_eq_true rfl) (fun c17 M => ?_)
      refine v_istore (lz := fun z => [(5, xI z), (0, xA a0), (1, xA a1), (2, xA a2), (3, xI v3), (4, xI v4)]) d_Morph_draw_20 (Nat.le_of_ble_eq_true rfl) (fun _ => rfl) (fun v5_20 => ?_)
      refine v_iconst d_Morph_draw_22 (by decide) ?_
      refine v_istore (lz := fun z => [(6, xI z), (5, xI v5_20), (0, xA a0), (1, xA a1), (2, xA a2), (3, xI v3), (4, xI v4)]) d_Morph_draw_23 (Nat.le_of_ble_eq_true rfl) (fun _ => rfl) (fun v6_23 => ?_)
      refine v_sub (ls' := [(0, xA a0), (1, xA a1), (2, xA a2), (3, xI v3), (4, xI v4), (5, xI v5_20), (6, xI v6_23)]) [2, 3, 4, 5, 6, 1, 0] rfl ?_
      refine V_lp_Morph_draw_25 hfl _ _ _ _ (fun v3_58 M => ?_) _ _ _ _
      · refine v_iinc (lz := fun z => [(4, xI z), (0, xA a0), (1, xA a1), (2, xA a2), (3, xI v3_58)]) d_Morph_draw_58 4 rfl (Nat.le_of_ble_eq_true rfl) (fun _ => rfl) (fun v4_58 => ?_)
        refine v_goto d_Morph_draw_61 ?_
        refine v_sub (ls' := [(0, xA a0), (1, xA a1), (2, xA a2), (3, xI v3_58), (4, xI v4_58)]) [1, 2, 3, 4, 0] rfl ?_
        exact ih v3_58 v4_58 M
set_option maxHeartbeats 4000000 in
set_option maxRecDepth 100000 in
theorem c_Morph_draw (l : Launch) (hfl : l.stackTraces = false) (a0 : Nat) (a1 : Nat) (a2 : Nat) (M : mm_T) : vm_Con l yX2_draw (.code yX2_draw cX2_draw 7 none) 3 ex_V [xA a0, xA a1, xA a2] M (k_Morph_draw a0 a1 a2 M) := by
  refine vm_con (y := q_Morph_draw) hfl (by decide +kernel) rfl (fun h => by cases h) (Nat.le_of_ble_eq_true rfl) rfl (fun _ _ _ => rfl) (fun r E h => by cases h) (fun w => ?_)
  show V_ l w q_Morph_draw 3 ex_V 0 [(0, xA a0), (1, xA a1), (2, xA a2)] [] M (k_Morph_draw a0 a1 a2 M)
  unfold k_Morph_draw
  refine v_iconst d_Morph_draw_0 (by decide) ?_
  refine v_istoren (lz := fun z => [(3, xI z), (0, xA a0), (1, xA a1), (2, xA a2)]) d_Morph_draw_1 rfl (Nat.le_of_ble_eq_true rfl) (fun _ => rfl) (fun v3_1 => ?_)
  refine v_iconst d_Morph_draw_2 (by decide) ?_
  refine v_istore (lz := fun z => [(4, xI z), (3, xI v3_1), (0, xA a0), (1, xA a1), (2, xA a2)]) d_Morph_draw_3 (Nat.le_of_ble_eq_true rfl) (fun _ => rfl) (fun v4_3 => ?_)
  refine v_sub (ls' := [(0, xA a0), (1, xA a1), (2, xA a2), (3, xI v3_1), (4, xI v4_3)]) [2, 3, 4, 1, 0] rfl ?_
  refine V_lp_Morph_draw_5 hfl _ _ _ _ (fun v3_64 M => ?_) _ _ _ _
  · refine v_aloadn d_Morph_draw_64 rfl 0 rfl ?_
    refine v_iloadn d_Morph_draw_65 rfl 1 rfl ?_
    refine v_cVv d_Morph_draw_66 ml_Morph_50 (q := (RX1, TX1, 5)) rfl (c_Line_cutTo l hfl a2 v3_64 M) (fun _ => rfl) (by decide) (by decide) (as := [xI v3_64]) (st1 := []) rfl rfl (Nat.le_of_ble_eq_true rfl) (fun _ M => ?_)
    exact v_vret d_Morph_draw_69 rfl
set_option maxHeartbeats 4000000 in
set_option maxRecDepth 100000 in
theorem V_lp_Line_figures_4 {l : Launch} {w : vm_W} (hfl : l.stackTraces = false) (kx37 : Int → mm_T → Option (Int × mm_T)) (a0 : Nat) (hkx37 : ∀ (v1_e : Int) (M : mm_T), V_ l w q_Line_figures 2 ex_I 37 [(1, xI v1_e)] [] M (kx37 v1_e M)) : ∀ (f : Nat) (v1 : Int) (v2 : Int) (M : mm_T), V_ l w q_Line_figures 2 ex_I 4 [(0, xA a0), (1, xI v1), (2, xI v2)] [] M (lp_Line_figures_4 kx37 a0 f v1 v2 M) := by
  intro f
  induction f with
  | zero => intros; exact V_.none
  | succ f ih =>
    intro v1 v2 M
    unfold lp_Line_figures_4
    refine v_iloadn d_Line_figures_4 rfl 2 rfl ?_
    refine v_aloadn d_Line_figures_5 rfl 0 rfl ?_
    refine v_gI d_Line_figures_6 fl_Line_30 rfl (fun x6 => ?_)
    refine v_icge d_Line_figures_9 ?_ ?_
    · refine v_sub (ls' := [(1, xI v1)]) [1] rfl ?_
      exact hkx37 v1 M
    · refine v_iloadn d_Line_figures_12 rfl 2 rfl ?_
      refine v_bipush d_Line_figures_13 (by decide) ?_
      refine v_icge d_Line_figures_15 ?_ ?_
      · refine v_sub (ls' := [(1, xI v1)]) [1] rfl ?_
        exact hkx37 v1 M
      · refine v_bipush d_Line_figures_18 (by decide) ?_
        refine v_iloadn d_Line_figures_20 rfl 1 rfl ?_
        refine v_imul d_Line_figures_21 (fun x21 => ?_)
        refine v_aloadn d_Line_figures_22 rfl 0 rfl ?_
        refine v_iloadn d_Line_figures_23 rfl 2 rfl ?_
        refine v_cVi d_Line_figures_24 ml_Line_43 (q := (RX1, TX1, 5)) rfl (c_Line_at l hfl a0 v2 M) (fun _ => rfl) (by decide) (by decide) (as := [xI v2]) (st1 := [xI x21]) rfl rfl (Nat.le_of_ble_eq_true rfl) (fun c24 M => ?_)
        refine v_iadd d_Line_figures_27 (fun x27 => ?_)
        refine v_iconst d_Line_figures_28 (by decide) ?_
        refine v_iadd d_Line_figures_29 (fun x29 => ?_)
        refine v_istoren (lz := fun z => [(1, xI z), (0, xA a0), (2, xI v2)]) d_Line_figures_30 rfl (Nat.le_of_ble_eq_true rfl) (fun _ => rfl) (fun v1_30 => ?_)
        refine v_iinc (lz := fun z => [(2, xI z), (1, xI v1_30), (0, xA a0)]) d_Line_figures_31 2 rfl (Nat.le_of_ble_eq_true rfl) (fun _ => rfl) (fun v2_31 => ?_)
        refine v_goto d_Line_figures_34 ?_
        refine v_sub (ls' := [(0, xA a0), (1, xI v1_30), (2, xI v2_31)]) [2, 1, 0] rfl ?_
        exact ih v1_30 v2_31 M
set_option maxHeartbeats 4000000 in
set_option maxRecDepth 100000 in
theorem c_Line_figures (l : Launch) (hfl : l.stackTraces = false) (a0 : Nat) (M : mm_T) : vm_Con l yX1_figures (.code yX1_figures cX1_figures 3 (some .int)) 2 ex_I [xA a0] M (k_Line_figures a0 M) := by
  refine vm_con (y := q_Line_figures) hfl (by decide +kernel) rfl (fun h => by cases h) (Nat.le_of_ble_eq_true rfl) rfl (fun _ _ _ => rfl) (fun r E h => by cases h) (fun w => ?_)
  show V_ l w q_Line_figures 2 ex_I 0 [(0, xA a0)] [] M (k_Line_figures a0 M)
  unfold k_Line_figures
  refine v_iconst d_Line_figures_0 (by decide) ?_
  refine v_istoren (lz := fun z => [(1, xI z), (0, xA a0)]) d_Line_figures_1 rfl (Nat.le_of_ble_eq_true rfl) (fun _ => rfl) (fun v1_1 => ?_)
  refine v_iconst d_Line_figures_2 (by decide) ?_
  refine v_istoren (lz := fun z => [(2, xI z), (1, xI v1_1), (0, xA a0)]) d_Line_figures_3 rfl (Nat.le_of_ble_eq_true rfl) (fun _ => rfl) (fun v2_3 => ?_)
  refine v_sub (ls' := [(0, xA a0), (1, xI v1_1), (2, xI v2_3)]) [2, 1, 0] rfl ?_
  refine V_lp_Line_figures_4 hfl _ _ (fun v1_37 M => ?_) _ _ _ _
  · refine v_iloadn d_Line_figures_37 rfl 0 rfl ?_
    exact v_ret d_Line_figures_38 rfl
set_option maxHeartbeats 4000000 in
set_option maxRecDepth 100000 in
theorem c_Morph_growsFrom (l : Launch) (hfl : l.stackTraces = false) (a0 : Nat) (v1 : Int) (M : mm_T) : vm_Con l yX2_growsFrom (.code yX2_growsFrom cX2_growsFrom 2 (some .boolean)) 3 ex_Z [xA a0, xI v1] M (k_Morph_growsFrom a0 v1 M) := by
  refine vm_con (y := q_Morph_growsFrom) hfl (by decide +kernel) rfl (fun h => by cases h) (Nat.le_of_ble_eq_true rfl) rfl (fun _ _ _ => rfl) (fun r E h => by cases h) (fun w => ?_)
  show V_ l w q_Morph_growsFrom 3 ex_Z 0 [(0, xA a0), (1, xI v1)] [] M (k_Morph_growsFrom a0 v1 M)
  unfold k_Morph_growsFrom
  refine v_aloadn d_Morph_growsFrom_0 rfl 0 rfl ?_
  refine v_iloadn d_Morph_growsFrom_1 rfl 1 rfl ?_
  refine v_cVi d_Morph_growsFrom_2 ml_Morph_33 (q := (RX2, TX2, 3)) rfl (c_Morph_sizeOf l hfl a0 v1 M) (fun _ => rfl) (by decide) (by decide) (as := [xI v1]) (st1 := []) rfl rfl (Nat.le_of_ble_eq_true rfl) (fun c2 M => ?_)
  refine v_iconst d_Morph_growsFrom_5 (by decide) ?_
  refine v_join0 (pj := 23) (lj := []) (sj := []) (fun M => ?_) (fun j23 hj23 => ?_)
  · refine v_iconst d_Morph_growsFrom_23 (by decide) ?_
    exact v_zret d_Morph_growsFrom_24 rfl
  refine v_icle d_Morph_growsFrom_6 ?_ ?_
  · refine v_sub (ls' := []) [] rfl ?_
    exact hj23 M
  · refine v_aloadn d_Morph_growsFrom_9 rfl 0 rfl ?_
    refine v_iloadn d_Morph_growsFrom_10 rfl 1 rfl ?_
    refine v_iconst d_Morph_growsFrom_11 (by decide) ?_
    refine v_cVi d_Morph_growsFrom_12 ml_Morph_36 (q := (RX2, TX2, 3)) rfl (c_Morph_at l hfl a0 v1 0 M) (fun _ => rfl) (by decide) (by decide) (as := [xI v1, xI 0]) (st1 := []) rfl rfl (Nat.le_of_ble_eq_true rfl) (fun c12 M => ?_)
    refine v_iloadn d_Morph_growsFrom_15 rfl 1 rfl ?_
    refine v_icne d_Morph_growsFrom_16 ?_ ?_
    · refine v_sub (ls' := []) [] rfl ?_
      exact hj23 M
    · refine v_iconst d_Morph_growsFrom_19 (by decide) ?_
      refine v_goto d_Morph_growsFrom_20 ?_
      exact v_zret d_Morph_growsFrom_24 rfl
set_option maxHeartbeats 4000000 in
set_option maxRecDepth 100000 in
theorem V_lp_Morph_standsAt_3 {l : Launch} {w : vm_W} (hfl : l.stackTraces = false) (kx39 : mm_T → Option (Int × mm_T)) (a0 : Nat) (a1 : Nat) (v2 : Int) (v3 : Int) (hkx39 : ∀ (M : mm_T), V_ l w q_Morph_standsAt 3 ex_Z 39 [] [] M (kx39 M)) : ∀ (f : Nat) (v4 : Int) (M : mm_T), V_ l w q_Morph_standsAt 3 ex_Z 3 [(0, xA a0), (1, xA a1), (2, xI v2), (3, xI v3), (4, xI v4)] [] M (lp_Morph_standsAt_3 kx39 a0 a1 v2 v3 f v4 M) := by
  intro f
  induction f with
  | zero => intros; exact V_.none
  | succ f ih =>
    intro v4 M
    unfold lp_Morph_standsAt_3
    refine v_iload d_Morph_standsAt_3 4 rfl ?_
    refine v_aloadn d_Morph_standsAt_5 rfl 0 rfl ?_
    refine v_iloadn d_Morph_standsAt_6 rfl 3 rfl ?_
    refine v_cVi d_Morph_standsAt_7 ml_Morph_33 (q := (RX2, TX2, 3)) rfl (c_Morph_sizeOf l hfl a0 v3 M) (fun _ => rfl) (by decide) (by decide) (as := [xI v3]) (st1 := [xI v4]) rfl rfl (Nat.le_of_ble_eq_true rfl) (fun c7 M => ?_)
    refine v_icge d_Morph_standsAt_10 ?_ ?_
    · refine v_sub (ls' := []) [] rfl ?_
      exact hkx39 M
    · refine v_aloadn d_Morph_standsAt_13 rfl 1 rfl ?_
      refine v_iloadn d_Morph_standsAt_14 rfl 2 rfl ?_
      refine v_iload d_Morph_standsAt_15 4 rfl ?_
      refine v_iadd d_Morph_standsAt_17 (fun x17 => ?_)
      refine v_cVi d_Morph_standsAt_18 ml_Morph_39 (q := (RX1, TX1, 5)) rfl (c_Line_at l hfl a1 x17 M) (fun _ => rfl) (by decide) (by decide) (as := [xI x17]) (st1 := []) rfl rfl (Nat.le_of_ble_eq_true rfl) (fun c18 M => ?_)
      refine v_aloadn d_Morph_standsAt_21 rfl 0 rfl ?_
      refine v_iloadn d_Morph_standsAt_22 rfl 3 rfl ?_
      refine v_iload d_Morph_standsAt_23 4 rfl ?_
      refine v_cVi d_Morph_standsAt_25 ml_Morph_36 (q := (RX2, TX2, 3)) rfl (c_Morph_at l hfl a0 v3 v4 M) (fun _ => rfl) (by decide) (by decide) (as := [xI v3, xI v4]) (st1 := [xI c18]) rfl rfl (Nat.le_of_ble_eq_true rfl) (fun c25 M => ?_)
      refine v_iceq d_Morph_standsAt_28 ?_ ?_
      · refine v_iinc (lz := fun z => [(4, xI z), (0, xA a0), (1, xA a1), (2, xI v2), (3, xI v3)]) d_Morph_standsAt_33 4 rfl (Nat.le_of_ble_eq_true rfl) (fun _ => rfl) (fun v4_33 => ?_)
        refine v_goto d_Morph_standsAt_36 ?_
        refine v_sub (ls' := [(0, xA a0), (1, xA a1), (2, xI v2), (3, xI v3), (4, xI v4_33)]) [1, 2, 3, 4, 0] rfl ?_
        exact ih v4_33 M
      · refine v_iconst d_Morph_standsAt_31 (by decide) ?_
        exact v_zret d_Morph_standsAt_32 rfl
set_option maxHeartbeats 4000000 in
set_option maxRecDepth 100000 in
theorem c_Morph_standsAt (l : Launch) (hfl : l.stackTraces = false) (a0 : Nat) (a1 : Nat) (v2 : Int) (v3 : Int) (M : mm_T) : vm_Con l yX2_standsAt (.code yX2_standsAt cX2_standsAt 5 (some .boolean)) 3 ex_Z [xA a0, xA a1, xI v2, xI v3] M (k_Morph_standsAt a0 a1 v2 v3 M) := by
  refine vm_con (y := q_Morph_standsAt) hfl (by decide +kernel) rfl (fun h => by cases h) (Nat.le_of_ble_eq_true rfl) rfl (fun _ _ _ => rfl) (fun r E h => by cases h) (fun w => ?_)
  show V_ l w q_Morph_standsAt 3 ex_Z 0 [(0, xA a0), (1, xA a1), (2, xI v2), (3, xI v3)] [] M (k_Morph_standsAt a0 a1 v2 v3 M)
  unfold k_Morph_standsAt
  refine v_iconst d_Morph_standsAt_0 (by decide) ?_
  refine v_istore (lz := fun z => [(4, xI z), (0, xA a0), (1, xA a1), (2, xI v2), (3, xI v3)]) d_Morph_standsAt_1 (Nat.le_of_ble_eq_true rfl) (fun _ => rfl) (fun v4_1 => ?_)
  refine v_sub (ls' := [(0, xA a0), (1, xA a1), (2, xI v2), (3, xI v3), (4, xI v4_1)]) [1, 2, 3, 4, 0] rfl ?_
  refine V_lp_Morph_standsAt_3 hfl _ _ _ _ _ (fun M => ?_) _ _ _
  · refine v_iconst d_Morph_standsAt_39 (by decide) ?_
    exact v_zret d_Morph_standsAt_40 rfl
set_option maxHeartbeats 4000000 in
set_option maxRecDepth 100000 in
theorem V_lp_Morph_agrees_3 {l : Launch} {w : vm_W} (hfl : l.stackTraces = false) (kx52 : mm_T → Option (Int × mm_T)) (a0 : Nat) (v1 : Int) (v2 : Int) (v3 : Int) (hkx52 : ∀ (M : mm_T), V_ l w q_Morph_agrees 3 ex_Z 52 [] [] M (kx52 M)) : ∀ (f : Nat) (v4 : Int) (M : mm_T), V_ l w q_Morph_agrees 3 ex_Z 3 [(0, xA a0), (1, xI v1), (2, xI v2), (3, xI v3), (4, xI v4)] [] M (lp_Morph_agrees_3 kx52 a0 v1 v2 v3 f v4 M) := by
  intro f
  induction f with
  | zero => intros; exact V_.none
  | succ f ih =>
    intro v4 M
    unfold lp_Morph_agrees_3
    refine v_iloadn d_Morph_agrees_3 rfl 2 rfl ?_
    refine v_iload d_Morph_agrees_4 4 rfl ?_
    refine v_iadd d_Morph_agrees_6 (fun x6 => ?_)
    refine v_aloadn d_Morph_agrees_7 rfl 0 rfl ?_
    refine v_iloadn d_Morph_agrees_8 rfl 1 rfl ?_
    refine v_cVi d_Morph_agrees_9 ml_Morph_33 (q := (RX2, TX2, 3)) rfl (c_Morph_sizeOf l hfl a0 v1 M) (fun _ => rfl) (by decide) (by decide) (as := [xI v1]) (st1 := [xI x6]) rfl rfl (Nat.le_of_ble_eq_true rfl) (fun c9 M => ?_)
    refine v_icge d_Morph_agrees_12 ?_ ?_
    · refine v_sub (ls' := []) [] rfl ?_
      exact hkx52 M
    · refine v_iload d_Morph_agrees_15 4 rfl ?_
      refine v_aloadn d_Morph_agrees_17 rfl 0 rfl ?_
      refine v_iloadn d_Morph_agrees_18 rfl 3 rfl ?_
      refine v_cVi d_Morph_agrees_19 ml_Morph_33 (q := (RX2, TX2, 3)) rfl (c_Morph_sizeOf l hfl a0 v3 M) (fun _ => rfl) (by decide) (by decide) (as := [xI v3]) (st1 := [xI v4]) rfl rfl (Nat.le_of_ble_eq_true rfl) (fun c19 M => ?_)
      refine v_icge d_Morph_agrees_22 ?_ ?_
      · refine v_sub (ls' := []) [] rfl ?_
        exact hkx52 M
      · refine v_aloadn d_Morph_agrees_25 rfl 0 rfl ?_
        refine v_iloadn d_Morph_agrees_26 rfl 1 rfl ?_
        refine v_iloadn d_Morph_agrees_27 rfl 2 rfl ?_
        refine v_iload d_Morph_agrees_28 4 rfl ?_
        refine v_iadd d_Morph_agrees_30 (fun x30 => ?_)
        refine v_cVi d_Morph_agrees_31 ml_Morph_36 (q := (RX2, TX2, 3)) rfl (c_Morph_at l hfl a0 v1 x30 M) (fun _ => rfl) (by decide) (by decide) (as := [xI v1, xI x30]) (st1 := []) rfl rfl (Nat.le_of_ble_eq_true rfl) (fun c31 M => ?_)
        refine v_aloadn d_Morph_agrees_34 rfl 0 rfl ?_
        refine v_iloadn d_Morph_agrees_35 rfl 3 rfl ?_
        refine v_iload d_Morph_agrees_36 4 rfl ?_
        refine v_cVi d_Morph_agrees_38 ml_Morph_36 (q := (RX2, TX2, 3)) rfl (c_Morph_at l hfl a0 v3 v4 M) (fun _ => rfl) (by decide) (by decide) (as := [xI v3, xI v4]) (st1 := [xI c31]) rfl rfl (Nat.le_of_ble_eq_true rfl) (fun c38 M => ?_)
        refine v_iceq d_Morph_agrees_41 ?_ ?_
        · refine v_iinc (lz := fun z => [(4, xI z), (0, xA a0), (1, xI v1), (2, xI v2), (3, xI v3)]) d_Morph_agrees_46 4 rfl (Nat.le_of_ble_eq_true rfl) (fun _ => rfl) (fun v4_46 => ?_)
          refine v_goto d_Morph_agrees_49 ?_
          refine v_sub (ls' := [(0, xA a0), (1, xI v1), (2, xI v2), (3, xI v3), (4, xI v4_46)]) [1, 2, 3, 4, 0] rfl ?_
          exact ih v4_46 M
        · refine v_iconst d_Morph_agrees_44 (by decide) ?_
          exact v_zret d_Morph_agrees_45 rfl
set_option maxHeartbeats 4000000 in
set_option maxRecDepth 100000 in
theorem c_Morph_agrees (l : Launch) (hfl : l.stackTraces = false) (a0 : Nat) (v1 : Int) (v2 : Int) (v3 : Int) (M : mm_T) : vm_Con l yX2_agrees (.code yX2_agrees cX2_agrees 5 (some .boolean)) 3 ex_Z [xA a0, xI v1, xI v2, xI v3] M (k_Morph_agrees a0 v1 v2 v3 M) := by
  refine vm_con (y := q_Morph_agrees) hfl (by decide +kernel) rfl (fun h => by cases h) (Nat.le_of_ble_eq_true rfl) rfl (fun _ _ _ => rfl) (fun r E h => by cases h) (fun w => ?_)
  show V_ l w q_Morph_agrees 3 ex_Z 0 [(0, xA a0), (1, xI v1), (2, xI v2), (3, xI v3)] [] M (k_Morph_agrees a0 v1 v2 v3 M)
  unfold k_Morph_agrees
  refine v_iconst d_Morph_agrees_0 (by decide) ?_
  refine v_istore (lz := fun z => [(4, xI z), (0, xA a0), (1, xI v1), (2, xI v2), (3, xI v3)]) d_Morph_agrees_1 (Nat.le_of_ble_eq_true rfl) (fun _ => rfl) (fun v4_1 => ?_)
  refine v_sub (ls' := [(0, xA a0), (1, xI v1), (2, xI v2), (3, xI v3), (4, xI v4_1)]) [1, 2, 3, 4, 0] rfl ?_
  refine V_lp_Morph_agrees_3 hfl _ _ _ _ _ (fun M => ?_) _ _ _
  · refine v_iconst d_Morph_agrees_52 (by decide) ?_
    exact v_zret d_Morph_agrees_53 rfl
set_option maxHeartbeats 4000000 in
set_option maxRecDepth 100000 in
theorem c_Morph_restBit (l : Launch) (hfl : l.stackTraces = false) (a0 : Nat) (v1 : Int) (v2 : Int) (M : mm_T) : vm_Con l yX2_restBit (.code yX2_restBit cX2_restBit 3 (some .long)) 1 ex_J [xA a0, xI v1, xI v2] M (k_Morph_restBit a0 v1 v2 M) := by
  refine vm_con (y := q_Morph_restBit) hfl (by decide +kernel) rfl (fun h => by cases h) (Nat.le_of_ble_eq_true rfl) rfl (fun _ _ _ => rfl) (fun r E h => by cases h) (fun w => ?_)
  show V_ l w q_Morph_restBit 1 ex_J 0 [(0, xA a0), (1, xI v1), (2, xI v2)] [] M (k_Morph_restBit a0 v1 v2 M)
  unfold k_Morph_restBit
  refine v_lconst d_Morph_restBit_0 (v := 1) rfl ?_
  refine v_iconst d_Morph_restBit_1 (by decide) ?_
  refine v_iloadn d_Morph_restBit_2 rfl 1 rfl ?_
  refine v_bipush d_Morph_restBit_3 (by decide) ?_
  refine v_imul d_Morph_restBit_5 (fun x5 => ?_)
  refine v_iadd d_Morph_restBit_6 (fun x6 => ?_)
  refine v_iloadn d_Morph_restBit_7 rfl 2 rfl ?_
  refine v_iadd d_Morph_restBit_8 (fun x8 => ?_)
  refine v_lshl d_Morph_restBit_9 ?_
  exact v_ret d_Morph_restBit_10 rfl
set_option maxHeartbeats 4000000 in
set_option maxRecDepth 100000 in
theorem c_Morph_restBehind (l : Launch) (hfl : l.stackTraces = false) (a0 : Nat) (v1 : Int) (v2 : Int) (v3 : Int) (M : mm_T) : vm_Con l yX2_restBehind (.code yX2_restBehind cX2_restBehind 5 (some .long)) 2 ex_J [xA a0, xI v1, xI v2, xI v3] M (k_Morph_restBehind a0 v1 v2 v3 M) := by
  refine vm_con (y := q_Morph_restBehind) hfl (by decide +kernel) rfl (fun h => by cases h) (Nat.le_of_ble_eq_true rfl) rfl (fun _ _ _ => rfl) (fun r E h => by cases h) (fun w => ?_)
  show V_ l w q_Morph_restBehind 2 ex_J 0 [(0, xA a0), (1, xI v1), (2, xI v2), (3, xI v3)] [] M (k_Morph_restBehind a0 v1 v2 v3 M)
  unfold k_Morph_restBehind
  refine v_aloadn d_Morph_restBehind_0 rfl 0 rfl ?_
  refine v_iloadn d_Morph_restBehind_1 rfl 1 rfl ?_
  refine v_cVi d_Morph_restBehind_2 ml_Morph_33 (q := (RX2, TX2, 3)) rfl (c_Morph_sizeOf l hfl a0 v1 M) (fun _ => rfl) (by decide) (by decide) (as := [xI v1]) (st1 := []) rfl rfl (Nat.le_of_ble_eq_true rfl) (fun c2 M => ?_)
  refine v_iloadn d_Morph_restBehind_5 rfl 2 rfl ?_
  refine v_isub d_Morph_restBehind_6 (fun x6 => ?_)
  refine v_istore (lz := fun z => [(4, xI z), (0, xA a0), (1, xI v1), (2, xI v2), (3, xI v3)]) d_Morph_restBehind_7 (Nat.le_of_ble_eq_true rfl) (fun _ => rfl) (fun v4_7 => ?_)
  refine v_iload d_Morph_restBehind_9 0 rfl ?_
  refine v_aloadn d_Morph_restBehind_11 rfl 1 rfl ?_
  refine v_iloadn d_Morph_restBehind_12 rfl 4 rfl ?_
  refine v_cVi d_Morph_restBehind_13 ml_Morph_33 (q := (RX2, TX2, 3)) rfl (c_Morph_sizeOf l hfl a0 v3 M) (fun _ => rfl) (by decide) (by decide) (as := [xI v3]) (st1 := [xI v4_7]) rfl rfl (Nat.le_of_ble_eq_true rfl) (fun c13 M => ?_)
  refine v_icne d_Morph_restBehind_16 ?_ ?_
  · refine v_iload d_Morph_restBehind_21 0 rfl ?_
    refine v_aloadn d_Morph_restBehind_23 rfl 1 rfl ?_
    refine v_iloadn d_Morph_restBehind_24 rfl 4 rfl ?_
    refine v_cVi d_Morph_restBehind_25 ml_Morph_33 (q := (RX2, TX2, 3)) rfl (c_Morph_sizeOf l hfl a0 v3 M) (fun _ => rfl) (by decide) (by decide) (as := [xI v3]) (st1 := [xI v4_7]) rfl rfl (Nat.le_of_ble_eq_true rfl) (fun c25 M => ?_)
    refine v_icle d_Morph_restBehind_28 ?_ ?_
    · refine v_aloadn d_Morph_restBehind_46 rfl 1 rfl ?_
      refine v_iloadn d_Morph_restBehind_47 rfl 4 rfl ?_
      refine v_iload d_Morph_restBehind_48 0 rfl ?_
      refine v_cVl d_Morph_restBehind_50 ml_Morph_62 (q := (RX2, TX2, 3)) rfl (c_Morph_restBit l hfl a0 v3 v4_7 M) (fun _ => rfl) (by decide) (by decide) (as := [xI v3, xI v4_7]) (st1 := []) rfl rfl (Nat.le_of_ble_eq_true rfl) (fun c50 M => ?_)
      exact v_ret d_Morph_restBehind_53 rfl
    · refine v_aloadn d_Morph_restBehind_31 rfl 1 rfl ?_
      refine v_iloadn d_Morph_restBehind_32 rfl 2 rfl ?_
      refine v_iloadn d_Morph_restBehind_33 rfl 3 rfl ?_
      refine v_aloadn d_Morph_restBehind_34 rfl 1 rfl ?_
      refine v_iloadn d_Morph_restBehind_35 rfl 4 rfl ?_
      refine v_cVi d_Morph_restBehind_36 ml_Morph_33 (q := (RX2, TX2, 3)) rfl (c_Morph_sizeOf l hfl a0 v3 M) (fun _ => rfl) (by decide) (by decide) (as := [xI v3]) (st1 := [xI v2, xI v1, xA a0]) rfl rfl (Nat.le_of_ble_eq_true rfl) (fun c36 M => ?_)
      refine v_iadd d_Morph_restBehind_39 (fun x39 => ?_)
      refine v_cVl d_Morph_restBehind_40 ml_Morph_62 (q := (RX2, TX2, 3)) rfl (c_Morph_restBit l hfl a0 v1 x39 M) (fun _ => rfl) (by decide) (by decide) (as := [xI v1, xI x39]) (st1 := []) rfl rfl (Nat.le_of_ble_eq_true rfl) (fun c40 M => ?_)
      refine v_goto d_Morph_restBehind_43 ?_
      exact v_ret d_Morph_restBehind_53 rfl
  · refine v_lconst d_Morph_restBehind_19 (v := 1) rfl ?_
    exact v_ret d_Morph_restBehind_20 rfl
set_option maxHeartbeats 4000000 in
set_option maxRecDepth 100000 in
theorem V_lp_Morph_restsBehind_6 {l : Launch} {w : vm_W} (hfl : l.stackTraces = false) (kx42 : Int64 → mm_T → Option (Int64 × mm_T)) (a0 : Nat) (v1 : Int) (v2 : Int) (v3 : Int) (hkx42 : ∀ (w4_e : Int64) (M : mm_T), V_ l w q_Morph_restsBehind 4 ex_J 42 [(4, xJ w4_e)] [] M (kx42 w4_e M)) : ∀ (f : Nat) (w4 : Int64) (v6 : Int) (M : mm_T), V_ l w q_Morph_restsBehind 4 ex_J 6 [(0, xA a0), (1, xI v1), (2, xI v2), (3, xI v3), (4, xJ w4), (6, xI v6)] [] M (lp_Morph_restsBehind_6 kx42 a0 v1 v2 v3 f w4 v6 M) := by
  intro f
  induction f with
  | zero => intros; exact V_.none
  | succ f ih =>
    intro w4 v6 M
    unfold lp_Morph_restsBehind_6
    refine v_iload d_Morph_restsBehind_6 5 rfl ?_
    refine v_iloadn d_Morph_restsBehind_8 rfl 3 rfl ?_
    refine v_icge d_Morph_restsBehind_9 ?_ ?_
    · refine v_sub (ls' := [(4, xJ w4)]) [4] rfl ?_
      exact hkx42 w4 M
    · refine v_aloadn d_Morph_restsBehind_12 rfl 0 rfl ?_
      refine v_iloadn d_Morph_restsBehind_13 rfl 1 rfl ?_
      refine v_iloadn d_Morph_restsBehind_14 rfl 2 rfl ?_
      refine v_iload d_Morph_restsBehind_15 5 rfl ?_
      refine v_cVi d_Morph_restsBehind_17 ml_Morph_54 (q := (RX2, TX2, 3)) rfl (c_Morph_agrees l hfl a0 v1 v2 v6 M) (fun _ => rfl) (by decide) (by decide) (as := [xI v1, xI v2, xI v6]) (st1 := []) rfl rfl (Nat.le_of_ble_eq_true rfl) (fun c17 M => ?_)
      refine v_join1 (pj := 36) (lj := fun w4_36 => [(0, xA a0), (1, xI v1), (2, xI v2), (3, xI v3), (4, xJ w4_36), (6, xI v6)]) (sj := fun w4_36 => []) (fun w4_36 M => ?_) (fun j36 hj36 => ?_)
      · refine v_iinc (lz := fun z => [(6, xI z), (0, xA a0), (1, xI v1), (2, xI v2), (3, xI v3), (4, xJ w4_36)]) d_Morph_restsBehind_36 5 rfl (Nat.le_of_ble_eq_true rfl) (fun _ => rfl) (fun v6_36 => ?_)
        refine v_goto d_Morph_restsBehind_39 ?_
        refine v_sub (ls' := [(0, xA a0), (1, xI v1), (2, xI v2), (3, xI v3), (4, xJ w4_36), (6, xI v6_36)]) [1, 2, 3, 4, 5, 0] rfl ?_
        exact ih w4_36 v6_36 M
      refine v_ifeq d_Morph_restsBehind_20 ?_ ?_
      · exact hj36 w4 M
      · refine v_lload d_Morph_restsBehind_23 4 rfl ?_
        refine v_aloadn d_Morph_restsBehind_25 rfl 0 rfl ?_
        refine v_iloadn d_Morph_restsBehind_26 rfl 1 rfl ?_
        refine v_iloadn d_Morph_restsBehind_27 rfl 2 rfl ?_
        refine v_iload d_Morph_restsBehind_28 5 rfl ?_
        refine v_cVl d_Morph_restsBehind_30 ml_Morph_58 (q := (RX2, TX2, 3)) rfl (c_Morph_restBehind l hfl a0 v1 v2 v6 M) (fun _ => rfl) (by decide) (by decide) (as := [xI v1, xI v2, xI v6]) (st1 := [xJ w4]) rfl rfl (Nat.le_of_ble_eq_true rfl) (fun c30 M => ?_)
        refine v_lor d_Morph_restsBehind_33 ?_
        refine v_lstore (lz := fun z => [(4, xJ z), (0, xA a0), (1, xI v1), (2, xI v2), (3, xI v3), (6, xI v6)]) d_Morph_restsBehind_34 (Nat.le_of_ble_eq_true rfl) (fun _ => rfl) (fun w4_34 => ?_)
        refine v_sub (ls' := [(0, xA a0), (1, xI v1), (2, xI v2), (3, xI v3), (4, xJ w4_34), (6, xI v6)]) [1, 2, 3, 4, 0, 5] rfl ?_
        exact hj36 w4_34 M
set_option maxHeartbeats 4000000 in
set_option maxRecDepth 100000 in
theorem c_Morph_restsBehind (l : Launch) (hfl : l.stackTraces = false) (a0 : Nat) (v1 : Int) (v2 : Int) (v3 : Int) (M : mm_T) : vm_Con l yX2_restsBehind (.code yX2_restsBehind cX2_restsBehind 7 (some .long)) 4 ex_J [xA a0, xI v1, xI v2, xI v3] M (k_Morph_restsBehind a0 v1 v2 v3 M) := by
  refine vm_con (y := q_Morph_restsBehind) hfl (by decide +kernel) rfl (fun h => by cases h) (Nat.le_of_ble_eq_true rfl) rfl (fun _ _ _ => rfl) (fun r E h => by cases h) (fun w => ?_)
  show V_ l w q_Morph_restsBehind 4 ex_J 0 [(0, xA a0), (1, xI v1), (2, xI v2), (3, xI v3)] [] M (k_Morph_restsBehind a0 v1 v2 v3 M)
  unfold k_Morph_restsBehind
  refine v_lconst d_Morph_restsBehind_0 (v := 0) rfl ?_
  refine v_lstore (lz := fun z => [(4, xJ z), (0, xA a0), (1, xI v1), (2, xI v2), (3, xI v3)]) d_Morph_restsBehind_1 (Nat.le_of_ble_eq_true rfl) (fun _ => rfl) (fun w4_1 => ?_)
  refine v_iconst d_Morph_restsBehind_3 (by decide) ?_
  refine v_istore (lz := fun z => [(6, xI z), (4, xJ w4_1), (0, xA a0), (1, xI v1), (2, xI v2), (3, xI v3)]) d_Morph_restsBehind_4 (Nat.le_of_ble_eq_true rfl) (fun _ => rfl) (fun v6_4 => ?_)
  refine v_sub (ls' := [(0, xA a0), (1, xI v1), (2, xI v2), (3, xI v3), (4, xJ w4_1), (6, xI v6_4)]) [2, 3, 4, 5, 1, 0] rfl ?_
  refine V_lp_Morph_restsBehind_6 hfl _ _ _ _ _ (fun w4_42 M => ?_) _ _ _ _
  · refine v_lload d_Morph_restsBehind_42 0 rfl ?_
    exact v_ret d_Morph_restsBehind_44 rfl
set_option maxHeartbeats 4000000 in
set_option maxRecDepth 100000 in
theorem V_lp_Morph_isCode_14 {l : Launch} {w : vm_W} (hfl : l.stackTraces = false) (kx57 : Int64 → mm_T → Option (Int × mm_T)) (a0 : Nat) (v1 : Int) (v4 : Int) (hkx57 : ∀ (w2_e : Int64) (M : mm_T), V_ l w q_Morph_isCode 5 ex_Z 57 [(0, xA a0), (1, xI v1), (2, xJ w2_e), (4, xI v4)] [] M (kx57 w2_e M)) : ∀ (f : Nat) (w2 : Int64) (v5 : Int) (M : mm_T), V_ l w q_Morph_isCode 5 ex_Z 14 [(0, xA a0), (1, xI v1), (2, xJ w2), (4, xI v4), (5, xI v5)] [] M (lp_Morph_isCode_14 kx57 a0 v1 v4 f w2 v5 M) := by
  intro f
  induction f with
  | zero => intros; exact V_.none
  | succ f ih =>
    intro w2 v5 M
    unfold lp_Morph_isCode_14
    refine v_iload d_Morph_isCode_14 4 rfl ?_
    refine v_iloadn d_Morph_isCode_16 rfl 1 rfl ?_
    refine v_icge d_Morph_isCode_17 ?_ ?_
    · refine v_sub (ls' := [(0, xA a0), (1, xI v1), (2, xJ w2), (4, xI v4)]) [0, 1, 2, 3] rfl ?_
      exact hkx57 w2 M
    · refine v_iload d_Morph_isCode_20 3 rfl ?_
      refine v_iload d_Morph_isCode_22 4 rfl ?_
      refine v_join1 (pj := 51) (lj := fun w2_51 => [(0, xA a0), (1, xI v1), (2, xJ w2_51), (4, xI v4), (5, xI v5)]) (sj := fun w2_51 => []) (fun w2_51 M => ?_) (fun j51 hj51 => ?_)
      · refine v_iinc (lz := fun z => [(5, xI z), (0, xA a0), (1, xI v1), (2, xJ w2_51), (4, xI v4)]) d_Morph_isCode_51 4 rfl (Nat.le_of_ble_eq_true rfl) (fun _ => rfl) (fun v5_51 => ?_)
        refine v_goto d_Morph_isCode_54 ?_
        refine v_sub (ls' := [(0, xA a0), (1, xI v1), (2, xJ w2_51), (4, xI v4), (5, xI v5_51)]) [1, 2, 3, 4, 0] rfl ?_
        exact ih w2_51 v5_51 M
      refine v_iceq d_Morph_isCode_24 ?_ ?_
      · exact hj51 w2 M
      · refine v_aloadn d_Morph_isCode_27 rfl 0 rfl ?_
        refine v_iload d_Morph_isCode_28 3 rfl ?_
        refine v_iconst d_Morph_isCode_30 (by decide) ?_
        refine v_iload d_Morph_isCode_31 4 rfl ?_
        refine v_cVi d_Morph_isCode_33 ml_Morph_54 (q := (RX2, TX2, 3)) rfl (c_Morph_agrees l hfl a0 v4 0 v5 M) (fun _ => rfl) (by decide) (by decide) (as := [xI v4, xI 0, xI v5]) (st1 := []) rfl rfl (Nat.le_of_ble_eq_true rfl) (fun c33 M => ?_)
        refine v_ifeq d_Morph_isCode_36 ?_ ?_
        · exact hj51 w2 M
        · refine v_lloadn d_Morph_isCode_39 rfl 2 rfl ?_
          refine v_aloadn d_Morph_isCode_40 rfl 0 rfl ?_
          refine v_iload d_Morph_isCode_41 3 rfl ?_
          refine v_iconst d_Morph_isCode_43 (by decide) ?_
          refine v_iload d_Morph_isCode_44 4 rfl ?_
          refine v_cVl d_Morph_isCode_46 ml_Morph_58 (q := (RX2, TX2, 3)) rfl (c_Morph_restBehind l hfl a0 v4 0 v5 M) (fun _ => rfl) (by decide) (by decide) (as := [xI v4, xI 0, xI v5]) (st1 := [xJ w2]) rfl rfl (Nat.le_of_ble_eq_true rfl) (fun c46 M => ?_)
          refine v_lor d_Morph_isCode_49 ?_
          refine v_lstoren (lz := fun z => [(2, xJ z), (0, xA a0), (1, xI v1), (4, xI v4), (5, xI v5)]) d_Morph_isCode_50 rfl (Nat.le_of_ble_eq_true rfl) (fun _ => rfl) (fun w2_50 => ?_)
          refine v_sub (ls' := [(0, xA a0), (1, xI v1), (2, xJ w2_50), (4, xI v4), (5, xI v5)]) [1, 2, 0, 3, 4] rfl ?_
          exact hj51 w2_50 M
set_option maxHeartbeats 4000000 in
set_option maxRecDepth 100000 in
theorem V_lp_Morph_isCode_5 {l : Launch} {w : vm_W} (hfl : l.stackTraces = false) (kx63 : Int64 → mm_T → Option (Int × mm_T)) (a0 : Nat) (v1 : Int) (hkx63 : ∀ (w2_e : Int64) (M : mm_T), V_ l w q_Morph_isCode 5 ex_Z 63 [(0, xA a0), (1, xI v1), (2, xJ w2_e)] [] M (kx63 w2_e M)) : ∀ (f : Nat) (w2 : Int64) (v4 : Int) (M : mm_T), V_ l w q_Morph_isCode 5 ex_Z 5 [(0, xA a0), (1, xI v1), (2, xJ w2), (4, xI v4)] [] M (lp_Morph_isCode_5 kx63 a0 v1 f w2 v4 M) := by
  intro f
  induction f with
  | zero => intros; exact V_.none
  | succ f ih =>
    intro w2 v4 M
    unfold lp_Morph_isCode_5
    refine v_iload d_Morph_isCode_5 3 rfl ?_
    refine v_iloadn d_Morph_isCode_7 rfl 1 rfl ?_
    refine v_icge d_Morph_isCode_8 ?_ ?_
    · refine v_sub (ls' := [(0, xA a0), (1, xI v1), (2, xJ w2)]) [0, 1, 2] rfl ?_
      exact hkx63 w2 M
    · refine v_iconst d_Morph_isCode_11 (by decide) ?_
      refine v_istore (lz := fun z => [(5, xI z), (0, xA a0), (1, xI v1), (2, xJ w2), (4, xI v4)]) d_Morph_isCode_12 (Nat.le_of_ble_eq_true rfl) (fun _ => rfl) (fun v5_12 => ?_)
      refine v_sub (ls' := [(0, xA a0), (1, xI v1), (2, xJ w2), (4, xI v4), (5, xI v5_12)]) [1, 2, 3, 4, 0] rfl ?_
      refine V_lp_Morph_isCode_14 hfl _ _ _ _ (fun w2_57 M => ?_) _ _ _ _
      · refine v_iinc (lz := fun z => [(4, xI z), (0, xA a0), (1, xI v1), (2, xJ w2_57)]) d_Morph_isCode_57 3 rfl (Nat.le_of_ble_eq_true rfl) (fun _ => rfl) (fun v4_57 => ?_)
        refine v_goto d_Morph_isCode_60 ?_
        refine v_sub (ls' := [(0, xA a0), (1, xI v1), (2, xJ w2_57), (4, xI v4_57)]) [1, 2, 3, 0] rfl ?_
        exact ih w2_57 v4_57 M
set_option maxHeartbeats 4000000 in
set_option maxRecDepth 100000 in
theorem V_lp_Morph_isCode_93 {l : Launch} {w : vm_W} (hfl : l.stackTraces = false) (kx137 : Int64 → mm_T → Option (Int × mm_T)) (a0 : Nat) (v1 : Int) (v5 : Int) {v4 : Int} (hkx137 : ∀ (w2_e : Int64) (M : mm_T), V_ l w q_Morph_isCode 5 ex_Z 137 [(0, xA a0), (1, xI v1), (2, xJ w2_e), (4, xI v4), (5, xI v5)] [] M (kx137 w2_e M)) : ∀ (f : Nat) (w2 : Int64) (v6 : Int) (M : mm_T), V_ l w q_Morph_isCode 5 ex_Z 93 [(0, xA a0), (1, xI v1), (2, xJ w2), (4, xI v4), (5, xI v5), (6, xI v6)] [] M (lp_Morph_isCode_93 kx137 a0 v1 v5 f w2 v6 M) := by
  intro f
  induction f with
  | zero => intros; exact V_.none
  | succ f ih =>
    intro w2 v6 M
    unfold lp_Morph_isCode_93
    refine v_iload d_Morph_isCode_93 5 rfl ?_
    refine v_aloadn d_Morph_isCode_95 rfl 0 rfl ?_
    refine v_iload d_Morph_isCode_96 4 rfl ?_
    refine v_cVi d_Morph_isCode_98 ml_Morph_33 (q := (RX2, TX2, 3)) rfl (c_Morph_sizeOf l hfl a0 v5 M) (fun _ => rfl) (by decide) (by decide) (as := [xI v5]) (st1 := [xI v6]) rfl rfl (Nat.le_of_ble_eq_true rfl) (fun c98 M => ?_)
    refine v_icge d_Morph_isCode_101 ?_ ?_
    · refine v_sub (ls' := [(0, xA a0), (1, xI v1), (2, xJ w2), (4, xI v4), (5, xI v5)]) [0, 1, 2, 3, 4] rfl ?_
      exact hkx137 w2 M
    · refine v_lloadn d_Morph_isCode_104 rfl 2 rfl ?_
      refine v_aloadn d_Morph_isCode_105 rfl 0 rfl ?_
      refine v_iload d_Morph_isCode_106 4 rfl ?_
      refine v_iload d_Morph_isCode_108 5 rfl ?_
      refine v_cVl d_Morph_isCode_110 ml_Morph_62 (q := (RX2, TX2, 3)) rfl (c_Morph_restBit l hfl a0 v5 v6 M) (fun _ => rfl) (by decide) (by decide) (as := [xI v5, xI v6]) (st1 := [xJ w2]) rfl rfl (Nat.le_of_ble_eq_true rfl) (fun c110 M => ?_)
      refine v_land d_Morph_isCode_113 ?_
      refine v_lconst d_Morph_isCode_114 (v := 0) rfl ?_
      refine v_lcmp d_Morph_isCode_115 ?_
      refine v_join1 (pj := 131) (lj := fun w2_131 => [(0, xA a0), (1, xI v1), (2, xJ w2_131), (4, xI v4), (5, xI v5), (6, xI v6)]) (sj := fun w2_131 => []) (fun w2_131 M => ?_) (fun j131 hj131 => ?_)
      · refine v_iinc (lz := fun z => [(6, xI z), (0, xA a0), (1, xI v1), (2, xJ w2_131), (4, xI v4), (5, xI v5)]) d_Morph_isCode_131 5 rfl (Nat.le_of_ble_eq_true rfl) (fun _ => rfl) (fun v6_131 => ?_)
        refine v_goto d_Morph_isCode_134 ?_
        refine v_sub (ls' := [(0, xA a0), (1, xI v1), (2, xJ w2_131), (4, xI v4), (5, xI v5), (6, xI v6_131)]) [1, 2, 3, 4, 5, 0] rfl ?_
        exact ih w2_131 v6_131 M
      refine v_ifeq d_Morph_isCode_116 ?_ ?_
      · exact hj131 w2 M
      · refine v_lloadn d_Morph_isCode_119 rfl 2 rfl ?_
        refine v_aloadn d_Morph_isCode_120 rfl 0 rfl ?_
        refine v_iload d_Morph_isCode_121 4 rfl ?_
        refine v_iload d_Morph_isCode_123 5 rfl ?_
        refine v_iloadn d_Morph_isCode_125 rfl 1 rfl ?_
        refine v_cVl d_Morph_isCode_126 ml_Morph_66 (q := (RX2, TX2, 3)) rfl (c_Morph_restsBehind l hfl a0 v5 v6 v1 M) (fun _ => rfl) (by decide) (by decide) (as := [xI v5, xI v6, xI v1]) (st1 := [xJ w2]) rfl rfl (Nat.le_of_ble_eq_true rfl) (fun c126 M => ?_)
        refine v_lor d_Morph_isCode_129 ?_
        refine v_lstoren (lz := fun z => [(2, xJ z), (0, xA a0), (1, xI v1), (4, xI v4), (5, xI v5), (6, xI v6)]) d_Morph_isCode_130 rfl (Nat.le_of_ble_eq_true rfl) (fun _ => rfl) (fun w2_130 => ?_)
        refine v_sub (ls' := [(0, xA a0), (1, xI v1), (2, xJ w2_130), (4, xI v4), (5, xI v5), (6, xI v6)]) [1, 2, 0, 3, 4, 5] rfl ?_
        exact hj131 w2_130 M
set_option maxHeartbeats 4000000 in
set_option maxRecDepth 100000 in
theorem V_lp_Morph_isCode_84 {l : Launch} {w : vm_W} (hfl : l.stackTraces = false) (kx143 : Int64 → mm_T → Option (Int × mm_T)) (a0 : Nat) (v1 : Int) {v4 : Int} (hkx143 : ∀ (w2_e : Int64) (M : mm_T), V_ l w q_Morph_isCode 5 ex_Z 143 [(0, xA a0), (1, xI v1), (2, xJ w2_e), (4, xI v4)] [] M (kx143 w2_e M)) : ∀ (f : Nat) (w2 : Int64) (v5 : Int) (M : mm_T), V_ l w q_Morph_isCode 5 ex_Z 84 [(0, xA a0), (1, xI v1), (2, xJ w2), (4, xI v4), (5, xI v5)] [] M (lp_Morph_isCode_84 kx143 a0 v1 f w2 v5 M) := by
  intro f
  induction f with
  | zero => intros; exact V_.none
  | succ f ih =>
    intro w2 v5 M
    unfold lp_Morph_isCode_84
    refine v_iload d_Morph_isCode_84 4 rfl ?_
    refine v_iloadn d_Morph_isCode_86 rfl 1 rfl ?_
    refine v_icge d_Morph_isCode_87 ?_ ?_
    · refine v_sub (ls' := [(0, xA a0), (1, xI v1), (2, xJ w2), (4, xI v4)]) [0, 1, 2, 3] rfl ?_
      exact hkx143 w2 M
    · refine v_iconst d_Morph_isCode_90 (by decide) ?_
      refine v_istore (lz := fun z => [(6, xI z), (0, xA a0), (1, xI v1), (2, xJ w2), (4, xI v4), (5, xI v5)]) d_Morph_isCode_91 (Nat.le_of_ble_eq_true rfl) (fun _ => rfl) (fun v6_91 => ?_)
      refine v_sub (ls' := [(0, xA a0), (1, xI v1), (2, xJ w2), (4, xI v4), (5, xI v5), (6, xI v6_91)]) [1, 2, 3, 4, 5, 0] rfl ?_
      refine V_lp_Morph_isCode_93 hfl _ _ _ _ (fun w2_137 M => ?_) _ _ _ _
      · refine v_iinc (lz := fun z => [(5, xI z), (0, xA a0), (1, xI v1), (2, xJ w2_137), (4, xI v4)]) d_Morph_isCode_137 4 rfl (Nat.le_of_ble_eq_true rfl) (fun _ => rfl) (fun v5_137 => ?_)
        refine v_goto d_Morph_isCode_140 ?_
        refine v_sub (ls' := [(0, xA a0), (1, xI v1), (2, xJ w2_137), (4, xI v4), (5, xI v5_137)]) [1, 2, 3, 4, 0] rfl ?_
        exact ih w2_137 v5_137 M
set_option maxHeartbeats 4000000 in
set_option maxRecDepth 100000 in
theorem V_lp_Morph_isCode_66 {l : Launch} {w : vm_W} (hfl : l.stackTraces = false) (kx149 : Int64 → mm_T → Option (Int × mm_T)) (a0 : Nat) (v1 : Int) (hkx149 : ∀ (w2_e : Int64) (M : mm_T), V_ l w q_Morph_isCode 5 ex_Z 149 [(2, xJ w2_e)] [] M (kx149 w2_e M)) : ∀ (f : Nat) (w2 : Int64) (v4 : Int) (M : mm_T), V_ l w q_Morph_isCode 5 ex_Z 66 [(0, xA a0), (1, xI v1), (2, xJ w2), (4, xI v4)] [] M (lp_Morph_isCode_66 kx149 a0 v1 f w2 v4 M) := by
  intro f
  induction f with
  | zero => intros; exact V_.none
  | succ f ih =>
    intro w2 v4 M
    unfold lp_Morph_isCode_66
    refine v_iload d_Morph_isCode_66 3 rfl ?_
    refine v_bipush d_Morph_isCode_68 (by decide) ?_
    refine v_icge d_Morph_isCode_70 ?_ ?_
    · refine v_sub (ls' := [(2, xJ w2)]) [2] rfl ?_
      exact hkx149 w2 M
    · refine v_lloadn d_Morph_isCode_73 rfl 2 rfl ?_
      refine v_lconst d_Morph_isCode_74 (v := 1) rfl ?_
      refine v_land d_Morph_isCode_75 ?_
      refine v_lconst d_Morph_isCode_76 (v := 0) rfl ?_
      refine v_lcmp d_Morph_isCode_77 ?_
      refine v_ifne d_Morph_isCode_78 ?_ ?_
      · refine v_sub (ls' := [(2, xJ w2)]) [2] rfl ?_
        exact hkx149 w2 M
      · refine v_iconst d_Morph_isCode_81 (by decide) ?_
        refine v_istore (lz := fun z => [(5, xI z), (0, xA a0), (1, xI v1), (2, xJ w2), (4, xI v4)]) d_Morph_isCode_82 (Nat.le_of_ble_eq_true rfl) (fun _ => rfl) (fun v5_82 => ?_)
        refine v_sub (ls' := [(0, xA a0), (1, xI v1), (2, xJ w2), (4, xI v4), (5, xI v5_82)]) [1, 2, 3, 4, 0] rfl ?_
        refine V_lp_Morph_isCode_84 hfl _ _ _ (fun w2_143 M => ?_) _ _ _ _
        · refine v_iinc (lz := fun z => [(4, xI z), (0, xA a0), (1, xI v1), (2, xJ w2_143)]) d_Morph_isCode_143 3 rfl (Nat.le_of_ble_eq_true rfl) (fun _ => rfl) (fun v4_143 => ?_)
          refine v_goto d_Morph_isCode_146 ?_
          refine v_sub (ls' := [(0, xA a0), (1, xI v1), (2, xJ w2_143), (4, xI v4_143)]) [1, 2, 3, 0] rfl ?_
          exact ih w2_143 v4_143 M
set_option maxHeartbeats 4000000 in
set_option maxRecDepth 100000 in
theorem c_Morph_isCode (l : Launch) (hfl : l.stackTraces = false) (a0 : Nat) (v1 : Int) (M : mm_T) : vm_Con l yX2_isCode (.code yX2_isCode cX2_isCode 7 (some .boolean)) 5 ex_Z [xA a0, xI v1] M (k_Morph_isCode a0 v1 M) := by
  refine vm_con (y := q_Morph_isCode) hfl (by decide +kernel) rfl (fun h => by cases h) (Nat.le_of_ble_eq_true rfl) rfl (fun _ _ _ => rfl) (fun r E h => by cases h) (fun w => ?_)
  show V_ l w q_Morph_isCode 5 ex_Z 0 [(0, xA a0), (1, xI v1)] [] M (k_Morph_isCode a0 v1 M)
  unfold k_Morph_isCode
  refine v_lconst d_Morph_isCode_0 (v := 0) rfl ?_
  refine v_lstoren (lz := fun z => [(2, xJ z), (0, xA a0), (1, xI v1)]) d_Morph_isCode_1 rfl (Nat.le_of_ble_eq_true rfl) (fun _ => rfl) (fun w2_1 => ?_)
  refine v_iconst d_Morph_isCode_2 (by decide) ?_
  refine v_istore (lz := fun z => [(4, xI z), (2, xJ w2_1), (0, xA a0), (1, xI v1)]) d_Morph_isCode_3 (Nat.le_of_ble_eq_true rfl) (fun _ => rfl) (fun v4_3 => ?_)
  refine v_sub (ls' := [(0, xA a0), (1, xI v1), (2, xJ w2_1), (4, xI v4_3)]) [2, 3, 1, 0] rfl ?_
  refine V_lp_Morph_isCode_5 hfl _ _ _ (fun w2_63 M => ?_) _ _ _ _
  · refine v_iconst d_Morph_isCode_63 (by decide) ?_
    refine v_istore (lz := fun z => [(4, xI z), (0, xA a0), (1, xI v1), (2, xJ w2_63)]) d_Morph_isCode_64 (Nat.le_of_ble_eq_true rfl) (fun _ => rfl) (fun v4_64 => ?_)
    refine v_sub (ls' := [(0, xA a0), (1, xI v1), (2, xJ w2_63), (4, xI v4_64)]) [1, 2, 3, 0] rfl ?_
    refine V_lp_Morph_isCode_66 hfl _ _ _ (fun w2_149 M => ?_) _ _ _ _
    · refine v_lloadn d_Morph_isCode_149 rfl 0 rfl ?_
      refine v_lconst d_Morph_isCode_150 (v := 1) rfl ?_
      refine v_land d_Morph_isCode_151 ?_
      refine v_lconst d_Morph_isCode_152 (v := 0) rfl ?_
      refine v_lcmp d_Morph_isCode_153 ?_
      refine v_ifne d_Morph_isCode_154 ?_ ?_
      · refine v_iconst d_Morph_isCode_161 (by decide) ?_
        exact v_zret d_Morph_isCode_162 rfl
      · refine v_iconst d_Morph_isCode_157 (by decide) ?_
        refine v_goto d_Morph_isCode_158 ?_
        exact v_zret d_Morph_isCode_162 rfl
set_option maxHeartbeats 4000000 in
set_option maxRecDepth 100000 in
theorem V_lp_Told_avoidedCount_4 {l : Launch} {w : vm_W} (hfl : l.stackTraces = false) (kx38 : Int → mm_T → Option (Int × mm_T)) (a0 : Nat) (hkx38 : ∀ (v1_e : Int) (M : mm_T), V_ l w q_Told_avoidedCount 2 ex_I 38 [(1, xI v1_e)] [] M (kx38 v1_e M)) : ∀ (f : Nat) (v1 : Int) (v2 : Int) (M : mm_T), V_ l w q_Told_avoidedCount 2 ex_I 4 [(0, xA a0), (1, xI v1), (2, xI v2)] [] M (lp_Told_avoidedCount_4 kx38 a0 f v1 v2 M) := by
  intro f
  induction f with
  | zero => intros; exact V_.none
  | succ f ih =>
    intro v1 v2 M
    unfold lp_Told_avoidedCount_4
    refine v_iloadn d_Told_avoidedCount_4 rfl 2 rfl ?_
    refine v_aloadn d_Told_avoidedCount_5 rfl 0 rfl ?_
    refine v_gI d_Told_avoidedCount_6 fl_Told_39 rfl (fun x6 => ?_)
    refine v_icge d_Told_avoidedCount_9 ?_ ?_
    · refine v_sub (ls' := [(1, xI v1)]) [1] rfl ?_
      exact hkx38 v1 M
    · refine v_aloadn d_Told_avoidedCount_12 rfl 0 rfl ?_
      refine v_iloadn d_Told_avoidedCount_13 rfl 2 rfl ?_
      refine v_cVq d_Told_avoidedCount_14 ml_Told_62 (q := (RX9, TX9, 8)) rfl (c_Told_shapeAt l hfl a0 v2 M) (fun _ => rfl) (by decide) (by decide) (as := [xI v2]) (st1 := []) rfl rfl (Nat.le_of_ble_eq_true rfl) (fun c14 M => ?_)
      refine v_astoren (lz := fun z => [(3, xA z), (0, xA a0), (1, xI v1), (2, xI v2)]) d_Told_avoidedCount_17 rfl (Nat.le_of_ble_eq_true rfl) (fun _ => rfl) (fun a3_17 => ?_)
      refine v_aloadn d_Told_avoidedCount_18 rfl 0 rfl ?_
      refine v_join1 (pj := 32) (lj := fun v1_32 => [(0, xA a0), (1, xI v1_32), (2, xI v2)]) (sj := fun v1_32 => []) (fun v1_32 M => ?_) (fun j32 hj32 => ?_)
      · refine v_iinc (lz := fun z => [(2, xI z), (0, xA a0), (1, xI v1_32)]) d_Told_avoidedCount_32 2 rfl (Nat.le_of_ble_eq_true rfl) (fun _ => rfl) (fun v2_32 => ?_)
        refine v_goto d_Told_avoidedCount_35 ?_
        refine v_sub (ls' := [(0, xA a0), (1, xI v1_32), (2, xI v2_32)]) [1, 2, 0] rfl ?_
        exact ih v1_32 v2_32 M
      refine v_ifnull d_Told_avoidedCount_19 ?_ ?_
      · refine v_sub (ls' := [(0, xA a0), (1, xI v1), (2, xI v2)]) [1, 2, 3] rfl ?_
        exact hj32 v1 M
      · refine v_aloadn d_Told_avoidedCount_22 rfl 0 rfl ?_
        refine v_gI d_Told_avoidedCount_23 fl_Told_67 rfl (fun x23 => ?_)
        refine v_ifeq d_Told_avoidedCount_26 ?_ ?_
        · refine v_sub (ls' := [(0, xA a0), (1, xI v1), (2, xI v2)]) [1, 2, 3] rfl ?_
          exact hj32 v1 M
        · refine v_iinc (lz := fun z => [(1, xI z), (3, xA a3_17), (0, xA a0), (2, xI v2)]) d_Told_avoidedCount_29 2 rfl (Nat.le_of_ble_eq_true rfl) (fun _ => rfl) (fun v1_29 => ?_)
          refine v_sub (ls' := [(0, xA a0), (1, xI v1_29), (2, xI v2)]) [2, 0, 3] rfl ?_
          exact hj32 v1_29 M
set_option maxHeartbeats 4000000 in
set_option maxRecDepth 100000 in
theorem c_Told_avoidedCount (l : Launch) (hfl : l.stackTraces = false) (a0 : Nat) (M : mm_T) : vm_Con l yX9_avoidedCount (.code yX9_avoidedCount cX9_avoidedCount 4 (some .int)) 2 ex_I [xA a0] M (k_Told_avoidedCount a0 M) := by
  refine vm_con (y := q_Told_avoidedCount) hfl (by decide +kernel) rfl (fun h => by cases h) (Nat.le_of_ble_eq_true rfl) rfl (fun _ _ _ => rfl) (fun r E h => by cases h) (fun w => ?_)
  show V_ l w q_Told_avoidedCount 2 ex_I 0 [(0, xA a0)] [] M (k_Told_avoidedCount a0 M)
  unfold k_Told_avoidedCount
  refine v_iconst d_Told_avoidedCount_0 (by decide) ?_
  refine v_istoren (lz := fun z => [(1, xI z), (0, xA a0)]) d_Told_avoidedCount_1 rfl (Nat.le_of_ble_eq_true rfl) (fun _ => rfl) (fun v1_1 => ?_)
  refine v_iconst d_Told_avoidedCount_2 (by decide) ?_
  refine v_istoren (lz := fun z => [(2, xI z), (1, xI v1_1), (0, xA a0)]) d_Told_avoidedCount_3 rfl (Nat.le_of_ble_eq_true rfl) (fun _ => rfl) (fun v2_3 => ?_)
  refine v_sub (ls' := [(0, xA a0), (1, xI v1_1), (2, xI v2_3)]) [2, 1, 0] rfl ?_
  refine V_lp_Told_avoidedCount_4 hfl _ _ (fun v1_38 M => ?_) _ _ _ _
  · refine v_iloadn d_Told_avoidedCount_38 rfl 0 rfl ?_
    exact v_ret d_Told_avoidedCount_39 rfl
