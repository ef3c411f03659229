set_option maxHeartbeats 4000000 in
set_option maxRecDepth 100000 in
theorem c_X_init (l : Launch) (hfl : l.stackTraces = false) (a0 : Nat) (M : mm_T) : vm_Con l yX10_init (.code yX10_init cX10_init 1 none) 4 ex_V [xA a0] M (k_X_init a0 M) := by
  refine vm_con (y := q_X_init) hfl (by decide +kernel) rfl (fun _ => rfl) (Nat.le_of_ble_eq_true rfl) rfl (fun _ _ _ => rfl) (fun r E h => by cases h) (fun w => ?_)
  show V_ l w q_X_init 4 ex_V 0 [(0, xA a0)] [] M (k_X_init a0 M)
  unfold k_X_init
  refine v_aloadn d_X_init_0 rfl 0 rfl ?_
  refine v_objinit d_X_init_1 (q := (RX10, TX10, 10)) rfl gw_140 gw_141 gw_142 (by decide) ?_
  refine v_aloadn d_X_init_4 rfl 0 rfl ?_
  refine v_new d_X_init_5 (q := (RX4, TX4, 5)) rfl rfl gw_143 gw_144 gw_112 df_4 (fun r5 M => ?_)
  refine v_dup d_X_init_8 rfl ?_
  refine v_cINv d_X_init_9 ml_X_9 ml_X_9_i (q := (RX4, TX4, 5)) rfl (c_Reader_init l hfl r5 M) (fun _ => rfl) (by decide) (by decide) (as := []) (st1 := [xA r5, xA a0]) rfl rfl (Nat.le_of_ble_eq_true rfl) (fun _ M => ?_)
  refine v_pR (ty := .object "RepeatFree$Reader") d_X_init_12 fl_X_10 (Or.inr ⟨rfl, rfl, gw_393, rfl⟩) rfl rfl (fun v hv => by rcases hv with rfl | ⟨b, rfl⟩ <;> exact ⟨rfl, rfl⟩) (fun M => ?_)
  refine v_aloadn d_X_init_15 rfl 0 rfl ?_
  refine v_new d_X_init_16 (q := (RX9, TX9, 8)) rfl rfl gw_183 gw_184 gw_114 df_9 (fun r16 M => ?_)
  refine v_dup d_X_init_19 rfl ?_
  refine v_cIv d_X_init_20 ml_X_18 (q := (RX9, TX9, 8)) rfl (c_Told_init l hfl r16 M) (fun _ => rfl) (by decide) (by decide) (as := []) (st1 := [xA r16, xA a0]) rfl rfl (Nat.le_of_ble_eq_true rfl) (fun _ M => ?_)
  refine v_pR (ty := .object "RepeatFree$Told") d_X_init_23 fl_X_19 (Or.inl rfl) rfl rfl (fun v hv => by rcases hv with rfl | ⟨b, rfl⟩ <;> exact ⟨rfl, rfl⟩) (fun M => ?_)
  refine v_aloadn d_X_init_26 rfl 0 rfl ?_
  refine v_new d_X_init_27 (q := (RX9, TX9, 8)) rfl rfl gw_183 gw_184 gw_114 df_9 (fun r27 M => ?_)
  refine v_dup d_X_init_30 rfl ?_
  refine v_cIv d_X_init_31 ml_X_18 (q := (RX9, TX9, 8)) rfl (c_Told_init l hfl r27 M) (fun _ => rfl) (by decide) (by decide) (as := []) (st1 := [xA r27, xA a0]) rfl rfl (Nat.le_of_ble_eq_true rfl) (fun _ M => ?_)
  refine v_pR (ty := .object "RepeatFree$Told") d_X_init_34 fl_X_23 (Or.inl rfl) rfl rfl (fun v hv => by rcases hv with rfl | ⟨b, rfl⟩ <;> exact ⟨rfl, rfl⟩) (fun M => ?_)
  refine v_aloadn d_X_init_37 rfl 0 rfl ?_
  refine v_new d_X_init_38 (q := (RX7, TX7, 2)) rfl rfl gw_293 gw_294 gw_118 df_7 (fun r38 M => ?_)
  refine v_dup d_X_init_41 rfl ?_
  refine v_cINv d_X_init_42 ml_X_28 ml_X_28_i (q := (RX7, TX7, 2)) rfl (c_Sizes_init l hfl r38 M) (fun _ => rfl) (by decide) (by decide) (as := []) (st1 := [xA r38, xA a0]) rfl rfl (Nat.le_of_ble_eq_true rfl) (fun _ M => ?_)
  refine v_pR (ty := .object "RepeatFree$Sizes") d_X_init_45 fl_X_29 (Or.inr ⟨rfl, rfl, gw_399, rfl⟩) rfl rfl (fun v hv => by rcases hv with rfl | ⟨b, rfl⟩ <;> exact ⟨rfl, rfl⟩) (fun M => ?_)
  refine v_aloadn d_X_init_48 rfl 0 rfl ?_
  refine v_new d_X_init_49 (q := (RX1, TX1, 5)) rfl rfl gw_306 gw_307 gw_119 df_1 (fun r49 M => ?_)
  refine v_dup d_X_init_52 rfl ?_
  refine v_cINv d_X_init_53 ml_X_35 ml_X_35_i (q := (RX1, TX1, 5)) rfl (c_Line_init l hfl r49 M) (fun _ => rfl) (by decide) (by decide) (as := []) (st1 := [xA r49, xA a0]) rfl rfl (Nat.le_of_ble_eq_true rfl) (fun _ M => ?_)
  refine v_pR (ty := .object "RepeatFree$Line") d_X_init_56 fl_X_36 (Or.inr ⟨rfl, rfl, gw_396, rfl⟩) rfl rfl (fun v hv => by rcases hv with rfl | ⟨b, rfl⟩ <;> exact ⟨rfl, rfl⟩) (fun M => ?_)
  refine v_aloadn d_X_init_59 rfl 0 rfl ?_
  refine v_new d_X_init_60 (q := (RX1, TX1, 5)) rfl rfl gw_306 gw_307 gw_119 df_1 (fun r60 M => ?_)
  refine v_dup d_X_init_63 rfl ?_
  refine v_cINv d_X_init_64 ml_X_35 ml_X_35_i (q := (RX1, TX1, 5)) rfl (c_Line_init l hfl r60 M) (fun _ => rfl) (by decide) (by decide) (as := []) (st1 := [xA r60, xA a0]) rfl rfl (Nat.le_of_ble_eq_true rfl) (fun _ M => ?_)
  refine v_pR (ty := .object "RepeatFree$Line") d_X_init_67 fl_X_40 (Or.inr ⟨rfl, rfl, gw_397, rfl⟩) rfl rfl (fun v hv => by rcases hv with rfl | ⟨b, rfl⟩ <;> exact ⟨rfl, rfl⟩) (fun M => ?_)
  refine v_aloadn d_X_init_70 rfl 0 rfl ?_
  refine v_new d_X_init_71 (q := (RX5, TX5, 7)) rfl rfl gw_337 gw_338 gw_120 df_5 (fun r71 M => ?_)
  refine v_dup d_X_init_74 rfl ?_
  refine v_cINv d_X_init_75 ml_X_45 ml_X_45_i (q := (RX5, TX5, 7)) rfl (c_Search_init l hfl r71 M) (fun _ => rfl) (by decide) (by decide) (as := []) (st1 := [xA r71, xA a0]) rfl rfl (Nat.le_of_ble_eq_true rfl) (fun _ M => ?_)
  refine v_pR (ty := .object "RepeatFree$Search") d_X_init_78 fl_X_46 (Or.inr ⟨rfl, rfl, gw_398, rfl⟩) rfl rfl (fun v hv => by rcases hv with rfl | ⟨b, rfl⟩ <;> exact ⟨rfl, rfl⟩) (fun M => ?_)
  refine v_aloadn d_X_init_81 rfl 0 rfl ?_
  refine v_new d_X_init_82 (q := (RX0, TX0, 4)) rfl rfl gw_370 gw_371 gw_121 df_0 (fun r82 M => ?_)
  refine v_dup d_X_init_85 rfl ?_
  refine v_cINv d_X_init_86 ml_X_52 ml_X_52_i (q := (RX0, TX0, 4)) rfl (c_Acts_init l hfl r82 M) (fun _ => rfl) (by decide) (by decide) (as := []) (st1 := [xA r82, xA a0]) rfl rfl (Nat.le_of_ble_eq_true rfl) (fun _ M => ?_)
  refine v_pR (ty := .object "RepeatFree$Acts") d_X_init_89 fl_X_53 (Or.inr ⟨rfl, rfl, gw_400, rfl⟩) rfl rfl (fun v hv => by rcases hv with rfl | ⟨b, rfl⟩ <;> exact ⟨rfl, rfl⟩) (fun M => ?_)
  refine v_aloadn d_X_init_92 rfl 0 rfl ?_
  refine v_bipush d_X_init_93 (by decide) ?_
  refine v_iconst d_X_init_95 (by decide) ?_
  refine v_mna (t := 5) (u := 3) (ty := .long) d_X_init_96 rfl rfl (by decide) gw_391 gw_424 (Or.inr rfl) rfl (fun r96 M => ?_)
  refine v_pR (ty := .array (.array .long)) d_X_init_100 fl_X_59 (Or.inr ⟨rfl, rfl, gw_401, rfl⟩) rfl rfl (fun v hv => by rcases hv with rfl | ⟨b, rfl⟩ <;> exact ⟨rfl, rfl⟩) (fun M => ?_)
  refine v_aloadn d_X_init_103 rfl 0 rfl ?_
  refine v_bipush d_X_init_104 (by decide) ?_
  refine v_newa (t := 3) d_X_init_106 rfl gw_424 rfl (by decide) (fun r106 M => ?_)
  refine v_pR (ty := .array .long) d_X_init_108 fl_X_62 (Or.inr ⟨rfl, rfl, gw_402, rfl⟩) rfl rfl (fun v hv => by rcases hv with rfl | ⟨b, rfl⟩ <;> exact ⟨rfl, rfl⟩) (fun M => ?_)
  exact v_vret d_X_init_111 rfl
set_option maxHeartbeats 4000000 in
set_option maxRecDepth 100000 in
theorem c_X_feed (l : Launch) (hfl : l.stackTraces = false) (a0 : Nat) (v1 : Int) (v2 : Int) (v3 : Int) (v4 : Int) (v5 : Int) (M : mm_T) : vm_Con l yX10_feed (.code yX10_feed cX10_feed 7 (some .int)) 2 ex_I [xA a0, xI v1, xI v2, xI v3, xI v4, xI v5] M (k_X_feed a0 v1 v2 v3 v4 v5 M) := by
  refine vm_con (y := q_X_feed) hfl (by decide +kernel) rfl (fun h => by cases h) (Nat.le_of_ble_eq_true rfl) rfl (fun _ _ _ => rfl) (fun r E h => by cases h) (fun w => ?_)
  show V_ l w q_X_feed 2 ex_I 0 [(0, xA a0), (1, xI v1), (2, xI v2), (3, xI v3), (4, xI v4), (5, xI v5)] [] M (k_X_feed a0 v1 v2 v3 v4 v5 M)
  unfold k_X_feed
  refine v_aloadn d_X_feed_0 rfl 0 rfl ?_
  refine v_gR d_X_feed_1 fl_X_10 rfl (fun r1 => ?_)
  refine v_gR d_X_feed_4 fl_X_66 rfl (fun r4 => ?_)
  refine v_astore (lz := fun z => [(6, xA z), (0, xA a0), (1, xI v1), (2, xI v2), (3, xI v3), (4, xI v4), (5, xI v5)]) d_X_feed_7 (Nat.le_of_ble_eq_true rfl) (fun _ => rfl) (fun a6_7 => ?_)
  refine v_aload d_X_feed_9 0 rfl ?_
  refine v_gI d_X_feed_11 fl_X_70 rfl (fun x11 => ?_)
  refine v_bipush d_X_feed_14 (by decide) ?_
  refine v_iadd d_X_feed_16 (fun x16 => ?_)
  refine v_sipush d_X_feed_17 (by decide) ?_
  refine v_icle d_X_feed_20 ?_ ?_
  · refine v_aload d_X_feed_25 0 rfl ?_
    refine v_iloadn d_X_feed_27 rfl 2 rfl ?_
    refine v_cVv d_X_feed_28 ml_X_76 (q := (RX8, TX8, 2)) rfl (c_Tape_add l hfl a6_7 v1 M) (fun _ => rfl) (by decide) (by decide) (as := [xI v1]) (st1 := []) rfl rfl (Nat.le_of_ble_eq_true rfl) (fun _ M => ?_)
    refine v_aload d_X_feed_31 0 rfl ?_
    refine v_iloadn d_X_feed_33 rfl 3 rfl ?_
    refine v_cVv d_X_feed_34 ml_X_76 (q := (RX8, TX8, 2)) rfl (c_Tape_add l hfl a6_7 v2 M) (fun _ => rfl) (by decide) (by decide) (as := [xI v2]) (st1 := []) rfl rfl (Nat.le_of_ble_eq_true rfl) (fun _ M => ?_)
    refine v_aload d_X_feed_37 0 rfl ?_
    refine v_iloadn d_X_feed_39 rfl 4 rfl ?_
    refine v_cVv d_X_feed_40 ml_X_76 (q := (RX8, TX8, 2)) rfl (c_Tape_add l hfl a6_7 v3 M) (fun _ => rfl) (by decide) (by decide) (as := [xI v3]) (st1 := []) rfl rfl (Nat.le_of_ble_eq_true rfl) (fun _ M => ?_)
    refine v_aload d_X_feed_43 0 rfl ?_
    refine v_iload d_X_feed_45 5 rfl ?_
    refine v_cVv d_X_feed_47 ml_X_76 (q := (RX8, TX8, 2)) rfl (c_Tape_add l hfl a6_7 v4 M) (fun _ => rfl) (by decide) (by decide) (as := [xI v4]) (st1 := []) rfl rfl (Nat.le_of_ble_eq_true rfl) (fun _ M => ?_)
    refine v_aload d_X_feed_50 0 rfl ?_
    refine v_iload d_X_feed_52 6 rfl ?_
    refine v_cVv d_X_feed_54 ml_X_76 (q := (RX8, TX8, 2)) rfl (c_Tape_add l hfl a6_7 v5 M) (fun _ => rfl) (by decide) (by decide) (as := [xI v5]) (st1 := []) rfl rfl (Nat.le_of_ble_eq_true rfl) (fun _ M => ?_)
    refine v_aload d_X_feed_57 0 rfl ?_
    refine v_gI d_X_feed_59 fl_X_70 rfl (fun x59 => ?_)
    exact v_ret d_X_feed_62 rfl
  · refine v_iconst d_X_feed_23 (by decide) ?_
    exact v_ret d_X_feed_24 rfl
set_option maxHeartbeats 4000000 in
set_option maxRecDepth 100000 in
theorem c_X_end (l : Launch) (hfl : l.stackTraces = false) (a0 : Nat) (v1 : Int) (M : mm_T) : vm_Con l yX10_end (.code yX10_end cX10_end 2 (some .boolean)) 1 ex_Z [xA a0, xI v1] M (k_X_end a0 v1 M) := by
  refine vm_con (y := q_X_end) hfl (by decide +kernel) rfl (fun h => by cases h) (Nat.le_of_ble_eq_true rfl) rfl (fun _ _ _ => rfl) (fun r E h => by cases h) (fun w => ?_)
  show V_ l w q_X_end 1 ex_Z 0 [(0, xA a0), (1, xI v1)] [] M (k_X_end a0 v1 M)
  unfold k_X_end
  refine v_iloadn d_X_end_0 rfl 1 rfl ?_
  refine v_iflt d_X_end_1 ?_ ?_
  · refine v_iconst d_X_end_18 (by decide) ?_
    exact v_zret d_X_end_19 rfl
  · refine v_iloadn d_X_end_4 rfl 1 rfl ?_
    refine v_aloadn d_X_end_5 rfl 0 rfl ?_
    refine v_gR d_X_end_6 fl_X_10 rfl (fun r6 => ?_)
    refine v_gR d_X_end_9 fl_X_66 rfl (fun r9 => ?_)
    refine v_gI d_X_end_12 fl_X_70 rfl (fun x12 => ?_)
    refine v_icle d_X_end_15 ?_ ?_
    · refine v_aloadn d_X_end_20 rfl 0 rfl ?_
      refine v_gR d_X_end_21 fl_X_10 rfl (fun r21 => ?_)
      refine v_gR d_X_end_24 fl_X_66 rfl (fun r24 => ?_)
      refine v_iloadn d_X_end_27 rfl 1 rfl ?_
      refine v_pI d_X_end_28 fl_X_70 (Or.inl rfl) rfl rfl (fun M => ?_)
      refine v_iconst d_X_end_31 (by decide) ?_
      exact v_zret d_X_end_32 rfl
    · refine v_iconst d_X_end_18 (by decide) ?_
      exact v_zret d_X_end_19 rfl
set_option maxHeartbeats 4000000 in
set_option maxRecDepth 100000 in
theorem c_X_read (l : Launch) (hfl : l.stackTraces = false) (a0 : Nat) (M : mm_T) : vm_ConX l yX10_read (.code yX10_read cX10_read 3 (some .int)) 12 (ex_T ex_I) [xA a0] M (k_X_read a0 M) := by
  refine vm_conX (y := q_X_read) hfl (by decide +kernel) rfl (fun h => by cases h) (Nat.le_of_ble_eq_true rfl) rfl (fun r _ _ => by cases r with | inl E => trivial | inr x => rfl) (fun w => ?_)
  show V_ l w q_X_read 12 (ex_T ex_I) 0 [(0, xA a0)] [] M (k_X_read a0 M)
  unfold k_X_read
  refine v_aloadn d_X_read_0 rfl 0 rfl ?_
  refine v_gR d_X_read_1 fl_X_10 rfl (fun r1 => ?_)
  refine v_aloadn d_X_read_4 rfl 0 rfl ?_
  refine v_gR d_X_read_5 fl_X_23 rfl (fun r5 => ?_)
  refine v_cVi d_X_read_8 ml_X_80 (q := (RX4, TX4, 5)) rfl (c_Reader_takesText l hfl r1 r5 M) (fun _ => rfl) (by decide) (by decide) (as := [xA r5]) (st1 := []) rfl rfl (Nat.le_of_ble_eq_true rfl) (fun c8 M => ?_)
  refine v_istoren (lz := fun z => [(1, xI z), (0, xA a0)]) d_X_read_11 rfl (Nat.le_of_ble_eq_true rfl) (fun _ => rfl) (fun v1_11 => ?_)
  refine v_aloadn d_X_read_12 rfl 1 rfl ?_
  refine v_gR d_X_read_13 fl_X_10 rfl (fun r13 => ?_)
  refine v_gR d_X_read_16 fl_X_66 rfl (fun r16 => ?_)
  refine v_iconst d_X_read_19 (by decide) ?_
  refine v_pI d_X_read_20 fl_X_70 (Or.inl rfl) rfl rfl (fun M => ?_)
  refine v_iloadn d_X_read_23 rfl 0 rfl ?_
  refine v_ifne d_X_read_24 ?_ ?_
  · refine v_aloadn d_X_read_35 rfl 1 rfl ?_
    refine v_gR d_X_read_36 fl_X_19 rfl (fun r36 => ?_)
    refine v_astoren (lz := fun z => [(2, xA z), (1, xI v1_11), (0, xA a0)]) d_X_read_39 rfl (Nat.le_of_ble_eq_true rfl) (fun _ => rfl) (fun a2_39 => ?_)
    refine v_aloadn d_X_read_40 rfl 2 rfl ?_
    refine v_aloadn d_X_read_41 rfl 2 rfl ?_
    refine v_gR d_X_read_42 fl_X_23 rfl (fun r42 => ?_)
    refine v_pR (ty := .object "RepeatFree$Told") d_X_read_45 fl_X_19 (Or.inl rfl) rfl rfl (fun v hv => by rcases hv with rfl | ⟨b, rfl⟩ <;> exact ⟨rfl, rfl⟩) (fun M => ?_)
    refine v_aloadn d_X_read_48 rfl 2 rfl ?_
    refine v_aloadn d_X_read_49 rfl 0 rfl ?_
    refine v_pR (ty := .object "RepeatFree$Told") d_X_read_50 fl_X_23 (Or.inl rfl) rfl rfl (fun v hv => by rcases hv with rfl | ⟨b, rfl⟩ <;> exact ⟨rfl, rfl⟩) (fun M => ?_)
    refine v_aloadn d_X_read_53 rfl 2 rfl ?_
    refine v_gR d_X_read_54 fl_X_36 rfl (fun r54 => ?_)
    refine v_cVv d_X_read_57 ml_X_87 (q := (RX1, TX1, 5)) rfl (c_Line_clear l hfl r54 M) (fun _ => rfl) (by decide) (by decide) (as := []) (st1 := []) rfl rfl (Nat.le_of_ble_eq_true rfl) (fun _ M => ?_)
    refine v_aloadn d_X_read_60 rfl 2 rfl ?_
    refine v_gR d_X_read_61 fl_X_53 rfl (fun r61 => ?_)
    refine v_cVv d_X_read_64 ml_X_90 (q := (RX0, TX0, 4)) rfl (c_Acts_clear l hfl r61 M) (fun _ => rfl) (by decide) (by decide) (as := []) (st1 := []) rfl rfl (Nat.le_of_ble_eq_true rfl) (fun _ M => ?_)
    refine v_aloadn d_X_read_67 rfl 2 rfl ?_
    refine v_gR d_X_read_68 fl_X_19 rfl (fun r68 => ?_)
    refine v_gI d_X_read_71 fl_X_91 rfl (fun x71 => ?_)
    exact v_ret d_X_read_74 rfl
  · exact v_throw (E := 1) rfl d_X_read_27.1 d_X_read_30.1 d_X_read_31.1 d_X_read_34.1 gw_831 gw_130 ta_X_86 ta_X_86g (by decide +kernel) (by first | decide | omega) (Nat.le_of_ble_eq_true rfl) rfl
set_option maxHeartbeats 4000000 in
set_option maxRecDepth 100000 in
theorem c_X_become (l : Launch) (hfl : l.stackTraces = false) (a0 : Nat) (a1 : Nat) (M : mm_T) : vm_Con l yX10_become (.code yX10_become cX10_become 2 none) 3 ex_V [xA a0, xA a1] M (k_X_become a0 a1 M) := by
  refine vm_con (y := q_X_become) hfl (by decide +kernel) rfl (fun h => by cases h) (Nat.le_of_ble_eq_true rfl) rfl (fun _ _ _ => rfl) (fun r E h => by cases h) (fun w => ?_)
  show V_ l w q_X_become 3 ex_V 0 [(0, xA a0), (1, xA a1)] [] M (k_X_become a0 a1 M)
  unfold k_X_become
  refine v_aloadn d_X_become_0 rfl 0 rfl ?_
  refine v_gR d_X_become_1 fl_X_53 rfl (fun r1 => ?_)
  refine v_aloadn d_X_become_4 rfl 0 rfl ?_
  refine v_gR d_X_become_5 fl_X_36 rfl (fun r5 => ?_)
  refine v_cVv d_X_become_8 ml_X_116 (q := (RX0, TX0, 4)) rfl (c_Acts_keep l hfl r1 r5 M) (fun _ => rfl) (by decide) (by decide) (as := [xA r5]) (st1 := []) rfl rfl (Nat.le_of_ble_eq_true rfl) (fun _ M => ?_)
  refine v_aloadn d_X_become_11 rfl 0 rfl ?_
  refine v_gR d_X_become_12 fl_X_36 rfl (fun r12 => ?_)
  refine v_aloadn d_X_become_15 rfl 1 rfl ?_
  refine v_aloadn d_X_become_16 rfl 1 rfl ?_
  refine v_gI d_X_become_17 fl_X_102 rfl (fun x17 => ?_)
  refine v_cVv d_X_become_20 ml_X_131 (q := (RX1, TX1, 5)) rfl (c_Line_copy l hfl r12 a1 x17 M) (fun _ => rfl) (by decide) (by decide) (as := [xA a1, xI x17]) (st1 := []) rfl rfl (Nat.le_of_ble_eq_true rfl) (fun _ M => ?_)
  exact v_vret d_X_become_23 rfl
set_option maxHeartbeats 4000000 in
set_option maxRecDepth 100000 in
theorem c_X_word (l : Launch) (hfl : l.stackTraces = false) (a0 : Nat) (M : mm_T) : vm_ConX l yX10_word (.code yX10_word cX10_word 2 (some .int)) 6 (ex_T ex_I) [xA a0] M (k_X_word a0 M) := by
  refine vm_conX (y := q_X_word) hfl (by decide +kernel) rfl (fun h => by cases h) (Nat.le_of_ble_eq_true rfl) rfl (fun r _ _ => by cases r with | inl E => trivial | inr x => rfl) (fun w => ?_)
  show V_ l w q_X_word 6 (ex_T ex_I) 0 [(0, xA a0)] [] M (k_X_word a0 M)
  unfold k_X_word
  refine v_aloadn d_X_word_0 rfl 0 rfl ?_
  refine v_gR d_X_word_1 fl_X_10 rfl (fun r1 => ?_)
  refine v_aloadn d_X_word_4 rfl 0 rfl ?_
  refine v_gR d_X_word_5 fl_X_19 rfl (fun r5 => ?_)
  refine v_gI d_X_word_8 fl_X_91 rfl (fun x8 => ?_)
  refine v_aloadn d_X_word_11 rfl 0 rfl ?_
  refine v_gR d_X_word_12 fl_X_40 rfl (fun r12 => ?_)
  refine v_cVi d_X_word_15 ml_X_94 (q := (RX4, TX4, 5)) rfl (c_Reader_takesLetters l hfl r1 x8 r12 M) (fun _ => rfl) (by decide) (by decide) (as := [xI x8, xA r12]) (st1 := []) rfl rfl (Nat.le_of_ble_eq_true rfl) (fun c15 M => ?_)
  refine v_istoren (lz := fun z => [(1, xI z), (0, xA a0)]) d_X_word_18 rfl (Nat.le_of_ble_eq_true rfl) (fun _ => rfl) (fun v1_18 => ?_)
  refine v_aloadn d_X_word_19 rfl 1 rfl ?_
  refine v_gR d_X_word_20 fl_X_10 rfl (fun r20 => ?_)
  refine v_gR d_X_word_23 fl_X_66 rfl (fun r23 => ?_)
  refine v_iconst d_X_word_26 (by decide) ?_
  refine v_pI d_X_word_27 fl_X_70 (Or.inl rfl) rfl rfl (fun M => ?_)
  refine v_iloadn d_X_word_30 rfl 0 rfl ?_
  refine v_ifne d_X_word_31 ?_ ?_
  · refine v_aloadn d_X_word_42 rfl 1 rfl ?_
    refine v_aloadn d_X_word_43 rfl 1 rfl ?_
    refine v_gR d_X_word_44 fl_X_40 rfl (fun r44 => ?_)
    refine v_cVv d_X_word_47 ml_X_98 (q := (RX10, TX10, 10)) rfl (c_X_become l hfl a0 r44 M) (fun _ => rfl) (by decide) (by decide) (as := [xA r44]) (st1 := []) rfl rfl (Nat.le_of_ble_eq_true rfl) (fun _ M => ?_)
    refine v_aloadn d_X_word_50 rfl 1 rfl ?_
    refine v_gR d_X_word_51 fl_X_36 rfl (fun r51 => ?_)
    refine v_gI d_X_word_54 fl_X_102 rfl (fun x54 => ?_)
    exact v_ret d_X_word_57 rfl
  · exact v_throw (E := 1) rfl d_X_word_34.1 d_X_word_37.1 d_X_word_38.1 d_X_word_41.1 gw_831 gw_130 ta_X_86 ta_X_86g (by decide +kernel) (by first | decide | omega) (Nat.le_of_ble_eq_true rfl) rfl
set_option maxHeartbeats 4000000 in
set_option maxRecDepth 100000 in
theorem c_X_fault (l : Launch) (hfl : l.stackTraces = false) (a0 : Nat) (M : mm_T) : vm_Con l yX10_fault (.code yX10_fault cX10_fault 1 (some .int)) 1 ex_I [xA a0] M (k_X_fault a0 M) := by
  refine vm_con (y := q_X_fault) hfl (by decide +kernel) rfl (fun h => by cases h) (Nat.le_of_ble_eq_true rfl) rfl (fun _ _ _ => rfl) (fun r E h => by cases h) (fun w => ?_)
  show V_ l w q_X_fault 1 ex_I 0 [(0, xA a0)] [] M (k_X_fault a0 M)
  unfold k_X_fault
  refine v_aloadn d_X_fault_0 rfl 0 rfl ?_
  refine v_gR d_X_fault_1 fl_X_10 rfl (fun r1 => ?_)
  refine v_gI d_X_fault_4 fl_X_103 rfl (fun x4 => ?_)
  exact v_ret d_X_fault_7 rfl
set_option maxHeartbeats 4000000 in
set_option maxRecDepth 100000 in
theorem c_X_letter (l : Launch) (hfl : l.stackTraces = false) (a0 : Nat) (v1 : Int) (M : mm_T) : vm_Con l yX10_letter (.code yX10_letter cX10_letter 2 (some .int)) 2 ex_I [xA a0, xI v1] M (k_X_letter a0 v1 M) := by
  refine vm_con (y := q_X_letter) hfl (by decide +kernel) rfl (fun h => by cases h) (Nat.le_of_ble_eq_true rfl) rfl (fun _ _ _ => rfl) (fun r E h => by cases h) (fun w => ?_)
  show V_ l w q_X_letter 2 ex_I 0 [(0, xA a0), (1, xI v1)] [] M (k_X_letter a0 v1 M)
  unfold k_X_letter
  refine v_aloadn d_X_letter_0 rfl 0 rfl ?_
  refine v_gR d_X_letter_1 fl_X_36 rfl (fun r1 => ?_)
  refine v_iloadn d_X_letter_4 rfl 1 rfl ?_
  refine v_cVi d_X_letter_5 ml_X_106 (q := (RX1, TX1, 5)) rfl (c_Line_at l hfl r1 v1 M) (fun _ => rfl) (by decide) (by decide) (as := [xI v1]) (st1 := []) rfl rfl (Nat.le_of_ble_eq_true rfl) (fun c5 M => ?_)
  exact v_ret d_X_letter_8 rfl
set_option maxHeartbeats 4000000 in
set_option maxRecDepth 100000 in
theorem c_X_checkLetter (l : Launch) (hfl : l.stackTraces = false) (a0 : Nat) (v1 : Int) (M : mm_T) : vm_ConX l yX10_checkLetter (.code yX10_checkLetter cX10_checkLetter 2 none) 6 (ex_T ex_V) [xA a0, xI v1] M (k_X_checkLetter a0 v1 M) := by
  refine vm_conX (y := q_X_checkLetter) hfl (by decide +kernel) rfl (fun h => by cases h) (Nat.le_of_ble_eq_true rfl) rfl (fun r _ _ => by cases r with | inl E => trivial | inr x => rfl) (fun w => ?_)
  show V_ l w q_X_checkLetter 6 (ex_T ex_V) 0 [(0, xA a0), (1, xI v1)] [] M (k_X_checkLetter a0 v1 M)
  unfold k_X_checkLetter
  refine v_iloadn d_X_checkLetter_0 rfl 1 rfl ?_
  refine v_join0 (pj := 15) (lj := []) (sj := []) (fun M => ?_) (fun j15 hj15 => ?_)
  · exact v_throw (E := 1) rfl d_X_checkLetter_15.1 d_X_checkLetter_18.1 d_X_checkLetter_19.1 d_X_checkLetter_22.1 gw_831 gw_130 ta_X_86 ta_X_86g (by decide +kernel) (by first | decide | omega) (Nat.le_of_ble_eq_true rfl) rfl
  refine v_iflt d_X_checkLetter_1 ?_ ?_
  · refine v_sub (ls' := []) [] rfl ?_
    exact hj15 M
  · refine v_iloadn d_X_checkLetter_4 rfl 1 rfl ?_
    refine v_aloadn d_X_checkLetter_5 rfl 0 rfl ?_
    refine v_gR d_X_checkLetter_6 fl_X_19 rfl (fun r6 => ?_)
    refine v_gI d_X_checkLetter_9 fl_X_91 rfl (fun x9 => ?_)
    refine v_iclt d_X_checkLetter_12 ?_ ?_
    · exact v_vret d_X_checkLetter_23 rfl
    · refine v_sub (ls' := []) [] rfl ?_
      exact hj15 M
set_option maxHeartbeats 4000000 in
set_option maxRecDepth 100000 in
theorem c_X_push (l : Launch) (hfl : l.stackTraces = false) (a0 : Nat) (v1 : Int) (M : mm_T) : vm_ConX l yX10_push (.code yX10_push cX10_push 2 (some .int)) 7 (ex_T ex_I) [xA a0, xI v1] M (k_X_push a0 v1 M) := by
  refine vm_conX (y := q_X_push) hfl (by decide +kernel) rfl (fun h => by cases h) (Nat.le_of_ble_eq_true rfl) rfl (fun r _ _ => by cases r with | inl E => trivial | inr x => rfl) (fun w => ?_)
  show V_ l w q_X_push 7 (ex_T ex_I) 0 [(0, xA a0), (1, xI v1)] [] M (k_X_push a0 v1 M)
  unfold k_X_push
  refine v_aloadn d_X_push_0 rfl 0 rfl ?_
  refine v_iloadn d_X_push_1 rfl 1 rfl ?_
  refine v_xV d_X_push_2 ml_X_110 (q := (RX10, TX10, 10)) rfl (c_X_checkLetter l hfl a0 v1 M) (fun _ => rfl) (by decide) (by decide) (as := [xI v1]) (st1 := []) rfl rfl (Nat.le_of_ble_eq_true rfl) rfl (sr := fun _ => []) (fun _ M => ?_)
  show V_ l w q_X_push 7 (ex_T ex_I) 5 [(0, xA a0), (1, xI v1)] [] M _
  refine v_aloadn d_X_push_5 rfl 0 rfl ?_
  refine v_gR d_X_push_6 fl_X_36 rfl (fun r6 => ?_)
  refine v_gI d_X_push_9 fl_X_102 rfl (fun x9 => ?_)
  refine v_bipush d_X_push_12 (by decide) ?_
  refine v_iclt d_X_push_14 ?_ ?_
  · refine v_aloadn d_X_push_25 rfl 0 rfl ?_
    refine v_gR d_X_push_26 fl_X_53 rfl (fun r26 => ?_)
    refine v_aloadn d_X_push_29 rfl 0 rfl ?_
    refine v_gR d_X_push_30 fl_X_36 rfl (fun r30 => ?_)
    refine v_cVv d_X_push_33 ml_X_116 (q := (RX0, TX0, 4)) rfl (c_Acts_keep l hfl r26 r30 M) (fun _ => rfl) (by decide) (by decide) (as := [xA r30]) (st1 := []) rfl rfl (Nat.le_of_ble_eq_true rfl) (fun _ M => ?_)
    refine v_aloadn d_X_push_36 rfl 0 rfl ?_
    refine v_gR d_X_push_37 fl_X_36 rfl (fun r37 => ?_)
    refine v_iloadn d_X_push_40 rfl 1 rfl ?_
    refine v_cVv d_X_push_41 ml_X_119 (q := (RX1, TX1, 5)) rfl (c_Line_add l hfl r37 v1 M) (fun _ => rfl) (by decide) (by decide) (as := [xI v1]) (st1 := []) rfl rfl (Nat.le_of_ble_eq_true rfl) (fun _ M => ?_)
    refine v_aloadn d_X_push_44 rfl 0 rfl ?_
    refine v_gR d_X_push_45 fl_X_36 rfl (fun r45 => ?_)
    refine v_gI d_X_push_48 fl_X_102 rfl (fun x48 => ?_)
    exact v_ret d_X_push_51 rfl
  · exact v_throw (E := 2) rfl d_X_push_17.1 d_X_push_20.1 d_X_push_21.1 d_X_push_24.1 gw_936 gw_132 ta_X_115 ta_X_115g (by decide +kernel) (by first | decide | omega) (Nat.le_of_ble_eq_true rfl) rfl
set_option maxHeartbeats 4000000 in
set_option maxRecDepth 100000 in
theorem c_X_pop (l : Launch) (hfl : l.stackTraces = false) (a0 : Nat) (M : mm_T) : vm_ConX l yX10_pop (.code yX10_pop cX10_pop 1 (some .int)) 6 (ex_T ex_I) [xA a0] M (k_X_pop a0 M) := by
  refine vm_conX (y := q_X_pop) hfl (by decide +kernel) rfl (fun h => by cases h) (Nat.le_of_ble_eq_true rfl) rfl (fun r _ _ => by cases r with | inl E => trivial | inr x => rfl) (fun w => ?_)
  show V_ l w q_X_pop 6 (ex_T ex_I) 0 [(0, xA a0)] [] M (k_X_pop a0 M)
  unfold k_X_pop
  refine v_aloadn d_X_pop_0 rfl 0 rfl ?_
  refine v_gR d_X_pop_1 fl_X_36 rfl (fun r1 => ?_)
  refine v_gI d_X_pop_4 fl_X_102 rfl (fun x4 => ?_)
  refine v_ifne d_X_pop_7 ?_ ?_
  · refine v_aloadn d_X_pop_18 rfl 0 rfl ?_
    refine v_gR d_X_pop_19 fl_X_53 rfl (fun r19 => ?_)
    refine v_aloadn d_X_pop_22 rfl 0 rfl ?_
    refine v_gR d_X_pop_23 fl_X_36 rfl (fun r23 => ?_)
    refine v_cVv d_X_pop_26 ml_X_116 (q := (RX0, TX0, 4)) rfl (c_Acts_keep l hfl r19 r23 M) (fun _ => rfl) (by decide) (by decide) (as := [xA r23]) (st1 := []) rfl rfl (Nat.le_of_ble_eq_true rfl) (fun _ M => ?_)
    refine v_aloadn d_X_pop_29 rfl 0 rfl ?_
    refine v_gR d_X_pop_30 fl_X_36 rfl (fun r30 => ?_)
    refine v_cVi d_X_pop_33 ml_X_120 (q := (RX1, TX1, 5)) rfl (c_Line_dropLast l hfl r30 M) (fun _ => rfl) (by decide) (by decide) (as := []) (st1 := []) rfl rfl (Nat.le_of_ble_eq_true rfl) (fun c33 M => ?_)
    exact v_ret d_X_pop_36 rfl
  · exact v_throw (E := 2) rfl d_X_pop_10.1 d_X_pop_13.1 d_X_pop_14.1 d_X_pop_17.1 gw_936 gw_132 ta_X_115 ta_X_115g (by decide +kernel) (by first | decide | omega) (Nat.le_of_ble_eq_true rfl) rfl
set_option maxHeartbeats 4000000 in
set_option maxRecDepth 100000 in
theorem c_X_undo (l : Launch) (hfl : l.stackTraces = false) (a0 : Nat) (M : mm_T) : vm_Con l yX10_undo (.code yX10_undo cX10_undo 1 (some .int)) 3 ex_I [xA a0] M (k_X_undo a0 M) := by
  refine vm_con (y := q_X_undo) hfl (by decide +kernel) rfl (fun h => by cases h) (Nat.le_of_ble_eq_true rfl) rfl (fun _ _ _ => rfl) (fun r E h => by cases h) (fun w => ?_)
  show V_ l w q_X_undo 3 ex_I 0 [(0, xA a0)] [] M (k_X_undo a0 M)
  unfold k_X_undo
  refine v_aloadn d_X_undo_0 rfl 0 rfl ?_
  refine v_gR d_X_undo_1 fl_X_53 rfl (fun r1 => ?_)
  refine v_aloadn d_X_undo_4 rfl 0 rfl ?_
  refine v_gR d_X_undo_5 fl_X_36 rfl (fun r5 => ?_)
  refine v_cVi d_X_undo_8 ml_X_124 (q := (RX0, TX0, 4)) rfl (c_Acts_takeBack l hfl r1 r5 M) (fun _ => rfl) (by decide) (by decide) (as := [xA r5]) (st1 := []) rfl rfl (Nat.le_of_ble_eq_true rfl) (fun c8 M => ?_)
  refine v_ifeq d_X_undo_11 ?_ ?_
  · refine v_iconst d_X_undo_24 (by decide) ?_
    exact v_ret d_X_undo_25 rfl
  · refine v_aloadn d_X_undo_14 rfl 0 rfl ?_
    refine v_gR d_X_undo_15 fl_X_53 rfl (fun r15 => ?_)
    refine v_gI d_X_undo_18 fl_X_128 rfl (fun x18 => ?_)
    refine v_goto d_X_undo_21 ?_
    exact v_ret d_X_undo_25 rfl
set_option maxHeartbeats 4000000 in
set_option maxRecDepth 100000 in
theorem c_X_checkRange (l : Launch) (hfl : l.stackTraces = false) (a0 : Nat) (v1 : Int) (v2 : Int) (v3 : Int) (M : mm_T) : vm_ConX l yX10_checkRange (.code yX10_checkRange cX10_checkRange 4 none) 6 (ex_T ex_V) [xA a0, xI v1, xI v2, xI v3] M (k_X_checkRange a0 v1 v2 v3 M) := by
  refine vm_conX (y := q_X_checkRange) hfl (by decide +kernel) rfl (fun h => by cases h) (Nat.le_of_ble_eq_true rfl) rfl (fun r _ _ => by cases r with | inl E => trivial | inr x => rfl) (fun w => ?_)
  show V_ l w q_X_checkRange 6 (ex_T ex_V) 0 [(0, xA a0), (1, xI v1), (2, xI v2), (3, xI v3)] [] M (k_X_checkRange a0 v1 v2 v3 M)
  unfold k_X_checkRange
  refine v_iloadn d_X_checkRange_0 rfl 1 rfl ?_
  refine v_iloadn d_X_checkRange_1 rfl 2 rfl ?_
  refine v_join0 (pj := 10) (lj := []) (sj := []) (fun M => ?_) (fun j10 hj10 => ?_)
  · exact v_throw (E := 1) rfl d_X_checkRange_10.1 d_X_checkRange_13.1 d_X_checkRange_14.1 d_X_checkRange_17.1 gw_831 gw_130 ta_X_86 ta_X_86g (by decide +kernel) (by first | decide | omega) (Nat.le_of_ble_eq_true rfl) rfl
  refine v_iclt d_X_checkRange_2 ?_ ?_
  · refine v_sub (ls' := []) [] rfl ?_
    exact hj10 M
  · refine v_iloadn d_X_checkRange_5 rfl 1 rfl ?_
    refine v_iloadn d_X_checkRange_6 rfl 3 rfl ?_
    refine v_icle d_X_checkRange_7 ?_ ?_
    · exact v_vret d_X_checkRange_18 rfl
    · refine v_sub (ls' := []) [] rfl ?_
      exact hj10 M
set_option maxHeartbeats 4000000 in
set_option maxRecDepth 100000 in
theorem c_X_checkWhat (l : Launch) (hfl : l.stackTraces = false) (a0 : Nat) (v1 : Int) (v2 : Int) (M : mm_T) : vm_ConX l yX10_checkWhat (.code yX10_checkWhat cX10_checkWhat 3 none) 6 (ex_T ex_V) [xA a0, xI v1, xI v2] M (k_X_checkWhat a0 v1 v2 M) := by
  refine vm_conX (y := q_X_checkWhat) hfl (by decide +kernel) rfl (fun h => by cases h) (Nat.le_of_ble_eq_true rfl) rfl (fun r _ _ => by cases r with | inl E => trivial | inr x => rfl) (fun w => ?_)
  show V_ l w q_X_checkWhat 6 (ex_T ex_V) 0 [(0, xA a0), (1, xI v1), (2, xI v2)] [] M (k_X_checkWhat a0 v1 v2 M)
  unfold k_X_checkWhat
  refine v_iloadn d_X_checkWhat_0 rfl 1 rfl ?_
  refine v_join0 (pj := 9) (lj := []) (sj := []) (fun M => ?_) (fun j9 hj9 => ?_)
  · exact v_throw (E := 4) rfl d_X_checkWhat_9.1 d_X_checkWhat_12.1 d_X_checkWhat_13.1 d_X_checkWhat_16.1 gw_971 gw_133 ta_X_137 ta_X_137g (by decide +kernel) (by first | decide | omega) (Nat.le_of_ble_eq_true rfl) rfl
  refine v_iflt d_X_checkWhat_1 ?_ ?_
  · refine v_sub (ls' := []) [] rfl ?_
    exact hj9 M
  · refine v_iloadn d_X_checkWhat_4 rfl 1 rfl ?_
    refine v_iloadn d_X_checkWhat_5 rfl 2 rfl ?_
    refine v_icle d_X_checkWhat_6 ?_ ?_
    · exact v_vret d_X_checkWhat_17 rfl
    · refine v_sub (ls' := []) [] rfl ?_
      exact hj9 M
set_option maxHeartbeats 4000000 in
set_option maxRecDepth 100000 in
theorem c_X_mapOf (l : Launch) (hfl : l.stackTraces = false) (a0 : Nat) (v1 : Int) (M : mm_T) : vm_ConX l yX10_mapOf (.code yX10_mapOf cX10_mapOf 3 (some (.object "RepeatFree$Morph"))) 6 (ex_T ex_A) [xA a0, xI v1] M (k_X_mapOf a0 v1 M) := by
  refine vm_conX (y := q_X_mapOf) hfl (by decide +kernel) rfl (fun h => by cases h) (Nat.le_of_ble_eq_true rfl) rfl (fun r _ _ => by cases r with | inl E => trivial | inr x => exact ⟨_, rfl⟩) (fun w => ?_)
  show V_ l w q_X_mapOf 6 (ex_T ex_A) 0 [(0, xA a0), (1, xI v1)] [] M (k_X_mapOf a0 v1 M)
  unfold k_X_mapOf
  refine v_iloadn d_X_mapOf_0 rfl 1 rfl ?_
  refine v_aloadn d_X_mapOf_1 rfl 0 rfl ?_
  refine v_gR d_X_mapOf_2 fl_X_19 rfl (fun r2 => ?_)
  refine v_gI d_X_mapOf_5 fl_X_138 rfl (fun x5 => ?_)
  refine v_join1 (pj := 23) (lj := fun sa0_23 => []) (sj := fun sa0_23 => [xA sa0_23]) (fun sa0_23 M => ?_) (fun j23 hj23 => ?_)
  · refine v_astoren (lz := fun z => [(2, xA z)]) d_X_mapOf_23 rfl (Nat.le_of_ble_eq_true rfl) (fun _ => rfl) (fun a2_23 => ?_)
    refine v_aloadn d_X_mapOf_24 rfl 0 rfl ?_
    refine v_ifnonnull d_X_mapOf_25 ?_ ?_
    · refine v_aloadn d_X_mapOf_36 rfl 0 rfl ?_
      exact v_ret d_X_mapOf_37 rfl
    · exact v_throw (E := 3) rfl d_X_mapOf_28.1 d_X_mapOf_31.1 d_X_mapOf_32.1 d_X_mapOf_35.1 gw_1021 gw_134 ta_X_147 ta_X_147g (by decide +kernel) (by first | decide | omega) (Nat.le_of_ble_eq_true rfl) rfl
  refine v_icge d_X_mapOf_8 ?_ ?_
  · refine v_null d_X_mapOf_22 ?_
    refine v_sub (ls' := []) [] rfl ?_
    exact hj23 0 M
  · refine v_aloadn d_X_mapOf_11 rfl 0 rfl ?_
    refine v_gR d_X_mapOf_12 fl_X_19 rfl (fun r12 => ?_)
    refine v_iloadn d_X_mapOf_15 rfl 1 rfl ?_
    refine v_cVq d_X_mapOf_16 ml_X_141 (q := (RX9, TX9, 8)) rfl (c_Told_mapAt l hfl r12 v1 M) (fun _ => rfl) (by decide) (by decide) (as := [xI v1]) (st1 := []) rfl rfl (Nat.le_of_ble_eq_true rfl) (fun c16 M => ?_)
    refine v_goto d_X_mapOf_19 ?_
    refine v_sub (ls' := []) [] rfl ?_
    exact hj23 c16 M
set_option maxHeartbeats 4000000 in
set_option maxRecDepth 100000 in
theorem c_X_shapeOf (l : Launch) (hfl : l.stackTraces = false) (a0 : Nat) (v1 : Int) (M : mm_T) : vm_ConX l yX10_shapeOf (.code yX10_shapeOf cX10_shapeOf 3 (some (.object "RepeatFree$Shape"))) 6 (ex_T ex_A) [xA a0, xI v1] M (k_X_shapeOf a0 v1 M) := by
  refine vm_conX (y := q_X_shapeOf) hfl (by decide +kernel) rfl (fun h => by cases h) (Nat.le_of_ble_eq_true rfl) rfl (fun r _ _ => by cases r with | inl E => trivial | inr x => exact ⟨_, rfl⟩) (fun w => ?_)
  show V_ l w q_X_shapeOf 6 (ex_T ex_A) 0 [(0, xA a0), (1, xI v1)] [] M (k_X_shapeOf a0 v1 M)
  unfold k_X_shapeOf
  refine v_iloadn d_X_shapeOf_0 rfl 1 rfl ?_
  refine v_aloadn d_X_shapeOf_1 rfl 0 rfl ?_
  refine v_gR d_X_shapeOf_2 fl_X_19 rfl (fun r2 => ?_)
  refine v_gI d_X_shapeOf_5 fl_X_148 rfl (fun x5 => ?_)
  refine v_join1 (pj := 23) (lj := fun sa0_23 => []) (sj := fun sa0_23 => [xA sa0_23]) (fun sa0_23 M => ?_) (fun j23 hj23 => ?_)
  · refine v_astoren (lz := fun z => [(2, xA z)]) d_X_shapeOf_23 rfl (Nat.le_of_ble_eq_true rfl) (fun _ => rfl) (fun a2_23 => ?_)
    refine v_aloadn d_X_shapeOf_24 rfl 0 rfl ?_
    refine v_ifnonnull d_X_shapeOf_25 ?_ ?_
    · refine v_aloadn d_X_shapeOf_36 rfl 0 rfl ?_
      exact v_ret d_X_shapeOf_37 rfl
    · exact v_throw (E := 3) rfl d_X_shapeOf_28.1 d_X_shapeOf_31.1 d_X_shapeOf_32.1 d_X_shapeOf_35.1 gw_1021 gw_134 ta_X_147 ta_X_147g (by decide +kernel) (by first | decide | omega) (Nat.le_of_ble_eq_true rfl) rfl
  refine v_icge d_X_shapeOf_8 ?_ ?_
  · refine v_null d_X_shapeOf_22 ?_
    refine v_sub (ls' := []) [] rfl ?_
    exact hj23 0 M
  · refine v_aloadn d_X_shapeOf_11 rfl 0 rfl ?_
    refine v_gR d_X_shapeOf_12 fl_X_19 rfl (fun r12 => ?_)
    refine v_iloadn d_X_shapeOf_15 rfl 1 rfl ?_
    refine v_cVq d_X_shapeOf_16 ml_X_151 (q := (RX9, TX9, 8)) rfl (c_Told_shapeAt l hfl r12 v1 M) (fun _ => rfl) (by decide) (by decide) (as := [xI v1]) (st1 := []) rfl rfl (Nat.le_of_ble_eq_true rfl) (fun c16 M => ?_)
    refine v_goto d_X_shapeOf_19 ?_
    refine v_sub (ls' := []) [] rfl ?_
    exact hj23 c16 M
set_option maxHeartbeats 4000000 in
set_option maxRecDepth 100000 in
theorem c_X_free (l : Launch) (hfl : l.stackTraces = false) (a0 : Nat) (M : mm_T) : vm_Con l yX10_free (.code yX10_free cX10_free 1 (some .boolean)) 16 ex_Z [xA a0] M (k_X_free a0 M) := by
  refine vm_con (y := q_X_free) hfl (by decide +kernel) rfl (fun h => by cases h) (Nat.le_of_ble_eq_true rfl) rfl (fun _ _ _ => rfl) (fun r E h => by cases h) (fun w => ?_)
  show V_ l w q_X_free 16 ex_Z 0 [(0, xA a0)] [] M (k_X_free a0 M)
  unfold k_X_free
  refine v_aloadn d_X_free_0 rfl 0 rfl ?_
  refine v_gR d_X_free_1 fl_X_36 rfl (fun r1 => ?_)
  refine v_aloadn d_X_free_4 rfl 0 rfl ?_
  refine v_gR d_X_free_5 fl_X_19 rfl (fun r5 => ?_)
  refine v_cVi d_X_free_8 ml_X_155 (q := (RX1, TX1, 5)) rfl (c_Line_firstBad l hfl r1 r5 M) (fun _ => rfl) (by decide) (by decide) (as := [xA r5]) (st1 := []) rfl rfl (Nat.le_of_ble_eq_true rfl) (fun c8 M => ?_)
  refine v_iconst d_X_free_11 (by decide) ?_
  refine v_icne d_X_free_12 ?_ ?_
  · refine v_iconst d_X_free_19 (by decide) ?_
    exact v_zret d_X_free_20 rfl
  · refine v_iconst d_X_free_15 (by decide) ?_
    refine v_goto d_X_free_16 ?_
    exact v_zret d_X_free_20 rfl
set_option maxHeartbeats 4000000 in
set_option maxRecDepth 100000 in
theorem c_X_ends (l : Launch) (hfl : l.stackTraces = false) (a0 : Nat) (M : mm_T) : vm_Con l yX10_ends (.code yX10_ends cX10_ends 1 (some .int)) 16 ex_I [xA a0] M (k_X_ends a0 M) := by
  refine vm_con (y := q_X_ends) hfl (by decide +kernel) rfl (fun h => by cases h) (Nat.le_of_ble_eq_true rfl) rfl (fun _ _ _ => rfl) (fun r E h => by cases h) (fun w => ?_)
  show V_ l w q_X_ends 16 ex_I 0 [(0, xA a0)] [] M (k_X_ends a0 M)
  unfold k_X_ends
  refine v_aloadn d_X_ends_0 rfl 0 rfl ?_
  refine v_gR d_X_ends_1 fl_X_36 rfl (fun r1 => ?_)
  refine v_aloadn d_X_ends_4 rfl 0 rfl ?_
  refine v_gR d_X_ends_5 fl_X_19 rfl (fun r5 => ?_)
  refine v_cVi d_X_ends_8 ml_X_155 (q := (RX1, TX1, 5)) rfl (c_Line_firstBad l hfl r1 r5 M) (fun _ => rfl) (by decide) (by decide) (as := [xA r5]) (st1 := []) rfl rfl (Nat.le_of_ble_eq_true rfl) (fun c8 M => ?_)
  exact v_ret d_X_ends_11 rfl
set_option maxHeartbeats 4000000 in
set_option maxRecDepth 100000 in
theorem V_lp_X_greatest_31 {l : Launch} {w : vm_W} (hfl : l.stackTraces = false) (kx146 : Int → Int → Int → mm_T → Option ((Nat ⊕ Int) × mm_T)) (a0 : Nat) (v5 : Int) {v1 : Int} (hkx146 : ∀ (v2_e : Int) (v3_e : Int) (v4_e : Int) (M : mm_T), V_ l w q_X_greatest 7 (ex_T ex_I) 146 [(0, xA a0), (1, xI v1), (2, xI v2_e), (3, xI v3_e), (4, xI v4_e), (5, xI v5)] [] M (kx146 v2_e v3_e v4_e M)) : ∀ (f : Nat) (v2 : Int) (v3 : Int) (v4 : Int) (v6 : Int) (M : mm_T), V_ l w q_X_greatest 7 (ex_T ex_I) 31 [(0, xA a0), (1, xI v1), (2, xI v2), (3, xI v3), (4, xI v4), (5, xI v5), (6, xI v6)] [] M (lp_X_greatest_31 kx146 a0 v5 f v2 v3 v4 v6 M) := by
  intro f
  induction f with
  | zero => intros; exact V_.none
  | succ f ih =>
    intro v2 v3 v4 v6 M
    unfold lp_X_greatest_31
    refine v_iload d_X_greatest_31 6 rfl ?_
    refine v_iload d_X_greatest_33 5 rfl ?_
    refine v_iconst d_X_greatest_35 (by decide) ?_
    refine v_iadd d_X_greatest_36 (fun x36 => ?_)
    refine v_icgt d_X_greatest_37 ?_ ?_
    · refine v_sub (ls' := [(0, xA a0), (1, xI v1), (2, xI v2), (3, xI v3), (4, xI v4), (5, xI v5)]) [0, 1, 2, 3, 4, 5] rfl ?_
      exact hkx146 v2 v3 v4 M
    · refine v_iload d_X_greatest_40 6 rfl ?_
      refine v_aloadn d_X_greatest_42 rfl 0 rfl ?_
      refine v_gR d_X_greatest_43 fl_X_36 rfl (fun r43 => ?_)
      refine v_iload d_X_greatest_46 5 rfl ?_
      refine v_iload d_X_greatest_48 5 rfl ?_
      refine v_iload d_X_greatest_50 6 rfl ?_
      refine v_isub d_X_greatest_52 (fun x52 => ?_)
      refine v_cVi d_X_greatest_53 ml_X_163 (q := (RX1, TX1, 5)) rfl (c_Line_alike l hfl r43 v5 x52 M) (fun _ => rfl) (by decide) (by decide) (as := [xI v5, xI x52]) (st1 := [xI v6]) rfl rfl (Nat.le_of_ble_eq_true rfl) (fun c53 M => ?_)
      refine v_iadd d_X_greatest_56 (fun x56 => ?_)
      refine v_istore (lz := fun z => [(7, xI z), (0, xA a0), (1, xI v1), (2, xI v2), (3, xI v3), (4, xI v4), (5, xI v5), (6, xI v6)]) d_X_greatest_57 (Nat.le_of_ble_eq_true rfl) (fun _ => rfl) (fun v7_57 => ?_)
      refine v_iload d_X_greatest_59 6 rfl ?_
      refine v_iload d_X_greatest_61 0 rfl ?_
      refine v_isub d_X_greatest_63 (fun x63 => ?_)
      refine v_iconst d_X_greatest_64 (by decide) ?_
      refine v_iadd d_X_greatest_65 (fun x65 => ?_)
      refine v_istore (lz := fun z => [(8, xI z), (7, xI v7_57), (0, xA a0), (1, xI v1), (2, xI v2), (3, xI v3), (4, xI v4), (5, xI v5), (6, xI v6)]) d_X_greatest_66 (Nat.le_of_ble_eq_true rfl) (fun _ => rfl) (fun v8_66 => ?_)
      refine v_iloadn d_X_greatest_68 rfl 4 rfl ?_
      refine v_iconst d_X_greatest_69 (by decide) ?_
      refine v_join1 (pj := 86) (lj := fun s0_86 => [(0, xA a0), (1, xI v1), (2, xI v2), (3, xI v3), (4, xI v4), (5, xI v5), (6, xI v6), (7, xI v7_57), (8, xI v8_66)]) (sj := fun s0_86 => [xI s0_86]) (fun s0_86 M => ?_) (fun j86 hj86 => ?_)
      · refine v_istore (lz := fun z => [(9, xI z), (0, xA a0), (1, xI v1), (2, xI v2), (3, xI v3), (4, xI v4), (5, xI v5), (6, xI v6), (7, xI v7_57), (8, xI v8_66)]) d_X_greatest_86 (Nat.le_of_ble_eq_true rfl) (fun _ => rfl) (fun v9_86 => ?_)
        refine v_iload d_X_greatest_88 9 rfl ?_
        refine v_iload d_X_greatest_90 5 rfl ?_
        refine v_join1 (pj := 113) (lj := fun s0_113 => [(0, xA a0), (1, xI v1), (2, xI v2), (3, xI v3), (4, xI v4), (5, xI v5), (6, xI v6), (7, xI v7_57), (8, xI v8_66), (9, xI v9_86)]) (sj := fun s0_113 => [xI s0_113]) (fun s0_113 M => ?_) (fun j113 hj113 => ?_)
        · refine v_istore (lz := fun z => [(10, xI z), (0, xA a0), (1, xI v1), (2, xI v2), (3, xI v3), (4, xI v4), (5, xI v5), (6, xI v6), (7, xI v7_57), (8, xI v8_66), (9, xI v9_86)]) d_X_greatest_113 (Nat.le_of_ble_eq_true rfl) (fun _ => rfl) (fun v10_113 => ?_)
          refine v_iload d_X_greatest_115 10 rfl ?_
          refine v_join3 (pj := 140) (lj := fun v2_140 v3_140 v4_140 => [(0, xA a0), (1, xI v1), (2, xI v2_140), (3, xI v3_140), (4, xI v4_140), (5, xI v5), (6, xI v6)]) (sj := fun v2_140 v3_140 v4_140 => []) (fun v2_140 v3_140 v4_140 M => ?_) (fun j140 hj140 => ?_)
          · refine v_iinc (lz := fun z => [(6, xI z), (0, xA a0), (1, xI v1), (2, xI v2_140), (3, xI v3_140), (4, xI v4_140), (5, xI v5)]) d_X_greatest_140 6 rfl (Nat.le_of_ble_eq_true rfl) (fun _ => rfl) (fun v6_140 => ?_)
            refine v_goto d_X_greatest_143 ?_
            refine v_sub (ls' := [(0, xA a0), (1, xI v1), (2, xI v2_140), (3, xI v3_140), (4, xI v4_140), (5, xI v5), (6, xI v6_140)]) [1, 2, 3, 4, 5, 6, 0] rfl ?_
            exact ih v2_140 v3_140 v4_140 v6_140 M
          refine v_join0 (pj := 130) (lj := [(0, xA a0), (1, xI v1), (5, xI v5), (6, xI v6), (7, xI v7_57), (8, xI v8_66)]) (sj := []) (fun M => ?_) (fun j130 hj130 => ?_)
          · refine v_iload d_X_greatest_130 4 rfl ?_
            refine v_istoren (lz := fun z => [(2, xI z), (0, xA a0), (1, xI v1), (5, xI v5), (6, xI v6), (7, xI v7_57), (8, xI v8_66)]) d_X_greatest_132 rfl (Nat.le_of_ble_eq_true rfl) (fun _ => rfl) (fun v2_132 => ?_)
            refine v_iload d_X_greatest_133 4 rfl ?_
            refine v_istoren (lz := fun z => [(3, xI z), (2, xI v2_132), (0, xA a0), (1, xI v1), (5, xI v5), (6, xI v6), (7, xI v7_57), (8, xI v8_66)]) d_X_greatest_135 rfl (Nat.le_of_ble_eq_true rfl) (fun _ => rfl) (fun v3_135 => ?_)
            refine v_iload d_X_greatest_136 7 rfl ?_
            refine v_istore (lz := fun z => [(4, xI z), (3, xI v3_135), (2, xI v2_132), (0, xA a0), (1, xI v1), (5, xI v5), (6, xI v6), (7, xI v7_57), (8, xI v8_66)]) d_X_greatest_138 (Nat.le_of_ble_eq_true rfl) (fun _ => rfl) (fun v4_138 => ?_)
            refine v_sub (ls' := [(0, xA a0), (1, xI v1), (2, xI v2_132), (3, xI v3_135), (4, xI v4_138), (5, xI v5), (6, xI v6)]) [3, 4, 2, 1, 0, 5, 6] rfl ?_
            exact hj140 v2_132 v3_135 v4_138 M
          refine v_ifgt d_X_greatest_117 ?_ ?_
          · refine v_sub (ls' := [(0, xA a0), (1, xI v1), (5, xI v5), (6, xI v6), (7, xI v7_57), (8, xI v8_66)]) [1, 2, 6, 7, 8, 9] rfl ?_
            exact hj130 M
          · refine v_iload d_X_greatest_120 10 rfl ?_
            refine v_ifne d_X_greatest_122 ?_ ?_
            · refine v_sub (ls' := [(0, xA a0), (1, xI v1), (2, xI v2), (3, xI v3), (4, xI v4), (5, xI v5), (6, xI v6)]) [1, 2, 3, 4, 5, 6, 7] rfl ?_
              exact hj140 v2 v3 v4 M
            · refine v_iload d_X_greatest_125 0 rfl ?_
              refine v_ifeq d_X_greatest_127 ?_ ?_
              · refine v_sub (ls' := [(0, xA a0), (1, xI v1), (2, xI v2), (3, xI v3), (4, xI v4), (5, xI v5), (6, xI v6)]) [1, 2, 3, 4, 5, 6, 7] rfl ?_
                exact hj140 v2 v3 v4 M
              · refine v_sub (ls' := [(0, xA a0), (1, xI v1), (5, xI v5), (6, xI v6), (7, xI v7_57), (8, xI v8_66)]) [1, 2, 6, 7, 8, 9] rfl ?_
                exact hj130 M
        refine v_join0 (pj := 108) (lj := [(0, xA a0), (1, xI v1), (2, xI v2), (3, xI v3), (4, xI v4), (5, xI v5), (6, xI v6), (7, xI v7_57), (8, xI v8_66), (9, xI v9_86)]) (sj := []) (fun M => ?_) (fun j108 hj108 => ?_)
        · refine v_iconst d_X_greatest_108 (by decide) ?_
          refine v_goto d_X_greatest_109 ?_
          exact hj113 1 M
        refine v_iclt d_X_greatest_92 ?_ ?_
        · refine v_sub (ls' := [(0, xA a0), (1, xI v1), (2, xI v2), (3, xI v3), (4, xI v4), (5, xI v5), (6, xI v6), (7, xI v7_57), (8, xI v8_66), (9, xI v9_86)]) [1, 2, 3, 4, 5, 6, 7, 8, 9, 0] rfl ?_
          exact hj108 M
        · refine v_iload d_X_greatest_95 9 rfl ?_
          refine v_iload d_X_greatest_97 5 rfl ?_
          refine v_join0 (pj := 112) (lj := [(0, xA a0), (1, xI v1), (2, xI v2), (3, xI v3), (4, xI v4), (5, xI v5), (6, xI v6), (7, xI v7_57), (8, xI v8_66), (9, xI v9_86)]) (sj := []) (fun M => ?_) (fun j112 hj112 => ?_)
          · refine v_iconst d_X_greatest_112 (by decide) ?_
            exact hj113 0 M
          refine v_icne d_X_greatest_99 ?_ ?_
          · refine v_sub (ls' := [(0, xA a0), (1, xI v1), (2, xI v2), (3, xI v3), (4, xI v4), (5, xI v5), (6, xI v6), (7, xI v7_57), (8, xI v8_66), (9, xI v9_86)]) [1, 2, 3, 4, 5, 6, 7, 8, 9, 0] rfl ?_
            exact hj112 M
          · refine v_iload d_X_greatest_102 8 rfl ?_
            refine v_iloadn d_X_greatest_104 rfl 3 rfl ?_
            refine v_icle d_X_greatest_105 ?_ ?_
            · refine v_sub (ls' := [(0, xA a0), (1, xI v1), (2, xI v2), (3, xI v3), (4, xI v4), (5, xI v5), (6, xI v6), (7, xI v7_57), (8, xI v8_66), (9, xI v9_86)]) [1, 2, 3, 4, 5, 6, 7, 8, 9, 0] rfl ?_
              exact hj112 M
            · refine v_sub (ls' := [(0, xA a0), (1, xI v1), (2, xI v2), (3, xI v3), (4, xI v4), (5, xI v5), (6, xI v6), (7, xI v7_57), (8, xI v8_66), (9, xI v9_86)]) [1, 2, 3, 4, 5, 6, 7, 8, 9, 0] rfl ?_
              exact hj108 M
      refine v_icne d_X_greatest_70 ?_ ?_
      · refine v_iload d_X_greatest_77 1 rfl ?_
        refine v_iloadn d_X_greatest_79 rfl 5 rfl ?_
        refine v_imul d_X_greatest_80 (fun x80 => ?_)
        refine v_iloadn d_X_greatest_81 rfl 4 rfl ?_
        refine v_iload d_X_greatest_82 8 rfl ?_
        refine v_imul d_X_greatest_84 (fun x84 => ?_)
        refine v_isub d_X_greatest_85 (fun x85 => ?_)
        refine v_sub (ls' := [(0, xA a0), (1, xI v1), (2, xI v2), (3, xI v3), (4, xI v4), (5, xI v5), (6, xI v6), (7, xI v7_57), (8, xI v8_66)]) [2, 3, 4, 5, 6, 7, 8, 1, 0] rfl ?_
        exact hj86 x85 M
      · refine v_iconst d_X_greatest_73 (by decide) ?_
        refine v_goto d_X_greatest_74 ?_
        refine v_sub (ls' := [(0, xA a0), (1, xI v1), (2, xI v2), (3, xI v3), (4, xI v4), (5, xI v5), (6, xI v6), (7, xI v7_57), (8, xI v8_66)]) [2, 3, 4, 5, 6, 7, 8, 1, 0] rfl ?_
        exact hj86 1 M
set_option maxHeartbeats 4000000 in
set_option maxRecDepth 100000 in
theorem V_lp_X_greatest_16 {l : Launch} {w : vm_W} (hfl : l.stackTraces = false) (kx152 : Int → Int → Int → mm_T → Option ((Nat ⊕ Int) × mm_T)) (a0 : Nat) {v1 : Int} (hkx152 : ∀ (v2_e : Int) (v3_e : Int) (v4_e : Int) (M : mm_T), V_ l w q_X_greatest 7 (ex_T ex_I) 152 [(1, xI v1), (2, xI v2_e), (3, xI v3_e), (4, xI v4_e)] [] M (kx152 v2_e v3_e v4_e M)) : ∀ (f : Nat) (v2 : Int) (v3 : Int) (v4 : Int) (v5 : Int) (M : mm_T), V_ l w q_X_greatest 7 (ex_T ex_I) 16 [(0, xA a0), (1, xI v1), (2, xI v2), (3, xI v3), (4, xI v4), (5, xI v5)] [] M (lp_X_greatest_16 kx152 a0 f v2 v3 v4 v5 M) := by
  intro f
  induction f with
  | zero => intros; exact V_.none
  | succ f ih =>
    intro v2 v3 v4 v5 M
    unfold lp_X_greatest_16
    refine v_iload d_X_greatest_16 5 rfl ?_
    refine v_aloadn d_X_greatest_18 rfl 0 rfl ?_
    refine v_gR d_X_greatest_19 fl_X_36 rfl (fun r19 => ?_)
    refine v_gI d_X_greatest_22 fl_X_102 rfl (fun x22 => ?_)
    refine v_icge d_X_greatest_25 ?_ ?_
    · refine v_sub (ls' := [(1, xI v1), (2, xI v2), (3, xI v3), (4, xI v4)]) [1, 2, 3, 4] rfl ?_
      exact hkx152 v2 v3 v4 M
    · refine v_iconst d_X_greatest_28 (by decide) ?_
      refine v_istore (lz := fun z => [(6, xI z), (0, xA a0), (1, xI v1), (2, xI v2), (3, xI v3), (4, xI v4), (5, xI v5)]) d_X_greatest_29 (Nat.le_of_ble_eq_true rfl) (fun _ => rfl) (fun v6_29 => ?_)
      refine v_sub (ls' := [(0, xA a0), (1, xI v1), (2, xI v2), (3, xI v3), (4, xI v4), (5, xI v5), (6, xI v6_29)]) [1, 2, 3, 4, 5, 6, 0] rfl ?_
      refine V_lp_X_greatest_31 hfl _ _ _ (fun v2_146 v3_146 v4_146 M => ?_) _ _ _ _ _ _
      · refine v_iinc (lz := fun z => [(5, xI z), (0, xA a0), (1, xI v1), (2, xI v2_146), (3, xI v3_146), (4, xI v4_146)]) d_X_greatest_146 5 rfl (Nat.le_of_ble_eq_true rfl) (fun _ => rfl) (fun v5_146 => ?_)
        refine v_goto d_X_greatest_149 ?_
        refine v_sub (ls' := [(0, xA a0), (1, xI v1), (2, xI v2_146), (3, xI v3_146), (4, xI v4_146), (5, xI v5_146)]) [1, 2, 3, 4, 5, 0] rfl ?_
        exact ih v2_146 v3_146 v4_146 v5_146 M
set_option maxHeartbeats 4000000 in
set_option maxRecDepth 100000 in
theorem c_X_greatest (l : Launch) (hfl : l.stackTraces = false) (a0 : Nat) (v1 : Int) (M : mm_T) : vm_ConX l yX10_greatest (.code yX10_greatest cX10_greatest 11 (some .int)) 7 (ex_T ex_I) [xA a0, xI v1] M (k_X_greatest a0 v1 M) := by
  refine vm_conX (y := q_X_greatest) hfl (by decide +kernel) rfl (fun h => by cases h) (Nat.le_of_ble_eq_true rfl) rfl (fun r _ _ => by cases r with | inl E => trivial | inr x => rfl) (fun w => ?_)
  show V_ l w q_X_greatest 7 (ex_T ex_I) 0 [(0, xA a0), (1, xI v1)] [] M (k_X_greatest a0 v1 M)
  unfold k_X_greatest
  refine v_aloadn d_X_greatest_0 rfl 0 rfl ?_
  refine v_iloadn d_X_greatest_1 rfl 1 rfl ?_
  refine v_iconst d_X_greatest_2 (by decide) ?_
  refine v_xV d_X_greatest_3 ml_X_159 (q := (RX10, TX10, 10)) rfl (c_X_checkWhat l hfl a0 v1 2 M) (fun _ => rfl) (by decide) (by decide) (as := [xI v1, xI 2]) (st1 := []) rfl rfl (Nat.le_of_ble_eq_true rfl) rfl (sr := fun _ => []) (fun _ M => ?_)
  show V_ l w q_X_greatest 7 (ex_T ex_I) 6 [(0, xA a0), (1, xI v1)] [] M _
  refine v_iconst d_X_greatest_6 (by decide) ?_
  refine v_istoren (lz := fun z => [(2, xI z), (0, xA a0), (1, xI v1)]) d_X_greatest_7 rfl (Nat.le_of_ble_eq_true rfl) (fun _ => rfl) (fun v2_7 => ?_)
  refine v_iconst d_X_greatest_8 (by decide) ?_
  refine v_istoren (lz := fun z => [(3, xI z), (2, xI v2_7), (0, xA a0), (1, xI v1)]) d_X_greatest_9 rfl (Nat.le_of_ble_eq_true rfl) (fun _ => rfl) (fun v3_9 => ?_)
  refine v_iconst d_X_greatest_10 (by decide) ?_
  refine v_istore (lz := fun z => [(4, xI z), (3, xI v3_9), (2, xI v2_7), (0, xA a0), (1, xI v1)]) d_X_greatest_11 (Nat.le_of_ble_eq_true rfl) (fun _ => rfl) (fun v4_11 => ?_)
  refine v_iconst d_X_greatest_13 (by decide) ?_
  refine v_istore (lz := fun z => [(5, xI z), (4, xI v4_11), (3, xI v3_9), (2, xI v2_7), (0, xA a0), (1, xI v1)]) d_X_greatest_14 (Nat.le_of_ble_eq_true rfl) (fun _ => rfl) (fun v5_14 => ?_)
  refine v_sub (ls' := [(0, xA a0), (1, xI v1), (2, xI v2_7), (3, xI v3_9), (4, xI v4_11), (5, xI v5_14)]) [4, 5, 3, 2, 1, 0] rfl ?_
  refine V_lp_X_greatest_16 hfl _ _ (fun v2_152 v3_152 v4_152 M => ?_) _ _ _ _ _ _
  · refine v_iloadn d_X_greatest_152 rfl 0 rfl ?_
    refine v_ifne d_X_greatest_153 ?_ ?_
    · refine v_iloadn d_X_greatest_160 rfl 0 rfl ?_
      refine v_iconst d_X_greatest_161 (by decide) ?_
      refine v_icne d_X_greatest_162 ?_ ?_
      · refine v_iload d_X_greatest_169 3 rfl ?_
        exact v_ret d_X_greatest_171 rfl
      · refine v_iloadn d_X_greatest_165 rfl 2 rfl ?_
        refine v_goto d_X_greatest_166 ?_
        exact v_ret d_X_greatest_171 rfl
    · refine v_iloadn d_X_greatest_156 rfl 1 rfl ?_
      refine v_goto d_X_greatest_157 ?_
      exact v_ret d_X_greatest_171 rfl
set_option maxHeartbeats 4000000 in
set_option maxRecDepth 100000 in
theorem c_X_period (l : Launch) (hfl : l.stackTraces = false) (a0 : Nat) (M : mm_T) : vm_Con l yX10_period (.code yX10_period cX10_period 1 (some .int)) 3 ex_I [xA a0] M (k_X_period a0 M) := by
  refine vm_con (y := q_X_period) hfl (by decide +kernel) rfl (fun h => by cases h) (Nat.le_of_ble_eq_true rfl) rfl (fun _ _ _ => rfl) (fun r E h => by cases h) (fun w => ?_)
  show V_ l w q_X_period 3 ex_I 0 [(0, xA a0)] [] M (k_X_period a0 M)
  unfold k_X_period
  refine v_aloadn d_X_period_0 rfl 0 rfl ?_
  refine v_gR d_X_period_1 fl_X_36 rfl (fun r1 => ?_)
  refine v_gI d_X_period_4 fl_X_102 rfl (fun x4 => ?_)
  refine v_ifne d_X_period_7 ?_ ?_
  · refine v_aloadn d_X_period_14 rfl 0 rfl ?_
    refine v_gR d_X_period_15 fl_X_36 rfl (fun r15 => ?_)
    refine v_iconst d_X_period_18 (by decide) ?_
    refine v_aloadn d_X_period_19 rfl 0 rfl ?_
    refine v_gR d_X_period_20 fl_X_36 rfl (fun r20 => ?_)
    refine v_gI d_X_period_23 fl_X_102 rfl (fun x23 => ?_)
    refine v_cVi d_X_period_26 ml_X_167 (q := (RX1, TX1, 5)) rfl (c_Line_leastPeriod l hfl r15 0 x23 M) (fun _ => rfl) (by decide) (by decide) (as := [xI 0, xI x23]) (st1 := []) rfl rfl (Nat.le_of_ble_eq_true rfl) (fun c26 M => ?_)
    exact v_ret d_X_period_29 rfl
  · refine v_iconst d_X_period_10 (by decide) ?_
    refine v_goto d_X_period_11 ?_
    exact v_ret d_X_period_29 rfl
set_option maxHeartbeats 4000000 in
set_option maxRecDepth 100000 in
theorem V_lp_X_border_13 {l : Launch} {w : vm_W} (hfl : l.stackTraces = false) (kx61 : mm_T → Option (Int × mm_T)) (a0 : Nat) (v1 : Int) (v2 : Int) (hkx61 : ∀ (M : mm_T), V_ l w q_X_border 2 ex_I 61 [] [] M (kx61 M)) : ∀ (f : Nat) (v3 : Int) (v4 : Int) (M : mm_T), V_ l w q_X_border 2 ex_I 13 [(0, xA a0), (1, xI v1), (2, xI v2), (3, xI v3), (4, xI v4)] [] M (lp_X_border_13 kx61 a0 v1 v2 f v3 v4 M) := by
  intro f
  induction f with
  | zero => intros; exact V_.none
  | succ f ih =>
    intro v3 v4 M
    unfold lp_X_border_13
    refine v_iload d_X_border_13 4 rfl ?_
    refine v_iloadn d_X_border_15 rfl 2 rfl ?_
    refine v_icge d_X_border_16 ?_ ?_
    · refine v_sub (ls' := []) [] rfl ?_
      exact hkx61 M
    · refine v_aloadn d_X_border_19 rfl 0 rfl ?_
      refine v_gR d_X_border_20 fl_X_36 rfl (fun r20 => ?_)
      refine v_iloadn d_X_border_23 rfl 2 rfl ?_
      refine v_iconst d_X_border_24 (by decide) ?_
      refine v_isub d_X_border_25 (fun x25 => ?_)
      refine v_iloadn d_X_border_26 rfl 2 rfl ?_
      refine v_iconst d_X_border_27 (by decide) ?_
      refine v_isub d_X_border_28 (fun x28 => ?_)
      refine v_iload d_X_border_29 4 rfl ?_
      refine v_isub d_X_border_31 (fun x31 => ?_)
      refine v_cVi d_X_border_32 ml_X_163 (q := (RX1, TX1, 5)) rfl (c_Line_alike l hfl r20 x25 x31 M) (fun _ => rfl) (by decide) (by decide) (as := [xI x25, xI x31]) (st1 := []) rfl rfl (Nat.le_of_ble_eq_true rfl) (fun c32 M => ?_)
      refine v_iloadn d_X_border_35 rfl 2 rfl ?_
      refine v_iload d_X_border_36 4 rfl ?_
      refine v_isub d_X_border_38 (fun x38 => ?_)
      refine v_join1 (pj := 55) (lj := fun v3_55 => [(0, xA a0), (1, xI v1), (2, xI v2), (3, xI v3_55), (4, xI v4)]) (sj := fun v3_55 => []) (fun v3_55 M => ?_) (fun j55 hj55 => ?_)
      · refine v_iinc (lz := fun z => [(4, xI z), (0, xA a0), (1, xI v1), (2, xI v2), (3, xI v3_55)]) d_X_border_55 4 rfl (Nat.le_of_ble_eq_true rfl) (fun _ => rfl) (fun v4_55 => ?_)
        refine v_goto d_X_border_58 ?_
        refine v_sub (ls' := [(0, xA a0), (1, xI v1), (2, xI v2), (3, xI v3_55), (4, xI v4_55)]) [1, 2, 3, 4, 0] rfl ?_
        exact ih v3_55 v4_55 M
      refine v_iclt d_X_border_39 ?_ ?_
      · exact hj55 v3 M
      · refine v_iloadn d_X_border_42 rfl 3 rfl ?_
        refine v_iloadn d_X_border_43 rfl 1 rfl ?_
        refine v_icne d_X_border_44 ?_ ?_
        · refine v_iinc (lz := fun z => [(3, xI z), (0, xA a0), (1, xI v1), (2, xI v2), (4, xI v4)]) d_X_border_52 3 rfl (Nat.le_of_ble_eq_true rfl) (fun _ => rfl) (fun v3_52 => ?_)
          refine v_sub (ls' := [(0, xA a0), (1, xI v1), (2, xI v2), (3, xI v3_52), (4, xI v4)]) [1, 2, 3, 0, 4] rfl ?_
          exact hj55 v3_52 M
        · refine v_iloadn d_X_border_47 rfl 2 rfl ?_
          refine v_iload d_X_border_48 4 rfl ?_
          refine v_isub d_X_border_50 (fun x50 => ?_)
          exact v_ret d_X_border_51 rfl
set_option maxHeartbeats 4000000 in
set_option maxRecDepth 100000 in
theorem c_X_border (l : Launch) (hfl : l.stackTraces = false) (a0 : Nat) (v1 : Int) (M : mm_T) : vm_Con l yX10_border (.code yX10_border cX10_border 5 (some .int)) 2 ex_I [xA a0, xI v1] M (k_X_border a0 v1 M) := by
  refine vm_con (y := q_X_border) hfl (by decide +kernel) rfl (fun h => by cases h) (Nat.le_of_ble_eq_true rfl) rfl (fun _ _ _ => rfl) (fun r E h => by cases h) (fun w => ?_)
  show V_ l w q_X_border 2 ex_I 0 [(0, xA a0), (1, xI v1)] [] M (k_X_border a0 v1 M)
  unfold k_X_border
  refine v_aloadn d_X_border_0 rfl 0 rfl ?_
  refine v_gR d_X_border_1 fl_X_36 rfl (fun r1 => ?_)
  refine v_gI d_X_border_4 fl_X_102 rfl (fun x4 => ?_)
  refine v_istoren (lz := fun z => [(2, xI z), (0, xA a0), (1, xI v1)]) d_X_border_7 rfl (Nat.le_of_ble_eq_true rfl) (fun _ => rfl) (fun v2_7 => ?_)
  refine v_iconst d_X_border_8 (by decide) ?_
  refine v_istoren (lz := fun z => [(3, xI z), (2, xI v2_7), (0, xA a0), (1, xI v1)]) d_X_border_9 rfl (Nat.le_of_ble_eq_true rfl) (fun _ => rfl) (fun v3_9 => ?_)
  refine v_iconst d_X_border_10 (by decide) ?_
  refine v_istore (lz := fun z => [(4, xI z), (3, xI v3_9), (2, xI v2_7), (0, xA a0), (1, xI v1)]) d_X_border_11 (Nat.le_of_ble_eq_true rfl) (fun _ => rfl) (fun v4_11 => ?_)
  refine v_sub (ls' := [(0, xA a0), (1, xI v1), (2, xI v2_7), (3, xI v3_9), (4, xI v4_11)]) [3, 4, 2, 1, 0] rfl ?_
  refine V_lp_X_border_13 hfl _ _ _ _ (fun M => ?_) _ _ _ _
  · refine v_iconst d_X_border_61 (by decide) ?_
    exact v_ret d_X_border_62 rfl
set_option maxHeartbeats 4000000 in
set_option maxRecDepth 100000 in
theorem V_lp_X_runSize_33 {l : Launch} {w : vm_W} (hfl : l.stackTraces = false) (kx77 : Int → mm_T → Option (Int × mm_T)) (a0 : Nat) (v1 : Int) (v2 : Int) (hkx77 : ∀ (v3_e : Int) (M : mm_T), V_ l w q_X_runSize 3 ex_I 77 [(0, xA a0), (1, xI v1), (2, xI v2), (3, xI v3_e)] [] M (kx77 v3_e M)) : ∀ (f : Nat) (v3 : Int) (M : mm_T), V_ l w q_X_runSize 3 ex_I 33 [(0, xA a0), (1, xI v1), (2, xI v2), (3, xI v3)] [] M (lp_X_runSize_33 kx77 a0 v1 v2 f v3 M) := by
  intro f
  induction f with
  | zero => intros; exact V_.none
  | succ f ih =>
    intro v3 M
    unfold lp_X_runSize_33
    refine v_iloadn d_X_runSize_33 rfl 1 rfl ?_
    refine v_iloadn d_X_runSize_34 rfl 3 rfl ?_
    refine v_iadd d_X_runSize_35 (fun x35 => ?_)
    refine v_aloadn d_X_runSize_36 rfl 0 rfl ?_
    refine v_gR d_X_runSize_37 fl_X_36 rfl (fun r37 => ?_)
    refine v_gI d_X_runSize_40 fl_X_102 rfl (fun x40 => ?_)
    refine v_icge d_X_runSize_43 ?_ ?_
    · exact hkx77 v3 M
    · refine v_aloadn d_X_runSize_46 rfl 0 rfl ?_
      refine v_gR d_X_runSize_47 fl_X_36 rfl (fun r47 => ?_)
      refine v_iloadn d_X_runSize_50 rfl 1 rfl ?_
      refine v_iloadn d_X_runSize_51 rfl 3 rfl ?_
      refine v_iadd d_X_runSize_52 (fun x52 => ?_)
      refine v_cVi d_X_runSize_53 ml_X_106 (q := (RX1, TX1, 5)) rfl (c_Line_at l hfl r47 x52 M) (fun _ => rfl) (by decide) (by decide) (as := [xI x52]) (st1 := []) rfl rfl (Nat.le_of_ble_eq_true rfl) (fun c53 M => ?_)
      refine v_aloadn d_X_runSize_56 rfl 0 rfl ?_
      refine v_gR d_X_runSize_57 fl_X_36 rfl (fun r57 => ?_)
      refine v_iloadn d_X_runSize_60 rfl 1 rfl ?_
      refine v_iloadn d_X_runSize_61 rfl 3 rfl ?_
      refine v_iadd d_X_runSize_62 (fun x62 => ?_)
      refine v_iloadn d_X_runSize_63 rfl 2 rfl ?_
      refine v_isub d_X_runSize_64 (fun x64 => ?_)
      refine v_cVi d_X_runSize_65 ml_X_106 (q := (RX1, TX1, 5)) rfl (c_Line_at l hfl r57 x64 M) (fun _ => rfl) (by decide) (by decide) (as := [xI x64]) (st1 := [xI c53]) rfl rfl (Nat.le_of_ble_eq_true rfl) (fun c65 M => ?_)
      refine v_icne d_X_runSize_68 ?_ ?_
      · exact hkx77 v3 M
      · refine v_iinc (lz := fun z => [(3, xI z), (0, xA a0), (1, xI v1), (2, xI v2)]) d_X_runSize_71 3 rfl (Nat.le_of_ble_eq_true rfl) (fun _ => rfl) (fun v3_71 => ?_)
        refine v_goto d_X_runSize_74 ?_
        refine v_sub (ls' := [(0, xA a0), (1, xI v1), (2, xI v2), (3, xI v3_71)]) [1, 2, 3, 0] rfl ?_
        exact ih v3_71 M
set_option maxHeartbeats 4000000 in
set_option maxRecDepth 100000 in
theorem c_X_runSize (l : Launch) (hfl : l.stackTraces = false) (a0 : Nat) (v1 : Int) (v2 : Int) (M : mm_T) : vm_Con l yX10_runSize (.code yX10_runSize cX10_runSize 4 (some .int)) 3 ex_I [xA a0, xI v1, xI v2] M (k_X_runSize a0 v1 v2 M) := by
  refine vm_con (y := q_X_runSize) hfl (by decide +kernel) rfl (fun h => by cases h) (Nat.le_of_ble_eq_true rfl) rfl (fun _ _ _ => rfl) (fun r E h => by cases h) (fun w => ?_)
  show V_ l w q_X_runSize 3 ex_I 0 [(0, xA a0), (1, xI v1), (2, xI v2)] [] M (k_X_runSize a0 v1 v2 M)
  unfold k_X_runSize
  refine v_iloadn d_X_runSize_0 rfl 1 rfl ?_
  refine v_join0 (pj := 31) (lj := [(0, xA a0), (1, xI v1), (2, xI v2)]) (sj := []) (fun M => ?_) (fun j31 hj31 => ?_)
  · refine v_iloadn d_X_runSize_31 rfl 2 rfl ?_
    refine v_istoren (lz := fun z => [(3, xI z), (0, xA a0), (1, xI v1), (2, xI v2)]) d_X_runSize_32 rfl (Nat.le_of_ble_eq_true rfl) (fun _ => rfl) (fun v3_32 => ?_)
    refine v_sub (ls' := [(0, xA a0), (1, xI v1), (2, xI v2), (3, xI v3_32)]) [1, 2, 3, 0] rfl ?_
    refine V_lp_X_runSize_33 hfl _ _ _ _ (fun v3_77 M => ?_) _ _ _
    · refine v_iloadn d_X_runSize_77 rfl 3 rfl ?_
      refine v_iconst d_X_runSize_78 (by decide) ?_
      refine v_iloadn d_X_runSize_79 rfl 2 rfl ?_
      refine v_imul d_X_runSize_80 (fun x80 => ?_)
      refine v_join0 (pj := 101) (lj := []) (sj := []) (fun M => ?_) (fun j101 hj101 => ?_)
      · refine v_iconst d_X_runSize_101 (by decide) ?_
        exact v_ret d_X_runSize_102 rfl
      refine v_iclt d_X_runSize_81 ?_ ?_
      · refine v_sub (ls' := []) [] rfl ?_
        exact hj101 M
      · refine v_aloadn d_X_runSize_84 rfl 0 rfl ?_
        refine v_gR d_X_runSize_85 fl_X_36 rfl (fun r85 => ?_)
        refine v_iloadn d_X_runSize_88 rfl 1 rfl ?_
        refine v_iloadn d_X_runSize_89 rfl 3 rfl ?_
        refine v_cVi d_X_runSize_90 ml_X_167 (q := (RX1, TX1, 5)) rfl (c_Line_leastPeriod l hfl r85 v1 v3_77 M) (fun _ => rfl) (by decide) (by decide) (as := [xI v1, xI v3_77]) (st1 := []) rfl rfl (Nat.le_of_ble_eq_true rfl) (fun c90 M => ?_)
        refine v_iloadn d_X_runSize_93 rfl 2 rfl ?_
        refine v_icne d_X_runSize_94 ?_ ?_
        · refine v_sub (ls' := []) [] rfl ?_
          exact hj101 M
        · refine v_iloadn d_X_runSize_97 rfl 3 rfl ?_
          refine v_goto d_X_runSize_98 ?_
          exact v_ret d_X_runSize_102 rfl
  refine v_ifle d_X_runSize_1 ?_ ?_
  · exact hj31 M
  · refine v_aloadn d_X_runSize_4 rfl 0 rfl ?_
    refine v_gR d_X_runSize_5 fl_X_36 rfl (fun r5 => ?_)
    refine v_iloadn d_X_runSize_8 rfl 1 rfl ?_
    refine v_iconst d_X_runSize_9 (by decide) ?_
    refine v_isub d_X_runSize_10 (fun x10 => ?_)
    refine v_cVi d_X_runSize_11 ml_X_106 (q := (RX1, TX1, 5)) rfl (c_Line_at l hfl r5 x10 M) (fun _ => rfl) (by decide) (by decide) (as := [xI x10]) (st1 := []) rfl rfl (Nat.le_of_ble_eq_true rfl) (fun c11 M => ?_)
    refine v_aloadn d_X_runSize_14 rfl 0 rfl ?_
    refine v_gR d_X_runSize_15 fl_X_36 rfl (fun r15 => ?_)
    refine v_iloadn d_X_runSize_18 rfl 1 rfl ?_
    refine v_iconst d_X_runSize_19 (by decide) ?_
    refine v_isub d_X_runSize_20 (fun x20 => ?_)
    refine v_iloadn d_X_runSize_21 rfl 2 rfl ?_
    refine v_iadd d_X_runSize_22 (fun x22 => ?_)
    refine v_cVi d_X_runSize_23 ml_X_106 (q := (RX1, TX1, 5)) rfl (c_Line_at l hfl r15 x22 M) (fun _ => rfl) (by decide) (by decide) (as := [xI x22]) (st1 := [xI c11]) rfl rfl (Nat.le_of_ble_eq_true rfl) (fun c23 M => ?_)
    refine v_icne d_X_runSize_26 ?_ ?_
    · exact hj31 M
    · refine v_iconst d_X_runSize_29 (by decide) ?_
      exact v_ret d_X_runSize_30 rfl
set_option maxHeartbeats 4000000 in
set_option maxRecDepth 100000 in
theorem V_lp_X_run_26 {l : Launch} {w : vm_W} (hfl : l.stackTraces = false) (kx97 : Int → mm_T → Option ((Nat ⊕ Int) × mm_T)) (a0 : Nat) (v1 : Int) (v2 : Int) (v4 : Int) (hkx97 : ∀ (v3_e : Int) (M : mm_T), V_ l w q_X_run 7 (ex_T ex_I) 97 [(0, xA a0), (1, xI v1), (2, xI v2), (3, xI v3_e), (4, xI v4)] [] M (kx97 v3_e M)) : ∀ (f : Nat) (v3 : Int) (v5 : Int) (M : mm_T), V_ l w q_X_run 7 (ex_T ex_I) 26 [(0, xA a0), (1, xI v1), (2, xI v2), (3, xI v3), (4, xI v4), (5, xI v5)] [] M (lp_X_run_26 kx97 a0 v1 v2 v4 f v3 v5 M) := by
  intro f
  induction f with
  | zero => intros; exact V_.none
  | succ f ih =>
    intro v3 v5 M
    unfold lp_X_run_26
    refine v_iload d_X_run_26 4 rfl ?_
    refine v_iconst d_X_run_28 (by decide) ?_
    refine v_iload d_X_run_29 5 rfl ?_
    refine v_imul d_X_run_31 (fun x31 => ?_)
    refine v_iadd d_X_run_32 (fun x32 => ?_)
    refine v_aloadn d_X_run_33 rfl 0 rfl ?_
    refine v_gR d_X_run_34 fl_X_36 rfl (fun r34 => ?_)
    refine v_gI d_X_run_37 fl_X_102 rfl (fun x37 => ?_)
    refine v_icgt d_X_run_40 ?_ ?_
    · refine v_sub (ls' := [(0, xA a0), (1, xI v1), (2, xI v2), (3, xI v3), (4, xI v4)]) [0, 1, 2, 3, 4] rfl ?_
      exact hkx97 v3 M
    · refine v_aloadn d_X_run_43 rfl 0 rfl ?_
      refine v_iload d_X_run_44 4 rfl ?_
      refine v_iload d_X_run_46 5 rfl ?_
      refine v_cVi d_X_run_48 ml_X_170 (q := (RX10, TX10, 10)) rfl (c_X_runSize l hfl a0 v4 v5 M) (fun _ => rfl) (by decide) (by decide) (as := [xI v4, xI v5]) (st1 := []) rfl rfl (Nat.le_of_ble_eq_true rfl) (fun c48 M => ?_)
      refine v_istore (lz := fun z => [(6, xI z), (0, xA a0), (1, xI v1), (2, xI v2), (3, xI v3), (4, xI v4), (5, xI v5)]) d_X_run_51 (Nat.le_of_ble_eq_true rfl) (fun _ => rfl) (fun v6_51 => ?_)
      refine v_iload d_X_run_53 0 rfl ?_
      refine v_join1 (pj := 91) (lj := fun v3_91 => [(0, xA a0), (1, xI v1), (2, xI v2), (3, xI v3_91), (4, xI v4), (5, xI v5)]) (sj := fun v3_91 => []) (fun v3_91 M => ?_) (fun j91 hj91 => ?_)
      · refine v_iinc (lz := fun z => [(5, xI z), (0, xA a0), (1, xI v1), (2, xI v2), (3, xI v3_91), (4, xI v4)]) d_X_run_91 5 rfl (Nat.le_of_ble_eq_true rfl) (fun _ => rfl) (fun v5_91 => ?_)
        refine v_goto d_X_run_94 ?_
        refine v_sub (ls' := [(0, xA a0), (1, xI v1), (2, xI v2), (3, xI v3_91), (4, xI v4), (5, xI v5_91)]) [1, 2, 3, 4, 5, 0] rfl ?_
        exact ih v3_91 v5_91 M
      refine v_ifne d_X_run_55 ?_ ?_
      · refine v_iloadn d_X_run_61 rfl 4 rfl ?_
        refine v_iloadn d_X_run_62 rfl 2 rfl ?_
        refine v_icne d_X_run_63 ?_ ?_
        · refine v_iinc (lz := fun z => [(3, xI z), (6, xI v6_51), (0, xA a0), (1, xI v1), (2, xI v2), (4, xI v4), (5, xI v5)]) d_X_run_88 4 rfl (Nat.le_of_ble_eq_true rfl) (fun _ => rfl) (fun v3_88 => ?_)
          refine v_sub (ls' := [(0, xA a0), (1, xI v1), (2, xI v2), (3, xI v3_88), (4, xI v4), (5, xI v5)]) [2, 3, 4, 0, 5, 6] rfl ?_
          exact hj91 v3_88 M
        · refine v_iloadn d_X_run_66 rfl 3 rfl ?_
          refine v_ifne d_X_run_67 ?_ ?_
          · refine v_iloadn d_X_run_75 rfl 3 rfl ?_
            refine v_iconst d_X_run_76 (by decide) ?_
            refine v_icne d_X_run_77 ?_ ?_
            · refine v_iload d_X_run_85 6 rfl ?_
              exact v_ret d_X_run_87 rfl
            · refine v_iload d_X_run_80 0 rfl ?_
              refine v_goto d_X_run_82 ?_
              exact v_ret d_X_run_87 rfl
          · refine v_iload d_X_run_70 5 rfl ?_
            refine v_goto d_X_run_72 ?_
            exact v_ret d_X_run_87 rfl
      · refine v_goto d_X_run_58 ?_
        refine v_sub (ls' := [(0, xA a0), (1, xI v1), (2, xI v2), (3, xI v3), (4, xI v4), (5, xI v5)]) [1, 2, 3, 4, 5, 6] rfl ?_
        exact hj91 v3 M
set_option maxHeartbeats 4000000 in
set_option maxRecDepth 100000 in
theorem V_lp_X_run_11 {l : Launch} {w : vm_W} (hfl : l.stackTraces = false) (kx103 : Int → mm_T → Option ((Nat ⊕ Int) × mm_T)) (a0 : Nat) (v1 : Int) (v2 : Int) (hkx103 : ∀ (v3_e : Int) (M : mm_T), V_ l w q_X_run 7 (ex_T ex_I) 103 [(1, xI v1), (3, xI v3_e)] [] M (kx103 v3_e M)) : ∀ (f : Nat) (v3 : Int) (v4 : Int) (M : mm_T), V_ l w q_X_run 7 (ex_T ex_I) 11 [(0, xA a0), (1, xI v1), (2, xI v2), (3, xI v3), (4, xI v4)] [] M (lp_X_run_11 kx103 a0 v1 v2 f v3 v4 M) := by
  intro f
  induction f with
  | zero => intros; exact V_.none
  | succ f ih =>
    intro v3 v4 M
    unfold lp_X_run_11
    refine v_iload d_X_run_11 4 rfl ?_
    refine v_aloadn d_X_run_13 rfl 0 rfl ?_
    refine v_gR d_X_run_14 fl_X_36 rfl (fun r14 => ?_)
    refine v_gI d_X_run_17 fl_X_102 rfl (fun x17 => ?_)
    refine v_icge d_X_run_20 ?_ ?_
    · refine v_sub (ls' := [(1, xI v1), (3, xI v3)]) [1, 3] rfl ?_
      exact hkx103 v3 M
    · refine v_iconst d_X_run_23 (by decide) ?_
      refine v_istore (lz := fun z => [(5, xI z), (0, xA a0), (1, xI v1), (2, xI v2), (3, xI v3), (4, xI v4)]) d_X_run_24 (Nat.le_of_ble_eq_true rfl) (fun _ => rfl) (fun v5_24 => ?_)
      refine v_sub (ls' := [(0, xA a0), (1, xI v1), (2, xI v2), (3, xI v3), (4, xI v4), (5, xI v5_24)]) [1, 2, 3, 4, 5, 0] rfl ?_
      refine V_lp_X_run_26 hfl _ _ _ _ _ (fun v3_97 M => ?_) _ _ _ _
      · refine v_iinc (lz := fun z => [(4, xI z), (0, xA a0), (1, xI v1), (2, xI v2), (3, xI v3_97)]) d_X_run_97 4 rfl (Nat.le_of_ble_eq_true rfl) (fun _ => rfl) (fun v4_97 => ?_)
        refine v_goto d_X_run_100 ?_
        refine v_sub (ls' := [(0, xA a0), (1, xI v1), (2, xI v2), (3, xI v3_97), (4, xI v4_97)]) [1, 2, 3, 4, 0] rfl ?_
        exact ih v3_97 v4_97 M
set_option maxHeartbeats 4000000 in
set_option maxRecDepth 100000 in
theorem c_X_run (l : Launch) (hfl : l.stackTraces = false) (a0 : Nat) (v1 : Int) (v2 : Int) (M : mm_T) : vm_ConX l yX10_run (.code yX10_run cX10_run 7 (some .int)) 7 (ex_T ex_I) [xA a0, xI v1, xI v2] M (k_X_run a0 v1 v2 M) := by
  refine vm_conX (y := q_X_run) hfl (by decide +kernel) rfl (fun h => by cases h) (Nat.le_of_ble_eq_true rfl) rfl (fun r _ _ => by cases r with | inl E => trivial | inr x => rfl) (fun w => ?_)
  show V_ l w q_X_run 7 (ex_T ex_I) 0 [(0, xA a0), (1, xI v1), (2, xI v2)] [] M (k_X_run a0 v1 v2 M)
  unfold k_X_run
  refine v_aloadn d_X_run_0 rfl 0 rfl ?_
  refine v_iloadn d_X_run_1 rfl 2 rfl ?_
  refine v_iconst d_X_run_2 (by decide) ?_
  refine v_xV d_X_run_3 ml_X_159 (q := (RX10, TX10, 10)) rfl (c_X_checkWhat l hfl a0 v2 2 M) (fun _ => rfl) (by decide) (by decide) (as := [xI v2, xI 2]) (st1 := []) rfl rfl (Nat.le_of_ble_eq_true rfl) rfl (sr := fun _ => []) (fun _ M => ?_)
  show V_ l w q_X_run 7 (ex_T ex_I) 6 [(0, xA a0), (1, xI v1), (2, xI v2)] [] M _
  refine v_iconst d_X_run_6 (by decide) ?_
  refine v_istoren (lz := fun z => [(3, xI z), (0, xA a0), (1, xI v1), (2, xI v2)]) d_X_run_7 rfl (Nat.le_of_ble_eq_true rfl) (fun _ => rfl) (fun v3_7 => ?_)
  refine v_iconst d_X_run_8 (by decide) ?_
  refine v_istore (lz := fun z => [(4, xI z), (3, xI v3_7), (0, xA a0), (1, xI v1), (2, xI v2)]) d_X_run_9 (Nat.le_of_ble_eq_true rfl) (fun _ => rfl) (fun v4_9 => ?_)
  refine v_sub (ls' := [(0, xA a0), (1, xI v1), (2, xI v2), (3, xI v3_7), (4, xI v4_9)]) [2, 3, 4, 1, 0] rfl ?_
  refine V_lp_X_run_11 hfl _ _ _ _ (fun v3_103 M => ?_) _ _ _ _
  · refine v_iloadn d_X_run_103 rfl 0 rfl ?_
    refine v_iconst d_X_run_104 (by decide) ?_
    refine v_icne d_X_run_105 ?_ ?_
    · refine v_iconst d_X_run_112 (by decide) ?_
      exact v_ret d_X_run_113 rfl
    · refine v_iloadn d_X_run_108 rfl 1 rfl ?_
      refine v_goto d_X_run_109 ?_
      exact v_ret d_X_run_113 rfl
set_option maxHeartbeats 4000000 in
set_option maxRecDepth 100000 in
theorem V_lp_X_factors_33 {l : Launch} {w : vm_W} (hfl : l.stackTraces = false) (kx71 : Int → mm_T → Option ((Nat ⊕ Int) × mm_T)) (a0 : Nat) (v1 : Int) (v3 : Int) {v2 : Int} (hkx71 : ∀ (v4_e : Int) (M : mm_T), V_ l w q_X_factors 7 (ex_T ex_I) 71 [(0, xA a0), (1, xI v1), (2, xI v2), (3, xI v3), (4, xI v4_e)] [] M (kx71 v4_e M)) : ∀ (f : Nat) (v4 : Int) (v5 : Int) (M : mm_T), V_ l w q_X_factors 7 (ex_T ex_I) 33 [(0, xA a0), (1, xI v1), (2, xI v2), (3, xI v3), (4, xI v4), (5, xI v5)] [] M (lp_X_factors_33 kx71 a0 v1 v3 f v4 v5 M) := by
  intro f
  induction f with
  | zero => intros; exact V_.none
  | succ f ih =>
    intro v4 v5 M
    unfold lp_X_factors_33
    refine v_iload d_X_factors_33 5 rfl ?_
    refine v_iloadn d_X_factors_35 rfl 3 rfl ?_
    refine v_icge d_X_factors_36 ?_ ?_
    · refine v_sub (ls' := [(0, xA a0), (1, xI v1), (2, xI v2), (3, xI v3), (4, xI v4)]) [0, 1, 2, 3, 4] rfl ?_
      exact hkx71 v4 M
    · refine v_iload d_X_factors_39 4 rfl ?_
      refine v_ifne d_X_factors_41 ?_ ?_
      · refine v_sub (ls' := [(0, xA a0), (1, xI v1), (2, xI v2), (3, xI v3), (4, xI v4)]) [0, 1, 2, 3, 4] rfl ?_
        exact hkx71 v4 M
      · refine v_aloadn d_X_factors_44 rfl 0 rfl ?_
        refine v_gR d_X_factors_45 fl_X_36 rfl (fun r45 => ?_)
        refine v_iloadn d_X_factors_48 rfl 3 rfl ?_
        refine v_iload d_X_factors_49 5 rfl ?_
        refine v_cVi d_X_factors_51 ml_X_163 (q := (RX1, TX1, 5)) rfl (c_Line_alike l hfl r45 v3 v5 M) (fun _ => rfl) (by decide) (by decide) (as := [xI v3, xI v5]) (st1 := []) rfl rfl (Nat.le_of_ble_eq_true rfl) (fun c51 M => ?_)
        refine v_iloadn d_X_factors_54 rfl 1 rfl ?_
        refine v_join1 (pj := 63) (lj := fun s0_63 => [(0, xA a0), (1, xI v1), (2, xI v2), (3, xI v3), (5, xI v5)]) (sj := fun s0_63 => [xI s0_63]) (fun s0_63 M => ?_) (fun j63 hj63 => ?_)
        · refine v_istore (lz := fun z => [(4, xI z), (0, xA a0), (1, xI v1), (2, xI v2), (3, xI v3), (5, xI v5)]) d_X_factors_63 (Nat.le_of_ble_eq_true rfl) (fun _ => rfl) (fun v4_63 => ?_)
          refine v_iinc (lz := fun z => [(5, xI z), (4, xI v4_63), (0, xA a0), (1, xI v1), (2, xI v2), (3, xI v3)]) d_X_factors_65 5 rfl (Nat.le_of_ble_eq_true rfl) (fun _ => rfl) (fun v5_65 => ?_)
          refine v_goto d_X_factors_68 ?_
          refine v_sub (ls' := [(0, xA a0), (1, xI v1), (2, xI v2), (3, xI v3), (4, xI v4_63), (5, xI v5_65)]) [2, 3, 4, 5, 1, 0] rfl ?_
          exact ih v4_63 v5_65 M
        refine v_iclt d_X_factors_55 ?_ ?_
        · refine v_iconst d_X_factors_62 (by decide) ?_
          refine v_sub (ls' := [(0, xA a0), (1, xI v1), (2, xI v2), (3, xI v3), (5, xI v5)]) [0, 1, 2, 3, 5] rfl ?_
          exact hj63 0 M
        · refine v_iconst d_X_factors_58 (by decide) ?_
          refine v_goto d_X_factors_59 ?_
          refine v_sub (ls' := [(0, xA a0), (1, xI v1), (2, xI v2), (3, xI v3), (5, xI v5)]) [0, 1, 2, 3, 5] rfl ?_
          exact hj63 1 M
set_option maxHeartbeats 4000000 in
set_option maxRecDepth 100000 in
theorem V_lp_X_factors_14 {l : Launch} {w : vm_W} (hfl : l.stackTraces = false) (kx85 : Int → mm_T → Option ((Nat ⊕ Int) × mm_T)) (a0 : Nat) (v1 : Int) (hkx85 : ∀ (v2_e : Int) (M : mm_T), V_ l w q_X_factors 7 (ex_T ex_I) 85 [(2, xI v2_e)] [] M (kx85 v2_e M)) : ∀ (f : Nat) (v2 : Int) (v3 : Int) (M : mm_T), V_ l w q_X_factors 7 (ex_T ex_I) 14 [(0, xA a0), (1, xI v1), (2, xI v2), (3, xI v3)] [] M (lp_X_factors_14 kx85 a0 v1 f v2 v3 M) := by
  intro f
  induction f with
  | zero => intros; exact V_.none
  | succ f ih =>
    intro v2 v3 M
    unfold lp_X_factors_14
    refine v_iloadn d_X_factors_14 rfl 3 rfl ?_
    refine v_aloadn d_X_factors_15 rfl 0 rfl ?_
    refine v_gR d_X_factors_16 fl_X_36 rfl (fun r16 => ?_)
    refine v_gI d_X_factors_19 fl_X_102 rfl (fun x19 => ?_)
    refine v_icge d_X_factors_22 ?_ ?_
    · refine v_sub (ls' := [(2, xI v2)]) [2] rfl ?_
      exact hkx85 v2 M
    · refine v_iconst d_X_factors_25 (by decide) ?_
      refine v_istore (lz := fun z => [(4, xI z), (0, xA a0), (1, xI v1), (2, xI v2), (3, xI v3)]) d_X_factors_26 (Nat.le_of_ble_eq_true rfl) (fun _ => rfl) (fun v4_26 => ?_)
      refine v_iloadn d_X_factors_28 rfl 2 rfl ?_
      refine v_iconst d_X_factors_29 (by decide) ?_
      refine v_isub d_X_factors_30 (fun x30 => ?_)
      refine v_istore (lz := fun z => [(5, xI z), (4, xI v4_26), (0, xA a0), (1, xI v1), (2, xI v2), (3, xI v3)]) d_X_factors_31 (Nat.le_of_ble_eq_true rfl) (fun _ => rfl) (fun v5_31 => ?_)
      refine v_sub (ls' := [(0, xA a0), (1, xI v1), (2, xI v2), (3, xI v3), (4, xI v4_26), (5, xI v5_31)]) [2, 3, 4, 5, 1, 0] rfl ?_
      refine V_lp_X_factors_33 hfl _ _ _ _ (fun v4_71 M => ?_) _ _ _ _
      · refine v_iload d_X_factors_71 4 rfl ?_
        refine v_join1 (pj := 79) (lj := fun v2_79 => [(0, xA a0), (1, xI v1), (2, xI v2_79), (3, xI v3)]) (sj := fun v2_79 => []) (fun v2_79 M => ?_) (fun j79 hj79 => ?_)
        · refine v_iinc (lz := fun z => [(3, xI z), (0, xA a0), (1, xI v1), (2, xI v2_79)]) d_X_factors_79 3 rfl (Nat.le_of_ble_eq_true rfl) (fun _ => rfl) (fun v3_79 => ?_)
          refine v_goto d_X_factors_82 ?_
          refine v_sub (ls' := [(0, xA a0), (1, xI v1), (2, xI v2_79), (3, xI v3_79)]) [1, 2, 3, 0] rfl ?_
          exact ih v2_79 v3_79 M
        refine v_ifne d_X_factors_73 ?_ ?_
        · refine v_sub (ls' := [(0, xA a0), (1, xI v1), (2, xI v2), (3, xI v3)]) [0, 1, 2, 3] rfl ?_
          exact hj79 v2 M
        · refine v_iinc (lz := fun z => [(2, xI z), (0, xA a0), (1, xI v1), (3, xI v3), (4, xI v4_71)]) d_X_factors_76 2 rfl (Nat.le_of_ble_eq_true rfl) (fun _ => rfl) (fun v2_76 => ?_)
          refine v_sub (ls' := [(0, xA a0), (1, xI v1), (2, xI v2_76), (3, xI v3)]) [1, 2, 0, 3] rfl ?_
          exact hj79 v2_76 M
set_option maxHeartbeats 4000000 in
set_option maxRecDepth 100000 in
theorem c_X_factors (l : Launch) (hfl : l.stackTraces = false) (a0 : Nat) (v1 : Int) (M : mm_T) : vm_ConX l yX10_factors (.code yX10_factors cX10_factors 6 (some .int)) 7 (ex_T ex_I) [xA a0, xI v1] M (k_X_factors a0 v1 M) := by
  refine vm_conX (y := q_X_factors) hfl (by decide +kernel) rfl (fun h => by cases h) (Nat.le_of_ble_eq_true rfl) rfl (fun r _ _ => by cases r with | inl E => trivial | inr x => rfl) (fun w => ?_)
  show V_ l w q_X_factors 7 (ex_T ex_I) 0 [(0, xA a0), (1, xI v1)] [] M (k_X_factors a0 v1 M)
  unfold k_X_factors
  refine v_aloadn d_X_factors_0 rfl 0 rfl ?_
  refine v_iloadn d_X_factors_1 rfl 1 rfl ?_
  refine v_iconst d_X_factors_2 (by decide) ?_
  refine v_bipush d_X_factors_3 (by decide) ?_
  refine v_xV d_X_factors_5 ml_X_173 (q := (RX10, TX10, 10)) rfl (c_X_checkRange l hfl a0 v1 1 64 M) (fun _ => rfl) (by decide) (by decide) (as := [xI v1, xI 1, xI 64]) (st1 := []) rfl rfl (Nat.le_of_ble_eq_true rfl) rfl (sr := fun _ => []) (fun _ M => ?_)
  show V_ l w q_X_factors 7 (ex_T ex_I) 8 [(0, xA a0), (1, xI v1)] [] M _
  refine v_iconst d_X_factors_8 (by decide) ?_
  refine v_istoren (lz := fun z => [(2, xI z), (0, xA a0), (1, xI v1)]) d_X_factors_9 rfl (Nat.le_of_ble_eq_true rfl) (fun _ => rfl) (fun v2_9 => ?_)
  refine v_iloadn d_X_factors_10 rfl 2 rfl ?_
  refine v_iconst d_X_factors_11 (by decide) ?_
  refine v_isub d_X_factors_12 (fun x12 => ?_)
  refine v_istoren (lz := fun z => [(3, xI z), (2, xI v2_9), (0, xA a0), (1, xI v1)]) d_X_factors_13 rfl (Nat.le_of_ble_eq_true rfl) (fun _ => rfl) (fun v3_13 => ?_)
  refine v_sub (ls' := [(0, xA a0), (1, xI v1), (2, xI v2_9), (3, xI v3_13)]) [2, 3, 1, 0] rfl ?_
  refine V_lp_X_factors_14 hfl _ _ _ (fun v2_85 M => ?_) _ _ _ _
  · refine v_iloadn d_X_factors_85 rfl 0 rfl ?_
    exact v_ret d_X_factors_86 rfl
set_option maxHeartbeats 4000000 in
set_option maxRecDepth 100000 in
theorem V_lp_X_mirror_30 {l : Launch} {w : vm_W} (hfl : l.stackTraces = false) (kx75 : Int → Int → mm_T → Option (Int × mm_T)) (a0 : Nat) {v1 : Int} {v2 : Int} (hkx75 : ∀ (v3_e : Int) (v4_e : Int) (M : mm_T), V_ l w q_X_mirror 2 ex_I 75 [(0, xA a0), (1, xI v1), (2, xI v2), (3, xI v3_e), (4, xI v4_e)] [] M (kx75 v3_e v4_e M)) : ∀ (f : Nat) (v3 : Int) (v4 : Int) (M : mm_T), V_ l w q_X_mirror 2 ex_I 30 [(0, xA a0), (1, xI v1), (2, xI v2), (3, xI v3), (4, xI v4)] [] M (lp_X_mirror_30 kx75 a0 f v3 v4 M) := by
  intro f
  induction f with
  | zero => intros; exact V_.none
  | succ f ih =>
    intro v3 v4 M
    unfold lp_X_mirror_30
    refine v_iloadn d_X_mirror_30 rfl 3 rfl ?_
    refine v_iflt d_X_mirror_31 ?_ ?_
    · exact hkx75 v3 v4 M
    · refine v_iload d_X_mirror_34 4 rfl ?_
      refine v_aloadn d_X_mirror_36 rfl 0 rfl ?_
      refine v_gR d_X_mirror_37 fl_X_36 rfl (fun r37 => ?_)
      refine v_gI d_X_mirror_40 fl_X_102 rfl (fun x40 => ?_)
      refine v_icge d_X_mirror_43 ?_ ?_
      · exact hkx75 v3 v4 M
      · refine v_aloadn d_X_mirror_46 rfl 0 rfl ?_
        refine v_gR d_X_mirror_47 fl_X_36 rfl (fun r47 => ?_)
        refine v_iloadn d_X_mirror_50 rfl 3 rfl ?_
        refine v_cVi d_X_mirror_51 ml_X_106 (q := (RX1, TX1, 5)) rfl (c_Line_at l hfl r47 v3 M) (fun _ => rfl) (by decide) (by decide) (as := [xI v3]) (st1 := []) rfl rfl (Nat.le_of_ble_eq_true rfl) (fun c51 M => ?_)
        refine v_aloadn d_X_mirror_54 rfl 0 rfl ?_
        refine v_gR d_X_mirror_55 fl_X_36 rfl (fun r55 => ?_)
        refine v_iload d_X_mirror_58 4 rfl ?_
        refine v_cVi d_X_mirror_60 ml_X_106 (q := (RX1, TX1, 5)) rfl (c_Line_at l hfl r55 v4 M) (fun _ => rfl) (by decide) (by decide) (as := [xI v4]) (st1 := [xI c51]) rfl rfl (Nat.le_of_ble_eq_true rfl) (fun c60 M => ?_)
        refine v_icne d_X_mirror_63 ?_ ?_
        · exact hkx75 v3 v4 M
        · refine v_iinc (lz := fun z => [(3, xI z), (0, xA a0), (1, xI v1), (2, xI v2), (4, xI v4)]) d_X_mirror_66 3 rfl (Nat.le_of_ble_eq_true rfl) (fun _ => rfl) (fun v3_66 => ?_)
          refine v_iinc (lz := fun z => [(4, xI z), (3, xI v3_66), (0, xA a0), (1, xI v1), (2, xI v2)]) d_X_mirror_69 4 rfl (Nat.le_of_ble_eq_true rfl) (fun _ => rfl) (fun v4_69 => ?_)
          refine v_goto d_X_mirror_72 ?_
          refine v_sub (ls' := [(0, xA a0), (1, xI v1), (2, xI v2), (3, xI v3_66), (4, xI v4_69)]) [2, 3, 4, 1, 0] rfl ?_
          exact ih v3_66 v4_69 M
set_option maxHeartbeats 4000000 in
set_option maxRecDepth 100000 in
theorem V_lp_X_mirror_4 {l : Launch} {w : vm_W} (hfl : l.stackTraces = false) (kx92 : Int → mm_T → Option (Int × mm_T)) (a0 : Nat) (hkx92 : ∀ (v1_e : Int) (M : mm_T), V_ l w q_X_mirror 2 ex_I 92 [(1, xI v1_e)] [] M (kx92 v1_e M)) : ∀ (f : Nat) (v1 : Int) (v2 : Int) (M : mm_T), V_ l w q_X_mirror 2 ex_I 4 [(0, xA a0), (1, xI v1), (2, xI v2)] [] M (lp_X_mirror_4 kx92 a0 f v1 v2 M) := by
  intro f
  induction f with
  | zero => intros; exact V_.none
  | succ f ih =>
    intro v1 v2 M
    unfold lp_X_mirror_4
    refine v_iloadn d_X_mirror_4 rfl 2 rfl ?_
    refine v_iconst d_X_mirror_5 (by decide) ?_
    refine v_aloadn d_X_mirror_6 rfl 0 rfl ?_
    refine v_gR d_X_mirror_7 fl_X_36 rfl (fun r7 => ?_)
    refine v_gI d_X_mirror_10 fl_X_102 rfl (fun x10 => ?_)
    refine v_imul d_X_mirror_13 (fun x13 => ?_)
    refine v_iconst d_X_mirror_14 (by decide) ?_
    refine v_isub d_X_mirror_15 (fun x15 => ?_)
    refine v_icge d_X_mirror_16 ?_ ?_
    · refine v_sub (ls' := [(1, xI v1)]) [1] rfl ?_
      exact hkx92 v1 M
    · refine v_iloadn d_X_mirror_19 rfl 2 rfl ?_
      refine v_iconst d_X_mirror_20 (by decide) ?_
      refine v_idiv d_X_mirror_21 (fun x21 => ?_)
      refine v_istoren (lz := fun z => [(3, xI z), (0, xA a0), (1, xI v1), (2, xI v2)]) d_X_mirror_22 rfl (Nat.le_of_ble_eq_true rfl) (fun _ => rfl) (fun v3_22 => ?_)
      refine v_iloadn d_X_mirror_23 rfl 0 rfl ?_
      refine v_iloadn d_X_mirror_24 rfl 3 rfl ?_
      refine v_iconst d_X_mirror_25 (by decide) ?_
      refine v_irem d_X_mirror_26 (fun x26 => ?_)
      refine v_iadd d_X_mirror_27 (fun x27 => ?_)
      refine v_istore (lz := fun z => [(4, xI z), (3, xI v3_22), (0, xA a0), (1, xI v1), (2, xI v2)]) d_X_mirror_28 (Nat.le_of_ble_eq_true rfl) (fun _ => rfl) (fun v4_28 => ?_)
      refine v_sub (ls' := [(0, xA a0), (1, xI v1), (2, xI v2), (3, xI v3_22), (4, xI v4_28)]) [2, 3, 4, 1, 0] rfl ?_
      refine V_lp_X_mirror_30 hfl _ _ (fun v3_75 v4_75 M => ?_) _ _ _ _
      · refine v_iloadn d_X_mirror_75 rfl 1 rfl ?_
        refine v_iload d_X_mirror_76 4 rfl ?_
        refine v_iloadn d_X_mirror_78 rfl 3 rfl ?_
        refine v_isub d_X_mirror_79 (fun x79 => ?_)
        refine v_iconst d_X_mirror_80 (by decide) ?_
        refine v_isub d_X_mirror_81 (fun x81 => ?_)
        refine v_mmax d_X_mirror_82 gw_551 gw_466 gw_131 gw_467 (by first | decide | omega) (Nat.le_of_ble_eq_true rfl) ?_
        refine v_istoren (lz := fun z => [(1, xI z), (0, xA a0), (2, xI v2), (3, xI v3_75), (4, xI v4_75)]) d_X_mirror_85 rfl (Nat.le_of_ble_eq_true rfl) (fun _ => rfl) (fun v1_85 => ?_)
        refine v_iinc (lz := fun z => [(2, xI z), (1, xI v1_85), (0, xA a0), (3, xI v3_75), (4, xI v4_75)]) d_X_mirror_86 2 rfl (Nat.le_of_ble_eq_true rfl) (fun _ => rfl) (fun v2_86 => ?_)
        refine v_goto d_X_mirror_89 ?_
        refine v_sub (ls' := [(0, xA a0), (1, xI v1_85), (2, xI v2_86)]) [2, 1, 0] rfl ?_
        exact ih v1_85 v2_86 M
set_option maxHeartbeats 4000000 in
set_option maxRecDepth 100000 in
theorem c_X_mirror (l : Launch) (hfl : l.stackTraces = false) (a0 : Nat) (M : mm_T) : vm_Con l yX10_mirror (.code yX10_mirror cX10_mirror 5 (some .int)) 2 ex_I [xA a0] M (k_X_mirror a0 M) := by
  refine vm_con (y := q_X_mirror) hfl (by decide +kernel) rfl (fun h => by cases h) (Nat.le_of_ble_eq_true rfl) rfl (fun _ _ _ => rfl) (fun r E h => by cases h) (fun w => ?_)
  show V_ l w q_X_mirror 2 ex_I 0 [(0, xA a0)] [] M (k_X_mirror a0 M)
  unfold k_X_mirror
  refine v_iconst d_X_mirror_0 (by decide) ?_
  refine v_istoren (lz := fun z => [(1, xI z), (0, xA a0)]) d_X_mirror_1 rfl (Nat.le_of_ble_eq_true rfl) (fun _ => rfl) (fun v1_1 => ?_)
  refine v_iconst d_X_mirror_2 (by decide) ?_
  refine v_istoren (lz := fun z => [(2, xI z), (1, xI v1_1), (0, xA a0)]) d_X_mirror_3 rfl (Nat.le_of_ble_eq_true rfl) (fun _ => rfl) (fun v2_3 => ?_)
  refine v_sub (ls' := [(0, xA a0), (1, xI v1_1), (2, xI v2_3)]) [2, 1, 0] rfl ?_
  refine V_lp_X_mirror_4 hfl _ _ (fun v1_92 M => ?_) _ _ _ _
  · refine v_iloadn d_X_mirror_92 rfl 0 rfl ?_
    exact v_ret d_X_mirror_93 rfl
set_option maxHeartbeats 4000000 in
set_option maxRecDepth 100000 in
theorem V_lp_X_lyndon_7 {l : Launch} {w : vm_W} (hfl : l.stackTraces = false) (kx69 : Int → mm_T → Option (Int × mm_T)) (a0 : Nat) (v1 : Int) (hkx69 : ∀ (v3_e : Int) (M : mm_T), V_ l w q_X_lyndon 3 ex_I 69 [(1, xI v1), (3, xI v3_e)] [] M (kx69 v3_e M)) : ∀ (f : Nat) (v2 : Int) (v3 : Int) (v4 : Int) (M : mm_T), V_ l w q_X_lyndon 3 ex_I 7 [(0, xA a0), (1, xI v1), (2, xI v2), (3, xI v3), (4, xI v4)] [] M (lp_X_lyndon_7 kx69 a0 v1 f v2 v3 v4 M) := by
  intro f
  induction f with
  | zero => intros; exact V_.none
  | succ f ih =>
    intro v2 v3 v4 M
    unfold lp_X_lyndon_7
    refine v_iload d_X_lyndon_7 4 rfl ?_
    refine v_aloadn d_X_lyndon_9 rfl 0 rfl ?_
    refine v_gR d_X_lyndon_10 fl_X_36 rfl (fun r10 => ?_)
    refine v_gI d_X_lyndon_13 fl_X_102 rfl (fun x13 => ?_)
    refine v_icgt d_X_lyndon_16 ?_ ?_
    · refine v_sub (ls' := [(1, xI v1), (3, xI v3)]) [1, 3] rfl ?_
      exact hkx69 v3 M
    · refine v_iload d_X_lyndon_19 4 rfl ?_
      refine v_aloadn d_X_lyndon_21 rfl 0 rfl ?_
      refine v_gR d_X_lyndon_22 fl_X_36 rfl (fun r22 => ?_)
      refine v_gI d_X_lyndon_25 fl_X_102 rfl (fun x25 => ?_)
      refine v_join2 (pj := 63) (lj := fun v2_63 v3_63 => [(0, xA a0), (1, xI v1), (2, xI v2_63), (3, xI v3_63), (4, xI v4)]) (sj := fun v2_63 v3_63 => []) (fun v2_63 v3_63 M => ?_) (fun j63 hj63 => ?_)
      · refine v_iinc (lz := fun z => [(4, xI z), (0, xA a0), (1, xI v1), (2, xI v2_63), (3, xI v3_63)]) d_X_lyndon_63 4 rfl (Nat.le_of_ble_eq_true rfl) (fun _ => rfl) (fun v4_63 => ?_)
        refine v_goto d_X_lyndon_66 ?_
        refine v_sub (ls' := [(0, xA a0), (1, xI v1), (2, xI v2_63), (3, xI v3_63), (4, xI v4_63)]) [1, 2, 3, 4, 0] rfl ?_
        exact ih v2_63 v3_63 v4_63 M
      refine v_join0 (pj := 47) (lj := [(0, xA a0), (1, xI v1), (2, xI v2), (3, xI v3), (4, xI v4)]) (sj := []) (fun M => ?_) (fun j47 hj47 => ?_)
      · refine v_iloadn d_X_lyndon_47 rfl 3 rfl ?_
        refine v_iloadn d_X_lyndon_48 rfl 1 rfl ?_
        refine v_icne d_X_lyndon_49 ?_ ?_
        · refine v_iinc (lz := fun z => [(3, xI z), (0, xA a0), (1, xI v1), (2, xI v2), (4, xI v4)]) d_X_lyndon_57 3 rfl (Nat.le_of_ble_eq_true rfl) (fun _ => rfl) (fun v3_57 => ?_)
          refine v_iload d_X_lyndon_60 4 rfl ?_
          refine v_istoren (lz := fun z => [(2, xI z), (3, xI v3_57), (0, xA a0), (1, xI v1), (4, xI v4)]) d_X_lyndon_62 rfl (Nat.le_of_ble_eq_true rfl) (fun _ => rfl) (fun v2_62 => ?_)
          refine v_sub (ls' := [(0, xA a0), (1, xI v1), (2, xI v2_62), (3, xI v3_57), (4, xI v4)]) [2, 3, 0, 1, 4] rfl ?_
          exact hj63 v2_62 v3_57 M
        · refine v_iload d_X_lyndon_52 4 rfl ?_
          refine v_iloadn d_X_lyndon_54 rfl 2 rfl ?_
          refine v_isub d_X_lyndon_55 (fun x55 => ?_)
          exact v_ret d_X_lyndon_56 rfl
      refine v_icge d_X_lyndon_28 ?_ ?_
      · exact hj47 M
      · refine v_aloadn d_X_lyndon_31 rfl 0 rfl ?_
        refine v_gR d_X_lyndon_32 fl_X_36 rfl (fun r32 => ?_)
        refine v_iload d_X_lyndon_35 4 rfl ?_
        refine v_iloadn d_X_lyndon_37 rfl 2 rfl ?_
        refine v_cVi d_X_lyndon_38 ml_X_182 (q := (RX1, TX1, 5)) rfl (c_Line_endIsLess l hfl r32 v4 v2 M) (fun _ => rfl) (by decide) (by decide) (as := [xI v4, xI v2]) (st1 := []) rfl rfl (Nat.le_of_ble_eq_true rfl) (fun c38 M => ?_)
        refine v_ifne d_X_lyndon_41 ?_ ?_
        · exact hj47 M
        · refine v_goto d_X_lyndon_44 ?_
          exact hj63 v2 v3 M
set_option maxHeartbeats 4000000 in
set_option maxRecDepth 100000 in
theorem c_X_lyndon (l : Launch) (hfl : l.stackTraces = false) (a0 : Nat) (v1 : Int) (M : mm_T) : vm_Con l yX10_lyndon (.code yX10_lyndon cX10_lyndon 5 (some .int)) 3 ex_I [xA a0, xI v1] M (k_X_lyndon a0 v1 M) := by
  refine vm_con (y := q_X_lyndon) hfl (by decide +kernel) rfl (fun h => by cases h) (Nat.le_of_ble_eq_true rfl) rfl (fun _ _ _ => rfl) (fun r E h => by cases h) (fun w => ?_)
  show V_ l w q_X_lyndon 3 ex_I 0 [(0, xA a0), (1, xI v1)] [] M (k_X_lyndon a0 v1 M)
  unfold k_X_lyndon
  refine v_iconst d_X_lyndon_0 (by decide) ?_
  refine v_istoren (lz := fun z => [(2, xI z), (0, xA a0), (1, xI v1)]) d_X_lyndon_1 rfl (Nat.le_of_ble_eq_true rfl) (fun _ => rfl) (fun v2_1 => ?_)
  refine v_iconst d_X_lyndon_2 (by decide) ?_
  refine v_istoren (lz := fun z => [(3, xI z), (2, xI v2_1), (0, xA a0), (1, xI v1)]) d_X_lyndon_3 rfl (Nat.le_of_ble_eq_true rfl) (fun _ => rfl) (fun v3_3 => ?_)
  refine v_iconst d_X_lyndon_4 (by decide) ?_
  refine v_istore (lz := fun z => [(4, xI z), (3, xI v3_3), (2, xI v2_1), (0, xA a0), (1, xI v1)]) d_X_lyndon_5 (Nat.le_of_ble_eq_true rfl) (fun _ => rfl) (fun v4_5 => ?_)
  refine v_sub (ls' := [(0, xA a0), (1, xI v1), (2, xI v2_1), (3, xI v3_3), (4, xI v4_5)]) [3, 4, 2, 1, 0] rfl ?_
  refine V_lp_X_lyndon_7 hfl _ _ _ (fun v3_69 M => ?_) _ _ _ _ _
  · refine v_iloadn d_X_lyndon_69 rfl 0 rfl ?_
    refine v_iconst d_X_lyndon_70 (by decide) ?_
    refine v_icne d_X_lyndon_71 ?_ ?_
    · refine v_iconst d_X_lyndon_78 (by decide) ?_
      exact v_ret d_X_lyndon_79 rfl
    · refine v_iloadn d_X_lyndon_74 rfl 1 rfl ?_
      refine v_goto d_X_lyndon_75 ?_
      exact v_ret d_X_lyndon_79 rfl
set_option maxHeartbeats 4000000 in
set_option maxRecDepth 100000 in
theorem V_lp_X_turned_16 {l : Launch} {w : vm_W} (hfl : l.stackTraces = false) (kx47 : Int → mm_T → Option (Int × mm_T)) (a0 : Nat) (hkx47 : ∀ (v1_e : Int) (M : mm_T), V_ l w q_X_turned 3 ex_I 47 [(1, xI v1_e)] [] M (kx47 v1_e M)) : ∀ (f : Nat) (v1 : Int) (v2 : Int) (M : mm_T), V_ l w q_X_turned 3 ex_I 16 [(0, xA a0), (1, xI v1), (2, xI v2)] [] M (lp_X_turned_16 kx47 a0 f v1 v2 M) := by
  intro f
  induction f with
  | zero => intros; exact V_.none
  | succ f ih =>
    intro v1 v2 M
    unfold lp_X_turned_16
    refine v_iloadn d_X_turned_16 rfl 2 rfl ?_
    refine v_aloadn d_X_turned_17 rfl 0 rfl ?_
    refine v_gR d_X_turned_18 fl_X_36 rfl (fun r18 => ?_)
    refine v_gI d_X_turned_21 fl_X_102 rfl (fun x21 => ?_)
    refine v_icge d_X_turned_24 ?_ ?_
    · refine v_sub (ls' := [(1, xI v1)]) [1] rfl ?_
      exact hkx47 v1 M
    · refine v_aloadn d_X_turned_27 rfl 0 rfl ?_
      refine v_gR d_X_turned_28 fl_X_36 rfl (fun r28 => ?_)
      refine v_iloadn d_X_turned_31 rfl 2 rfl ?_
      refine v_iloadn d_X_turned_32 rfl 1 rfl ?_
      refine v_cVi d_X_turned_33 ml_X_186 (q := (RX1, TX1, 5)) rfl (c_Line_turnIsLess l hfl r28 v2 v1 M) (fun _ => rfl) (by decide) (by decide) (as := [xI v2, xI v1]) (st1 := []) rfl rfl (Nat.le_of_ble_eq_true rfl) (fun c33 M => ?_)
      refine v_join1 (pj := 41) (lj := fun v1_41 => [(0, xA a0), (1, xI v1_41), (2, xI v2)]) (sj := fun v1_41 => []) (fun v1_41 M => ?_) (fun j41 hj41 => ?_)
      · refine v_iinc (lz := fun z => [(2, xI z), (0, xA a0), (1, xI v1_41)]) d_X_turned_41 2 rfl (Nat.le_of_ble_eq_true rfl) (fun _ => rfl) (fun v2_41 => ?_)
        refine v_goto d_X_turned_44 ?_
        refine v_sub (ls' := [(0, xA a0), (1, xI v1_41), (2, xI v2_41)]) [1, 2, 0] rfl ?_
        exact ih v1_41 v2_41 M
      refine v_ifeq d_X_turned_36 ?_ ?_
      · exact hj41 v1 M
      · refine v_iloadn d_X_turned_39 rfl 2 rfl ?_
        refine v_istoren (lz := fun z => [(1, xI z), (0, xA a0), (2, xI v2)]) d_X_turned_40 rfl (Nat.le_of_ble_eq_true rfl) (fun _ => rfl) (fun v1_40 => ?_)
        refine v_sub (ls' := [(0, xA a0), (1, xI v1_40), (2, xI v2)]) [1, 0, 2] rfl ?_
        exact hj41 v1_40 M
set_option maxHeartbeats 4000000 in
set_option maxRecDepth 100000 in
theorem c_X_turned (l : Launch) (hfl : l.stackTraces = false) (a0 : Nat) (M : mm_T) : vm_Con l yX10_turned (.code yX10_turned cX10_turned 3 (some .int)) 3 ex_I [xA a0] M (k_X_turned a0 M) := by
  refine vm_con (y := q_X_turned) hfl (by decide +kernel) rfl (fun h => by cases h) (Nat.le_of_ble_eq_true rfl) rfl (fun _ _ _ => rfl) (fun r E h => by cases h) (fun w => ?_)
  show V_ l w q_X_turned 3 ex_I 0 [(0, xA a0)] [] M (k_X_turned a0 M)
  unfold k_X_turned
  refine v_aloadn d_X_turned_0 rfl 0 rfl ?_
  refine v_gR d_X_turned_1 fl_X_36 rfl (fun r1 => ?_)
  refine v_gI d_X_turned_4 fl_X_102 rfl (fun x4 => ?_)
  refine v_ifne d_X_turned_7 ?_ ?_
  · refine v_iconst d_X_turned_12 (by decide) ?_
    refine v_istoren (lz := fun z => [(1, xI z), (0, xA a0)]) d_X_turned_13 rfl (Nat.le_of_ble_eq_true rfl) (fun _ => rfl) (fun v1_13 => ?_)
    refine v_iconst d_X_turned_14 (by decide) ?_
    refine v_istoren (lz := fun z => [(2, xI z), (1, xI v1_13), (0, xA a0)]) d_X_turned_15 rfl (Nat.le_of_ble_eq_true rfl) (fun _ => rfl) (fun v2_15 => ?_)
    refine v_sub (ls' := [(0, xA a0), (1, xI v1_13), (2, xI v2_15)]) [2, 1, 0] rfl ?_
    refine V_lp_X_turned_16 hfl _ _ (fun v1_47 M => ?_) _ _ _ _
    · refine v_iloadn d_X_turned_47 rfl 0 rfl ?_
      exact v_ret d_X_turned_48 rfl
  · refine v_iconst d_X_turned_10 (by decide) ?_
    exact v_ret d_X_turned_11 rfl
set_option maxHeartbeats 4000000 in
set_option maxRecDepth 100000 in
theorem V_lp_X_local_17 {l : Launch} {w : vm_W} (hfl : l.stackTraces = false) (kx46 : Int → mm_T → Option ((Nat ⊕ Int) × mm_T)) (a0 : Nat) (v1 : Int) (hkx46 : ∀ (v2_e : Int) (M : mm_T), V_ l w q_X_local 7 (ex_T ex_I) 46 [(2, xI v2_e)] [] M (kx46 v2_e M)) : ∀ (f : Nat) (v2 : Int) (M : mm_T), V_ l w q_X_local 7 (ex_T ex_I) 17 [(0, xA a0), (1, xI v1), (2, xI v2)] [] M (lp_X_local_17 kx46 a0 v1 f v2 M) := by
  intro f
  induction f with
  | zero => intros; exact V_.none
  | succ f ih =>
    intro v2 M
    unfold lp_X_local_17
    refine v_iloadn d_X_local_17 rfl 2 rfl ?_
    refine v_aloadn d_X_local_18 rfl 0 rfl ?_
    refine v_gR d_X_local_19 fl_X_36 rfl (fun r19 => ?_)
    refine v_gI d_X_local_22 fl_X_102 rfl (fun x22 => ?_)
    refine v_icge d_X_local_25 ?_ ?_
    · refine v_sub (ls' := [(2, xI v2)]) [2] rfl ?_
      exact hkx46 v2 M
    · refine v_aloadn d_X_local_28 rfl 0 rfl ?_
      refine v_gR d_X_local_29 fl_X_36 rfl (fun r29 => ?_)
      refine v_iloadn d_X_local_32 rfl 1 rfl ?_
      refine v_iloadn d_X_local_33 rfl 2 rfl ?_
      refine v_cVi d_X_local_34 ml_X_189 (q := (RX1, TX1, 5)) rfl (c_Line_repeatsAround l hfl r29 v1 v2 M) (fun _ => rfl) (by decide) (by decide) (as := [xI v1, xI v2]) (st1 := []) rfl rfl (Nat.le_of_ble_eq_true rfl) (fun c34 M => ?_)
      refine v_ifne d_X_local_37 ?_ ?_
      · refine v_sub (ls' := [(2, xI v2)]) [2] rfl ?_
        exact hkx46 v2 M
      · refine v_iinc (lz := fun z => [(2, xI z), (0, xA a0), (1, xI v1)]) d_X_local_40 2 rfl (Nat.le_of_ble_eq_true rfl) (fun _ => rfl) (fun v2_40 => ?_)
        refine v_goto d_X_local_43 ?_
        refine v_sub (ls' := [(0, xA a0), (1, xI v1), (2, xI v2_40)]) [1, 2, 0] rfl ?_
        exact ih v2_40 M
set_option maxHeartbeats 4000000 in
set_option maxRecDepth 100000 in
theorem c_X_local (l : Launch) (hfl : l.stackTraces = false) (a0 : Nat) (v1 : Int) (M : mm_T) : vm_ConX l yX10_local (.code yX10_local cX10_local 3 (some .int)) 7 (ex_T ex_I) [xA a0, xI v1] M (k_X_local a0 v1 M) := by
  refine vm_conX (y := q_X_local) hfl (by decide +kernel) rfl (fun h => by cases h) (Nat.le_of_ble_eq_true rfl) rfl (fun r _ _ => by cases r with | inl E => trivial | inr x => rfl) (fun w => ?_)
  show V_ l w q_X_local 7 (ex_T ex_I) 0 [(0, xA a0), (1, xI v1)] [] M (k_X_local a0 v1 M)
  unfold k_X_local
  refine v_aloadn d_X_local_0 rfl 0 rfl ?_
  refine v_iloadn d_X_local_1 rfl 1 rfl ?_
  refine v_iconst d_X_local_2 (by decide) ?_
  refine v_aloadn d_X_local_3 rfl 0 rfl ?_
  refine v_gR d_X_local_4 fl_X_36 rfl (fun r4 => ?_)
  refine v_gI d_X_local_7 fl_X_102 rfl (fun x7 => ?_)
  refine v_iconst d_X_local_10 (by decide) ?_
  refine v_isub d_X_local_11 (fun x11 => ?_)
  refine v_xV d_X_local_12 ml_X_173 (q := (RX10, TX10, 10)) rfl (c_X_checkRange l hfl a0 v1 1 x11 M) (fun _ => rfl) (by decide) (by decide) (as := [xI v1, xI 1, xI x11]) (st1 := []) rfl rfl (Nat.le_of_ble_eq_true rfl) rfl (sr := fun _ => []) (fun _ M => ?_)
  show V_ l w q_X_local 7 (ex_T ex_I) 15 [(0, xA a0), (1, xI v1)] [] M _
  refine v_iconst d_X_local_15 (by decide) ?_
  refine v_istoren (lz := fun z => [(2, xI z), (0, xA a0), (1, xI v1)]) d_X_local_16 rfl (Nat.le_of_ble_eq_true rfl) (fun _ => rfl) (fun v2_16 => ?_)
  refine v_sub (ls' := [(0, xA a0), (1, xI v1), (2, xI v2_16)]) [1, 2, 0] rfl ?_
  refine V_lp_X_local_17 hfl _ _ _ (fun v2_46 M => ?_) _ _ _
  · refine v_iloadn d_X_local_46 rfl 0 rfl ?_
    exact v_ret d_X_local_47 rfl
set_option maxHeartbeats 4000000 in
set_option maxRecDepth 100000 in
theorem V_lp_X_met_15 {l : Launch} {w : vm_W} (hfl : l.stackTraces = false) (kx94 : mm_T → Option ((Nat ⊕ Int) × mm_T)) (a0 : Nat) (v2 : Int) (a3 : Nat) (hkx94 : ∀ (M : mm_T), V_ l w q_X_met 14 (ex_T ex_I) 94 [] [] M (kx94 M)) : ∀ (f : Nat) (v4 : Int) (M : mm_T), V_ l w q_X_met 14 (ex_T ex_I) 15 [(0, xA a0), (2, xI v2), (3, xA a3), (4, xI v4)] [] M (lp_X_met_15 kx94 a0 v2 a3 f v4 M) := by
  intro f
  induction f with
  | zero => intros; exact V_.none
  | succ f ih =>
    intro v4 M
    unfold lp_X_met_15
    refine v_iload d_X_met_15 3 rfl ?_
    refine v_aloadn d_X_met_17 rfl 2 rfl ?_
    refine v_gI d_X_met_18 fl_X_195 rfl (fun x18 => ?_)
    refine v_iadd d_X_met_21 (fun x21 => ?_)
    refine v_aloadn d_X_met_22 rfl 0 rfl ?_
    refine v_gR d_X_met_23 fl_X_36 rfl (fun r23 => ?_)
    refine v_gI d_X_met_26 fl_X_102 rfl (fun x26 => ?_)
    refine v_icgt d_X_met_29 ?_ ?_
    · refine v_sub (ls' := []) [] rfl ?_
      exact hkx94 M
    · refine v_aloadn d_X_met_32 rfl 0 rfl ?_
      refine v_gR d_X_met_33 fl_X_36 rfl (fun r33 => ?_)
      refine v_aloadn d_X_met_36 rfl 2 rfl ?_
      refine v_aloadn d_X_met_37 rfl 0 rfl ?_
      refine v_gR d_X_met_38 fl_X_29 rfl (fun r38 => ?_)
      refine v_iconst d_X_met_41 (by decide) ?_
      refine v_iload d_X_met_42 3 rfl ?_
      refine v_iconst d_X_met_44 (by decide) ?_
      refine v_cSNi d_X_met_45 ml_X_198 ml_X_198_i (c_Sizes_lays l hfl 10 r33 a3 r38 0 v4 1 M) (fun _ => rfl) (by decide) (by decide) (as := [xA r33, xA a3, xA r38, xI 0, xI v4, xI 1]) (st1 := []) rfl rfl (Nat.le_of_ble_eq_true rfl) (fun c45 M => ?_)
      refine v_ifeq d_X_met_48 ?_ ?_
      · refine v_iinc (lz := fun z => [(4, xI z), (0, xA a0), (2, xI v2), (3, xA a3)]) d_X_met_88 3 rfl (Nat.le_of_ble_eq_true rfl) (fun _ => rfl) (fun v4_88 => ?_)
        refine v_goto d_X_met_91 ?_
        refine v_sub (ls' := [(0, xA a0), (2, xI v2), (3, xA a3), (4, xI v4_88)]) [1, 2, 3, 0] rfl ?_
        exact ih v4_88 M
      · refine v_aloadn d_X_met_51 rfl 0 rfl ?_
        refine v_gR d_X_met_52 fl_X_29 rfl (fun r52 => ?_)
        refine v_aloadn d_X_met_55 rfl 0 rfl ?_
        refine v_gR d_X_met_56 fl_X_36 rfl (fun r56 => ?_)
        refine v_aloadn d_X_met_59 rfl 2 rfl ?_
        refine v_iload d_X_met_60 3 rfl ?_
        refine v_iconst d_X_met_62 (by decide) ?_
        refine v_iconst d_X_met_63 (by decide) ?_
        refine v_cVi d_X_met_64 ml_X_202 (q := (RX7, TX7, 2)) rfl (c_Sizes_choose l hfl r52 r56 a3 v4 0 0 M) (fun _ => rfl) (by decide) (by decide) (as := [xA r56, xA a3, xI v4, xI 0, xI 0]) (st1 := []) rfl rfl (Nat.le_of_ble_eq_true rfl) (fun c64 M => ?_)
        refine v_pop d_X_met_67 rfl ?_
        refine v_iloadn d_X_met_68 rfl 1 rfl ?_
        refine v_ifne d_X_met_69 ?_ ?_
        · refine v_aloadn d_X_met_77 rfl 0 rfl ?_
          refine v_gR d_X_met_78 fl_X_29 rfl (fun r78 => ?_)
          refine v_iloadn d_X_met_81 rfl 1 rfl ?_
          refine v_iconst d_X_met_82 (by decide) ?_
          refine v_isub d_X_met_83 (fun x83 => ?_)
          refine v_cVi d_X_met_84 ml_X_206 (q := (RX7, TX7, 2)) rfl (c_Sizes_of l hfl r78 x83 M) (fun _ => rfl) (by decide) (by decide) (as := [xI x83]) (st1 := []) rfl rfl (Nat.le_of_ble_eq_true rfl) (fun c84 M => ?_)
          exact v_ret d_X_met_87 rfl
        · refine v_iload d_X_met_72 3 rfl ?_
          refine v_goto d_X_met_74 ?_
          exact v_ret d_X_met_87 rfl
set_option maxHeartbeats 4000000 in
set_option maxRecDepth 100000 in
theorem c_X_met (l : Launch) (hfl : l.stackTraces = false) (a0 : Nat) (v1 : Int) (v2 : Int) (M : mm_T) : vm_ConX l yX10_met (.code yX10_met cX10_met 5 (some .int)) 14 (ex_T ex_I) [xA a0, xI v1, xI v2] M (k_X_met a0 v1 v2 M) := by
  refine vm_conX (y := q_X_met) hfl (by decide +kernel) rfl (fun h => by cases h) (Nat.le_of_ble_eq_true rfl) rfl (fun r _ _ => by cases r with | inl E => trivial | inr x => rfl) (fun w => ?_)
  show V_ l w q_X_met 14 (ex_T ex_I) 0 [(0, xA a0), (1, xI v1), (2, xI v2)] [] M (k_X_met a0 v1 v2 M)
  unfold k_X_met
  refine v_aloadn d_X_met_0 rfl 0 rfl ?_
  refine v_iloadn d_X_met_1 rfl 1 rfl ?_
  refine v_xV d_X_met_2 ml_X_192 (q := (RX10, TX10, 10)) rfl (c_X_shapeOf l hfl a0 v1 M) (fun _ => rfl) (by decide) (by decide) (as := [xI v1]) (st1 := []) rfl rfl (Nat.le_of_ble_eq_true rfl) rfl (sr := fun r => [xA r]) (fun c2 M => ?_)
  show V_ l w q_X_met 14 (ex_T ex_I) 5 [(0, xA a0), (1, xI v1), (2, xI v2)] [xA c2] M _
  refine v_astoren (lz := fun z => [(3, xA z), (0, xA a0), (1, xI v1), (2, xI v2)]) d_X_met_5 rfl (Nat.le_of_ble_eq_true rfl) (fun _ => rfl) (fun a3_5 => ?_)
  refine v_aloadn d_X_met_6 rfl 1 rfl ?_
  refine v_iloadn d_X_met_7 rfl 3 rfl ?_
  refine v_iconst d_X_met_8 (by decide) ?_
  refine v_xV d_X_met_9 ml_X_159 (q := (RX10, TX10, 10)) rfl (c_X_checkWhat l hfl a0 v2 3 M) (fun _ => rfl) (by decide) (by decide) (as := [xI v2, xI 3]) (st1 := []) rfl rfl (Nat.le_of_ble_eq_true rfl) rfl (sr := fun _ => []) (fun _ M => ?_)
  show V_ l w q_X_met 14 (ex_T ex_I) 12 [(3, xA a3_5), (0, xA a0), (1, xI v1), (2, xI v2)] [] M _
  refine v_iconst d_X_met_12 (by decide) ?_
  refine v_istore (lz := fun z => [(4, xI z), (3, xA a3_5), (0, xA a0), (1, xI v1), (2, xI v2)]) d_X_met_13 (Nat.le_of_ble_eq_true rfl) (fun _ => rfl) (fun v4_13 => ?_)
  refine v_sub (ls' := [(0, xA a0), (2, xI v2), (3, xA a3_5), (4, xI v4_13)]) [2, 4, 1, 0] rfl ?_
  refine V_lp_X_met_15 hfl _ _ _ _ (fun M => ?_) _ _ _
  · refine v_iconst d_X_met_94 (by decide) ?_
    exact v_ret d_X_met_95 rfl
set_option maxHeartbeats 4000000 in
set_option maxRecDepth 100000 in
theorem c_X_whole (l : Launch) (hfl : l.stackTraces = false) (a0 : Nat) (v1 : Int) (v2 : Int) (v3 : Int) (M : mm_T) : vm_ConX l yX10_whole (.code yX10_whole cX10_whole 6 (some .int)) 7 (ex_T ex_I) [xA a0, xI v1, xI v2, xI v3] M (k_X_whole a0 v1 v2 v3 M) := by
  refine vm_conX (y := q_X_whole) hfl (by decide +kernel) rfl (fun h => by cases h) (Nat.le_of_ble_eq_true rfl) rfl (fun r _ _ => by cases r with | inl E => trivial | inr x => rfl) (fun w => ?_)
  show V_ l w q_X_whole 7 (ex_T ex_I) 0 [(0, xA a0), (1, xI v1), (2, xI v2), (3, xI v3)] [] M (k_X_whole a0 v1 v2 v3 M)
  unfold k_X_whole
  refine v_aloadn d_X_whole_0 rfl 0 rfl ?_
  refine v_iloadn d_X_whole_1 rfl 1 rfl ?_
  refine v_xV d_X_whole_2 ml_X_192 (q := (RX10, TX10, 10)) rfl (c_X_shapeOf l hfl a0 v1 M) (fun _ => rfl) (by decide) (by decide) (as := [xI v1]) (st1 := []) rfl rfl (Nat.le_of_ble_eq_true rfl) rfl (sr := fun r => [xA r]) (fun c2 M => ?_)
  show V_ l w q_X_whole 7 (ex_T ex_I) 5 [(0, xA a0), (1, xI v1), (2, xI v2), (3, xI v3)] [xA c2] M _
  refine v_astore (lz := fun z => [(4, xA z), (0, xA a0), (1, xI v1), (2, xI v2), (3, xI v3)]) d_X_whole_5 (Nat.le_of_ble_eq_true rfl) (fun _ => rfl) (fun a4_5 => ?_)
  refine v_aloadn d_X_whole_7 rfl 1 rfl ?_
  refine v_iloadn d_X_whole_8 rfl 4 rfl ?_
  refine v_iconst d_X_whole_9 (by decide) ?_
  refine v_xV d_X_whole_10 ml_X_159 (q := (RX10, TX10, 10)) rfl (c_X_checkWhat l hfl a0 v3 2 M) (fun _ => rfl) (by decide) (by decide) (as := [xI v3, xI 2]) (st1 := []) rfl rfl (Nat.le_of_ble_eq_true rfl) rfl (sr := fun _ => []) (fun _ M => ?_)
  show V_ l w q_X_whole 7 (ex_T ex_I) 13 [(4, xA a4_5), (0, xA a0), (1, xI v1), (2, xI v2), (3, xI v3)] [] M _
  refine v_aloadn d_X_whole_13 rfl 1 rfl ?_
  refine v_gR d_X_whole_14 fl_X_29 rfl (fun r14 => ?_)
  refine v_aloadn d_X_whole_17 rfl 1 rfl ?_
  refine v_gR d_X_whole_18 fl_X_36 rfl (fun r18 => ?_)
  refine v_aload d_X_whole_21 0 rfl ?_
  refine v_iconst d_X_whole_23 (by decide) ?_
  refine v_iconst d_X_whole_24 (by decide) ?_
  refine v_iloadn d_X_whole_25 rfl 3 rfl ?_
  refine v_cVi d_X_whole_26 ml_X_202 (q := (RX7, TX7, 2)) rfl (c_Sizes_choose l hfl r14 r18 a4_5 0 1 v2 M) (fun _ => rfl) (by decide) (by decide) (as := [xA r18, xA a4_5, xI 0, xI 1, xI v2]) (st1 := []) rfl rfl (Nat.le_of_ble_eq_true rfl) (fun c26 M => ?_)
  refine v_istore (lz := fun z => [(5, xI z), (4, xA a4_5), (0, xA a0), (1, xI v1), (2, xI v2), (3, xI v3)]) d_X_whole_29 (Nat.le_of_ble_eq_true rfl) (fun _ => rfl) (fun v5_29 => ?_)
  refine v_iloadn d_X_whole_31 rfl 4 rfl ?_
  refine v_iconst d_X_whole_32 (by decide) ?_
  refine v_icne d_X_whole_33 ?_ ?_
  · refine v_iloadn d_X_whole_39 rfl 4 rfl ?_
    refine v_join0 (pj := 60) (lj := []) (sj := []) (fun M => ?_) (fun j60 hj60 => ?_)
    · refine v_iconst d_X_whole_60 (by decide) ?_
      exact v_ret d_X_whole_61 rfl
    refine v_iflt d_X_whole_40 ?_ ?_
    · refine v_sub (ls' := []) [] rfl ?_
      exact hj60 M
    · refine v_iloadn d_X_whole_43 rfl 4 rfl ?_
      refine v_iload d_X_whole_44 0 rfl ?_
      refine v_icge d_X_whole_46 ?_ ?_
      · refine v_sub (ls' := []) [] rfl ?_
        exact hj60 M
      · refine v_aloadn d_X_whole_49 rfl 2 rfl ?_
        refine v_gR d_X_whole_50 fl_X_29 rfl (fun r50 => ?_)
        refine v_iloadn d_X_whole_53 rfl 5 rfl ?_
        refine v_cVi d_X_whole_54 ml_X_206 (q := (RX7, TX7, 2)) rfl (c_Sizes_of l hfl r50 v3 M) (fun _ => rfl) (by decide) (by decide) (as := [xI v3]) (st1 := []) rfl rfl (Nat.le_of_ble_eq_true rfl) (fun c54 M => ?_)
        refine v_goto d_X_whole_57 ?_
        exact v_ret d_X_whole_61 rfl
  · refine v_iload d_X_whole_36 0 rfl ?_
    exact v_ret d_X_whole_38 rfl
set_option maxHeartbeats 4000000 in
set_option maxRecDepth 100000 in
theorem c_X_cannot (l : Launch) (hfl : l.stackTraces = false) (a0 : Nat) (v1 : Int) (M : mm_T) : vm_ConX l yX10_cannot (.code yX10_cannot cX10_cannot 2 (some .boolean)) 7 (ex_T ex_Z) [xA a0, xI v1] M (k_X_cannot a0 v1 M) := by
  refine vm_conX (y := q_X_cannot) hfl (by decide +kernel) rfl (fun h => by cases h) (Nat.le_of_ble_eq_true rfl) rfl (fun r _ _ => by cases r with | inl E => trivial | inr x => rfl) (fun w => ?_)
  show V_ l w q_X_cannot 7 (ex_T ex_Z) 0 [(0, xA a0), (1, xI v1)] [] M (k_X_cannot a0 v1 M)
  unfold k_X_cannot
  refine v_aloadn d_X_cannot_0 rfl 0 rfl ?_
  refine v_iloadn d_X_cannot_1 rfl 1 rfl ?_
  refine v_xV d_X_cannot_2 ml_X_192 (q := (RX10, TX10, 10)) rfl (c_X_shapeOf l hfl a0 v1 M) (fun _ => rfl) (by decide) (by decide) (as := [xI v1]) (st1 := []) rfl rfl (Nat.le_of_ble_eq_true rfl) rfl (sr := fun r => [xA r]) (fun c2 M => ?_)
  show V_ l w q_X_cannot 7 (ex_T ex_Z) 5 [(0, xA a0), (1, xI v1)] [xA c2] M _
  refine v_cVi d_X_cannot_5 ml_X_209 (q := (RX6, TX6, 5)) rfl (c_Shape_cannotBeAvoided l hfl c2 M) (fun _ => rfl) (by decide) (by decide) (as := []) (st1 := []) rfl rfl (Nat.le_of_ble_eq_true rfl) (fun c5 M => ?_)
  exact v_zret d_X_cannot_8 rfl
set_option maxHeartbeats 4000000 in
set_option maxRecDepth 100000 in
theorem V_lp_X_loose_18 {l : Launch} {w : vm_W} (hfl : l.stackTraces = false) (kx67 : Int → mm_T → Option ((Nat ⊕ Int) × mm_T)) (v2 : Int) (a3 : Nat) (v4 : Int) (hkx67 : ∀ (v5_e : Int) (M : mm_T), V_ l w q_X_loose 7 (ex_T ex_I) 67 [(2, xI v2), (5, xI v5_e)] [] M (kx67 v5_e M)) : ∀ (f : Nat) (v5 : Int) (v6 : Int) (M : mm_T), V_ l w q_X_loose 7 (ex_T ex_I) 18 [(2, xI v2), (3, xA a3), (4, xI v4), (5, xI v5), (6, xI v6)] [] M (lp_X_loose_18 kx67 v2 a3 v4 f v5 v6 M) := by
  intro f
  induction f with
  | zero => intros; exact V_.none
  | succ f ih =>
    intro v5 v6 M
    unfold lp_X_loose_18
    refine v_iload d_X_loose_18 4 rfl ?_
    refine v_iload d_X_loose_20 2 rfl ?_
    refine v_icgt d_X_loose_22 ?_ ?_
    · refine v_sub (ls' := [(2, xI v2), (5, xI v5)]) [0, 3] rfl ?_
      exact hkx67 v5 M
    · refine v_iload d_X_loose_25 4 rfl ?_
      refine v_iload d_X_loose_27 2 rfl ?_
      refine v_iconst d_X_loose_29 (by decide) ?_
      refine v_ixor d_X_loose_30 ?_
      refine v_iand d_X_loose_31 ?_
      refine v_join1 (pj := 61) (lj := fun v5_61 => [(2, xI v2), (3, xA a3), (4, xI v4), (5, xI v5_61), (6, xI v6)]) (sj := fun v5_61 => []) (fun v5_61 M => ?_) (fun j61 hj61 => ?_)
      · refine v_iinc (lz := fun z => [(6, xI z), (2, xI v2), (3, xA a3), (4, xI v4), (5, xI v5_61)]) d_X_loose_61 4 rfl (Nat.le_of_ble_eq_true rfl) (fun _ => rfl) (fun v6_61 => ?_)
        refine v_goto d_X_loose_64 ?_
        refine v_sub (ls' := [(2, xI v2), (3, xA a3), (4, xI v4), (5, xI v5_61), (6, xI v6_61)]) [1, 2, 3, 4, 0] rfl ?_
        exact ih v5_61 v6_61 M
      refine v_ifne d_X_loose_32 ?_ ?_
      · exact hj61 v5 M
      · refine v_aloadn d_X_loose_35 rfl 1 rfl ?_
        refine v_iload d_X_loose_36 2 rfl ?_
        refine v_iload d_X_loose_38 4 rfl ?_
        refine v_cVi d_X_loose_40 ml_X_216 (q := (RX6, TX6, 5)) rfl (c_Shape_isLoose l hfl a3 v4 v6 M) (fun _ => rfl) (by decide) (by decide) (as := [xI v4, xI v6]) (st1 := []) rfl rfl (Nat.le_of_ble_eq_true rfl) (fun c40 M => ?_)
        refine v_ifne d_X_loose_43 ?_ ?_
        · refine v_iload d_X_loose_49 3 rfl ?_
          refine v_iloadn d_X_loose_51 rfl 0 rfl ?_
          refine v_icne d_X_loose_52 ?_ ?_
          · refine v_iinc (lz := fun z => [(5, xI z), (2, xI v2), (3, xA a3), (4, xI v4), (6, xI v6)]) d_X_loose_58 3 rfl (Nat.le_of_ble_eq_true rfl) (fun _ => rfl) (fun v5_58 => ?_)
            refine v_sub (ls' := [(2, xI v2), (3, xA a3), (4, xI v4), (5, xI v5_58), (6, xI v6)]) [1, 2, 3, 0, 4] rfl ?_
            exact hj61 v5_58 M
          · refine v_iload d_X_loose_55 4 rfl ?_
            exact v_ret d_X_loose_57 rfl
        · refine v_goto d_X_loose_46 ?_
          exact hj61 v5 M
set_option maxHeartbeats 4000000 in
set_option maxRecDepth 100000 in
theorem c_X_loose (l : Launch) (hfl : l.stackTraces = false) (a0 : Nat) (v1 : Int) (v2 : Int) (M : mm_T) : vm_ConX l yX10_loose (.code yX10_loose cX10_loose 7 (some .int)) 7 (ex_T ex_I) [xA a0, xI v1, xI v2] M (k_X_loose a0 v1 v2 M) := by
  refine vm_conX (y := q_X_loose) hfl (by decide +kernel) rfl (fun h => by cases h) (Nat.le_of_ble_eq_true rfl) rfl (fun r _ _ => by cases r with | inl E => trivial | inr x => rfl) (fun w => ?_)
  show V_ l w q_X_loose 7 (ex_T ex_I) 0 [(0, xA a0), (1, xI v1), (2, xI v2)] [] M (k_X_loose a0 v1 v2 M)
  unfold k_X_loose
  refine v_aloadn d_X_loose_0 rfl 0 rfl ?_
  refine v_iloadn d_X_loose_1 rfl 1 rfl ?_
  refine v_xV d_X_loose_2 ml_X_192 (q := (RX10, TX10, 10)) rfl (c_X_shapeOf l hfl a0 v1 M) (fun _ => rfl) (by decide) (by decide) (as := [xI v1]) (st1 := []) rfl rfl (Nat.le_of_ble_eq_true rfl) rfl (sr := fun r => [xA r]) (fun c2 M => ?_)
  show V_ l w q_X_loose 7 (ex_T ex_I) 5 [(0, xA a0), (1, xI v1), (2, xI v2)] [xA c2] M _
  refine v_astoren (lz := fun z => [(3, xA z), (0, xA a0), (1, xI v1), (2, xI v2)]) d_X_loose_5 rfl (Nat.le_of_ble_eq_true rfl) (fun _ => rfl) (fun a3_5 => ?_)
  refine v_aloadn d_X_loose_6 rfl 0 rfl ?_
  refine v_cVi d_X_loose_7 ml_X_213 (q := (RX6, TX6, 5)) rfl (c_Shape_variables l hfl a3_5 M) (fun _ => rfl) (by decide) (by decide) (as := []) (st1 := []) rfl rfl (Nat.le_of_ble_eq_true rfl) (fun c7 M => ?_)
  refine v_istore (lz := fun z => [(4, xI z), (3, xA a3_5), (0, xA a0), (1, xI v1), (2, xI v2)]) d_X_loose_10 (Nat.le_of_ble_eq_true rfl) (fun _ => rfl) (fun v4_10 => ?_)
  refine v_iconst d_X_loose_12 (by decide) ?_
  refine v_istore (lz := fun z => [(5, xI z), (4, xI v4_10), (3, xA a3_5), (0, xA a0), (1, xI v1), (2, xI v2)]) d_X_loose_13 (Nat.le_of_ble_eq_true rfl) (fun _ => rfl) (fun v5_13 => ?_)
  refine v_iconst d_X_loose_15 (by decide) ?_
  refine v_istore (lz := fun z => [(6, xI z), (5, xI v5_13), (4, xI v4_10), (3, xA a3_5), (0, xA a0), (1, xI v1), (2, xI v2)]) d_X_loose_16 (Nat.le_of_ble_eq_true rfl) (fun _ => rfl) (fun v6_16 => ?_)
  refine v_sub (ls' := [(2, xI v2), (3, xA a3_5), (4, xI v4_10), (5, xI v5_13), (6, xI v6_16)]) [6, 3, 2, 1, 0] rfl ?_
  refine V_lp_X_loose_18 hfl _ _ _ _ (fun v5_67 M => ?_) _ _ _ _
  · refine v_iloadn d_X_loose_67 rfl 0 rfl ?_
    refine v_iconst d_X_loose_68 (by decide) ?_
    refine v_icne d_X_loose_69 ?_ ?_
    · refine v_iconst d_X_loose_77 (by decide) ?_
      exact v_ret d_X_loose_78 rfl
    · refine v_iload d_X_loose_72 1 rfl ?_
      refine v_goto d_X_loose_74 ?_
      exact v_ret d_X_loose_78 rfl
set_option maxHeartbeats 4000000 in
set_option maxRecDepth 100000 in
theorem c_X_pattern (l : Launch) (hfl : l.stackTraces = false) (a0 : Nat) (v1 : Int) (v2 : Int) (M : mm_T) : vm_ConX l yX10_pattern (.code yX10_pattern cX10_pattern 4 (some .int)) 7 (ex_T ex_I) [xA a0, xI v1, xI v2] M (k_X_pattern a0 v1 v2 M) := by
  refine vm_conX (y := q_X_pattern) hfl (by decide +kernel) rfl (fun h => by cases h) (Nat.le_of_ble_eq_true rfl) rfl (fun r _ _ => by cases r with | inl E => trivial | inr x => rfl) (fun w => ?_)
  show V_ l w q_X_pattern 7 (ex_T ex_I) 0 [(0, xA a0), (1, xI v1), (2, xI v2)] [] M (k_X_pattern a0 v1 v2 M)
  unfold k_X_pattern
  refine v_aloadn d_X_pattern_0 rfl 0 rfl ?_
  refine v_iloadn d_X_pattern_1 rfl 1 rfl ?_
  refine v_xV d_X_pattern_2 ml_X_192 (q := (RX10, TX10, 10)) rfl (c_X_shapeOf l hfl a0 v1 M) (fun _ => rfl) (by decide) (by decide) (as := [xI v1]) (st1 := []) rfl rfl (Nat.le_of_ble_eq_true rfl) rfl (sr := fun r => [xA r]) (fun c2 M => ?_)
  show V_ l w q_X_pattern 7 (ex_T ex_I) 5 [(0, xA a0), (1, xI v1), (2, xI v2)] [xA c2] M _
  refine v_astoren (lz := fun z => [(3, xA z), (0, xA a0), (1, xI v1), (2, xI v2)]) d_X_pattern_5 rfl (Nat.le_of_ble_eq_true rfl) (fun _ => rfl) (fun a3_5 => ?_)
  refine v_aloadn d_X_pattern_6 rfl 1 rfl ?_
  refine v_iloadn d_X_pattern_7 rfl 3 rfl ?_
  refine v_iconst d_X_pattern_8 (by decide) ?_
  refine v_xV d_X_pattern_9 ml_X_159 (q := (RX10, TX10, 10)) rfl (c_X_checkWhat l hfl a0 v2 2 M) (fun _ => rfl) (by decide) (by decide) (as := [xI v2, xI 2]) (st1 := []) rfl rfl (Nat.le_of_ble_eq_true rfl) rfl (sr := fun _ => []) (fun _ M => ?_)
  show V_ l w q_X_pattern 7 (ex_T ex_I) 12 [(3, xA a3_5), (0, xA a0), (1, xI v1), (2, xI v2)] [] M _
  refine v_iloadn d_X_pattern_12 rfl 3 rfl ?_
  refine v_ifne d_X_pattern_13 ?_ ?_
  · refine v_iloadn d_X_pattern_23 rfl 3 rfl ?_
    refine v_iconst d_X_pattern_24 (by decide) ?_
    refine v_icne d_X_pattern_25 ?_ ?_
    · refine v_aloadn d_X_pattern_35 rfl 0 rfl ?_
      refine v_gI d_X_pattern_36 fl_X_219 rfl (fun x36 => ?_)
      refine v_ifeq d_X_pattern_39 ?_ ?_
      · refine v_iconst d_X_pattern_46 (by decide) ?_
        exact v_ret d_X_pattern_47 rfl
      · refine v_iconst d_X_pattern_42 (by decide) ?_
        refine v_goto d_X_pattern_43 ?_
        exact v_ret d_X_pattern_47 rfl
    · refine v_aloadn d_X_pattern_28 rfl 0 rfl ?_
      refine v_cVi d_X_pattern_29 ml_X_213 (q := (RX6, TX6, 5)) rfl (c_Shape_variables l hfl a3_5 M) (fun _ => rfl) (by decide) (by decide) (as := []) (st1 := []) rfl rfl (Nat.le_of_ble_eq_true rfl) (fun c29 M => ?_)
      refine v_goto d_X_pattern_32 ?_
      exact v_ret d_X_pattern_47 rfl
  · refine v_aloadn d_X_pattern_16 rfl 0 rfl ?_
    refine v_gI d_X_pattern_17 fl_X_195 rfl (fun x17 => ?_)
    refine v_goto d_X_pattern_20 ?_
    exact v_ret d_X_pattern_47 rfl
set_option maxHeartbeats 4000000 in
set_option maxRecDepth 100000 in
theorem c_X_avoid (l : Launch) (hfl : l.stackTraces = false) (a0 : Nat) (v1 : Int) (v2 : Int) (M : mm_T) : vm_ConX l yX10_avoid (.code yX10_avoid cX10_avoid 5 (some .boolean)) 7 (ex_T ex_Z) [xA a0, xI v1, xI v2] M (k_X_avoid a0 v1 v2 M) := by
  refine vm_conX (y := q_X_avoid) hfl (by decide +kernel) rfl (fun h => by cases h) (Nat.le_of_ble_eq_true rfl) rfl (fun r _ _ => by cases r with | inl E => trivial | inr x => rfl) (fun w => ?_)
  show V_ l w q_X_avoid 7 (ex_T ex_Z) 0 [(0, xA a0), (1, xI v1), (2, xI v2)] [] M (k_X_avoid a0 v1 v2 M)
  unfold k_X_avoid
  refine v_aloadn d_X_avoid_0 rfl 0 rfl ?_
  refine v_iloadn d_X_avoid_1 rfl 1 rfl ?_
  refine v_xV d_X_avoid_2 ml_X_192 (q := (RX10, TX10, 10)) rfl (c_X_shapeOf l hfl a0 v1 M) (fun _ => rfl) (by decide) (by decide) (as := [xI v1]) (st1 := []) rfl rfl (Nat.le_of_ble_eq_true rfl) rfl (sr := fun r => [xA r]) (fun c2 M => ?_)
  show V_ l w q_X_avoid 7 (ex_T ex_Z) 5 [(0, xA a0), (1, xI v1), (2, xI v2)] [xA c2] M _
  refine v_astoren (lz := fun z => [(3, xA z), (0, xA a0), (1, xI v1), (2, xI v2)]) d_X_avoid_5 rfl (Nat.le_of_ble_eq_true rfl) (fun _ => rfl) (fun a3_5 => ?_)
  refine v_aloadn d_X_avoid_6 rfl 0 rfl ?_
  refine v_gI d_X_avoid_7 fl_X_219 rfl (fun x7 => ?_)
  refine v_istore (lz := fun z => [(4, xI z), (3, xA a3_5), (0, xA a0), (1, xI v1), (2, xI v2)]) d_X_avoid_10 (Nat.le_of_ble_eq_true rfl) (fun _ => rfl) (fun v4_10 => ?_)
  refine v_aloadn d_X_avoid_12 rfl 1 rfl ?_
  refine v_iloadn d_X_avoid_13 rfl 4 rfl ?_
  refine v_pZ d_X_avoid_14 fl_X_219 (Or.inl rfl) rfl rfl (fun M => ?_)
  refine v_iload d_X_avoid_17 0 rfl ?_
  exact v_zret d_X_avoid_19 rfl
set_option maxHeartbeats 4000000 in
set_option maxRecDepth 100000 in
theorem c_X_limit (l : Launch) (hfl : l.stackTraces = false) (a0 : Nat) (v1 : Int) (v2 : Int) (v3 : Int) (M : mm_T) : vm_ConX l yX10_limit (.code yX10_limit cX10_limit 5 (some .int)) 7 (ex_T ex_I) [xA a0, xI v1, xI v2, xI v3] M (k_X_limit a0 v1 v2 v3 M) := by
  refine vm_conX (y := q_X_limit) hfl (by decide +kernel) rfl (fun h => by cases h) (Nat.le_of_ble_eq_true rfl) rfl (fun r _ _ => by cases r with | inl E => trivial | inr x => rfl) (fun w => ?_)
  show V_ l w q_X_limit 7 (ex_T ex_I) 0 [(0, xA a0), (1, xI v1), (2, xI v2), (3, xI v3)] [] M (k_X_limit a0 v1 v2 v3 M)
  unfold k_X_limit
  refine v_aloadn d_X_limit_0 rfl 0 rfl ?_
  refine v_iloadn d_X_limit_1 rfl 1 rfl ?_
  refine v_iconst d_X_limit_2 (by decide) ?_
  refine v_iconst d_X_limit_3 (by decide) ?_
  refine v_xV d_X_limit_4 ml_X_173 (q := (RX10, TX10, 10)) rfl (c_X_checkRange l hfl a0 v1 0 2 M) (fun _ => rfl) (by decide) (by decide) (as := [xI v1, xI 0, xI 2]) (st1 := []) rfl rfl (Nat.le_of_ble_eq_true rfl) rfl (sr := fun _ => []) (fun _ M => ?_)
  show V_ l w q_X_limit 7 (ex_T ex_I) 7 [(0, xA a0), (1, xI v1), (2, xI v2), (3, xI v3)] [] M _
  refine v_aloadn d_X_limit_7 rfl 0 rfl ?_
  refine v_iloadn d_X_limit_8 rfl 2 rfl ?_
  refine v_iconst d_X_limit_9 (by decide) ?_
  refine v_bipush d_X_limit_10 (by decide) ?_
  refine v_xV d_X_limit_12 ml_X_173 (q := (RX10, TX10, 10)) rfl (c_X_checkRange l hfl a0 v2 1 99 M) (fun _ => rfl) (by decide) (by decide) (as := [xI v2, xI 1, xI 99]) (st1 := []) rfl rfl (Nat.le_of_ble_eq_true rfl) rfl (sr := fun _ => []) (fun _ M => ?_)
  show V_ l w q_X_limit 7 (ex_T ex_I) 15 [(0, xA a0), (1, xI v1), (2, xI v2), (3, xI v3)] [] M _
  refine v_aloadn d_X_limit_15 rfl 0 rfl ?_
  refine v_iloadn d_X_limit_16 rfl 3 rfl ?_
  refine v_iconst d_X_limit_17 (by decide) ?_
  refine v_bipush d_X_limit_18 (by decide) ?_
  refine v_xV d_X_limit_20 ml_X_173 (q := (RX10, TX10, 10)) rfl (c_X_checkRange l hfl a0 v3 1 9 M) (fun _ => rfl) (by decide) (by decide) (as := [xI v3, xI 1, xI 9]) (st1 := []) rfl rfl (Nat.le_of_ble_eq_true rfl) rfl (sr := fun _ => []) (fun _ M => ?_)
  show V_ l w q_X_limit 7 (ex_T ex_I) 23 [(0, xA a0), (1, xI v1), (2, xI v2), (3, xI v3)] [] M _
  refine v_aloadn d_X_limit_23 rfl 0 rfl ?_
  refine v_gR d_X_limit_24 fl_X_19 rfl (fun r24 => ?_)
  refine v_gI d_X_limit_27 fl_X_223 rfl (fun x27 => ?_)
  refine v_istore (lz := fun z => [(4, xI z), (0, xA a0), (1, xI v1), (2, xI v2), (3, xI v3)]) d_X_limit_30 (Nat.le_of_ble_eq_true rfl) (fun _ => rfl) (fun v4_30 => ?_)
  refine v_aloadn d_X_limit_32 rfl 1 rfl ?_
  refine v_gR d_X_limit_33 fl_X_19 rfl (fun r33 => ?_)
  refine v_iloadn d_X_limit_36 rfl 2 rfl ?_
  refine v_iloadn d_X_limit_37 rfl 3 rfl ?_
  refine v_iloadn d_X_limit_38 rfl 4 rfl ?_
  refine v_cVv d_X_limit_39 ml_X_226 (q := (RX9, TX9, 8)) rfl (c_Told_setLimit l hfl r33 v1 v2 v3 M) (fun _ => rfl) (by decide) (by decide) (as := [xI v1, xI v2, xI v3]) (st1 := []) rfl rfl (Nat.le_of_ble_eq_true rfl) (fun _ M => ?_)
  refine v_iload d_X_limit_42 0 rfl ?_
  exact v_ret d_X_limit_44 rfl
set_option maxHeartbeats 4000000 in
set_option maxRecDepth 100000 in
theorem c_X_goes (l : Launch) (hfl : l.stackTraces = false) (a0 : Nat) (M : mm_T) : vm_Con l yX10_goes (.code yX10_goes cX10_goes 1 (some .int)) 16 ex_I [xA a0] M (k_X_goes a0 M) := by
  refine vm_con (y := q_X_goes) hfl (by decide +kernel) rfl (fun h => by cases h) (Nat.le_of_ble_eq_true rfl) rfl (fun _ _ _ => rfl) (fun r E h => by cases h) (fun w => ?_)
  show V_ l w q_X_goes 16 ex_I 0 [(0, xA a0)] [] M (k_X_goes a0 M)
  unfold k_X_goes
  refine v_aloadn d_X_goes_0 rfl 0 rfl ?_
  refine v_gR d_X_goes_1 fl_X_36 rfl (fun r1 => ?_)
  refine v_gI d_X_goes_4 fl_X_102 rfl (fun x4 => ?_)
  refine v_bipush d_X_goes_7 (by decide) ?_
  refine v_icge d_X_goes_9 ?_ ?_
  · refine v_iconst d_X_goes_27 (by decide) ?_
    exact v_ret d_X_goes_28 rfl
  · refine v_aloadn d_X_goes_12 rfl 0 rfl ?_
    refine v_gR d_X_goes_13 fl_X_36 rfl (fun r13 => ?_)
    refine v_aloadn d_X_goes_16 rfl 0 rfl ?_
    refine v_gR d_X_goes_17 fl_X_19 rfl (fun r17 => ?_)
    refine v_cVi d_X_goes_20 ml_X_155 (q := (RX1, TX1, 5)) rfl (c_Line_firstBad l hfl r13 r17 M) (fun _ => rfl) (by decide) (by decide) (as := [xA r17]) (st1 := []) rfl rfl (Nat.le_of_ble_eq_true rfl) (fun c20 M => ?_)
    refine v_iconst d_X_goes_23 (by decide) ?_
    refine v_iceq d_X_goes_24 ?_ ?_
    · refine v_aloadn d_X_goes_29 rfl 0 rfl ?_
      refine v_gR d_X_goes_30 fl_X_46 rfl (fun r30 => ?_)
      refine v_aloadn d_X_goes_33 rfl 0 rfl ?_
      refine v_gR d_X_goes_34 fl_X_19 rfl (fun r34 => ?_)
      refine v_aloadn d_X_goes_37 rfl 0 rfl ?_
      refine v_gR d_X_goes_38 fl_X_36 rfl (fun r38 => ?_)
      refine v_cVi d_X_goes_41 ml_X_229 (q := (RX5, TX5, 7)) rfl (c_Search_behind l hfl r30 r34 r38 M) (fun _ => rfl) (by decide) (by decide) (as := [xA r34, xA r38]) (st1 := []) rfl rfl (Nat.le_of_ble_eq_true rfl) (fun c41 M => ?_)
      exact v_ret d_X_goes_44 rfl
    · refine v_iconst d_X_goes_27 (by decide) ?_
      exact v_ret d_X_goes_28 rfl
set_option maxHeartbeats 4000000 in
set_option maxRecDepth 100000 in
theorem V_lp_X_ahead_46 {l : Launch} {w : vm_W} (hfl : l.stackTraces = false) (kx78 : mm_T → Option (Int × mm_T)) (a0 : Nat) {v1 : Int} {v2 : Int} (hkx78 : ∀ (M : mm_T), V_ l w q_X_ahead 16 ex_I 78 [(0, xA a0), (1, xI v1), (2, xI v2)] [] M (kx78 M)) : ∀ (f : Nat) (v3 : Int) (M : mm_T), V_ l w q_X_ahead 16 ex_I 46 [(0, xA a0), (1, xI v1), (2, xI v2), (3, xI v3)] [] M (lp_X_ahead_46 kx78 a0 f v3 M) := by
  intro f
  induction f with
  | zero => intros; exact V_.none
  | succ f ih =>
    intro v3 M
    unfold lp_X_ahead_46
    refine v_iloadn d_X_ahead_46 rfl 3 rfl ?_
    refine v_aloadn d_X_ahead_47 rfl 0 rfl ?_
    refine v_gR d_X_ahead_48 fl_X_36 rfl (fun r48 => ?_)
    refine v_gI d_X_ahead_51 fl_X_102 rfl (fun x51 => ?_)
    refine v_icge d_X_ahead_54 ?_ ?_
    · refine v_sub (ls' := [(0, xA a0), (1, xI v1), (2, xI v2)]) [0, 1, 2] rfl ?_
      exact hkx78 M
    · refine v_aloadn d_X_ahead_57 rfl 0 rfl ?_
      refine v_gR d_X_ahead_58 fl_X_40 rfl (fun r58 => ?_)
      refine v_aloadn d_X_ahead_61 rfl 0 rfl ?_
      refine v_gR d_X_ahead_62 fl_X_36 rfl (fun r62 => ?_)
      refine v_iloadn d_X_ahead_65 rfl 3 rfl ?_
      refine v_cVi d_X_ahead_66 ml_X_106 (q := (RX1, TX1, 5)) rfl (c_Line_at l hfl r62 v3 M) (fun _ => rfl) (by decide) (by decide) (as := [xI v3]) (st1 := [xA r58]) rfl rfl (Nat.le_of_ble_eq_true rfl) (fun c66 M => ?_)
      refine v_cVv d_X_ahead_69 ml_X_119 (q := (RX1, TX1, 5)) rfl (c_Line_add l hfl r58 c66 M) (fun _ => rfl) (by decide) (by decide) (as := [xI c66]) (st1 := []) rfl rfl (Nat.le_of_ble_eq_true rfl) (fun _ M => ?_)
      refine v_iinc (lz := fun z => [(3, xI z), (0, xA a0), (1, xI v1), (2, xI v2)]) d_X_ahead_72 3 rfl (Nat.le_of_ble_eq_true rfl) (fun _ => rfl) (fun v3_72 => ?_)
      refine v_goto d_X_ahead_75 ?_
      refine v_sub (ls' := [(0, xA a0), (1, xI v1), (2, xI v2), (3, xI v3_72)]) [1, 2, 3, 0] rfl ?_
      exact ih v3_72 M
set_option maxHeartbeats 4000000 in
set_option maxRecDepth 100000 in
theorem V_lp_X_ahead_18 {l : Launch} {w : vm_W} (hfl : l.stackTraces = false) (kx105 : Int → mm_T → Option (Int × mm_T)) (a0 : Nat) (hkx105 : ∀ (v1_e : Int) (M : mm_T), V_ l w q_X_ahead 16 ex_I 105 [(1, xI v1_e)] [] M (kx105 v1_e M)) : ∀ (f : Nat) (v1 : Int) (v2 : Int) (M : mm_T), V_ l w q_X_ahead 16 ex_I 18 [(0, xA a0), (1, xI v1), (2, xI v2)] [] M (lp_X_ahead_18 kx105 a0 f v1 v2 M) := by
  intro f
  induction f with
  | zero => intros; exact V_.none
  | succ f ih =>
    intro v1 v2 M
    unfold lp_X_ahead_18
    refine v_iloadn d_X_ahead_18 rfl 2 rfl ?_
    refine v_aloadn d_X_ahead_19 rfl 0 rfl ?_
    refine v_gR d_X_ahead_20 fl_X_19 rfl (fun r20 => ?_)
    refine v_gI d_X_ahead_23 fl_X_91 rfl (fun x23 => ?_)
    refine v_icge d_X_ahead_26 ?_ ?_
    · refine v_sub (ls' := [(1, xI v1)]) [1] rfl ?_
      exact hkx105 v1 M
    · refine v_aloadn d_X_ahead_29 rfl 0 rfl ?_
      refine v_gR d_X_ahead_30 fl_X_40 rfl (fun r30 => ?_)
      refine v_cVv d_X_ahead_33 ml_X_87 (q := (RX1, TX1, 5)) rfl (c_Line_clear l hfl r30 M) (fun _ => rfl) (by decide) (by decide) (as := []) (st1 := []) rfl rfl (Nat.le_of_ble_eq_true rfl) (fun _ M => ?_)
      refine v_aloadn d_X_ahead_36 rfl 0 rfl ?_
      refine v_gR d_X_ahead_37 fl_X_40 rfl (fun r37 => ?_)
      refine v_iloadn d_X_ahead_40 rfl 2 rfl ?_
      refine v_cVv d_X_ahead_41 ml_X_119 (q := (RX1, TX1, 5)) rfl (c_Line_add l hfl r37 v2 M) (fun _ => rfl) (by decide) (by decide) (as := [xI v2]) (st1 := []) rfl rfl (Nat.le_of_ble_eq_true rfl) (fun _ M => ?_)
      refine v_iconst d_X_ahead_44 (by decide) ?_
      refine v_istoren (lz := fun z => [(3, xI z), (0, xA a0), (1, xI v1), (2, xI v2)]) d_X_ahead_45 rfl (Nat.le_of_ble_eq_true rfl) (fun _ => rfl) (fun v3_45 => ?_)
      refine v_sub (ls' := [(0, xA a0), (1, xI v1), (2, xI v2), (3, xI v3_45)]) [1, 2, 3, 0] rfl ?_
      refine V_lp_X_ahead_46 hfl _ _ (fun M => ?_) _ _ _
      · refine v_aloadn d_X_ahead_78 rfl 0 rfl ?_
        refine v_gR d_X_ahead_79 fl_X_40 rfl (fun r79 => ?_)
        refine v_aloadn d_X_ahead_82 rfl 0 rfl ?_
        refine v_gR d_X_ahead_83 fl_X_19 rfl (fun r83 => ?_)
        refine v_cVi d_X_ahead_86 ml_X_155 (q := (RX1, TX1, 5)) rfl (c_Line_firstBad l hfl r79 r83 M) (fun _ => rfl) (by decide) (by decide) (as := [xA r83]) (st1 := []) rfl rfl (Nat.le_of_ble_eq_true rfl) (fun c86 M => ?_)
        refine v_iconst d_X_ahead_89 (by decide) ?_
        refine v_join1 (pj := 99) (lj := fun v1_99 => [(0, xA a0), (1, xI v1_99), (2, xI v2)]) (sj := fun v1_99 => []) (fun v1_99 M => ?_) (fun j99 hj99 => ?_)
        · refine v_iinc (lz := fun z => [(2, xI z), (0, xA a0), (1, xI v1_99)]) d_X_ahead_99 2 rfl (Nat.le_of_ble_eq_true rfl) (fun _ => rfl) (fun v2_99 => ?_)
          refine v_goto d_X_ahead_102 ?_
          refine v_sub (ls' := [(0, xA a0), (1, xI v1_99), (2, xI v2_99)]) [1, 2, 0] rfl ?_
          exact ih v1_99 v2_99 M
        refine v_icne d_X_ahead_90 ?_ ?_
        · exact hj99 v1 M
        · refine v_iloadn d_X_ahead_93 rfl 1 rfl ?_
          refine v_iconst d_X_ahead_94 (by decide) ?_
          refine v_iloadn d_X_ahead_95 rfl 2 rfl ?_
          refine v_ishl d_X_ahead_96 ?_
          refine v_ior d_X_ahead_97 ?_
          refine v_istoren (lz := fun z => [(1, xI z), (0, xA a0), (2, xI v2)]) d_X_ahead_98 rfl (Nat.le_of_ble_eq_true rfl) (fun _ => rfl) (fun v1_98 => ?_)
          refine v_sub (ls' := [(0, xA a0), (1, xI v1_98), (2, xI v2)]) [1, 0, 2] rfl ?_
          exact hj99 v1_98 M
set_option maxHeartbeats 4000000 in
set_option maxRecDepth 100000 in
theorem c_X_ahead (l : Launch) (hfl : l.stackTraces = false) (a0 : Nat) (M : mm_T) : vm_Con l yX10_ahead (.code yX10_ahead cX10_ahead 4 (some .int)) 16 ex_I [xA a0] M (k_X_ahead a0 M) := by
  refine vm_con (y := q_X_ahead) hfl (by decide +kernel) rfl (fun h => by cases h) (Nat.le_of_ble_eq_true rfl) rfl (fun _ _ _ => rfl) (fun r E h => by cases h) (fun w => ?_)
  show V_ l w q_X_ahead 16 ex_I 0 [(0, xA a0)] [] M (k_X_ahead a0 M)
  unfold k_X_ahead
  refine v_aloadn d_X_ahead_0 rfl 0 rfl ?_
  refine v_gR d_X_ahead_1 fl_X_36 rfl (fun r1 => ?_)
  refine v_gI d_X_ahead_4 fl_X_102 rfl (fun x4 => ?_)
  refine v_bipush d_X_ahead_7 (by decide) ?_
  refine v_iclt d_X_ahead_9 ?_ ?_
  · refine v_iconst d_X_ahead_14 (by decide) ?_
    refine v_istoren (lz := fun z => [(1, xI z), (0, xA a0)]) d_X_ahead_15 rfl (Nat.le_of_ble_eq_true rfl) (fun _ => rfl) (fun v1_15 => ?_)
    refine v_iconst d_X_ahead_16 (by decide) ?_
    refine v_istoren (lz := fun z => [(2, xI z), (1, xI v1_15), (0, xA a0)]) d_X_ahead_17 rfl (Nat.le_of_ble_eq_true rfl) (fun _ => rfl) (fun v2_17 => ?_)
    refine v_sub (ls' := [(0, xA a0), (1, xI v1_15), (2, xI v2_17)]) [2, 1, 0] rfl ?_
    refine V_lp_X_ahead_18 hfl _ _ (fun v1_105 M => ?_) _ _ _ _
    · refine v_iloadn d_X_ahead_105 rfl 0 rfl ?_
      exact v_ret d_X_ahead_106 rfl
  · refine v_iconst d_X_ahead_12 (by decide) ?_
    exact v_ret d_X_ahead_13 rfl
set_option maxHeartbeats 4000000 in
set_option maxRecDepth 100000 in
theorem c_X_further (l : Launch) (hfl : l.stackTraces = false) (a0 : Nat) (M : mm_T) : vm_Con l yX10_further (.code yX10_further cX10_further 2 (some .int)) 17 ex_I [xA a0] M (k_X_further a0 M) := by
  refine vm_con (y := q_X_further) hfl (by decide +kernel) rfl (fun h => by cases h) (Nat.le_of_ble_eq_true rfl) rfl (fun _ _ _ => rfl) (fun r E h => by cases h) (fun w => ?_)
  show V_ l w q_X_further 17 ex_I 0 [(0, xA a0)] [] M (k_X_further a0 M)
  unfold k_X_further
  refine v_bipush d_X_further_0 (by decide) ?_
  refine v_bipush d_X_further_2 (by decide) ?_
  refine v_aloadn d_X_further_4 rfl 0 rfl ?_
  refine v_gR d_X_further_5 fl_X_36 rfl (fun r5 => ?_)
  refine v_gI d_X_further_8 fl_X_102 rfl (fun x8 => ?_)
  refine v_isub d_X_further_11 (fun x11 => ?_)
  refine v_mmin d_X_further_12 gw_600 gw_588 gw_131 gw_589 (by first | decide | omega) (Nat.le_of_ble_eq_true rfl) ?_
  refine v_istoren (lz := fun z => [(1, xI z), (0, xA a0)]) d_X_further_15 rfl (Nat.le_of_ble_eq_true rfl) (fun _ => rfl) (fun v1_15 => ?_)
  refine v_iloadn d_X_further_16 rfl 0 rfl ?_
  refine v_ifle d_X_further_17 ?_ ?_
  · refine v_iconst d_X_further_35 (by decide) ?_
    exact v_ret d_X_further_36 rfl
  · refine v_aloadn d_X_further_20 rfl 1 rfl ?_
    refine v_gR d_X_further_21 fl_X_36 rfl (fun r21 => ?_)
    refine v_aloadn d_X_further_24 rfl 1 rfl ?_
    refine v_gR d_X_further_25 fl_X_19 rfl (fun r25 => ?_)
    refine v_cVi d_X_further_28 ml_X_155 (q := (RX1, TX1, 5)) rfl (c_Line_firstBad l hfl r21 r25 M) (fun _ => rfl) (by decide) (by decide) (as := [xA r25]) (st1 := []) rfl rfl (Nat.le_of_ble_eq_true rfl) (fun c28 M => ?_)
    refine v_iconst d_X_further_31 (by decide) ?_
    refine v_iceq d_X_further_32 ?_ ?_
    · refine v_aloadn d_X_further_37 rfl 1 rfl ?_
      refine v_gR d_X_further_38 fl_X_46 rfl (fun r38 => ?_)
      refine v_aloadn d_X_further_41 rfl 1 rfl ?_
      refine v_gR d_X_further_42 fl_X_19 rfl (fun r42 => ?_)
      refine v_cVv d_X_further_45 ml_X_236 (q := (RX5, TX5, 7)) rfl (c_Search_reset l hfl r38 r42 M) (fun _ => rfl) (by decide) (by decide) (as := [xA r42]) (st1 := []) rfl rfl (Nat.le_of_ble_eq_true rfl) (fun _ M => ?_)
      refine v_aloadn d_X_further_48 rfl 1 rfl ?_
      refine v_gR d_X_further_49 fl_X_46 rfl (fun r49 => ?_)
      refine v_aloadn d_X_further_52 rfl 1 rfl ?_
      refine v_gR d_X_further_53 fl_X_36 rfl (fun r53 => ?_)
      refine v_aloadn d_X_further_56 rfl 1 rfl ?_
      refine v_gR d_X_further_57 fl_X_36 rfl (fun r57 => ?_)
      refine v_gI d_X_further_60 fl_X_102 rfl (fun x60 => ?_)
      refine v_aloadn d_X_further_63 rfl 1 rfl ?_
      refine v_gR d_X_further_64 fl_X_36 rfl (fun r64 => ?_)
      refine v_gI d_X_further_67 fl_X_102 rfl (fun x67 => ?_)
      refine v_aloadn d_X_further_70 rfl 1 rfl ?_
      refine v_gR d_X_further_71 fl_X_36 rfl (fun r71 => ?_)
      refine v_gI d_X_further_74 fl_X_102 rfl (fun x74 => ?_)
      refine v_iloadn d_X_further_77 rfl 0 rfl ?_
      refine v_iadd d_X_further_78 (fun x78 => ?_)
      refine v_cVv d_X_further_79 ml_X_240 (q := (RX5, TX5, 7)) rfl (c_Search_begin l hfl r49 r53 x60 x67 x78 M) (fun _ => rfl) (by decide) (by decide) (as := [xA r53, xI x60, xI x67, xI x78]) (st1 := []) rfl rfl (Nat.le_of_ble_eq_true rfl) (fun _ M => ?_)
      refine v_aloadn d_X_further_82 rfl 1 rfl ?_
      refine v_gR d_X_further_83 fl_X_46 rfl (fun r83 => ?_)
      refine v_cVi d_X_further_86 ml_X_244 (q := (RX5, TX5, 7)) rfl (c_Search_deepestBehind l hfl r83 M) (fun _ => rfl) (by decide) (by decide) (as := []) (st1 := []) rfl rfl (Nat.le_of_ble_eq_true rfl) (fun c86 M => ?_)
      exact v_ret d_X_further_89 rfl
    · refine v_iconst d_X_further_35 (by decide) ?_
      exact v_ret d_X_further_36 rfl
set_option maxHeartbeats 4000000 in
set_option maxRecDepth 100000 in
theorem c_X_longest (l : Launch) (hfl : l.stackTraces = false) (a0 : Nat) (M : mm_T) : vm_Con l yX10_longest (.code yX10_longest cX10_longest 1 (some .int)) 17 ex_I [xA a0] M (k_X_longest a0 M) := by
  refine vm_con (y := q_X_longest) hfl (by decide +kernel) rfl (fun h => by cases h) (Nat.le_of_ble_eq_true rfl) rfl (fun _ _ _ => rfl) (fun r E h => by cases h) (fun w => ?_)
  show V_ l w q_X_longest 17 ex_I 0 [(0, xA a0)] [] M (k_X_longest a0 M)
  unfold k_X_longest
  refine v_aloadn d_X_longest_0 rfl 0 rfl ?_
  refine v_gR d_X_longest_1 fl_X_46 rfl (fun r1 => ?_)
  refine v_aloadn d_X_longest_4 rfl 0 rfl ?_
  refine v_gR d_X_longest_5 fl_X_19 rfl (fun r5 => ?_)
  refine v_cVv d_X_longest_8 ml_X_236 (q := (RX5, TX5, 7)) rfl (c_Search_reset l hfl r1 r5 M) (fun _ => rfl) (by decide) (by decide) (as := [xA r5]) (st1 := []) rfl rfl (Nat.le_of_ble_eq_true rfl) (fun _ M => ?_)
  refine v_aloadn d_X_longest_11 rfl 0 rfl ?_
  refine v_gR d_X_longest_12 fl_X_46 rfl (fun r12 => ?_)
  refine v_aloadn d_X_longest_15 rfl 0 rfl ?_
  refine v_gR d_X_longest_16 fl_X_36 rfl (fun r16 => ?_)
  refine v_iconst d_X_longest_19 (by decide) ?_
  refine v_iconst d_X_longest_20 (by decide) ?_
  refine v_bipush d_X_longest_21 (by decide) ?_
  refine v_cVv d_X_longest_23 ml_X_240 (q := (RX5, TX5, 7)) rfl (c_Search_begin l hfl r12 r16 0 0 40 M) (fun _ => rfl) (by decide) (by decide) (as := [xA r16, xI 0, xI 0, xI 40]) (st1 := []) rfl rfl (Nat.le_of_ble_eq_true rfl) (fun _ M => ?_)
  refine v_aloadn d_X_longest_26 rfl 0 rfl ?_
  refine v_gR d_X_longest_27 fl_X_46 rfl (fun r27 => ?_)
  refine v_cVi d_X_longest_30 ml_X_244 (q := (RX5, TX5, 7)) rfl (c_Search_deepestBehind l hfl r27 M) (fun _ => rfl) (by decide) (by decide) (as := []) (st1 := []) rfl rfl (Nat.le_of_ble_eq_true rfl) (fun c30 M => ?_)
  exact v_ret d_X_longest_33 rfl
set_option maxHeartbeats 4000000 in
set_option maxRecDepth 100000 in
theorem V_lp_X_becomeNth_36 {l : Launch} {w : vm_W} (hfl : l.stackTraces = false) (kx69 : Int → mm_T → Option (Int × mm_T)) (a0 : Nat) (v2 : Int) (hkx69 : ∀ (v3_e : Int) (M : mm_T), V_ l w q_X_becomeNth 16 ex_I 69 [(0, xA a0), (3, xI v3_e)] [] M (kx69 v3_e M)) : ∀ (f : Nat) (v3 : Int) (v4 : Int) (M : mm_T), V_ l w q_X_becomeNth 16 ex_I 36 [(0, xA a0), (2, xI v2), (3, xI v3), (4, xI v4)] [] M (lp_X_becomeNth_36 kx69 a0 v2 f v3 v4 M) := by
  intro f
  induction f with
  | zero => intros; exact V_.none
  | succ f ih =>
    intro v3 v4 M
    unfold lp_X_becomeNth_36
    refine v_iload d_X_becomeNth_36 3 rfl ?_
    refine v_iloadn d_X_becomeNth_38 rfl 1 rfl ?_
    refine v_icge d_X_becomeNth_39 ?_ ?_
    · refine v_sub (ls' := [(0, xA a0), (3, xI v3)]) [0, 2] rfl ?_
      exact hkx69 v3 M
    · refine v_iload d_X_becomeNth_42 3 rfl ?_
      refine v_sipush d_X_becomeNth_44 (by decide) ?_
      refine v_icge d_X_becomeNth_47 ?_ ?_
      · refine v_sub (ls' := [(0, xA a0), (3, xI v3)]) [0, 2] rfl ?_
        exact hkx69 v3 M
      · refine v_iloadn d_X_becomeNth_50 rfl 2 rfl ?_
        refine v_iconst d_X_becomeNth_51 (by decide) ?_
        refine v_icne d_X_becomeNth_52 ?_ ?_
        · refine v_sub (ls' := [(0, xA a0), (3, xI v3)]) [0, 2] rfl ?_
          exact hkx69 v3 M
        · refine v_aloadn d_X_becomeNth_55 rfl 0 rfl ?_
          refine v_gR d_X_becomeNth_56 fl_X_46 rfl (fun r56 => ?_)
          refine v_cVi d_X_becomeNth_59 ml_X_250 (q := (RX5, TX5, 7)) rfl (c_Search_seek l hfl r56 M) (fun _ => rfl) (by decide) (by decide) (as := []) (st1 := []) rfl rfl (Nat.le_of_ble_eq_true rfl) (fun c59 M => ?_)
          refine v_istoren (lz := fun z => [(3, xI z), (0, xA a0), (2, xI v2), (4, xI v4)]) d_X_becomeNth_62 rfl (Nat.le_of_ble_eq_true rfl) (fun _ => rfl) (fun v3_62 => ?_)
          refine v_iinc (lz := fun z => [(4, xI z), (3, xI v3_62), (0, xA a0), (2, xI v2)]) d_X_becomeNth_63 3 rfl (Nat.le_of_ble_eq_true rfl) (fun _ => rfl) (fun v4_63 => ?_)
          refine v_goto d_X_becomeNth_66 ?_
          refine v_sub (ls' := [(0, xA a0), (2, xI v2), (3, xI v3_62), (4, xI v4_63)]) [2, 3, 1, 0] rfl ?_
          exact ih v3_62 v4_63 M
set_option maxHeartbeats 4000000 in
set_option maxRecDepth 100000 in
theorem c_X_becomeNth (l : Launch) (hfl : l.stackTraces = false) (a0 : Nat) (v1 : Int) (v2 : Int) (M : mm_T) : vm_Con l yX10_becomeNth (.code yX10_becomeNth cX10_becomeNth 5 (some .int)) 16 ex_I [xA a0, xI v1, xI v2] M (k_X_becomeNth a0 v1 v2 M) := by
  refine vm_con (y := q_X_becomeNth) hfl (by decide +kernel) rfl (fun h => by cases h) (Nat.le_of_ble_eq_true rfl) rfl (fun _ _ _ => rfl) (fun r E h => by cases h) (fun w => ?_)
  show V_ l w q_X_becomeNth 16 ex_I 0 [(0, xA a0), (1, xI v1), (2, xI v2)] [] M (k_X_becomeNth a0 v1 v2 M)
  unfold k_X_becomeNth
  refine v_aloadn d_X_becomeNth_0 rfl 0 rfl ?_
  refine v_gR d_X_becomeNth_1 fl_X_46 rfl (fun r1 => ?_)
  refine v_aloadn d_X_becomeNth_4 rfl 0 rfl ?_
  refine v_gR d_X_becomeNth_5 fl_X_19 rfl (fun r5 => ?_)
  refine v_cVv d_X_becomeNth_8 ml_X_236 (q := (RX5, TX5, 7)) rfl (c_Search_reset l hfl r1 r5 M) (fun _ => rfl) (by decide) (by decide) (as := [xA r5]) (st1 := []) rfl rfl (Nat.le_of_ble_eq_true rfl) (fun _ M => ?_)
  refine v_aloadn d_X_becomeNth_11 rfl 0 rfl ?_
  refine v_gR d_X_becomeNth_12 fl_X_46 rfl (fun r12 => ?_)
  refine v_aloadn d_X_becomeNth_15 rfl 0 rfl ?_
  refine v_gR d_X_becomeNth_16 fl_X_36 rfl (fun r16 => ?_)
  refine v_iconst d_X_becomeNth_19 (by decide) ?_
  refine v_iconst d_X_becomeNth_20 (by decide) ?_
  refine v_iloadn d_X_becomeNth_21 rfl 1 rfl ?_
  refine v_cVv d_X_becomeNth_22 ml_X_240 (q := (RX5, TX5, 7)) rfl (c_Search_begin l hfl r12 r16 0 0 v1 M) (fun _ => rfl) (by decide) (by decide) (as := [xA r16, xI 0, xI 0, xI v1]) (st1 := []) rfl rfl (Nat.le_of_ble_eq_true rfl) (fun _ M => ?_)
  refine v_aloadn d_X_becomeNth_25 rfl 0 rfl ?_
  refine v_gR d_X_becomeNth_26 fl_X_46 rfl (fun r26 => ?_)
  refine v_cVi d_X_becomeNth_29 ml_X_250 (q := (RX5, TX5, 7)) rfl (c_Search_seek l hfl r26 M) (fun _ => rfl) (by decide) (by decide) (as := []) (st1 := []) rfl rfl (Nat.le_of_ble_eq_true rfl) (fun c29 M => ?_)
  refine v_istoren (lz := fun z => [(3, xI z), (0, xA a0), (1, xI v1), (2, xI v2)]) d_X_becomeNth_32 rfl (Nat.le_of_ble_eq_true rfl) (fun _ => rfl) (fun v3_32 => ?_)
  refine v_iconst d_X_becomeNth_33 (by decide) ?_
  refine v_istore (lz := fun z => [(4, xI z), (3, xI v3_32), (0, xA a0), (1, xI v1), (2, xI v2)]) d_X_becomeNth_34 (Nat.le_of_ble_eq_true rfl) (fun _ => rfl) (fun v4_34 => ?_)
  refine v_sub (ls' := [(0, xA a0), (2, xI v2), (3, xI v3_32), (4, xI v4_34)]) [2, 4, 1, 0] rfl ?_
  refine V_lp_X_becomeNth_36 hfl _ _ _ (fun v3_69 M => ?_) _ _ _ _
  · refine v_iloadn d_X_becomeNth_69 rfl 1 rfl ?_
    refine v_iconst d_X_becomeNth_70 (by decide) ?_
    refine v_iceq d_X_becomeNth_71 ?_ ?_
    · refine v_aloadn d_X_becomeNth_76 rfl 0 rfl ?_
      refine v_aloadn d_X_becomeNth_77 rfl 0 rfl ?_
      refine v_gR d_X_becomeNth_78 fl_X_46 rfl (fun r78 => ?_)
      refine v_gR d_X_becomeNth_81 fl_X_253 rfl (fun r81 => ?_)
      refine v_cVv d_X_becomeNth_84 ml_X_98 (q := (RX10, TX10, 10)) rfl (c_X_become l hfl a0 r81 M) (fun _ => rfl) (by decide) (by decide) (as := [xA r81]) (st1 := []) rfl rfl (Nat.le_of_ble_eq_true rfl) (fun _ M => ?_)
      refine v_aloadn d_X_becomeNth_87 rfl 0 rfl ?_
      refine v_gR d_X_becomeNth_88 fl_X_46 rfl (fun r88 => ?_)
      refine v_gI d_X_becomeNth_91 fl_X_256 rfl (fun x91 => ?_)
      exact v_ret d_X_becomeNth_94 rfl
    · refine v_iloadn d_X_becomeNth_74 rfl 1 rfl ?_
      exact v_ret d_X_becomeNth_75 rfl
set_option maxHeartbeats 4000000 in
set_option maxRecDepth 100000 in
theorem c_X_first (l : Launch) (hfl : l.stackTraces = false) (a0 : Nat) (v1 : Int) (M : mm_T) : vm_ConX l yX10_first (.code yX10_first cX10_first 2 (some .int)) 17 (ex_T ex_I) [xA a0, xI v1] M (k_X_first a0 v1 M) := by
  refine vm_conX (y := q_X_first) hfl (by decide +kernel) rfl (fun h => by cases h) (Nat.le_of_ble_eq_true rfl) rfl (fun r _ _ => by cases r with | inl E => trivial | inr x => rfl) (fun w => ?_)
  show V_ l w q_X_first 17 (ex_T ex_I) 0 [(0, xA a0), (1, xI v1)] [] M (k_X_first a0 v1 M)
  unfold k_X_first
  refine v_aloadn d_X_first_0 rfl 0 rfl ?_
  refine v_iloadn d_X_first_1 rfl 1 rfl ?_
  refine v_iconst d_X_first_2 (by decide) ?_
  refine v_bipush d_X_first_3 (by decide) ?_
  refine v_xV d_X_first_5 ml_X_173 (q := (RX10, TX10, 10)) rfl (c_X_checkRange l hfl a0 v1 1 40 M) (fun _ => rfl) (by decide) (by decide) (as := [xI v1, xI 1, xI 40]) (st1 := []) rfl rfl (Nat.le_of_ble_eq_true rfl) rfl (sr := fun _ => []) (fun _ M => ?_)
  show V_ l w q_X_first 17 (ex_T ex_I) 8 [(0, xA a0), (1, xI v1)] [] M _
  refine v_aloadn d_X_first_8 rfl 0 rfl ?_
  refine v_iloadn d_X_first_9 rfl 1 rfl ?_
  refine v_iconst d_X_first_10 (by decide) ?_
  refine v_cVi d_X_first_11 ml_X_247 (q := (RX10, TX10, 10)) rfl (c_X_becomeNth l hfl a0 v1 0 M) (fun _ => rfl) (by decide) (by decide) (as := [xI v1, xI 0]) (st1 := []) rfl rfl (Nat.le_of_ble_eq_true rfl) (fun c11 M => ?_)
  exact v_ret d_X_first_14 rfl
set_option maxHeartbeats 4000000 in
set_option maxRecDepth 100000 in
theorem c_X_nth (l : Launch) (hfl : l.stackTraces = false) (a0 : Nat) (v1 : Int) (v2 : Int) (M : mm_T) : vm_ConX l yX10_nth (.code yX10_nth cX10_nth 3 (some .int)) 17 (ex_T ex_I) [xA a0, xI v1, xI v2] M (k_X_nth a0 v1 v2 M) := by
  refine vm_conX (y := q_X_nth) hfl (by decide +kernel) rfl (fun h => by cases h) (Nat.le_of_ble_eq_true rfl) rfl (fun r _ _ => by cases r with | inl E => trivial | inr x => rfl) (fun w => ?_)
  show V_ l w q_X_nth 17 (ex_T ex_I) 0 [(0, xA a0), (1, xI v1), (2, xI v2)] [] M (k_X_nth a0 v1 v2 M)
  unfold k_X_nth
  refine v_aloadn d_X_nth_0 rfl 0 rfl ?_
  refine v_iloadn d_X_nth_1 rfl 1 rfl ?_
  refine v_iconst d_X_nth_2 (by decide) ?_
  refine v_bipush d_X_nth_3 (by decide) ?_
  refine v_xV d_X_nth_5 ml_X_173 (q := (RX10, TX10, 10)) rfl (c_X_checkRange l hfl a0 v1 1 40 M) (fun _ => rfl) (by decide) (by decide) (as := [xI v1, xI 1, xI 40]) (st1 := []) rfl rfl (Nat.le_of_ble_eq_true rfl) rfl (sr := fun _ => []) (fun _ M => ?_)
  show V_ l w q_X_nth 17 (ex_T ex_I) 8 [(0, xA a0), (1, xI v1), (2, xI v2)] [] M _
  refine v_iloadn d_X_nth_8 rfl 2 rfl ?_
  refine v_ifge d_X_nth_9 ?_ ?_
  · refine v_aloadn d_X_nth_20 rfl 0 rfl ?_
    refine v_iloadn d_X_nth_21 rfl 1 rfl ?_
    refine v_iloadn d_X_nth_22 rfl 2 rfl ?_
    refine v_cVi d_X_nth_23 ml_X_247 (q := (RX10, TX10, 10)) rfl (c_X_becomeNth l hfl a0 v1 v2 M) (fun _ => rfl) (by decide) (by decide) (as := [xI v1, xI v2]) (st1 := []) rfl rfl (Nat.le_of_ble_eq_true rfl) (fun c23 M => ?_)
    exact v_ret d_X_nth_26 rfl
  · exact v_throw (E := 1) rfl d_X_nth_12.1 d_X_nth_15.1 d_X_nth_16.1 d_X_nth_19.1 gw_831 gw_130 ta_X_86 ta_X_86g (by decide +kernel) (by first | decide | omega) (Nat.le_of_ble_eq_true rfl) rfl
set_option maxHeartbeats 4000000 in
set_option maxRecDepth 100000 in
theorem c_X_checkSearched (l : Launch) (hfl : l.stackTraces = false) (a0 : Nat) (M : mm_T) : vm_ConX l yX10_checkSearched (.code yX10_checkSearched cX10_checkSearched 1 none) 6 (ex_T ex_V) [xA a0] M (k_X_checkSearched a0 M) := by
  refine vm_conX (y := q_X_checkSearched) hfl (by decide +kernel) rfl (fun h => by cases h) (Nat.le_of_ble_eq_true rfl) rfl (fun r _ _ => by cases r with | inl E => trivial | inr x => rfl) (fun w => ?_)
  show V_ l w q_X_checkSearched 6 (ex_T ex_V) 0 [(0, xA a0)] [] M (k_X_checkSearched a0 M)
  unfold k_X_checkSearched
  refine v_aloadn d_X_checkSearched_0 rfl 0 rfl ?_
  refine v_gR d_X_checkSearched_1 fl_X_36 rfl (fun r1 => ?_)
  refine v_gI d_X_checkSearched_4 fl_X_102 rfl (fun x4 => ?_)
  refine v_bipush d_X_checkSearched_7 (by decide) ?_
  refine v_icle d_X_checkSearched_9 ?_ ?_
  · exact v_vret d_X_checkSearched_20 rfl
  · exact v_throw (E := 2) rfl d_X_checkSearched_12.1 d_X_checkSearched_15.1 d_X_checkSearched_16.1 d_X_checkSearched_19.1 gw_936 gw_132 ta_X_115 ta_X_115g (by decide +kernel) (by first | decide | omega) (Nat.le_of_ble_eq_true rfl) rfl
set_option maxHeartbeats 4000000 in
set_option maxRecDepth 100000 in
theorem c_X_next (l : Launch) (hfl : l.stackTraces = false) (a0 : Nat) (M : mm_T) : vm_ConX l yX10_next (.code yX10_next cX10_next 5 (some .int)) 16 (ex_T ex_I) [xA a0] M (k_X_next a0 M) := by
  refine vm_conX (y := q_X_next) hfl (by decide +kernel) rfl (fun h => by cases h) (Nat.le_of_ble_eq_true rfl) rfl (fun r _ _ => by cases r with | inl E => trivial | inr x => rfl) (fun w => ?_)
  show V_ l w q_X_next 16 (ex_T ex_I) 0 [(0, xA a0)] [] M (k_X_next a0 M)
  unfold k_X_next
  refine v_aloadn d_X_next_0 rfl 0 rfl ?_
  refine v_xV d_X_next_1 ml_X_259 (q := (RX10, TX10, 10)) rfl (c_X_checkSearched l hfl a0 M) (fun _ => rfl) (by decide) (by decide) (as := []) (st1 := []) rfl rfl (Nat.le_of_ble_eq_true rfl) rfl (sr := fun _ => []) (fun _ M => ?_)
  show V_ l w q_X_next 16 (ex_T ex_I) 4 [(0, xA a0)] [] M _
  refine v_aloadn d_X_next_4 rfl 0 rfl ?_
  refine v_gR d_X_next_5 fl_X_36 rfl (fun r5 => ?_)
  refine v_gI d_X_next_8 fl_X_102 rfl (fun x8 => ?_)
  refine v_ifne d_X_next_11 ?_ ?_
  · refine v_aloadn d_X_next_16 rfl 0 rfl ?_
    refine v_gR d_X_next_17 fl_X_36 rfl (fun r17 => ?_)
    refine v_aloadn d_X_next_20 rfl 0 rfl ?_
    refine v_gR d_X_next_21 fl_X_19 rfl (fun r21 => ?_)
    refine v_cVi d_X_next_24 ml_X_155 (q := (RX1, TX1, 5)) rfl (c_Line_firstBad l hfl r17 r21 M) (fun _ => rfl) (by decide) (by decide) (as := [xA r21]) (st1 := []) rfl rfl (Nat.le_of_ble_eq_true rfl) (fun c24 M => ?_)
    refine v_istoren (lz := fun z => [(1, xI z), (0, xA a0)]) d_X_next_27 rfl (Nat.le_of_ble_eq_true rfl) (fun _ => rfl) (fun v1_27 => ?_)
    refine v_iloadn d_X_next_28 rfl 0 rfl ?_
    refine v_iconst d_X_next_29 (by decide) ?_
    refine v_join1 (pj := 46) (lj := fun s0_46 => [(0, xA a0)]) (sj := fun s0_46 => [xI s0_46]) (fun s0_46 M => ?_) (fun j46 hj46 => ?_)
    · refine v_istoren (lz := fun z => [(2, xI z), (0, xA a0)]) d_X_next_46 rfl (Nat.le_of_ble_eq_true rfl) (fun _ => rfl) (fun v2_46 => ?_)
      refine v_aloadn d_X_next_47 rfl 1 rfl ?_
      refine v_gR d_X_next_48 fl_X_46 rfl (fun r48 => ?_)
      refine v_aloadn d_X_next_51 rfl 1 rfl ?_
      refine v_gR d_X_next_52 fl_X_19 rfl (fun r52 => ?_)
      refine v_cVv d_X_next_55 ml_X_236 (q := (RX5, TX5, 7)) rfl (c_Search_reset l hfl r48 r52 M) (fun _ => rfl) (by decide) (by decide) (as := [xA r52]) (st1 := []) rfl rfl (Nat.le_of_ble_eq_true rfl) (fun _ M => ?_)
      refine v_aloadn d_X_next_58 rfl 1 rfl ?_
      refine v_gR d_X_next_59 fl_X_46 rfl (fun r59 => ?_)
      refine v_aloadn d_X_next_62 rfl 1 rfl ?_
      refine v_gR d_X_next_63 fl_X_36 rfl (fun r63 => ?_)
      refine v_iloadn d_X_next_66 rfl 0 rfl ?_
      refine v_iconst d_X_next_67 (by decide) ?_
      refine v_aloadn d_X_next_68 rfl 1 rfl ?_
      refine v_gR d_X_next_69 fl_X_36 rfl (fun r69 => ?_)
      refine v_gI d_X_next_72 fl_X_102 rfl (fun x72 => ?_)
      refine v_cVv d_X_next_75 ml_X_240 (q := (RX5, TX5, 7)) rfl (c_Search_begin l hfl r59 r63 v2_46 0 x72 M) (fun _ => rfl) (by decide) (by decide) (as := [xA r63, xI v2_46, xI 0, xI x72]) (st1 := []) rfl rfl (Nat.le_of_ble_eq_true rfl) (fun _ M => ?_)
      refine v_aloadn d_X_next_78 rfl 1 rfl ?_
      refine v_gR d_X_next_79 fl_X_46 rfl (fun r79 => ?_)
      refine v_aloadn d_X_next_82 rfl 1 rfl ?_
      refine v_gR d_X_next_83 fl_X_36 rfl (fun r83 => ?_)
      refine v_iloadn d_X_next_86 rfl 0 rfl ?_
      refine v_cVi d_X_next_87 ml_X_106 (q := (RX1, TX1, 5)) rfl (c_Line_at l hfl r83 v2_46 M) (fun _ => rfl) (by decide) (by decide) (as := [xI v2_46]) (st1 := [xA r79]) rfl rfl (Nat.le_of_ble_eq_true rfl) (fun c87 M => ?_)
      refine v_iconst d_X_next_90 (by decide) ?_
      refine v_iadd d_X_next_91 (fun x91 => ?_)
      refine v_pI d_X_next_92 fl_X_262 (Or.inl rfl) rfl rfl (fun M => ?_)
      refine v_aloadn d_X_next_95 rfl 1 rfl ?_
      refine v_gR d_X_next_96 fl_X_46 rfl (fun r96 => ?_)
      refine v_cVi d_X_next_99 ml_X_250 (q := (RX5, TX5, 7)) rfl (c_Search_seek l hfl r96 M) (fun _ => rfl) (by decide) (by decide) (as := []) (st1 := []) rfl rfl (Nat.le_of_ble_eq_true rfl) (fun c99 M => ?_)
      refine v_istoren (lz := fun z => [(3, xI z), (2, xI v2_46), (0, xA a0)]) d_X_next_102 rfl (Nat.le_of_ble_eq_true rfl) (fun _ => rfl) (fun v3_102 => ?_)
      refine v_iloadn d_X_next_103 rfl 0 rfl ?_
      refine v_iconst d_X_next_104 (by decide) ?_
      refine v_iceq d_X_next_105 ?_ ?_
      · refine v_aloadn d_X_next_110 rfl 2 rfl ?_
        refine v_gR d_X_next_111 fl_X_36 rfl (fun r111 => ?_)
        refine v_aloadn d_X_next_114 rfl 2 rfl ?_
        refine v_gR d_X_next_115 fl_X_46 rfl (fun r115 => ?_)
        refine v_gR d_X_next_118 fl_X_253 rfl (fun r118 => ?_)
        refine v_cVi d_X_next_121 ml_X_265 (q := (RX1, TX1, 5)) rfl (c_Line_firstUnlike l hfl r111 r118 M) (fun _ => rfl) (by decide) (by decide) (as := [xA r118]) (st1 := []) rfl rfl (Nat.le_of_ble_eq_true rfl) (fun c121 M => ?_)
        refine v_istore (lz := fun z => [(4, xI z), (3, xI v3_102), (2, xI v2_46), (0, xA a0)]) d_X_next_124 (Nat.le_of_ble_eq_true rfl) (fun _ => rfl) (fun v4_124 => ?_)
        refine v_aloadn d_X_next_126 rfl 3 rfl ?_
        refine v_aloadn d_X_next_127 rfl 3 rfl ?_
        refine v_gR d_X_next_128 fl_X_46 rfl (fun r128 => ?_)
        refine v_gR d_X_next_131 fl_X_253 rfl (fun r131 => ?_)
        refine v_cVv d_X_next_134 ml_X_98 (q := (RX10, TX10, 10)) rfl (c_X_become l hfl a0 r131 M) (fun _ => rfl) (by decide) (by decide) (as := [xA r131]) (st1 := []) rfl rfl (Nat.le_of_ble_eq_true rfl) (fun _ M => ?_)
        refine v_iload d_X_next_137 0 rfl ?_
        exact v_ret d_X_next_139 rfl
      · refine v_iloadn d_X_next_108 rfl 0 rfl ?_
        exact v_ret d_X_next_109 rfl
    refine v_icne d_X_next_30 ?_ ?_
    · refine v_iloadn d_X_next_45 rfl 0 rfl ?_
      refine v_sub (ls' := [(0, xA a0)]) [1] rfl ?_
      exact hj46 v1_27 M
    · refine v_aloadn d_X_next_33 rfl 1 rfl ?_
      refine v_gR d_X_next_34 fl_X_36 rfl (fun r34 => ?_)
      refine v_gI d_X_next_37 fl_X_102 rfl (fun x37 => ?_)
      refine v_iconst d_X_next_40 (by decide) ?_
      refine v_isub d_X_next_41 (fun x41 => ?_)
      refine v_goto d_X_next_42 ?_
      refine v_sub (ls' := [(0, xA a0)]) [1] rfl ?_
      exact hj46 x41 M
  · refine v_iconst d_X_next_14 (by decide) ?_
    exact v_ret d_X_next_15 rfl
set_option maxHeartbeats 4000000 in
set_option maxRecDepth 100000 in
theorem V_lp_X_howMany_41 {l : Launch} {w : vm_W} (hfl : l.stackTraces = false) (kx67 : Int → Int → mm_T → Option (Int × mm_T)) (a0 : Nat) (hkx67 : ∀ (v2_e : Int) (v3_e : Int) (M : mm_T), V_ l w q_X_howMany 16 ex_I 67 [(2, xI v2_e), (3, xI v3_e)] [] M (kx67 v2_e v3_e M)) : ∀ (f : Nat) (v2 : Int) (v3 : Int) (M : mm_T), V_ l w q_X_howMany 16 ex_I 41 [(0, xA a0), (2, xI v2), (3, xI v3)] [] M (lp_X_howMany_41 kx67 a0 f v2 v3 M) := by
  intro f
  induction f with
  | zero => intros; exact V_.none
  | succ f ih =>
    intro v2 v3 M
    unfold lp_X_howMany_41
    refine v_iloadn d_X_howMany_41 rfl 1 rfl ?_
    refine v_sipush d_X_howMany_42 (by decide) ?_
    refine v_icge d_X_howMany_45 ?_ ?_
    · refine v_sub (ls' := [(2, xI v2), (3, xI v3)]) [1, 2] rfl ?_
      exact hkx67 v2 v3 M
    · refine v_iloadn d_X_howMany_48 rfl 2 rfl ?_
      refine v_iconst d_X_howMany_49 (by decide) ?_
      refine v_icne d_X_howMany_50 ?_ ?_
      · refine v_sub (ls' := [(2, xI v2), (3, xI v3)]) [1, 2] rfl ?_
        exact hkx67 v2 v3 M
      · refine v_aloadn d_X_howMany_53 rfl 0 rfl ?_
        refine v_gR d_X_howMany_54 fl_X_46 rfl (fun r54 => ?_)
        refine v_cVi d_X_howMany_57 ml_X_250 (q := (RX5, TX5, 7)) rfl (c_Search_seek l hfl r54 M) (fun _ => rfl) (by decide) (by decide) (as := []) (st1 := []) rfl rfl (Nat.le_of_ble_eq_true rfl) (fun c57 M => ?_)
        refine v_istoren (lz := fun z => [(3, xI z), (0, xA a0), (2, xI v2)]) d_X_howMany_60 rfl (Nat.le_of_ble_eq_true rfl) (fun _ => rfl) (fun v3_60 => ?_)
        refine v_iinc (lz := fun z => [(2, xI z), (3, xI v3_60), (0, xA a0)]) d_X_howMany_61 2 rfl (Nat.le_of_ble_eq_true rfl) (fun _ => rfl) (fun v2_61 => ?_)
        refine v_goto d_X_howMany_64 ?_
        refine v_sub (ls' := [(0, xA a0), (2, xI v2_61), (3, xI v3_60)]) [2, 0, 1] rfl ?_
        exact ih v2_61 v3_60 M
set_option maxHeartbeats 4000000 in
set_option maxRecDepth 100000 in
theorem c_X_howMany (l : Launch) (hfl : l.stackTraces = false) (a0 : Nat) (v1 : Int) (M : mm_T) : vm_Con l yX10_howMany (.code yX10_howMany cX10_howMany 4 (some .int)) 16 ex_I [xA a0, xI v1] M (k_X_howMany a0 v1 M) := by
  refine vm_con (y := q_X_howMany) hfl (by decide +kernel) rfl (fun h => by cases h) (Nat.le_of_ble_eq_true rfl) rfl (fun _ _ _ => rfl) (fun r E h => by cases h) (fun w => ?_)
  show V_ l w q_X_howMany 16 ex_I 0 [(0, xA a0), (1, xI v1)] [] M (k_X_howMany a0 v1 M)
  unfold k_X_howMany
  refine v_iloadn d_X_howMany_0 rfl 1 rfl ?_
  refine v_ifne d_X_howMany_1 ?_ ?_
  · refine v_aloadn d_X_howMany_6 rfl 0 rfl ?_
    refine v_gR d_X_howMany_7 fl_X_46 rfl (fun r7 => ?_)
    refine v_aloadn d_X_howMany_10 rfl 0 rfl ?_
    refine v_gR d_X_howMany_11 fl_X_19 rfl (fun r11 => ?_)
    refine v_cVv d_X_howMany_14 ml_X_236 (q := (RX5, TX5, 7)) rfl (c_Search_reset l hfl r7 r11 M) (fun _ => rfl) (by decide) (by decide) (as := [xA r11]) (st1 := []) rfl rfl (Nat.le_of_ble_eq_true rfl) (fun _ M => ?_)
    refine v_aloadn d_X_howMany_17 rfl 0 rfl ?_
    refine v_gR d_X_howMany_18 fl_X_46 rfl (fun r18 => ?_)
    refine v_aloadn d_X_howMany_21 rfl 0 rfl ?_
    refine v_gR d_X_howMany_22 fl_X_36 rfl (fun r22 => ?_)
    refine v_iconst d_X_howMany_25 (by decide) ?_
    refine v_iconst d_X_howMany_26 (by decide) ?_
    refine v_iloadn d_X_howMany_27 rfl 1 rfl ?_
    refine v_cVv d_X_howMany_28 ml_X_240 (q := (RX5, TX5, 7)) rfl (c_Search_begin l hfl r18 r22 0 0 v1 M) (fun _ => rfl) (by decide) (by decide) (as := [xA r22, xI 0, xI 0, xI v1]) (st1 := []) rfl rfl (Nat.le_of_ble_eq_true rfl) (fun _ M => ?_)
    refine v_iconst d_X_howMany_31 (by decide) ?_
    refine v_istoren (lz := fun z => [(2, xI z), (0, xA a0), (1, xI v1)]) d_X_howMany_32 rfl (Nat.le_of_ble_eq_true rfl) (fun _ => rfl) (fun v2_32 => ?_)
    refine v_aloadn d_X_howMany_33 rfl 1 rfl ?_
    refine v_gR d_X_howMany_34 fl_X_46 rfl (fun r34 => ?_)
    refine v_cVi d_X_howMany_37 ml_X_250 (q := (RX5, TX5, 7)) rfl (c_Search_seek l hfl r34 M) (fun _ => rfl) (by decide) (by decide) (as := []) (st1 := []) rfl rfl (Nat.le_of_ble_eq_true rfl) (fun c37 M => ?_)
    refine v_istoren (lz := fun z => [(3, xI z), (2, xI v2_32), (0, xA a0), (1, xI v1)]) d_X_howMany_40 rfl (Nat.le_of_ble_eq_true rfl) (fun _ => rfl) (fun v3_40 => ?_)
    refine v_sub (ls' := [(0, xA a0), (2, xI v2_32), (3, xI v3_40)]) [2, 1, 0] rfl ?_
    refine V_lp_X_howMany_41 hfl _ _ (fun v2_67 v3_67 M => ?_) _ _ _ _
    · refine v_iloadn d_X_howMany_67 rfl 1 rfl ?_
      refine v_bipush d_X_howMany_68 (by decide) ?_
      refine v_icne d_X_howMany_70 ?_ ?_
      · refine v_iloadn d_X_howMany_78 rfl 0 rfl ?_
        exact v_ret d_X_howMany_79 rfl
      · refine v_bipush d_X_howMany_73 (by decide) ?_
        refine v_goto d_X_howMany_75 ?_
        exact v_ret d_X_howMany_79 rfl
  · refine v_iconst d_X_howMany_4 (by decide) ?_
    exact v_ret d_X_howMany_5 rfl
set_option maxHeartbeats 4000000 in
set_option maxRecDepth 100000 in
theorem c_X_many (l : Launch) (hfl : l.stackTraces = false) (a0 : Nat) (v1 : Int) (M : mm_T) : vm_ConX l yX10_many (.code yX10_many cX10_many 2 (some .int)) 17 (ex_T ex_I) [xA a0, xI v1] M (k_X_many a0 v1 M) := by
  refine vm_conX (y := q_X_many) hfl (by decide +kernel) rfl (fun h => by cases h) (Nat.le_of_ble_eq_true rfl) rfl (fun r _ _ => by cases r with | inl E => trivial | inr x => rfl) (fun w => ?_)
  show V_ l w q_X_many 17 (ex_T ex_I) 0 [(0, xA a0), (1, xI v1)] [] M (k_X_many a0 v1 M)
  unfold k_X_many
  refine v_aloadn d_X_many_0 rfl 0 rfl ?_
  refine v_iloadn d_X_many_1 rfl 1 rfl ?_
  refine v_iconst d_X_many_2 (by decide) ?_
  refine v_bipush d_X_many_3 (by decide) ?_
  refine v_xV d_X_many_5 ml_X_173 (q := (RX10, TX10, 10)) rfl (c_X_checkRange l hfl a0 v1 0 40 M) (fun _ => rfl) (by decide) (by decide) (as := [xI v1, xI 0, xI 40]) (st1 := []) rfl rfl (Nat.le_of_ble_eq_true rfl) rfl (sr := fun _ => []) (fun _ M => ?_)
  show V_ l w q_X_many 17 (ex_T ex_I) 8 [(0, xA a0), (1, xI v1)] [] M _
  refine v_aloadn d_X_many_8 rfl 0 rfl ?_
  refine v_iloadn d_X_many_9 rfl 1 rfl ?_
  refine v_cVi d_X_many_10 ml_X_269 (q := (RX10, TX10, 10)) rfl (c_X_howMany l hfl a0 v1 M) (fun _ => rfl) (by decide) (by decide) (as := [xI v1]) (st1 := []) rfl rfl (Nat.le_of_ble_eq_true rfl) (fun c10 M => ?_)
  exact v_ret d_X_many_13 rfl
set_option maxHeartbeats 4000000 in
set_option maxRecDepth 100000 in
theorem c_X_growth (l : Launch) (hfl : l.stackTraces = false) (a0 : Nat) (v1 : Int) (M : mm_T) : vm_ConX l yX10_growth (.code yX10_growth cX10_growth 4 (some .int)) 17 (ex_T ex_I) [xA a0, xI v1] M (k_X_growth a0 v1 M) := by
  refine vm_conX (y := q_X_growth) hfl (by decide +kernel) rfl (fun h => by cases h) (Nat.le_of_ble_eq_true rfl) rfl (fun r _ _ => by cases r with | inl E => trivial | inr x => rfl) (fun w => ?_)
  show V_ l w q_X_growth 17 (ex_T ex_I) 0 [(0, xA a0), (1, xI v1)] [] M (k_X_growth a0 v1 M)
  unfold k_X_growth
  refine v_aloadn d_X_growth_0 rfl 0 rfl ?_
  refine v_iloadn d_X_growth_1 rfl 1 rfl ?_
  refine v_iconst d_X_growth_2 (by decide) ?_
  refine v_bipush d_X_growth_3 (by decide) ?_
  refine v_xV d_X_growth_5 ml_X_173 (q := (RX10, TX10, 10)) rfl (c_X_checkRange l hfl a0 v1 0 39 M) (fun _ => rfl) (by decide) (by decide) (as := [xI v1, xI 0, xI 39]) (st1 := []) rfl rfl (Nat.le_of_ble_eq_true rfl) rfl (sr := fun _ => []) (fun _ M => ?_)
  show V_ l w q_X_growth 17 (ex_T ex_I) 8 [(0, xA a0), (1, xI v1)] [] M _
  refine v_aloadn d_X_growth_8 rfl 0 rfl ?_
  refine v_iloadn d_X_growth_9 rfl 1 rfl ?_
  refine v_cVi d_X_growth_10 ml_X_269 (q := (RX10, TX10, 10)) rfl (c_X_howMany l hfl a0 v1 M) (fun _ => rfl) (by decide) (by decide) (as := [xI v1]) (st1 := []) rfl rfl (Nat.le_of_ble_eq_true rfl) (fun c10 M => ?_)
  refine v_istoren (lz := fun z => [(2, xI z), (0, xA a0), (1, xI v1)]) d_X_growth_13 rfl (Nat.le_of_ble_eq_true rfl) (fun _ => rfl) (fun v2_13 => ?_)
  refine v_iloadn d_X_growth_14 rfl 0 rfl ?_
  refine v_bipush d_X_growth_15 (by decide) ?_
  refine v_icne d_X_growth_17 ?_ ?_
  · refine v_iloadn d_X_growth_23 rfl 0 rfl ?_
    refine v_ifgt d_X_growth_24 ?_ ?_
    · refine v_aloadn d_X_growth_29 rfl 1 rfl ?_
      refine v_iloadn d_X_growth_30 rfl 2 rfl ?_
      refine v_iconst d_X_growth_31 (by decide) ?_
      refine v_iadd d_X_growth_32 (fun x32 => ?_)
      refine v_cVi d_X_growth_33 ml_X_269 (q := (RX10, TX10, 10)) rfl (c_X_howMany l hfl a0 x32 M) (fun _ => rfl) (by decide) (by decide) (as := [xI x32]) (st1 := []) rfl rfl (Nat.le_of_ble_eq_true rfl) (fun c33 M => ?_)
      refine v_istoren (lz := fun z => [(3, xI z), (2, xI v2_13), (0, xA a0), (1, xI v1)]) d_X_growth_36 rfl (Nat.le_of_ble_eq_true rfl) (fun _ => rfl) (fun v3_36 => ?_)
      refine v_iloadn d_X_growth_37 rfl 0 rfl ?_
      refine v_bipush d_X_growth_38 (by decide) ?_
      refine v_icne d_X_growth_40 ?_ ?_
      · refine v_sipush d_X_growth_48 (by decide) ?_
        refine v_iloadn d_X_growth_51 rfl 0 rfl ?_
        refine v_imul d_X_growth_52 (fun x52 => ?_)
        refine v_iloadn d_X_growth_53 rfl 1 rfl ?_
        refine v_idiv d_X_growth_54 (fun x54 => ?_)
        exact v_ret d_X_growth_55 rfl
      · refine v_bipush d_X_growth_43 (by decide) ?_
        refine v_goto d_X_growth_45 ?_
        exact v_ret d_X_growth_55 rfl
    · refine v_iconst d_X_growth_27 (by decide) ?_
      exact v_ret d_X_growth_28 rfl
  · refine v_bipush d_X_growth_20 (by decide) ?_
    exact v_ret d_X_growth_22 rfl
set_option maxHeartbeats 4000000 in
set_option maxRecDepth 100000 in
theorem V_lp_X_stuck_77 {l : Launch} {w : vm_W} (hfl : l.stackTraces = false) (kx128 : Int → Int → mm_T → Option ((Nat ⊕ Int) × mm_T)) (a0 : Nat) (hkx128 : ∀ (v2_e : Int) (v3_e : Int) (M : mm_T), V_ l w q_X_stuck 16 (ex_T ex_I) 128 [(2, xI v2_e), (3, xI v3_e)] [] M (kx128 v2_e v3_e M)) : ∀ (f : Nat) (v2 : Int) (v3 : Int) (v4 : Int) (M : mm_T), V_ l w q_X_stuck 16 (ex_T ex_I) 77 [(0, xA a0), (2, xI v2), (3, xI v3), (4, xI v4)] [] M (lp_X_stuck_77 kx128 a0 f v2 v3 v4 M) := by
  intro f
  induction f with
  | zero => intros; exact V_.none
  | succ f ih =>
    intro v2 v3 v4 M
    unfold lp_X_stuck_77
    refine v_iload d_X_stuck_77 3 rfl ?_
    refine v_sipush d_X_stuck_79 (by decide) ?_
    refine v_icge d_X_stuck_82 ?_ ?_
    · refine v_sub (ls' := [(2, xI v2), (3, xI v3)]) [1, 2] rfl ?_
      exact hkx128 v2 v3 M
    · refine v_iloadn d_X_stuck_85 rfl 2 rfl ?_
      refine v_iconst d_X_stuck_86 (by decide) ?_
      refine v_icne d_X_stuck_87 ?_ ?_
      · refine v_sub (ls' := [(2, xI v2), (3, xI v3)]) [1, 2] rfl ?_
        exact hkx128 v2 v3 M
      · refine v_aloadn d_X_stuck_90 rfl 0 rfl ?_
        refine v_gR d_X_stuck_91 fl_X_46 rfl (fun r91 => ?_)
        refine v_aloadn d_X_stuck_94 rfl 0 rfl ?_
        refine v_gR d_X_stuck_95 fl_X_19 rfl (fun r95 => ?_)
        refine v_aloadn d_X_stuck_98 rfl 0 rfl ?_
        refine v_gR d_X_stuck_99 fl_X_46 rfl (fun r99 => ?_)
        refine v_gR d_X_stuck_102 fl_X_253 rfl (fun r102 => ?_)
        refine v_cVi d_X_stuck_105 ml_X_229 (q := (RX5, TX5, 7)) rfl (c_Search_behind l hfl r91 r95 r102 M) (fun _ => rfl) (by decide) (by decide) (as := [xA r95, xA r102]) (st1 := []) rfl rfl (Nat.le_of_ble_eq_true rfl) (fun c105 M => ?_)
        refine v_join1 (pj := 114) (lj := fun v2_114 => [(0, xA a0), (2, xI v2_114), (4, xI v4)]) (sj := fun v2_114 => []) (fun v2_114 M => ?_) (fun j114 hj114 => ?_)
        · refine v_aloadn d_X_stuck_114 rfl 0 rfl ?_
          refine v_gR d_X_stuck_115 fl_X_46 rfl (fun r115 => ?_)
          refine v_cVi d_X_stuck_118 ml_X_250 (q := (RX5, TX5, 7)) rfl (c_Search_seek l hfl r115 M) (fun _ => rfl) (by decide) (by decide) (as := []) (st1 := []) rfl rfl (Nat.le_of_ble_eq_true rfl) (fun c118 M => ?_)
          refine v_istoren (lz := fun z => [(3, xI z), (0, xA a0), (2, xI v2_114), (4, xI v4)]) d_X_stuck_121 rfl (Nat.le_of_ble_eq_true rfl) (fun _ => rfl) (fun v3_121 => ?_)
          refine v_iinc (lz := fun z => [(4, xI z), (3, xI v3_121), (0, xA a0), (2, xI v2_114)]) d_X_stuck_122 3 rfl (Nat.le_of_ble_eq_true rfl) (fun _ => rfl) (fun v4_122 => ?_)
          refine v_goto d_X_stuck_125 ?_
          refine v_sub (ls' := [(0, xA a0), (2, xI v2_114), (3, xI v3_121), (4, xI v4_122)]) [2, 3, 1, 0] rfl ?_
          exact ih v2_114 v3_121 v4_122 M
        refine v_ifne d_X_stuck_108 ?_ ?_
        · refine v_sub (ls' := [(0, xA a0), (2, xI v2), (4, xI v4)]) [0, 1, 3] rfl ?_
          exact hj114 v2 M
        · refine v_iinc (lz := fun z => [(2, xI z), (0, xA a0), (3, xI v3), (4, xI v4)]) d_X_stuck_111 1 rfl (Nat.le_of_ble_eq_true rfl) (fun _ => rfl) (fun v2_111 => ?_)
          refine v_sub (ls' := [(0, xA a0), (2, xI v2_111), (4, xI v4)]) [1, 0, 3] rfl ?_
          exact hj114 v2_111 M
set_option maxHeartbeats 4000000 in
set_option maxRecDepth 100000 in
theorem c_X_stuck (l : Launch) (hfl : l.stackTraces = false) (a0 : Nat) (v1 : Int) (M : mm_T) : vm_ConX l yX10_stuck (.code yX10_stuck cX10_stuck 5 (some .int)) 16 (ex_T ex_I) [xA a0, xI v1] M (k_X_stuck a0 v1 M) := by
  refine vm_conX (y := q_X_stuck) hfl (by decide +kernel) rfl (fun h => by cases h) (Nat.le_of_ble_eq_true rfl) rfl (fun r _ _ => by cases r with | inl E => trivial | inr x => rfl) (fun w => ?_)
  show V_ l w q_X_stuck 16 (ex_T ex_I) 0 [(0, xA a0), (1, xI v1)] [] M (k_X_stuck a0 v1 M)
  unfold k_X_stuck
  refine v_aloadn d_X_stuck_0 rfl 0 rfl ?_
  refine v_iloadn d_X_stuck_1 rfl 1 rfl ?_
  refine v_iconst d_X_stuck_2 (by decide) ?_
  refine v_bipush d_X_stuck_3 (by decide) ?_
  refine v_xV d_X_stuck_5 ml_X_173 (q := (RX10, TX10, 10)) rfl (c_X_checkRange l hfl a0 v1 0 40 M) (fun _ => rfl) (by decide) (by decide) (as := [xI v1, xI 0, xI 40]) (st1 := []) rfl rfl (Nat.le_of_ble_eq_true rfl) rfl (sr := fun _ => []) (fun _ M => ?_)
  show V_ l w q_X_stuck 16 (ex_T ex_I) 8 [(0, xA a0), (1, xI v1)] [] M _
  refine v_aloadn d_X_stuck_8 rfl 0 rfl ?_
  refine v_gR d_X_stuck_9 fl_X_46 rfl (fun r9 => ?_)
  refine v_aloadn d_X_stuck_12 rfl 0 rfl ?_
  refine v_gR d_X_stuck_13 fl_X_19 rfl (fun r13 => ?_)
  refine v_cVv d_X_stuck_16 ml_X_236 (q := (RX5, TX5, 7)) rfl (c_Search_reset l hfl r9 r13 M) (fun _ => rfl) (by decide) (by decide) (as := [xA r13]) (st1 := []) rfl rfl (Nat.le_of_ble_eq_true rfl) (fun _ M => ?_)
  refine v_aloadn d_X_stuck_19 rfl 0 rfl ?_
  refine v_gR d_X_stuck_20 fl_X_46 rfl (fun r20 => ?_)
  refine v_aloadn d_X_stuck_23 rfl 0 rfl ?_
  refine v_gR d_X_stuck_24 fl_X_36 rfl (fun r24 => ?_)
  refine v_iconst d_X_stuck_27 (by decide) ?_
  refine v_iconst d_X_stuck_28 (by decide) ?_
  refine v_iloadn d_X_stuck_29 rfl 1 rfl ?_
  refine v_cVv d_X_stuck_30 ml_X_240 (q := (RX5, TX5, 7)) rfl (c_Search_begin l hfl r20 r24 0 0 v1 M) (fun _ => rfl) (by decide) (by decide) (as := [xA r24, xI 0, xI 0, xI v1]) (st1 := []) rfl rfl (Nat.le_of_ble_eq_true rfl) (fun _ M => ?_)
  refine v_iloadn d_X_stuck_33 rfl 1 rfl ?_
  refine v_ifne d_X_stuck_34 ?_ ?_
  · refine v_iconst d_X_stuck_64 (by decide) ?_
    refine v_istoren (lz := fun z => [(2, xI z), (0, xA a0), (1, xI v1)]) d_X_stuck_65 rfl (Nat.le_of_ble_eq_true rfl) (fun _ => rfl) (fun v2_65 => ?_)
    refine v_aloadn d_X_stuck_66 rfl 1 rfl ?_
    refine v_gR d_X_stuck_67 fl_X_46 rfl (fun r67 => ?_)
    refine v_cVi d_X_stuck_70 ml_X_250 (q := (RX5, TX5, 7)) rfl (c_Search_seek l hfl r67 M) (fun _ => rfl) (by decide) (by decide) (as := []) (st1 := []) rfl rfl (Nat.le_of_ble_eq_true rfl) (fun c70 M => ?_)
    refine v_istoren (lz := fun z => [(3, xI z), (2, xI v2_65), (0, xA a0), (1, xI v1)]) d_X_stuck_73 rfl (Nat.le_of_ble_eq_true rfl) (fun _ => rfl) (fun v3_73 => ?_)
    refine v_iconst d_X_stuck_74 (by decide) ?_
    refine v_istore (lz := fun z => [(4, xI z), (3, xI v3_73), (2, xI v2_65), (0, xA a0), (1, xI v1)]) d_X_stuck_75 (Nat.le_of_ble_eq_true rfl) (fun _ => rfl) (fun v4_75 => ?_)
    refine v_sub (ls' := [(0, xA a0), (2, xI v2_65), (3, xI v3_73), (4, xI v4_75)]) [3, 2, 1, 0] rfl ?_
    refine V_lp_X_stuck_77 hfl _ _ (fun v2_128 v3_128 M => ?_) _ _ _ _ _
    · refine v_iloadn d_X_stuck_128 rfl 1 rfl ?_
      refine v_bipush d_X_stuck_129 (by decide) ?_
      refine v_icne d_X_stuck_131 ?_ ?_
      · refine v_iloadn d_X_stuck_139 rfl 0 rfl ?_
        exact v_ret d_X_stuck_140 rfl
      · refine v_bipush d_X_stuck_134 (by decide) ?_
        refine v_goto d_X_stuck_136 ?_
        exact v_ret d_X_stuck_140 rfl
  · refine v_aloadn d_X_stuck_37 rfl 0 rfl ?_
    refine v_gR d_X_stuck_38 fl_X_46 rfl (fun r38 => ?_)
    refine v_aloadn d_X_stuck_41 rfl 0 rfl ?_
    refine v_gR d_X_stuck_42 fl_X_19 rfl (fun r42 => ?_)
    refine v_aloadn d_X_stuck_45 rfl 0 rfl ?_
    refine v_gR d_X_stuck_46 fl_X_46 rfl (fun r46 => ?_)
    refine v_gR d_X_stuck_49 fl_X_253 rfl (fun r49 => ?_)
    refine v_cVi d_X_stuck_52 ml_X_229 (q := (RX5, TX5, 7)) rfl (c_Search_behind l hfl r38 r42 r49 M) (fun _ => rfl) (by decide) (by decide) (as := [xA r42, xA r49]) (st1 := []) rfl rfl (Nat.le_of_ble_eq_true rfl) (fun c52 M => ?_)
    refine v_ifne d_X_stuck_55 ?_ ?_
    · refine v_iconst d_X_stuck_62 (by decide) ?_
      exact v_ret d_X_stuck_63 rfl
    · refine v_iconst d_X_stuck_58 (by decide) ?_
      refine v_goto d_X_stuck_59 ?_
      exact v_ret d_X_stuck_63 rfl
set_option maxHeartbeats 4000000 in
set_option maxRecDepth 100000 in
theorem V_lp_X_rank_57 {l : Launch} {w : vm_W} (hfl : l.stackTraces = false) (kx100 : Int → Int → mm_T → Option ((Nat ⊕ Int) × mm_T)) (a0 : Nat) (hkx100 : ∀ (v1_e : Int) (v2_e : Int) (M : mm_T), V_ l w q_X_rank 16 (ex_T ex_I) 100 [(1, xI v1_e), (2, xI v2_e)] [] M (kx100 v1_e v2_e M)) : ∀ (f : Nat) (v1 : Int) (v2 : Int) (M : mm_T), V_ l w q_X_rank 16 (ex_T ex_I) 57 [(0, xA a0), (1, xI v1), (2, xI v2)] [] M (lp_X_rank_57 kx100 a0 f v1 v2 M) := by
  intro f
  induction f with
  | zero => intros; exact V_.none
  | succ f ih =>
    intro v1 v2 M
    unfold lp_X_rank_57
    refine v_iloadn d_X_rank_57 rfl 2 rfl ?_
    refine v_sipush d_X_rank_58 (by decide) ?_
    refine v_icge d_X_rank_61 ?_ ?_
    · refine v_sub (ls' := [(1, xI v1), (2, xI v2)]) [1, 2] rfl ?_
      exact hkx100 v1 v2 M
    · refine v_iloadn d_X_rank_64 rfl 1 rfl ?_
      refine v_iconst d_X_rank_65 (by decide) ?_
      refine v_icne d_X_rank_66 ?_ ?_
      · refine v_sub (ls' := [(1, xI v1), (2, xI v2)]) [1, 2] rfl ?_
        exact hkx100 v1 v2 M
      · refine v_aloadn d_X_rank_69 rfl 0 rfl ?_
        refine v_gR d_X_rank_70 fl_X_46 rfl (fun r70 => ?_)
        refine v_gR d_X_rank_73 fl_X_253 rfl (fun r73 => ?_)
        refine v_aloadn d_X_rank_76 rfl 0 rfl ?_
        refine v_gR d_X_rank_77 fl_X_36 rfl (fun r77 => ?_)
        refine v_cVi d_X_rank_80 ml_X_272 (q := (RX1, TX1, 5)) rfl (c_Line_isAheadOf l hfl r73 r77 M) (fun _ => rfl) (by decide) (by decide) (as := [xA r77]) (st1 := []) rfl rfl (Nat.le_of_ble_eq_true rfl) (fun c80 M => ?_)
        refine v_ifeq d_X_rank_83 ?_ ?_
        · refine v_sub (ls' := [(1, xI v1), (2, xI v2)]) [1, 2] rfl ?_
          exact hkx100 v1 v2 M
        · refine v_aloadn d_X_rank_86 rfl 0 rfl ?_
          refine v_gR d_X_rank_87 fl_X_46 rfl (fun r87 => ?_)
          refine v_cVi d_X_rank_90 ml_X_250 (q := (RX5, TX5, 7)) rfl (c_Search_seek l hfl r87 M) (fun _ => rfl) (by decide) (by decide) (as := []) (st1 := []) rfl rfl (Nat.le_of_ble_eq_true rfl) (fun c90 M => ?_)
          refine v_istoren (lz := fun z => [(1, xI z), (0, xA a0), (2, xI v2)]) d_X_rank_93 rfl (Nat.le_of_ble_eq_true rfl) (fun _ => rfl) (fun v1_93 => ?_)
          refine v_iinc (lz := fun z => [(2, xI z), (1, xI v1_93), (0, xA a0)]) d_X_rank_94 2 rfl (Nat.le_of_ble_eq_true rfl) (fun _ => rfl) (fun v2_94 => ?_)
          refine v_goto d_X_rank_97 ?_
          refine v_sub (ls' := [(0, xA a0), (1, xI v1_93), (2, xI v2_94)]) [2, 1, 0] rfl ?_
          exact ih v1_93 v2_94 M
set_option maxHeartbeats 4000000 in
set_option maxRecDepth 100000 in
theorem c_X_rank (l : Launch) (hfl : l.stackTraces = false) (a0 : Nat) (M : mm_T) : vm_ConX l yX10_rank (.code yX10_rank cX10_rank 3 (some .int)) 16 (ex_T ex_I) [xA a0] M (k_X_rank a0 M) := by
  refine vm_conX (y := q_X_rank) hfl (by decide +kernel) rfl (fun h => by cases h) (Nat.le_of_ble_eq_true rfl) rfl (fun r _ _ => by cases r with | inl E => trivial | inr x => rfl) (fun w => ?_)
  show V_ l w q_X_rank 16 (ex_T ex_I) 0 [(0, xA a0)] [] M (k_X_rank a0 M)
  unfold k_X_rank
  refine v_aloadn d_X_rank_0 rfl 0 rfl ?_
  refine v_xV d_X_rank_1 ml_X_259 (q := (RX10, TX10, 10)) rfl (c_X_checkSearched l hfl a0 M) (fun _ => rfl) (by decide) (by decide) (as := []) (st1 := []) rfl rfl (Nat.le_of_ble_eq_true rfl) rfl (sr := fun _ => []) (fun _ M => ?_)
  show V_ l w q_X_rank 16 (ex_T ex_I) 4 [(0, xA a0)] [] M _
  refine v_aloadn d_X_rank_4 rfl 0 rfl ?_
  refine v_gR d_X_rank_5 fl_X_36 rfl (fun r5 => ?_)
  refine v_gI d_X_rank_8 fl_X_102 rfl (fun x8 => ?_)
  refine v_ifne d_X_rank_11 ?_ ?_
  · refine v_aloadn d_X_rank_16 rfl 0 rfl ?_
    refine v_gR d_X_rank_17 fl_X_46 rfl (fun r17 => ?_)
    refine v_aloadn d_X_rank_20 rfl 0 rfl ?_
    refine v_gR d_X_rank_21 fl_X_19 rfl (fun r21 => ?_)
    refine v_cVv d_X_rank_24 ml_X_236 (q := (RX5, TX5, 7)) rfl (c_Search_reset l hfl r17 r21 M) (fun _ => rfl) (by decide) (by decide) (as := [xA r21]) (st1 := []) rfl rfl (Nat.le_of_ble_eq_true rfl) (fun _ M => ?_)
    refine v_aloadn d_X_rank_27 rfl 0 rfl ?_
    refine v_gR d_X_rank_28 fl_X_46 rfl (fun r28 => ?_)
    refine v_aloadn d_X_rank_31 rfl 0 rfl ?_
    refine v_gR d_X_rank_32 fl_X_36 rfl (fun r32 => ?_)
    refine v_iconst d_X_rank_35 (by decide) ?_
    refine v_iconst d_X_rank_36 (by decide) ?_
    refine v_aloadn d_X_rank_37 rfl 0 rfl ?_
    refine v_gR d_X_rank_38 fl_X_36 rfl (fun r38 => ?_)
    refine v_gI d_X_rank_41 fl_X_102 rfl (fun x41 => ?_)
    refine v_cVv d_X_rank_44 ml_X_240 (q := (RX5, TX5, 7)) rfl (c_Search_begin l hfl r28 r32 0 0 x41 M) (fun _ => rfl) (by decide) (by decide) (as := [xA r32, xI 0, xI 0, xI x41]) (st1 := []) rfl rfl (Nat.le_of_ble_eq_true rfl) (fun _ M => ?_)
    refine v_aloadn d_X_rank_47 rfl 0 rfl ?_
    refine v_gR d_X_rank_48 fl_X_46 rfl (fun r48 => ?_)
    refine v_cVi d_X_rank_51 ml_X_250 (q := (RX5, TX5, 7)) rfl (c_Search_seek l hfl r48 M) (fun _ => rfl) (by decide) (by decide) (as := []) (st1 := []) rfl rfl (Nat.le_of_ble_eq_true rfl) (fun c51 M => ?_)
    refine v_istoren (lz := fun z => [(1, xI z), (0, xA a0)]) d_X_rank_54 rfl (Nat.le_of_ble_eq_true rfl) (fun _ => rfl) (fun v1_54 => ?_)
    refine v_iconst d_X_rank_55 (by decide) ?_
    refine v_istoren (lz := fun z => [(2, xI z), (1, xI v1_54), (0, xA a0)]) d_X_rank_56 rfl (Nat.le_of_ble_eq_true rfl) (fun _ => rfl) (fun v2_56 => ?_)
    refine v_sub (ls' := [(0, xA a0), (1, xI v1_54), (2, xI v2_56)]) [2, 1, 0] rfl ?_
    refine V_lp_X_rank_57 hfl _ _ (fun v1_100 v2_100 M => ?_) _ _ _ _
    · refine v_iloadn d_X_rank_100 rfl 0 rfl ?_
      refine v_bipush d_X_rank_101 (by decide) ?_
      refine v_icne d_X_rank_103 ?_ ?_
      · refine v_iloadn d_X_rank_111 rfl 1 rfl ?_
        exact v_ret d_X_rank_112 rfl
      · refine v_bipush d_X_rank_106 (by decide) ?_
        refine v_goto d_X_rank_108 ?_
        exact v_ret d_X_rank_112 rfl
  · refine v_iconst d_X_rank_14 (by decide) ?_
    exact v_ret d_X_rank_15 rfl
set_option maxHeartbeats 4000000 in
set_option maxRecDepth 100000 in
theorem V_lp_X_image_11 {l : Launch} {w : vm_W} (hfl : l.stackTraces = false) (kx45 : Int → mm_T → Option ((Nat ⊕ Int) × mm_T)) (a0 : Nat) (a2 : Nat) (hkx45 : ∀ (v3_e : Int) (M : mm_T), V_ l w q_X_image 7 (ex_T ex_I) 45 [(0, xA a0), (2, xA a2), (3, xI v3_e)] [] M (kx45 v3_e M)) : ∀ (f : Nat) (v3 : Int) (v4 : Int) (M : mm_T), V_ l w q_X_image 7 (ex_T ex_I) 11 [(0, xA a0), (2, xA a2), (3, xI v3), (4, xI v4)] [] M (lp_X_image_11 kx45 a0 a2 f v3 v4 M) := by
  intro f
  induction f with
  | zero => intros; exact V_.none
  | succ f ih =>
    intro v3 v4 M
    unfold lp_X_image_11
    refine v_iload d_X_image_11 3 rfl ?_
    refine v_aloadn d_X_image_13 rfl 0 rfl ?_
    refine v_gR d_X_image_14 fl_X_36 rfl (fun r14 => ?_)
    refine v_gI d_X_image_17 fl_X_102 rfl (fun x17 => ?_)
    refine v_icge d_X_image_20 ?_ ?_
    · refine v_sub (ls' := [(0, xA a0), (2, xA a2), (3, xI v3)]) [0, 1, 2] rfl ?_
      exact hkx45 v3 M
    · refine v_iloadn d_X_image_23 rfl 2 rfl ?_
      refine v_aloadn d_X_image_24 rfl 1 rfl ?_
      refine v_aloadn d_X_image_25 rfl 0 rfl ?_
      refine v_gR d_X_image_26 fl_X_36 rfl (fun r26 => ?_)
      refine v_iload d_X_image_29 3 rfl ?_
      refine v_cVi d_X_image_31 ml_X_106 (q := (RX1, TX1, 5)) rfl (c_Line_at l hfl r26 v4 M) (fun _ => rfl) (by decide) (by decide) (as := [xI v4]) (st1 := [xA a2, xI v3]) rfl rfl (Nat.le_of_ble_eq_true rfl) (fun c31 M => ?_)
      refine v_cVi d_X_image_34 ml_X_278 (q := (RX2, TX2, 3)) rfl (c_Morph_sizeOf l hfl a2 c31 M) (fun _ => rfl) (by decide) (by decide) (as := [xI c31]) (st1 := [xI v3]) rfl rfl (Nat.le_of_ble_eq_true rfl) (fun c34 M => ?_)
      refine v_iadd d_X_image_37 (fun x37 => ?_)
      refine v_istoren (lz := fun z => [(3, xI z), (0, xA a0), (2, xA a2), (4, xI v4)]) d_X_image_38 rfl (Nat.le_of_ble_eq_true rfl) (fun _ => rfl) (fun v3_38 => ?_)
      refine v_iinc (lz := fun z => [(4, xI z), (3, xI v3_38), (0, xA a0), (2, xA a2)]) d_X_image_39 3 rfl (Nat.le_of_ble_eq_true rfl) (fun _ => rfl) (fun v4_39 => ?_)
      refine v_goto d_X_image_42 ?_
      refine v_sub (ls' := [(0, xA a0), (2, xA a2), (3, xI v3_38), (4, xI v4_39)]) [2, 3, 1, 0] rfl ?_
      exact ih v3_38 v4_39 M
set_option maxHeartbeats 4000000 in
set_option maxRecDepth 100000 in
theorem c_X_image (l : Launch) (hfl : l.stackTraces = false) (a0 : Nat) (v1 : Int) (M : mm_T) : vm_ConX l yX10_image (.code yX10_image cX10_image 5 (some .int)) 7 (ex_T ex_I) [xA a0, xI v1] M (k_X_image a0 v1 M) := by
  refine vm_conX (y := q_X_image) hfl (by decide +kernel) rfl (fun h => by cases h) (Nat.le_of_ble_eq_true rfl) rfl (fun r _ _ => by cases r with | inl E => trivial | inr x => rfl) (fun w => ?_)
  show V_ l w q_X_image 7 (ex_T ex_I) 0 [(0, xA a0), (1, xI v1)] [] M (k_X_image a0 v1 M)
  unfold k_X_image
  refine v_aloadn d_X_image_0 rfl 0 rfl ?_
  refine v_iloadn d_X_image_1 rfl 1 rfl ?_
  refine v_xV d_X_image_2 ml_X_275 (q := (RX10, TX10, 10)) rfl (c_X_mapOf l hfl a0 v1 M) (fun _ => rfl) (by decide) (by decide) (as := [xI v1]) (st1 := []) rfl rfl (Nat.le_of_ble_eq_true rfl) rfl (sr := fun r => [xA r]) (fun c2 M => ?_)
  show V_ l w q_X_image 7 (ex_T ex_I) 5 [(0, xA a0), (1, xI v1)] [xA c2] M _
  refine v_astoren (lz := fun z => [(2, xA z), (0, xA a0), (1, xI v1)]) d_X_image_5 rfl (Nat.le_of_ble_eq_true rfl) (fun _ => rfl) (fun a2_5 => ?_)
  refine v_iconst d_X_image_6 (by decide) ?_
  refine v_istoren (lz := fun z => [(3, xI z), (2, xA a2_5), (0, xA a0), (1, xI v1)]) d_X_image_7 rfl (Nat.le_of_ble_eq_true rfl) (fun _ => rfl) (fun v3_7 => ?_)
  refine v_iconst d_X_image_8 (by decide) ?_
  refine v_istore (lz := fun z => [(4, xI z), (3, xI v3_7), (2, xA a2_5), (0, xA a0), (1, xI v1)]) d_X_image_9 (Nat.le_of_ble_eq_true rfl) (fun _ => rfl) (fun v4_9 => ?_)
  refine v_sub (ls' := [(0, xA a0), (2, xA a2_5), (3, xI v3_7), (4, xI v4_9)]) [3, 2, 1, 0] rfl ?_
  refine V_lp_X_image_11 hfl _ _ _ (fun v3_45 M => ?_) _ _ _ _
  · refine v_iloadn d_X_image_45 rfl 2 rfl ?_
    refine v_bipush d_X_image_46 (by decide) ?_
    refine v_icle d_X_image_48 ?_ ?_
    · refine v_aloadn d_X_image_59 rfl 1 rfl ?_
      refine v_aloadn d_X_image_60 rfl 0 rfl ?_
      refine v_gR d_X_image_61 fl_X_36 rfl (fun r61 => ?_)
      refine v_aloadn d_X_image_64 rfl 0 rfl ?_
      refine v_gR d_X_image_65 fl_X_40 rfl (fun r65 => ?_)
      refine v_cVv d_X_image_68 ml_X_283 (q := (RX2, TX2, 3)) rfl (c_Morph_draw l hfl a2_5 r61 r65 M) (fun _ => rfl) (by decide) (by decide) (as := [xA r61, xA r65]) (st1 := []) rfl rfl (Nat.le_of_ble_eq_true rfl) (fun _ M => ?_)
      refine v_aloadn d_X_image_71 rfl 0 rfl ?_
      refine v_aloadn d_X_image_72 rfl 0 rfl ?_
      refine v_gR d_X_image_73 fl_X_40 rfl (fun r73 => ?_)
      refine v_cVv d_X_image_76 ml_X_98 (q := (RX10, TX10, 10)) rfl (c_X_become l hfl a0 r73 M) (fun _ => rfl) (by decide) (by decide) (as := [xA r73]) (st1 := []) rfl rfl (Nat.le_of_ble_eq_true rfl) (fun _ M => ?_)
      refine v_aloadn d_X_image_79 rfl 0 rfl ?_
      refine v_gR d_X_image_80 fl_X_36 rfl (fun r80 => ?_)
      refine v_gI d_X_image_83 fl_X_102 rfl (fun x83 => ?_)
      exact v_ret d_X_image_86 rfl
    · exact v_throw (E := 2) rfl d_X_image_51.1 d_X_image_54.1 d_X_image_55.1 d_X_image_58.1 gw_936 gw_132 ta_X_115 ta_X_115g (by decide +kernel) (by first | decide | omega) (Nat.le_of_ble_eq_true rfl) rfl
set_option maxHeartbeats 4000000 in
set_option maxRecDepth 100000 in
theorem c_X_imaged (l : Launch) (hfl : l.stackTraces = false) (a0 : Nat) (v1 : Int) (v2 : Int) (v3 : Int) (M : mm_T) : vm_ConX l yX10_imaged (.code yX10_imaged cX10_imaged 5 (some .int)) 7 (ex_T ex_I) [xA a0, xI v1, xI v2, xI v3] M (k_X_imaged a0 v1 v2 v3 M) := by
  refine vm_conX (y := q_X_imaged) hfl (by decide +kernel) rfl (fun h => by cases h) (Nat.le_of_ble_eq_true rfl) rfl (fun r _ _ => by cases r with | inl E => trivial | inr x => rfl) (fun w => ?_)
  show V_ l w q_X_imaged 7 (ex_T ex_I) 0 [(0, xA a0), (1, xI v1), (2, xI v2), (3, xI v3)] [] M (k_X_imaged a0 v1 v2 v3 M)
  unfold k_X_imaged
  refine v_aloadn d_X_imaged_0 rfl 0 rfl ?_
  refine v_iloadn d_X_imaged_1 rfl 1 rfl ?_
  refine v_xV d_X_imaged_2 ml_X_275 (q := (RX10, TX10, 10)) rfl (c_X_mapOf l hfl a0 v1 M) (fun _ => rfl) (by decide) (by decide) (as := [xI v1]) (st1 := []) rfl rfl (Nat.le_of_ble_eq_true rfl) rfl (sr := fun r => [xA r]) (fun c2 M => ?_)
  show V_ l w q_X_imaged 7 (ex_T ex_I) 5 [(0, xA a0), (1, xI v1), (2, xI v2), (3, xI v3)] [xA c2] M _
  refine v_astore (lz := fun z => [(4, xA z), (0, xA a0), (1, xI v1), (2, xI v2), (3, xI v3)]) d_X_imaged_5 (Nat.le_of_ble_eq_true rfl) (fun _ => rfl) (fun a4_5 => ?_)
  refine v_aloadn d_X_imaged_7 rfl 1 rfl ?_
  refine v_iloadn d_X_imaged_8 rfl 3 rfl ?_
  refine v_xV d_X_imaged_9 ml_X_110 (q := (RX10, TX10, 10)) rfl (c_X_checkLetter l hfl a0 v2 M) (fun _ => rfl) (by decide) (by decide) (as := [xI v2]) (st1 := []) rfl rfl (Nat.le_of_ble_eq_true rfl) rfl (sr := fun _ => []) (fun _ M => ?_)
  show V_ l w q_X_imaged 7 (ex_T ex_I) 12 [(4, xA a4_5), (0, xA a0), (1, xI v1), (2, xI v2), (3, xI v3)] [] M _
  refine v_iloadn d_X_imaged_12 rfl 4 rfl ?_
  refine v_iconst d_X_imaged_13 (by decide) ?_
  refine v_icne d_X_imaged_14 ?_ ?_
  · refine v_aload d_X_imaged_26 0 rfl ?_
    refine v_iloadn d_X_imaged_28 rfl 3 rfl ?_
    refine v_iloadn d_X_imaged_29 rfl 4 rfl ?_
    refine v_cVi d_X_imaged_30 ml_X_287 (q := (RX2, TX2, 3)) rfl (c_Morph_at l hfl a4_5 v2 v3 M) (fun _ => rfl) (by decide) (by decide) (as := [xI v2, xI v3]) (st1 := []) rfl rfl (Nat.le_of_ble_eq_true rfl) (fun c30 M => ?_)
    exact v_ret d_X_imaged_33 rfl
  · refine v_aload d_X_imaged_17 0 rfl ?_
    refine v_iloadn d_X_imaged_19 rfl 3 rfl ?_
    refine v_cVi d_X_imaged_20 ml_X_278 (q := (RX2, TX2, 3)) rfl (c_Morph_sizeOf l hfl a4_5 v2 M) (fun _ => rfl) (by decide) (by decide) (as := [xI v2]) (st1 := []) rfl rfl (Nat.le_of_ble_eq_true rfl) (fun c20 M => ?_)
    refine v_goto d_X_imaged_23 ?_
    exact v_ret d_X_imaged_33 rfl
set_option maxHeartbeats 4000000 in
set_option maxRecDepth 100000 in
theorem c_X_tallied (l : Launch) (hfl : l.stackTraces = false) (a0 : Nat) (v1 : Int) (v2 : Int) (M : mm_T) : vm_Con l yX10_tallied (.code yX10_tallied cX10_tallied 3 (some .long)) 1 ex_J [xA a0, xI v1, xI v2] M (k_X_tallied a0 v1 v2 M) := by
  refine vm_con (y := q_X_tallied) hfl (by decide +kernel) rfl (fun h => by cases h) (Nat.le_of_ble_eq_true rfl) rfl (fun _ _ _ => rfl) (fun r E h => by cases h) (fun w => ?_)
  show V_ l w q_X_tallied 1 ex_J 0 [(0, xA a0), (1, xI v1), (2, xI v2)] [] M (k_X_tallied a0 v1 v2 M)
  unfold k_X_tallied
  refine v_iloadn d_X_tallied_0 rfl 1 rfl ?_
  refine v_join0 (pj := 22) (lj := []) (sj := []) (fun M => ?_) (fun j22 hj22 => ?_)
  · refine v_lconst d_X_tallied_22 (v := 0) rfl ?_
    exact v_ret d_X_tallied_23 rfl
  refine v_iflt d_X_tallied_1 ?_ ?_
  · refine v_sub (ls' := []) [] rfl ?_
    exact hj22 M
  · refine v_iloadn d_X_tallied_4 rfl 1 rfl ?_
    refine v_aloadn d_X_tallied_5 rfl 0 rfl ?_
    refine v_gR d_X_tallied_6 fl_X_59 rfl (fun r6 => ?_)
    refine v_alen (t := 5) d_X_tallied_9 rfl (fun x9 => ?_)
    refine v_icge d_X_tallied_10 ?_ ?_
    · refine v_sub (ls' := []) [] rfl ?_
      exact hj22 M
    · refine v_iloadn d_X_tallied_13 rfl 2 rfl ?_
      refine v_iflt d_X_tallied_14 ?_ ?_
      · refine v_sub (ls' := []) [] rfl ?_
        exact hj22 M
      · refine v_iloadn d_X_tallied_17 rfl 2 rfl ?_
        refine v_iconst d_X_tallied_18 (by decide) ?_
        refine v_iclt d_X_tallied_19 ?_ ?_
        · refine v_aloadn d_X_tallied_24 rfl 0 rfl ?_
          refine v_gR d_X_tallied_25 fl_X_59 rfl (fun r25 => ?_)
          refine v_iloadn d_X_tallied_28 rfl 1 rfl ?_
          refine v_aald (t := 5) d_X_tallied_29 (by decide) rfl rfl (fun r29 => ?_)
          refine v_iloadn d_X_tallied_30 rfl 2 rfl ?_
          refine v_lald d_X_tallied_31 (fun x31 => ?_)
          exact v_ret d_X_tallied_32 rfl
        · refine v_sub (ls' := []) [] rfl ?_
          exact hj22 M
set_option maxHeartbeats 4000000 in
set_option maxRecDepth 100000 in
theorem V_lp_X_tally_80 {l : Launch} {w : vm_W} (hfl : l.stackTraces = false) (kx123 : Int64 → mm_T → Option (Unit × mm_T)) (a0 : Nat) (a1 : Nat) (v4 : Int) (v6 : Int) {v2 : Int} {v3 : Int} {a5 : Nat} (hkx123 : ∀ (w7_e : Int64) (M : mm_T), V_ l w q_X_tally 3 ex_V 123 [(0, xA a0), (1, xA a1), (2, xI v2), (3, xI v3), (4, xI v4), (5, xA a5), (6, xI v6), (7, xJ w7_e)] [] M (kx123 w7_e M)) : ∀ (f : Nat) (w7 : Int64) (v9 : Int) (M : mm_T), V_ l w q_X_tally 3 ex_V 80 [(0, xA a0), (1, xA a1), (2, xI v2), (3, xI v3), (4, xI v4), (5, xA a5), (6, xI v6), (7, xJ w7), (9, xI v9)] [] M (lp_X_tally_80 kx123 a0 a1 v4 v6 f w7 v9 M) := by
  intro f
  induction f with
  | zero => intros; exact V_.none
  | succ f ih =>
    intro w7 v9 M
    unfold lp_X_tally_80
    refine v_iload d_X_tally_80 4 rfl ?_
    refine v_ifle d_X_tally_82 ?_ ?_
    · refine v_sub (ls' := [(0, xA a0), (1, xA a1), (2, xI v2), (3, xI v3), (4, xI v4), (5, xA a5), (6, xI v6), (7, xJ w7)]) [0, 1, 2, 3, 4, 5, 6, 7] rfl ?_
      exact hkx123 w7 M
    · refine v_iload d_X_tally_85 8 rfl ?_
      refine v_aloadn d_X_tally_87 rfl 1 rfl ?_
      refine v_iload d_X_tally_88 6 rfl ?_
      refine v_cVi d_X_tally_90 ml_X_278 (q := (RX2, TX2, 3)) rfl (c_Morph_sizeOf l hfl a1 v6 M) (fun _ => rfl) (by decide) (by decide) (as := [xI v6]) (st1 := [xI v9]) rfl rfl (Nat.le_of_ble_eq_true rfl) (fun c90 M => ?_)
      refine v_icge d_X_tally_93 ?_ ?_
      · refine v_sub (ls' := [(0, xA a0), (1, xA a1), (2, xI v2), (3, xI v3), (4, xI v4), (5, xA a5), (6, xI v6), (7, xJ w7)]) [0, 1, 2, 3, 4, 5, 6, 7] rfl ?_
        exact hkx123 w7 M
      · refine v_lload d_X_tally_96 7 rfl ?_
        refine v_aloadn d_X_tally_98 rfl 0 rfl ?_
        refine v_iload d_X_tally_99 4 rfl ?_
        refine v_iconst d_X_tally_101 (by decide) ?_
        refine v_isub d_X_tally_102 (fun x102 => ?_)
        refine v_aloadn d_X_tally_103 rfl 1 rfl ?_
        refine v_iload d_X_tally_104 6 rfl ?_
        refine v_iload d_X_tally_106 8 rfl ?_
        refine v_cVi d_X_tally_108 ml_X_287 (q := (RX2, TX2, 3)) rfl (c_Morph_at l hfl a1 v6 v9 M) (fun _ => rfl) (by decide) (by decide) (as := [xI v6, xI v9]) (st1 := [xI x102, xA a0, xJ w7]) rfl rfl (Nat.le_of_ble_eq_true rfl) (fun c108 M => ?_)
        refine v_cVl d_X_tally_111 ml_X_293 (q := (RX10, TX10, 10)) rfl (c_X_tallied l hfl a0 x102 c108 M) (fun _ => rfl) (by decide) (by decide) (as := [xI x102, xI c108]) (st1 := [xJ w7]) rfl rfl (Nat.le_of_ble_eq_true rfl) (fun c111 M => ?_)
        refine v_ladd d_X_tally_114 ?_
        refine v_lstore (lz := fun z => [(7, xJ z), (0, xA a0), (1, xA a1), (2, xI v2), (3, xI v3), (4, xI v4), (5, xA a5), (6, xI v6), (9, xI v9)]) d_X_tally_115 (Nat.le_of_ble_eq_true rfl) (fun _ => rfl) (fun w7_115 => ?_)
        refine v_iinc (lz := fun z => [(9, xI z), (7, xJ w7_115), (0, xA a0), (1, xA a1), (2, xI v2), (3, xI v3), (4, xI v4), (5, xA a5), (6, xI v6)]) d_X_tally_117 8 rfl (Nat.le_of_ble_eq_true rfl) (fun _ => rfl) (fun v9_117 => ?_)
        refine v_goto d_X_tally_120 ?_
        refine v_sub (ls' := [(0, xA a0), (1, xA a1), (2, xI v2), (3, xI v3), (4, xI v4), (5, xA a5), (6, xI v6), (7, xJ w7_115), (9, xI v9_117)]) [2, 3, 4, 5, 6, 7, 8, 1, 0] rfl ?_
        exact ih w7_115 v9_117 M
set_option maxHeartbeats 4000000 in
set_option maxRecDepth 100000 in
theorem V_lp_X_tally_31 {l : Launch} {w : vm_W} (hfl : l.stackTraces = false) (kx136 : mm_T → Option (Unit × mm_T)) (a0 : Nat) (a1 : Nat) (v3 : Int) (v4 : Int) (a5 : Nat) {v2 : Int} (hkx136 : ∀ (M : mm_T), V_ l w q_X_tally 3 ex_V 136 [(0, xA a0), (1, xA a1), (2, xI v2), (3, xI v3), (4, xI v4)] [] M (kx136 M)) : ∀ (f : Nat) (v6 : Int) (M : mm_T), V_ l w q_X_tally 3 ex_V 31 [(0, xA a0), (1, xA a1), (2, xI v2), (3, xI v3), (4, xI v4), (5, xA a5), (6, xI v6)] [] M (lp_X_tally_31 kx136 a0 a1 v3 v4 a5 f v6 M) := by
  intro f
  induction f with
  | zero => intros; exact V_.none
  | succ f ih =>
    intro v6 M
    unfold lp_X_tally_31
    refine v_iload d_X_tally_31 6 rfl ?_
    refine v_aloadn d_X_tally_33 rfl 0 rfl ?_
    refine v_gR d_X_tally_34 fl_X_19 rfl (fun r34 => ?_)
    refine v_gI d_X_tally_37 fl_X_91 rfl (fun x37 => ?_)
    refine v_icge d_X_tally_40 ?_ ?_
    · refine v_sub (ls' := [(0, xA a0), (1, xA a1), (2, xI v2), (3, xI v3), (4, xI v4)]) [0, 1, 2, 3, 4] rfl ?_
      exact hkx136 M
    · refine v_iload d_X_tally_43 6 rfl ?_
      refine v_aload d_X_tally_45 5 rfl ?_
      refine v_alen (t := 3) d_X_tally_47 rfl (fun x47 => ?_)
      refine v_icge d_X_tally_48 ?_ ?_
      · refine v_sub (ls' := [(0, xA a0), (1, xA a1), (2, xI v2), (3, xI v3), (4, xI v4)]) [0, 1, 2, 3, 4] rfl ?_
        exact hkx136 M
      · refine v_lconst d_X_tally_51 (v := 0) rfl ?_
        refine v_lstore (lz := fun z => [(7, xJ z), (0, xA a0), (1, xA a1), (2, xI v2), (3, xI v3), (4, xI v4), (5, xA a5), (6, xI v6)]) d_X_tally_52 (Nat.le_of_ble_eq_true rfl) (fun _ => rfl) (fun w7_52 => ?_)
        refine v_iload d_X_tally_54 5 rfl ?_
        refine v_join1 (pj := 77) (lj := fun w7_77 => [(0, xA a0), (1, xA a1), (2, xI v2), (3, xI v3), (4, xI v4), (5, xA a5), (6, xI v6), (7, xJ w7_77)]) (sj := fun w7_77 => []) (fun w7_77 M => ?_) (fun j77 hj77 => ?_)
        · refine v_iconst d_X_tally_77 (by decide) ?_
          refine v_istore (lz := fun z => [(9, xI z), (0, xA a0), (1, xA a1), (2, xI v2), (3, xI v3), (4, xI v4), (5, xA a5), (6, xI v6), (7, xJ w7_77)]) d_X_tally_78 (Nat.le_of_ble_eq_true rfl) (fun _ => rfl) (fun v9_78 => ?_)
          refine v_sub (ls' := [(0, xA a0), (1, xA a1), (2, xI v2), (3, xI v3), (4, xI v4), (5, xA a5), (6, xI v6), (7, xJ w7_77), (9, xI v9_78)]) [1, 2, 3, 4, 5, 6, 7, 8, 0] rfl ?_
          refine V_lp_X_tally_80 hfl _ _ _ _ _ (fun w7_123 M => ?_) _ _ _ _
          · refine v_aload d_X_tally_123 5 rfl ?_
            refine v_iload d_X_tally_125 6 rfl ?_
            refine v_lload d_X_tally_127 7 rfl ?_
            refine v_last d_X_tally_129 (fun M => ?_)
            refine v_iinc (lz := fun z => [(6, xI z), (0, xA a0), (1, xA a1), (2, xI v2), (3, xI v3), (4, xI v4), (5, xA a5), (7, xJ w7_123)]) d_X_tally_130 6 rfl (Nat.le_of_ble_eq_true rfl) (fun _ => rfl) (fun v6_130 => ?_)
            refine v_goto d_X_tally_133 ?_
            refine v_sub (ls' := [(0, xA a0), (1, xA a1), (2, xI v2), (3, xI v3), (4, xI v4), (5, xA a5), (6, xI v6_130)]) [1, 2, 3, 4, 5, 6, 0] rfl ?_
            exact ih v6_130 M
        refine v_ifne d_X_tally_56 ?_ ?_
        · refine v_sub (ls' := [(0, xA a0), (1, xA a1), (2, xI v2), (3, xI v3), (4, xI v4), (5, xA a5), (6, xI v6), (7, xJ w7_52)]) [1, 2, 3, 4, 5, 6, 7, 0] rfl ?_
          exact hj77 w7_52 M
        · refine v_iloadn d_X_tally_59 rfl 4 rfl ?_
          refine v_iconst d_X_tally_60 (by decide) ?_
          refine v_join1 (pj := 75) (lj := fun sw0_75 => [(0, xA a0), (1, xA a1), (2, xI v2), (3, xI v3), (4, xI v4), (5, xA a5), (6, xI v6)]) (sj := fun sw0_75 => [xJ sw0_75]) (fun sw0_75 M => ?_) (fun j75 hj75 => ?_)
          · refine v_lstore (lz := fun z => [(7, xJ z), (0, xA a0), (1, xA a1), (2, xI v2), (3, xI v3), (4, xI v4), (5, xA a5), (6, xI v6)]) d_X_tally_75 (Nat.le_of_ble_eq_true rfl) (fun _ => rfl) (fun w7_75 => ?_)
            refine v_sub (ls' := [(0, xA a0), (1, xA a1), (2, xI v2), (3, xI v3), (4, xI v4), (5, xA a5), (6, xI v6), (7, xJ w7_75)]) [1, 2, 3, 4, 5, 6, 7, 0] rfl ?_
            exact hj77 w7_75 M
          refine v_join0 (pj := 70) (lj := [(0, xA a0), (1, xA a1), (2, xI v2), (3, xI v3), (4, xI v4), (5, xA a5), (6, xI v6)]) (sj := []) (fun M => ?_) (fun j70 hj70 => ?_)
          · refine v_lconst d_X_tally_70 (v := 1) rfl ?_
            refine v_goto d_X_tally_71 ?_
            exact hj75 1 M
          refine v_iceq d_X_tally_61 ?_ ?_
          · refine v_sub (ls' := [(0, xA a0), (1, xA a1), (2, xI v2), (3, xI v3), (4, xI v4), (5, xA a5), (6, xI v6)]) [1, 2, 3, 4, 5, 6, 7] rfl ?_
            exact hj70 M
          · refine v_iloadn d_X_tally_64 rfl 4 rfl ?_
            refine v_iload d_X_tally_65 7 rfl ?_
            refine v_icne d_X_tally_67 ?_ ?_
            · refine v_lconst d_X_tally_74 (v := 0) rfl ?_
              refine v_sub (ls' := [(0, xA a0), (1, xA a1), (2, xI v2), (3, xI v3), (4, xI v4), (5, xA a5), (6, xI v6)]) [1, 2, 3, 4, 5, 6, 7] rfl ?_
              exact hj75 0 M
            · refine v_sub (ls' := [(0, xA a0), (1, xA a1), (2, xI v2), (3, xI v3), (4, xI v4), (5, xA a5), (6, xI v6)]) [1, 2, 3, 4, 5, 6, 7] rfl ?_
              exact hj70 M
set_option maxHeartbeats 4000000 in
set_option maxRecDepth 100000 in
theorem V_lp_X_tally_3 {l : Launch} {w : vm_W} (hfl : l.stackTraces = false) (kx142 : mm_T → Option (Unit × mm_T)) (a0 : Nat) (a1 : Nat) (v2 : Int) (v3 : Int) (hkx142 : ∀ (M : mm_T), V_ l w q_X_tally 3 ex_V 142 [] [] M (kx142 M)) : ∀ (f : Nat) (v4 : Int) (M : mm_T), V_ l w q_X_tally 3 ex_V 3 [(0, xA a0), (1, xA a1), (2, xI v2), (3, xI v3), (4, xI v4)] [] M (lp_X_tally_3 kx142 a0 a1 v2 v3 f v4 M) := by
  intro f
  induction f with
  | zero => intros; exact V_.none
  | succ f ih =>
    intro v4 M
    unfold lp_X_tally_3
    refine v_iload d_X_tally_3 4 rfl ?_
    refine v_iloadn d_X_tally_5 rfl 2 rfl ?_
    refine v_icgt d_X_tally_6 ?_ ?_
    · refine v_sub (ls' := []) [] rfl ?_
      exact hkx142 M
    · refine v_iload d_X_tally_9 4 rfl ?_
      refine v_aloadn d_X_tally_11 rfl 0 rfl ?_
      refine v_gR d_X_tally_12 fl_X_59 rfl (fun r12 => ?_)
      refine v_alen (t := 5) d_X_tally_15 rfl (fun x15 => ?_)
      refine v_icge d_X_tally_16 ?_ ?_
      · refine v_sub (ls' := []) [] rfl ?_
        exact hkx142 M
      · refine v_aloadn d_X_tally_19 rfl 0 rfl ?_
        refine v_gR d_X_tally_20 fl_X_59 rfl (fun r20 => ?_)
        refine v_iload d_X_tally_23 4 rfl ?_
        refine v_aald (t := 5) d_X_tally_25 (by decide) rfl rfl (fun r25 => ?_)
        refine v_astore (lz := fun z => [(5, xA z), (0, xA a0), (1, xA a1), (2, xI v2), (3, xI v3), (4, xI v4)]) d_X_tally_26 (Nat.le_of_ble_eq_true rfl) (fun _ => rfl) (fun a5_26 => ?_)
        refine v_iconst d_X_tally_28 (by decide) ?_
        refine v_istore (lz := fun z => [(6, xI z), (5, xA a5_26), (0, xA a0), (1, xA a1), (2, xI v2), (3, xI v3), (4, xI v4)]) d_X_tally_29 (Nat.le_of_ble_eq_true rfl) (fun _ => rfl) (fun v6_29 => ?_)
        refine v_sub (ls' := [(0, xA a0), (1, xA a1), (2, xI v2), (3, xI v3), (4, xI v4), (5, xA a5_26), (6, xI v6_29)]) [2, 3, 4, 5, 6, 1, 0] rfl ?_
        refine V_lp_X_tally_31 hfl _ _ _ _ _ _ (fun M => ?_) _ _ _
        · refine v_iinc (lz := fun z => [(4, xI z), (0, xA a0), (1, xA a1), (2, xI v2), (3, xI v3)]) d_X_tally_136 4 rfl (Nat.le_of_ble_eq_true rfl) (fun _ => rfl) (fun v4_136 => ?_)
          refine v_goto d_X_tally_139 ?_
          refine v_sub (ls' := [(0, xA a0), (1, xA a1), (2, xI v2), (3, xI v3), (4, xI v4_136)]) [1, 2, 3, 4, 0] rfl ?_
          exact ih v4_136 M
set_option maxHeartbeats 4000000 in
set_option maxRecDepth 100000 in
theorem c_X_tally (l : Launch) (hfl : l.stackTraces = false) (a0 : Nat) (a1 : Nat) (v2 : Int) (v3 : Int) (M : mm_T) : vm_Con l yX10_tally (.code yX10_tally cX10_tally 10 none) 3 ex_V [xA a0, xA a1, xI v2, xI v3] M (k_X_tally a0 a1 v2 v3 M) := by
  refine vm_con (y := q_X_tally) hfl (by decide +kernel) rfl (fun h => by cases h) (Nat.le_of_ble_eq_true rfl) rfl (fun _ _ _ => rfl) (fun r E h => by cases h) (fun w => ?_)
  show V_ l w q_X_tally 3 ex_V 0 [(0, xA a0), (1, xA a1), (2, xI v2), (3, xI v3)] [] M (k_X_tally a0 a1 v2 v3 M)
  unfold k_X_tally
  refine v_iconst d_X_tally_0 (by decide) ?_
  refine v_istore (lz := fun z => [(4, xI z), (0, xA a0), (1, xA a1), (2, xI v2), (3, xI v3)]) d_X_tally_1 (Nat.le_of_ble_eq_true rfl) (fun _ => rfl) (fun v4_1 => ?_)
  refine v_sub (ls' := [(0, xA a0), (1, xA a1), (2, xI v2), (3, xI v3), (4, xI v4_1)]) [1, 2, 3, 4, 0] rfl ?_
  refine V_lp_X_tally_3 hfl _ _ _ _ _ (fun M => ?_) _ _ _
  · exact v_vret d_X_tally_142 rfl
set_option maxHeartbeats 4000000 in
set_option maxRecDepth 100000 in
theorem c_X_length (l : Launch) (hfl : l.stackTraces = false) (a0 : Nat) (v1 : Int) (v2 : Int) (v3 : Int) (M : mm_T) : vm_ConX l yX10_length (.code yX10_length cX10_length 5 (some .long)) 7 (ex_T ex_J) [xA a0, xI v1, xI v2, xI v3] M (k_X_length a0 v1 v2 v3 M) := by
  refine vm_conX (y := q_X_length) hfl (by decide +kernel) rfl (fun h => by cases h) (Nat.le_of_ble_eq_true rfl) rfl (fun r _ _ => by cases r with | inl E => trivial | inr x => rfl) (fun w => ?_)
  show V_ l w q_X_length 7 (ex_T ex_J) 0 [(0, xA a0), (1, xI v1), (2, xI v2), (3, xI v3)] [] M (k_X_length a0 v1 v2 v3 M)
  unfold k_X_length
  refine v_aloadn d_X_length_0 rfl 0 rfl ?_
  refine v_iloadn d_X_length_1 rfl 1 rfl ?_
  refine v_xV d_X_length_2 ml_X_275 (q := (RX10, TX10, 10)) rfl (c_X_mapOf l hfl a0 v1 M) (fun _ => rfl) (by decide) (by decide) (as := [xI v1]) (st1 := []) rfl rfl (Nat.le_of_ble_eq_true rfl) rfl (sr := fun r => [xA r]) (fun c2 M => ?_)
  show V_ l w q_X_length 7 (ex_T ex_J) 5 [(0, xA a0), (1, xI v1), (2, xI v2), (3, xI v3)] [xA c2] M _
  refine v_astore (lz := fun z => [(4, xA z), (0, xA a0), (1, xI v1), (2, xI v2), (3, xI v3)]) d_X_length_5 (Nat.le_of_ble_eq_true rfl) (fun _ => rfl) (fun a4_5 => ?_)
  refine v_aloadn d_X_length_7 rfl 1 rfl ?_
  refine v_iloadn d_X_length_8 rfl 3 rfl ?_
  refine v_xV d_X_length_9 ml_X_110 (q := (RX10, TX10, 10)) rfl (c_X_checkLetter l hfl a0 v2 M) (fun _ => rfl) (by decide) (by decide) (as := [xI v2]) (st1 := []) rfl rfl (Nat.le_of_ble_eq_true rfl) rfl (sr := fun _ => []) (fun _ M => ?_)
  show V_ l w q_X_length 7 (ex_T ex_J) 12 [(4, xA a4_5), (0, xA a0), (1, xI v1), (2, xI v2), (3, xI v3)] [] M _
  refine v_aloadn d_X_length_12 rfl 1 rfl ?_
  refine v_iloadn d_X_length_13 rfl 4 rfl ?_
  refine v_iconst d_X_length_14 (by decide) ?_
  refine v_bipush d_X_length_15 (by decide) ?_
  refine v_xV d_X_length_17 ml_X_173 (q := (RX10, TX10, 10)) rfl (c_X_checkRange l hfl a0 v3 0 12 M) (fun _ => rfl) (by decide) (by decide) (as := [xI v3, xI 0, xI 12]) (st1 := []) rfl rfl (Nat.le_of_ble_eq_true rfl) rfl (sr := fun _ => []) (fun _ M => ?_)
  show V_ l w q_X_length 7 (ex_T ex_J) 20 [(4, xA a4_5), (0, xA a0), (1, xI v1), (2, xI v2), (3, xI v3)] [] M _
  refine v_aloadn d_X_length_20 rfl 1 rfl ?_
  refine v_aload d_X_length_21 0 rfl ?_
  refine v_iloadn d_X_length_23 rfl 4 rfl ?_
  refine v_iconst d_X_length_24 (by decide) ?_
  refine v_cVv d_X_length_25 ml_X_289 (q := (RX10, TX10, 10)) rfl (c_X_tally l hfl a0 a4_5 v3 (-1) M) (fun _ => rfl) (by decide) (by decide) (as := [xA a4_5, xI v3, xI (-1)]) (st1 := []) rfl rfl (Nat.le_of_ble_eq_true rfl) (fun _ M => ?_)
  refine v_aloadn d_X_length_28 rfl 1 rfl ?_
  refine v_iloadn d_X_length_29 rfl 4 rfl ?_
  refine v_iloadn d_X_length_30 rfl 3 rfl ?_
  refine v_cVl d_X_length_31 ml_X_293 (q := (RX10, TX10, 10)) rfl (c_X_tallied l hfl a0 v3 v2 M) (fun _ => rfl) (by decide) (by decide) (as := [xI v3, xI v2]) (st1 := []) rfl rfl (Nat.le_of_ble_eq_true rfl) (fun c31 M => ?_)
  exact v_ret d_X_length_34 rfl
set_option maxHeartbeats 4000000 in
set_option maxRecDepth 100000 in
theorem V_lp_X_power_69 {l : Launch} {w : vm_W} (hfl : l.stackTraces = false) (kx130 : Int64 → Int → mm_T → Option ((Nat ⊕ Int) × mm_T)) (a0 : Nat) (a6 : Nat) (v7 : Int) (v10 : Int) (hkx130 : ∀ (w8_e : Int64) (v11_e : Int) (M : mm_T), V_ l w q_X_power 7 (ex_T ex_I) 130 [(0, xA a0), (6, xA a6), (7, xI v7), (8, xJ w8_e), (10, xI v10), (11, xI v11_e)] [] M (kx130 w8_e v11_e M)) : ∀ (f : Nat) (w8 : Int64) (v11 : Int) (M : mm_T), V_ l w q_X_power 7 (ex_T ex_I) 69 [(0, xA a0), (6, xA a6), (7, xI v7), (8, xJ w8), (10, xI v10), (11, xI v11)] [] M (lp_X_power_69 kx130 a0 a6 v7 v10 f w8 v11 M) := by
  intro f
  induction f with
  | zero => intros; exact V_.none
  | succ f ih =>
    intro w8 v11 M
    unfold lp_X_power_69
    refine v_iload d_X_power_69 5 rfl ?_
    refine v_aload d_X_power_71 1 rfl ?_
    refine v_iload d_X_power_73 2 rfl ?_
    refine v_cVi d_X_power_75 ml_X_278 (q := (RX2, TX2, 3)) rfl (c_Morph_sizeOf l hfl a6 v7 M) (fun _ => rfl) (by decide) (by decide) (as := [xI v7]) (st1 := [xI v11]) rfl rfl (Nat.le_of_ble_eq_true rfl) (fun c75 M => ?_)
    refine v_iconst d_X_power_78 (by decide) ?_
    refine v_isub d_X_power_79 (fun x79 => ?_)
    refine v_icge d_X_power_80 ?_ ?_
    · exact hkx130 w8 v11 M
    · refine v_lload d_X_power_83 3 rfl ?_
      refine v_aloadn d_X_power_85 rfl 0 rfl ?_
      refine v_iload d_X_power_86 4 rfl ?_
      refine v_aload d_X_power_88 1 rfl ?_
      refine v_iload d_X_power_90 2 rfl ?_
      refine v_iload d_X_power_92 5 rfl ?_
      refine v_cVi d_X_power_94 ml_X_287 (q := (RX2, TX2, 3)) rfl (c_Morph_at l hfl a6 v7 v11 M) (fun _ => rfl) (by decide) (by decide) (as := [xI v7, xI v11]) (st1 := [xI v10, xA a0, xJ w8]) rfl rfl (Nat.le_of_ble_eq_true rfl) (fun c94 M => ?_)
      refine v_cVl d_X_power_97 ml_X_293 (q := (RX10, TX10, 10)) rfl (c_X_tallied l hfl a0 v10 c94 M) (fun _ => rfl) (by decide) (by decide) (as := [xI v10, xI c94]) (st1 := [xJ w8]) rfl rfl (Nat.le_of_ble_eq_true rfl) (fun c97 M => ?_)
      refine v_lcmp d_X_power_100 ?_
      refine v_iflt d_X_power_101 ?_ ?_
      · exact hkx130 w8 v11 M
      · refine v_lload d_X_power_104 3 rfl ?_
        refine v_aloadn d_X_power_106 rfl 0 rfl ?_
        refine v_iload d_X_power_107 4 rfl ?_
        refine v_aload d_X_power_109 1 rfl ?_
        refine v_iload d_X_power_111 2 rfl ?_
        refine v_iload d_X_power_113 5 rfl ?_
        refine v_cVi d_X_power_115 ml_X_287 (q := (RX2, TX2, 3)) rfl (c_Morph_at l hfl a6 v7 v11 M) (fun _ => rfl) (by decide) (by decide) (as := [xI v7, xI v11]) (st1 := [xI v10, xA a0, xJ w8]) rfl rfl (Nat.le_of_ble_eq_true rfl) (fun c115 M => ?_)
        refine v_cVl d_X_power_118 ml_X_293 (q := (RX10, TX10, 10)) rfl (c_X_tallied l hfl a0 v10 c115 M) (fun _ => rfl) (by decide) (by decide) (as := [xI v10, xI c115]) (st1 := [xJ w8]) rfl rfl (Nat.le_of_ble_eq_true rfl) (fun c118 M => ?_)
        refine v_lsub d_X_power_121 ?_
        refine v_lstore (lz := fun z => [(8, xJ z), (0, xA a0), (6, xA a6), (7, xI v7), (10, xI v10), (11, xI v11)]) d_X_power_122 (Nat.le_of_ble_eq_true rfl) (fun _ => rfl) (fun w8_122 => ?_)
        refine v_iinc (lz := fun z => [(11, xI z), (8, xJ w8_122), (0, xA a0), (6, xA a6), (7, xI v7), (10, xI v10)]) d_X_power_124 5 rfl (Nat.le_of_ble_eq_true rfl) (fun _ => rfl) (fun v11_124 => ?_)
        refine v_goto d_X_power_127 ?_
        refine v_sub (ls' := [(0, xA a0), (6, xA a6), (7, xI v7), (8, xJ w8_122), (10, xI v10), (11, xI v11_124)]) [2, 3, 4, 1, 5, 0] rfl ?_
        exact ih w8_122 v11_124 M
set_option maxHeartbeats 4000000 in
set_option maxRecDepth 100000 in
theorem V_lp_X_power_61 {l : Launch} {w : vm_W} (hfl : l.stackTraces = false) (kx147 : Int → mm_T → Option ((Nat ⊕ Int) × mm_T)) (a0 : Nat) (a6 : Nat) (hkx147 : ∀ (v7_e : Int) (M : mm_T), V_ l w q_X_power 7 (ex_T ex_I) 147 [(7, xI v7_e)] [] M (kx147 v7_e M)) : ∀ (f : Nat) (v7 : Int) (w8 : Int64) (v10 : Int) (M : mm_T), V_ l w q_X_power 7 (ex_T ex_I) 61 [(0, xA a0), (6, xA a6), (7, xI v7), (8, xJ w8), (10, xI v10)] [] M (lp_X_power_61 kx147 a0 a6 f v7 w8 v10 M) := by
  intro f
  induction f with
  | zero => intros; exact V_.none
  | succ f ih =>
    intro v7 w8 v10 M
    unfold lp_X_power_61
    refine v_iload d_X_power_61 4 rfl ?_
    refine v_iflt d_X_power_63 ?_ ?_
    · refine v_sub (ls' := [(7, xI v7)]) [2] rfl ?_
      exact hkx147 v7 M
    · refine v_iconst d_X_power_66 (by decide) ?_
      refine v_istore (lz := fun z => [(11, xI z), (0, xA a0), (6, xA a6), (7, xI v7), (8, xJ w8), (10, xI v10)]) d_X_power_67 (Nat.le_of_ble_eq_true rfl) (fun _ => rfl) (fun v11_67 => ?_)
      refine v_sub (ls' := [(0, xA a0), (6, xA a6), (7, xI v7), (8, xJ w8), (10, xI v10), (11, xI v11_67)]) [1, 2, 3, 4, 5, 0] rfl ?_
      refine V_lp_X_power_69 hfl _ _ _ _ _ (fun w8_130 v11_130 M => ?_) _ _ _ _
      · refine v_aload d_X_power_130 1 rfl ?_
        refine v_iload d_X_power_132 2 rfl ?_
        refine v_iload d_X_power_134 5 rfl ?_
        refine v_cVi d_X_power_136 ml_X_287 (q := (RX2, TX2, 3)) rfl (c_Morph_at l hfl a6 v7 v11_130 M) (fun _ => rfl) (by decide) (by decide) (as := [xI v7, xI v11_130]) (st1 := []) rfl rfl (Nat.le_of_ble_eq_true rfl) (fun c136 M => ?_)
        refine v_istore (lz := fun z => [(7, xI z), (0, xA a0), (6, xA a6), (8, xJ w8_130), (10, xI v10), (11, xI v11_130)]) d_X_power_139 (Nat.le_of_ble_eq_true rfl) (fun _ => rfl) (fun v7_139 => ?_)
        refine v_iinc (lz := fun z => [(10, xI z), (7, xI v7_139), (0, xA a0), (6, xA a6), (8, xJ w8_130), (11, xI v11_130)]) d_X_power_141 4 rfl (Nat.le_of_ble_eq_true rfl) (fun _ => rfl) (fun v10_141 => ?_)
        refine v_goto d_X_power_144 ?_
        refine v_sub (ls' := [(0, xA a0), (6, xA a6), (7, xI v7_139), (8, xJ w8_130), (10, xI v10_141)]) [2, 3, 1, 4, 0] rfl ?_
        exact ih v7_139 w8_130 v10_141 M
set_option maxHeartbeats 4000000 in
set_option maxRecDepth 100000 in
theorem c_X_power (l : Launch) (hfl : l.stackTraces = false) (a0 : Nat) (v1 : Int) (v2 : Int) (v3 : Int) (w4 : Int64) (M : mm_T) : vm_ConX l yX10_power (.code yX10_power cX10_power 12 (some .int)) 7 (ex_T ex_I) [xA a0, xI v1, xI v2, xI v3, xJ w4] M (k_X_power a0 v1 v2 v3 w4 M) := by
  refine vm_conX (y := q_X_power) hfl (by decide +kernel) rfl (fun h => by cases h) (Nat.le_of_ble_eq_true rfl) rfl (fun r _ _ => by cases r with | inl E => trivial | inr x => rfl) (fun w => ?_)
  show V_ l w q_X_power 7 (ex_T ex_I) 0 [(0, xA a0), (1, xI v1), (2, xI v2), (3, xI v3), (4, xJ w4)] [] M (k_X_power a0 v1 v2 v3 w4 M)
  unfold k_X_power
  refine v_aloadn d_X_power_0 rfl 0 rfl ?_
  refine v_iloadn d_X_power_1 rfl 1 rfl ?_
  refine v_xV d_X_power_2 ml_X_275 (q := (RX10, TX10, 10)) rfl (c_X_mapOf l hfl a0 v1 M) (fun _ => rfl) (by decide) (by decide) (as := [xI v1]) (st1 := []) rfl rfl (Nat.le_of_ble_eq_true rfl) rfl (sr := fun r => [xA r]) (fun c2 M => ?_)
  show V_ l w q_X_power 7 (ex_T ex_I) 5 [(0, xA a0), (1, xI v1), (2, xI v2), (3, xI v3), (4, xJ w4)] [xA c2] M _
  refine v_astore (lz := fun z => [(6, xA z), (0, xA a0), (1, xI v1), (2, xI v2), (3, xI v3), (4, xJ w4)]) d_X_power_5 (Nat.le_of_ble_eq_true rfl) (fun _ => rfl) (fun a6_5 => ?_)
  refine v_aloadn d_X_power_7 rfl 1 rfl ?_
  refine v_iloadn d_X_power_8 rfl 3 rfl ?_
  refine v_xV d_X_power_9 ml_X_110 (q := (RX10, TX10, 10)) rfl (c_X_checkLetter l hfl a0 v2 M) (fun _ => rfl) (by decide) (by decide) (as := [xI v2]) (st1 := []) rfl rfl (Nat.le_of_ble_eq_true rfl) rfl (sr := fun _ => []) (fun _ M => ?_)
  show V_ l w q_X_power 7 (ex_T ex_I) 12 [(6, xA a6_5), (0, xA a0), (1, xI v1), (2, xI v2), (3, xI v3), (4, xJ w4)] [] M _
  refine v_aloadn d_X_power_12 rfl 1 rfl ?_
  refine v_iloadn d_X_power_13 rfl 4 rfl ?_
  refine v_iconst d_X_power_14 (by decide) ?_
  refine v_bipush d_X_power_15 (by decide) ?_
  refine v_xV d_X_power_17 ml_X_173 (q := (RX10, TX10, 10)) rfl (c_X_checkRange l hfl a0 v3 0 12 M) (fun _ => rfl) (by decide) (by decide) (as := [xI v3, xI 0, xI 12]) (st1 := []) rfl rfl (Nat.le_of_ble_eq_true rfl) rfl (sr := fun _ => []) (fun _ M => ?_)
  show V_ l w q_X_power 7 (ex_T ex_I) 20 [(6, xA a6_5), (0, xA a0), (1, xI v1), (2, xI v2), (3, xI v3), (4, xJ w4)] [] M _
  refine v_aloadn d_X_power_20 rfl 1 rfl ?_
  refine v_aload d_X_power_21 0 rfl ?_
  refine v_iloadn d_X_power_23 rfl 4 rfl ?_
  refine v_iconst d_X_power_24 (by decide) ?_
  refine v_cVv d_X_power_25 ml_X_289 (q := (RX10, TX10, 10)) rfl (c_X_tally l hfl a0 a6_5 v3 (-1) M) (fun _ => rfl) (by decide) (by decide) (as := [xA a6_5, xI v3, xI (-1)]) (st1 := []) rfl rfl (Nat.le_of_ble_eq_true rfl) (fun _ M => ?_)
  refine v_lload d_X_power_28 5 rfl ?_
  refine v_lconst d_X_power_30 (v := 0) rfl ?_
  refine v_lcmp d_X_power_31 ?_
  refine v_iflt d_X_power_32 ?_ ?_
  · refine v_iconst d_X_power_47 (by decide) ?_
    exact v_ret d_X_power_48 rfl
  · refine v_lload d_X_power_35 5 rfl ?_
    refine v_aloadn d_X_power_37 rfl 1 rfl ?_
    refine v_iloadn d_X_power_38 rfl 4 rfl ?_
    refine v_iloadn d_X_power_39 rfl 3 rfl ?_
    refine v_cVl d_X_power_40 ml_X_293 (q := (RX10, TX10, 10)) rfl (c_X_tallied l hfl a0 v3 v2 M) (fun _ => rfl) (by decide) (by decide) (as := [xI v3, xI v2]) (st1 := [xJ w4]) rfl rfl (Nat.le_of_ble_eq_true rfl) (fun c40 M => ?_)
    refine v_lcmp d_X_power_43 ?_
    refine v_iflt d_X_power_44 ?_ ?_
    · refine v_iloadn d_X_power_49 rfl 3 rfl ?_
      refine v_istore (lz := fun z => [(7, xI z), (6, xA a6_5), (0, xA a0), (1, xI v1), (2, xI v2), (3, xI v3), (4, xJ w4)]) d_X_power_50 (Nat.le_of_ble_eq_true rfl) (fun _ => rfl) (fun v7_50 => ?_)
      refine v_lload d_X_power_52 6 rfl ?_
      refine v_lstore (lz := fun z => [(8, xJ z), (7, xI v7_50), (6, xA a6_5), (0, xA a0), (1, xI v1), (2, xI v2), (3, xI v3), (4, xJ w4)]) d_X_power_54 (Nat.le_of_ble_eq_true rfl) (fun _ => rfl) (fun w8_54 => ?_)
      refine v_iloadn d_X_power_56 rfl 6 rfl ?_
      refine v_iconst d_X_power_57 (by decide) ?_
      refine v_isub d_X_power_58 (fun x58 => ?_)
      refine v_istore (lz := fun z => [(10, xI z), (8, xJ w8_54), (7, xI v7_50), (6, xA a6_5), (0, xA a0), (1, xI v1), (2, xI v2), (3, xI v3), (4, xJ w4)]) d_X_power_59 (Nat.le_of_ble_eq_true rfl) (fun _ => rfl) (fun v10_59 => ?_)
      refine v_sub (ls' := [(0, xA a0), (6, xA a6_5), (7, xI v7_50), (8, xJ w8_54), (10, xI v10_59)]) [4, 3, 2, 1, 0] rfl ?_
      refine V_lp_X_power_61 hfl _ _ _ (fun v7_147 M => ?_) _ _ _ _ _
      · refine v_iload d_X_power_147 0 rfl ?_
        exact v_ret d_X_power_149 rfl
    · refine v_iconst d_X_power_47 (by decide) ?_
      exact v_ret d_X_power_48 rfl
set_option maxHeartbeats 4000000 in
set_option maxRecDepth 100000 in
theorem c_X_often (l : Launch) (hfl : l.stackTraces = false) (a0 : Nat) (v1 : Int) (v2 : Int) (v3 : Int) (v4 : Int) (M : mm_T) : vm_ConX l yX10_often (.code yX10_often cX10_often 6 (some .long)) 7 (ex_T ex_J) [xA a0, xI v1, xI v2, xI v3, xI v4] M (k_X_often a0 v1 v2 v3 v4 M) := by
  refine vm_conX (y := q_X_often) hfl (by decide +kernel) rfl (fun h => by cases h) (Nat.le_of_ble_eq_true rfl) rfl (fun r _ _ => by cases r with | inl E => trivial | inr x => rfl) (fun w => ?_)
  show V_ l w q_X_often 7 (ex_T ex_J) 0 [(0, xA a0), (1, xI v1), (2, xI v2), (3, xI v3), (4, xI v4)] [] M (k_X_often a0 v1 v2 v3 v4 M)
  unfold k_X_often
  refine v_aloadn d_X_often_0 rfl 0 rfl ?_
  refine v_iloadn d_X_often_1 rfl 1 rfl ?_
  refine v_xV d_X_often_2 ml_X_275 (q := (RX10, TX10, 10)) rfl (c_X_mapOf l hfl a0 v1 M) (fun _ => rfl) (by decide) (by decide) (as := [xI v1]) (st1 := []) rfl rfl (Nat.le_of_ble_eq_true rfl) rfl (sr := fun r => [xA r]) (fun c2 M => ?_)
  show V_ l w q_X_often 7 (ex_T ex_J) 5 [(0, xA a0), (1, xI v1), (2, xI v2), (3, xI v3), (4, xI v4)] [xA c2] M _
  refine v_astore (lz := fun z => [(5, xA z), (0, xA a0), (1, xI v1), (2, xI v2), (3, xI v3), (4, xI v4)]) d_X_often_5 (Nat.le_of_ble_eq_true rfl) (fun _ => rfl) (fun a5_5 => ?_)
  refine v_aloadn d_X_often_7 rfl 1 rfl ?_
  refine v_iloadn d_X_often_8 rfl 3 rfl ?_
  refine v_xV d_X_often_9 ml_X_110 (q := (RX10, TX10, 10)) rfl (c_X_checkLetter l hfl a0 v2 M) (fun _ => rfl) (by decide) (by decide) (as := [xI v2]) (st1 := []) rfl rfl (Nat.le_of_ble_eq_true rfl) rfl (sr := fun _ => []) (fun _ M => ?_)
  show V_ l w q_X_often 7 (ex_T ex_J) 12 [(5, xA a5_5), (0, xA a0), (1, xI v1), (2, xI v2), (3, xI v3), (4, xI v4)] [] M _
  refine v_aloadn d_X_often_12 rfl 1 rfl ?_
  refine v_iloadn d_X_often_13 rfl 4 rfl ?_
  refine v_iconst d_X_often_14 (by decide) ?_
  refine v_bipush d_X_often_15 (by decide) ?_
  refine v_xV d_X_often_17 ml_X_173 (q := (RX10, TX10, 10)) rfl (c_X_checkRange l hfl a0 v3 0 12 M) (fun _ => rfl) (by decide) (by decide) (as := [xI v3, xI 0, xI 12]) (st1 := []) rfl rfl (Nat.le_of_ble_eq_true rfl) rfl (sr := fun _ => []) (fun _ M => ?_)
  show V_ l w q_X_often 7 (ex_T ex_J) 20 [(5, xA a5_5), (0, xA a0), (1, xI v1), (2, xI v2), (3, xI v3), (4, xI v4)] [] M _
  refine v_aloadn d_X_often_20 rfl 1 rfl ?_
  refine v_iload d_X_often_21 5 rfl ?_
  refine v_xV d_X_often_23 ml_X_110 (q := (RX10, TX10, 10)) rfl (c_X_checkLetter l hfl a0 v4 M) (fun _ => rfl) (by decide) (by decide) (as := [xI v4]) (st1 := []) rfl rfl (Nat.le_of_ble_eq_true rfl) rfl (sr := fun _ => []) (fun _ M => ?_)
  show V_ l w q_X_often 7 (ex_T ex_J) 26 [(5, xA a5_5), (0, xA a0), (1, xI v1), (2, xI v2), (3, xI v3), (4, xI v4)] [] M _
  refine v_aloadn d_X_often_26 rfl 1 rfl ?_
  refine v_aload d_X_often_27 0 rfl ?_
  refine v_iloadn d_X_often_29 rfl 4 rfl ?_
  refine v_iload d_X_often_30 5 rfl ?_
  refine v_cVv d_X_often_32 ml_X_289 (q := (RX10, TX10, 10)) rfl (c_X_tally l hfl a0 a5_5 v3 v4 M) (fun _ => rfl) (by decide) (by decide) (as := [xA a5_5, xI v3, xI v4]) (st1 := []) rfl rfl (Nat.le_of_ble_eq_true rfl) (fun _ M => ?_)
  refine v_aloadn d_X_often_35 rfl 1 rfl ?_
  refine v_iloadn d_X_often_36 rfl 4 rfl ?_
  refine v_iloadn d_X_often_37 rfl 3 rfl ?_
  refine v_cVl d_X_often_38 ml_X_293 (q := (RX10, TX10, 10)) rfl (c_X_tallied l hfl a0 v3 v2 M) (fun _ => rfl) (by decide) (by decide) (as := [xI v3, xI v2]) (st1 := []) rfl rfl (Nat.le_of_ble_eq_true rfl) (fun c38 M => ?_)
  exact v_ret d_X_often_41 rfl
set_option maxHeartbeats 4000000 in
set_option maxRecDepth 100000 in
theorem V_lp_X_imageBreaks_39 {l : Launch} {w : vm_W} (hfl : l.stackTraces = false) (kx75 : mm_T → Option (Int × mm_T)) (a0 : Nat) (hkx75 : ∀ (M : mm_T), V_ l w q_X_imageBreaks 15 ex_Z 75 [] [] M (kx75 M)) : ∀ (f : Nat) (v4 : Int) (M : mm_T), V_ l w q_X_imageBreaks 15 ex_Z 39 [(0, xA a0), (4, xI v4)] [] M (lp_X_imageBreaks_39 kx75 a0 f v4 M) := by
  intro f
  induction f with
  | zero => intros; exact V_.none
  | succ f ih =>
    intro v4 M
    unfold lp_X_imageBreaks_39
    refine v_iload d_X_imageBreaks_39 1 rfl ?_
    refine v_aloadn d_X_imageBreaks_41 rfl 0 rfl ?_
    refine v_gR d_X_imageBreaks_42 fl_X_40 rfl (fun r42 => ?_)
    refine v_gI d_X_imageBreaks_45 fl_X_102 rfl (fun x45 => ?_)
    refine v_icge d_X_imageBreaks_48 ?_ ?_
    · refine v_sub (ls' := []) [] rfl ?_
      exact hkx75 M
    · refine v_aloadn d_X_imageBreaks_51 rfl 0 rfl ?_
      refine v_gR d_X_imageBreaks_52 fl_X_40 rfl (fun r52 => ?_)
      refine v_aloadn d_X_imageBreaks_55 rfl 0 rfl ?_
      refine v_gR d_X_imageBreaks_56 fl_X_19 rfl (fun r56 => ?_)
      refine v_iload d_X_imageBreaks_59 1 rfl ?_
      refine v_cVi d_X_imageBreaks_61 ml_X_308 (q := (RX1, TX1, 5)) rfl (c_Line_isBadAt l hfl r52 r56 v4 M) (fun _ => rfl) (by decide) (by decide) (as := [xA r56, xI v4]) (st1 := []) rfl rfl (Nat.le_of_ble_eq_true rfl) (fun c61 M => ?_)
      refine v_ifeq d_X_imageBreaks_64 ?_ ?_
      · refine v_iinc (lz := fun z => [(4, xI z), (0, xA a0)]) d_X_imageBreaks_69 1 rfl (Nat.le_of_ble_eq_true rfl) (fun _ => rfl) (fun v4_69 => ?_)
        refine v_goto d_X_imageBreaks_72 ?_
        refine v_sub (ls' := [(0, xA a0), (4, xI v4_69)]) [1, 0] rfl ?_
        exact ih v4_69 M
      · refine v_iconst d_X_imageBreaks_67 (by decide) ?_
        exact v_zret d_X_imageBreaks_68 rfl
set_option maxHeartbeats 4000000 in
set_option maxRecDepth 100000 in
theorem c_X_imageBreaks (l : Launch) (hfl : l.stackTraces = false) (a0 : Nat) (a1 : Nat) (a2 : Nat) (M : mm_T) : vm_Con l yX10_imageBreaks (.code yX10_imageBreaks cX10_imageBreaks 5 (some .boolean)) 15 ex_Z [xA a0, xA a1, xA a2] M (k_X_imageBreaks a0 a1 a2 M) := by
  refine vm_con (y := q_X_imageBreaks) hfl (by decide +kernel) rfl (fun h => by cases h) (Nat.le_of_ble_eq_true rfl) rfl (fun _ _ _ => rfl) (fun r E h => by cases h) (fun w => ?_)
  show V_ l w q_X_imageBreaks 15 ex_Z 0 [(0, xA a0), (1, xA a1), (2, xA a2)] [] M (k_X_imageBreaks a0 a1 a2 M)
  unfold k_X_imageBreaks
  refine v_aloadn d_X_imageBreaks_0 rfl 1 rfl ?_
  refine v_aloadn d_X_imageBreaks_1 rfl 2 rfl ?_
  refine v_aloadn d_X_imageBreaks_2 rfl 0 rfl ?_
  refine v_gR d_X_imageBreaks_3 fl_X_40 rfl (fun r3 => ?_)
  refine v_cVv d_X_imageBreaks_6 ml_X_283 (q := (RX2, TX2, 3)) rfl (c_Morph_draw l hfl a1 a2 r3 M) (fun _ => rfl) (by decide) (by decide) (as := [xA a2, xA r3]) (st1 := []) rfl rfl (Nat.le_of_ble_eq_true rfl) (fun _ M => ?_)
  refine v_aloadn d_X_imageBreaks_9 rfl 0 rfl ?_
  refine v_gR d_X_imageBreaks_10 fl_X_40 rfl (fun r10 => ?_)
  refine v_gI d_X_imageBreaks_13 fl_X_102 rfl (fun x13 => ?_)
  refine v_aloadn d_X_imageBreaks_16 rfl 1 rfl ?_
  refine v_aloadn d_X_imageBreaks_17 rfl 2 rfl ?_
  refine v_aloadn d_X_imageBreaks_18 rfl 2 rfl ?_
  refine v_gI d_X_imageBreaks_19 fl_X_102 rfl (fun x19 => ?_)
  refine v_iconst d_X_imageBreaks_22 (by decide) ?_
  refine v_isub d_X_imageBreaks_23 (fun x23 => ?_)
  refine v_cVi d_X_imageBreaks_24 ml_X_106 (q := (RX1, TX1, 5)) rfl (c_Line_at l hfl a2 x23 M) (fun _ => rfl) (by decide) (by decide) (as := [xI x23]) (st1 := [xA a1, xI x13]) rfl rfl (Nat.le_of_ble_eq_true rfl) (fun c24 M => ?_)
  refine v_cVi d_X_imageBreaks_27 ml_X_278 (q := (RX2, TX2, 3)) rfl (c_Morph_sizeOf l hfl a1 c24 M) (fun _ => rfl) (by decide) (by decide) (as := [xI c24]) (st1 := [xI x13]) rfl rfl (Nat.le_of_ble_eq_true rfl) (fun c27 M => ?_)
  refine v_isub d_X_imageBreaks_30 (fun x30 => ?_)
  refine v_istoren (lz := fun z => [(3, xI z), (0, xA a0), (1, xA a1), (2, xA a2)]) d_X_imageBreaks_31 rfl (Nat.le_of_ble_eq_true rfl) (fun _ => rfl) (fun v3_31 => ?_)
  refine v_iconst d_X_imageBreaks_32 (by decide) ?_
  refine v_iloadn d_X_imageBreaks_33 rfl 0 rfl ?_
  refine v_mmax d_X_imageBreaks_34 gw_551 gw_466 gw_131 gw_467 (by first | decide | omega) (Nat.le_of_ble_eq_true rfl) ?_
  refine v_istore (lz := fun z => [(4, xI z), (3, xI v3_31), (0, xA a0), (1, xA a1), (2, xA a2)]) d_X_imageBreaks_37 (Nat.le_of_ble_eq_true rfl) (fun _ => rfl) (fun v4_37 => ?_)
  refine v_sub (ls' := [(0, xA a0), (4, xI v4_37)]) [2, 0] rfl ?_
  refine V_lp_X_imageBreaks_39 hfl _ _ (fun M => ?_) _ _ _
  · refine v_iconst d_X_imageBreaks_75 (by decide) ?_
    exact v_zret d_X_imageBreaks_76 rfl
set_option maxHeartbeats 4000000 in
set_option maxRecDepth 100000 in
theorem V_lp_X_breaker_44 {l : Launch} {w : vm_W} (hfl : l.stackTraces = false) (kx99 : Int → mm_T → Option (Int × mm_T)) (a0 : Nat) (a1 : Nat) {v2 : Int} {v3 : Int} (hkx99 : ∀ (v4_e : Int) (M : mm_T), V_ l w q_X_breaker 16 ex_I 99 [(0, xA a0), (1, xA a1), (2, xI v2), (3, xI v3), (4, xI v4_e)] [] M (kx99 v4_e M)) : ∀ (f : Nat) (v4 : Int) (v5 : Int) (M : mm_T), V_ l w q_X_breaker 16 ex_I 44 [(0, xA a0), (1, xA a1), (2, xI v2), (3, xI v3), (4, xI v4), (5, xI v5)] [] M (lp_X_breaker_44 kx99 a0 a1 f v4 v5 M) := by
  intro f
  induction f with
  | zero => intros; exact V_.none
  | succ f ih =>
    intro v4 v5 M
    unfold lp_X_breaker_44
    refine v_iload d_X_breaker_44 5 rfl ?_
    refine v_sipush d_X_breaker_46 (by decide) ?_
    refine v_icge d_X_breaker_49 ?_ ?_
    · refine v_sub (ls' := [(0, xA a0), (1, xA a1), (2, xI v2), (3, xI v3), (4, xI v4)]) [0, 1, 2, 3, 4] rfl ?_
      exact hkx99 v4 M
    · refine v_iload d_X_breaker_52 4 rfl ?_
      refine v_iconst d_X_breaker_54 (by decide) ?_
      refine v_icne d_X_breaker_55 ?_ ?_
      · refine v_sub (ls' := [(0, xA a0), (1, xA a1), (2, xI v2), (3, xI v3), (4, xI v4)]) [0, 1, 2, 3, 4] rfl ?_
        exact hkx99 v4 M
      · refine v_aloadn d_X_breaker_58 rfl 0 rfl ?_
        refine v_aloadn d_X_breaker_59 rfl 1 rfl ?_
        refine v_aloadn d_X_breaker_60 rfl 0 rfl ?_
        refine v_gR d_X_breaker_61 fl_X_46 rfl (fun r61 => ?_)
        refine v_gR d_X_breaker_64 fl_X_253 rfl (fun r64 => ?_)
        refine v_cVi d_X_breaker_67 ml_X_301 (q := (RX10, TX10, 10)) rfl (c_X_imageBreaks l hfl a0 a1 r64 M) (fun _ => rfl) (by decide) (by decide) (as := [xA a1, xA r64]) (st1 := []) rfl rfl (Nat.le_of_ble_eq_true rfl) (fun c67 M => ?_)
        refine v_ifeq d_X_breaker_70 ?_ ?_
        · refine v_aloadn d_X_breaker_84 rfl 0 rfl ?_
          refine v_gR d_X_breaker_85 fl_X_46 rfl (fun r85 => ?_)
          refine v_cVi d_X_breaker_88 ml_X_250 (q := (RX5, TX5, 7)) rfl (c_Search_seek l hfl r85 M) (fun _ => rfl) (by decide) (by decide) (as := []) (st1 := []) rfl rfl (Nat.le_of_ble_eq_true rfl) (fun c88 M => ?_)
          refine v_istore (lz := fun z => [(4, xI z), (0, xA a0), (1, xA a1), (2, xI v2), (3, xI v3), (5, xI v5)]) d_X_breaker_91 (Nat.le_of_ble_eq_true rfl) (fun _ => rfl) (fun v4_91 => ?_)
          refine v_iinc (lz := fun z => [(5, xI z), (4, xI v4_91), (0, xA a0), (1, xA a1), (2, xI v2), (3, xI v3)]) d_X_breaker_93 5 rfl (Nat.le_of_ble_eq_true rfl) (fun _ => rfl) (fun v5_93 => ?_)
          refine v_goto d_X_breaker_96 ?_
          refine v_sub (ls' := [(0, xA a0), (1, xA a1), (2, xI v2), (3, xI v3), (4, xI v4_91), (5, xI v5_93)]) [2, 3, 4, 5, 1, 0] rfl ?_
          exact ih v4_91 v5_93 M
        · refine v_aloadn d_X_breaker_73 rfl 0 rfl ?_
          refine v_gR d_X_breaker_74 fl_X_46 rfl (fun r74 => ?_)
          refine v_gR d_X_breaker_77 fl_X_253 rfl (fun r77 => ?_)
          refine v_cVi d_X_breaker_80 ml_X_305 (q := (RX1, TX1, 5)) rfl (c_Line_figures l hfl r77 M) (fun _ => rfl) (by decide) (by decide) (as := []) (st1 := []) rfl rfl (Nat.le_of_ble_eq_true rfl) (fun c80 M => ?_)
          exact v_ret d_X_breaker_83 rfl
set_option maxHeartbeats 4000000 in
set_option maxRecDepth 100000 in
theorem V_lp_X_breaker_13 {l : Launch} {w : vm_W} (hfl : l.stackTraces = false) (kx115 : mm_T → Option (Int × mm_T)) (a0 : Nat) (a1 : Nat) (v2 : Int) (hkx115 : ∀ (M : mm_T), V_ l w q_X_breaker 16 ex_I 115 [] [] M (kx115 M)) : ∀ (f : Nat) (v3 : Int) (M : mm_T), V_ l w q_X_breaker 16 ex_I 13 [(0, xA a0), (1, xA a1), (2, xI v2), (3, xI v3)] [] M (lp_X_breaker_13 kx115 a0 a1 v2 f v3 M) := by
  intro f
  induction f with
  | zero => intros; exact V_.none
  | succ f ih =>
    intro v3 M
    unfold lp_X_breaker_13
    refine v_iloadn d_X_breaker_13 rfl 3 rfl ?_
    refine v_iloadn d_X_breaker_14 rfl 2 rfl ?_
    refine v_icgt d_X_breaker_15 ?_ ?_
    · refine v_sub (ls' := []) [] rfl ?_
      exact hkx115 M
    · refine v_aloadn d_X_breaker_18 rfl 0 rfl ?_
      refine v_gR d_X_breaker_19 fl_X_46 rfl (fun r19 => ?_)
      refine v_aloadn d_X_breaker_22 rfl 0 rfl ?_
      refine v_gR d_X_breaker_23 fl_X_36 rfl (fun r23 => ?_)
      refine v_iconst d_X_breaker_26 (by decide) ?_
      refine v_iconst d_X_breaker_27 (by decide) ?_
      refine v_iloadn d_X_breaker_28 rfl 3 rfl ?_
      refine v_cVv d_X_breaker_29 ml_X_240 (q := (RX5, TX5, 7)) rfl (c_Search_begin l hfl r19 r23 0 0 v3 M) (fun _ => rfl) (by decide) (by decide) (as := [xA r23, xI 0, xI 0, xI v3]) (st1 := []) rfl rfl (Nat.le_of_ble_eq_true rfl) (fun _ M => ?_)
      refine v_aloadn d_X_breaker_32 rfl 0 rfl ?_
      refine v_gR d_X_breaker_33 fl_X_46 rfl (fun r33 => ?_)
      refine v_cVi d_X_breaker_36 ml_X_250 (q := (RX5, TX5, 7)) rfl (c_Search_seek l hfl r33 M) (fun _ => rfl) (by decide) (by decide) (as := []) (st1 := []) rfl rfl (Nat.le_of_ble_eq_true rfl) (fun c36 M => ?_)
      refine v_istore (lz := fun z => [(4, xI z), (0, xA a0), (1, xA a1), (2, xI v2), (3, xI v3)]) d_X_breaker_39 (Nat.le_of_ble_eq_true rfl) (fun _ => rfl) (fun v4_39 => ?_)
      refine v_iconst d_X_breaker_41 (by decide) ?_
      refine v_istore (lz := fun z => [(5, xI z), (4, xI v4_39), (0, xA a0), (1, xA a1), (2, xI v2), (3, xI v3)]) d_X_breaker_42 (Nat.le_of_ble_eq_true rfl) (fun _ => rfl) (fun v5_42 => ?_)
      refine v_sub (ls' := [(0, xA a0), (1, xA a1), (2, xI v2), (3, xI v3), (4, xI v4_39), (5, xI v5_42)]) [2, 3, 4, 5, 1, 0] rfl ?_
      refine V_lp_X_breaker_44 hfl _ _ _ (fun v4_99 M => ?_) _ _ _ _
      · refine v_iload d_X_breaker_99 4 rfl ?_
        refine v_bipush d_X_breaker_101 (by decide) ?_
        refine v_icne d_X_breaker_103 ?_ ?_
        · refine v_iinc (lz := fun z => [(3, xI z), (0, xA a0), (1, xA a1), (2, xI v2), (4, xI v4_99)]) d_X_breaker_109 3 rfl (Nat.le_of_ble_eq_true rfl) (fun _ => rfl) (fun v3_109 => ?_)
          refine v_goto d_X_breaker_112 ?_
          refine v_sub (ls' := [(0, xA a0), (1, xA a1), (2, xI v2), (3, xI v3_109)]) [1, 2, 3, 0] rfl ?_
          exact ih v3_109 M
        · refine v_bipush d_X_breaker_106 (by decide) ?_
          exact v_ret d_X_breaker_108 rfl
set_option maxHeartbeats 4000000 in
set_option maxRecDepth 100000 in
theorem c_X_breaker (l : Launch) (hfl : l.stackTraces = false) (a0 : Nat) (a1 : Nat) (v2 : Int) (M : mm_T) : vm_Con l yX10_breaker (.code yX10_breaker cX10_breaker 6 (some .int)) 16 ex_I [xA a0, xA a1, xI v2] M (k_X_breaker a0 a1 v2 M) := by
  refine vm_con (y := q_X_breaker) hfl (by decide +kernel) rfl (fun h => by cases h) (Nat.le_of_ble_eq_true rfl) rfl (fun _ _ _ => rfl) (fun r E h => by cases h) (fun w => ?_)
  show V_ l w q_X_breaker 16 ex_I 0 [(0, xA a0), (1, xA a1), (2, xI v2)] [] M (k_X_breaker a0 a1 v2 M)
  unfold k_X_breaker
  refine v_aloadn d_X_breaker_0 rfl 0 rfl ?_
  refine v_gR d_X_breaker_1 fl_X_46 rfl (fun r1 => ?_)
  refine v_aloadn d_X_breaker_4 rfl 0 rfl ?_
  refine v_gR d_X_breaker_5 fl_X_19 rfl (fun r5 => ?_)
  refine v_cVv d_X_breaker_8 ml_X_236 (q := (RX5, TX5, 7)) rfl (c_Search_reset l hfl r1 r5 M) (fun _ => rfl) (by decide) (by decide) (as := [xA r5]) (st1 := []) rfl rfl (Nat.le_of_ble_eq_true rfl) (fun _ M => ?_)
  refine v_iconst d_X_breaker_11 (by decide) ?_
  refine v_istoren (lz := fun z => [(3, xI z), (0, xA a0), (1, xA a1), (2, xI v2)]) d_X_breaker_12 rfl (Nat.le_of_ble_eq_true rfl) (fun _ => rfl) (fun v3_12 => ?_)
  refine v_sub (ls' := [(0, xA a0), (1, xA a1), (2, xI v2), (3, xI v3_12)]) [1, 2, 3, 0] rfl ?_
  refine V_lp_X_breaker_13 hfl _ _ _ _ (fun M => ?_) _ _ _
  · refine v_iconst d_X_breaker_115 (by decide) ?_
    exact v_ret d_X_breaker_116 rfl
set_option maxHeartbeats 4000000 in
set_option maxRecDepth 100000 in
theorem c_X_keeps (l : Launch) (hfl : l.stackTraces = false) (a0 : Nat) (v1 : Int) (v2 : Int) (M : mm_T) : vm_ConX l yX10_keeps (.code yX10_keeps cX10_keeps 5 (some .int)) 17 (ex_T ex_I) [xA a0, xI v1, xI v2] M (k_X_keeps a0 v1 v2 M) := by
  refine vm_conX (y := q_X_keeps) hfl (by decide +kernel) rfl (fun h => by cases h) (Nat.le_of_ble_eq_true rfl) rfl (fun r _ _ => by cases r with | inl E => trivial | inr x => rfl) (fun w => ?_)
  show V_ l w q_X_keeps 17 (ex_T ex_I) 0 [(0, xA a0), (1, xI v1), (2, xI v2)] [] M (k_X_keeps a0 v1 v2 M)
  unfold k_X_keeps
  refine v_aloadn d_X_keeps_0 rfl 0 rfl ?_
  refine v_iloadn d_X_keeps_1 rfl 1 rfl ?_
  refine v_xV d_X_keeps_2 ml_X_275 (q := (RX10, TX10, 10)) rfl (c_X_mapOf l hfl a0 v1 M) (fun _ => rfl) (by decide) (by decide) (as := [xI v1]) (st1 := []) rfl rfl (Nat.le_of_ble_eq_true rfl) rfl (sr := fun r => [xA r]) (fun c2 M => ?_)
  show V_ l w q_X_keeps 17 (ex_T ex_I) 5 [(0, xA a0), (1, xI v1), (2, xI v2)] [xA c2] M _
  refine v_astoren (lz := fun z => [(3, xA z), (0, xA a0), (1, xI v1), (2, xI v2)]) d_X_keeps_5 rfl (Nat.le_of_ble_eq_true rfl) (fun _ => rfl) (fun a3_5 => ?_)
  refine v_aloadn d_X_keeps_6 rfl 1 rfl ?_
  refine v_iloadn d_X_keeps_7 rfl 3 rfl ?_
  refine v_iconst d_X_keeps_8 (by decide) ?_
  refine v_bipush d_X_keeps_9 (by decide) ?_
  refine v_xV d_X_keeps_11 ml_X_173 (q := (RX10, TX10, 10)) rfl (c_X_checkRange l hfl a0 v2 1 6 M) (fun _ => rfl) (by decide) (by decide) (as := [xI v2, xI 1, xI 6]) (st1 := []) rfl rfl (Nat.le_of_ble_eq_true rfl) rfl (sr := fun _ => []) (fun _ M => ?_)
  show V_ l w q_X_keeps 17 (ex_T ex_I) 14 [(3, xA a3_5), (0, xA a0), (1, xI v1), (2, xI v2)] [] M _
  refine v_aloadn d_X_keeps_14 rfl 1 rfl ?_
  refine v_aloadn d_X_keeps_15 rfl 0 rfl ?_
  refine v_iloadn d_X_keeps_16 rfl 3 rfl ?_
  refine v_cVi d_X_keeps_17 ml_X_297 (q := (RX10, TX10, 10)) rfl (c_X_breaker l hfl a0 a3_5 v2 M) (fun _ => rfl) (by decide) (by decide) (as := [xA a3_5, xI v2]) (st1 := []) rfl rfl (Nat.le_of_ble_eq_true rfl) (fun c17 M => ?_)
  refine v_istore (lz := fun z => [(4, xI z), (3, xA a3_5), (0, xA a0), (1, xI v1), (2, xI v2)]) d_X_keeps_20 (Nat.le_of_ble_eq_true rfl) (fun _ => rfl) (fun v4_20 => ?_)
  refine v_iload d_X_keeps_22 0 rfl ?_
  refine v_bipush d_X_keeps_24 (by decide) ?_
  refine v_icne d_X_keeps_26 ?_ ?_
  · refine v_iload d_X_keeps_34 0 rfl ?_
    refine v_iconst d_X_keeps_36 (by decide) ?_
    refine v_icne d_X_keeps_37 ?_ ?_
    · refine v_iconst d_X_keeps_44 (by decide) ?_
      exact v_ret d_X_keeps_45 rfl
    · refine v_iconst d_X_keeps_40 (by decide) ?_
      refine v_goto d_X_keeps_41 ?_
      exact v_ret d_X_keeps_45 rfl
  · refine v_bipush d_X_keeps_29 (by decide) ?_
    refine v_goto d_X_keeps_31 ?_
    exact v_ret d_X_keeps_45 rfl
set_option maxHeartbeats 4000000 in
set_option maxRecDepth 100000 in
theorem c_X_breaks (l : Launch) (hfl : l.stackTraces = false) (a0 : Nat) (v1 : Int) (v2 : Int) (M : mm_T) : vm_ConX l yX10_breaks (.code yX10_breaks cX10_breaks 4 (some .int)) 17 (ex_T ex_I) [xA a0, xI v1, xI v2] M (k_X_breaks a0 v1 v2 M) := by
  refine vm_conX (y := q_X_breaks) hfl (by decide +kernel) rfl (fun h => by cases h) (Nat.le_of_ble_eq_true rfl) rfl (fun r _ _ => by cases r with | inl E => trivial | inr x => rfl) (fun w => ?_)
  show V_ l w q_X_breaks 17 (ex_T ex_I) 0 [(0, xA a0), (1, xI v1), (2, xI v2)] [] M (k_X_breaks a0 v1 v2 M)
  unfold k_X_breaks
  refine v_aloadn d_X_breaks_0 rfl 0 rfl ?_
  refine v_iloadn d_X_breaks_1 rfl 1 rfl ?_
  refine v_xV d_X_breaks_2 ml_X_275 (q := (RX10, TX10, 10)) rfl (c_X_mapOf l hfl a0 v1 M) (fun _ => rfl) (by decide) (by decide) (as := [xI v1]) (st1 := []) rfl rfl (Nat.le_of_ble_eq_true rfl) rfl (sr := fun r => [xA r]) (fun c2 M => ?_)
  show V_ l w q_X_breaks 17 (ex_T ex_I) 5 [(0, xA a0), (1, xI v1), (2, xI v2)] [xA c2] M _
  refine v_astoren (lz := fun z => [(3, xA z), (0, xA a0), (1, xI v1), (2, xI v2)]) d_X_breaks_5 rfl (Nat.le_of_ble_eq_true rfl) (fun _ => rfl) (fun a3_5 => ?_)
  refine v_aloadn d_X_breaks_6 rfl 1 rfl ?_
  refine v_iloadn d_X_breaks_7 rfl 3 rfl ?_
  refine v_iconst d_X_breaks_8 (by decide) ?_
  refine v_bipush d_X_breaks_9 (by decide) ?_
  refine v_xV d_X_breaks_11 ml_X_173 (q := (RX10, TX10, 10)) rfl (c_X_checkRange l hfl a0 v2 1 6 M) (fun _ => rfl) (by decide) (by decide) (as := [xI v2, xI 1, xI 6]) (st1 := []) rfl rfl (Nat.le_of_ble_eq_true rfl) rfl (sr := fun _ => []) (fun _ M => ?_)
  show V_ l w q_X_breaks 17 (ex_T ex_I) 14 [(3, xA a3_5), (0, xA a0), (1, xI v1), (2, xI v2)] [] M _
  refine v_aloadn d_X_breaks_14 rfl 1 rfl ?_
  refine v_aloadn d_X_breaks_15 rfl 0 rfl ?_
  refine v_iloadn d_X_breaks_16 rfl 3 rfl ?_
  refine v_cVi d_X_breaks_17 ml_X_297 (q := (RX10, TX10, 10)) rfl (c_X_breaker l hfl a0 a3_5 v2 M) (fun _ => rfl) (by decide) (by decide) (as := [xA a3_5, xI v2]) (st1 := []) rfl rfl (Nat.le_of_ble_eq_true rfl) (fun c17 M => ?_)
  exact v_ret d_X_breaks_20 rfl
set_option maxHeartbeats 4000000 in
set_option maxRecDepth 100000 in
theorem V_lp_X_grows_11 {l : Launch} {w : vm_W} (hfl : l.stackTraces = false) (kx45 : Int → mm_T → Option ((Nat ⊕ Int) × mm_T)) (a0 : Nat) (a2 : Nat) (hkx45 : ∀ (v3_e : Int) (M : mm_T), V_ l w q_X_grows 7 (ex_T ex_I) 45 [(3, xI v3_e)] [] M (kx45 v3_e M)) : ∀ (f : Nat) (v3 : Int) (v4 : Int) (M : mm_T), V_ l w q_X_grows 7 (ex_T ex_I) 11 [(0, xA a0), (2, xA a2), (3, xI v3), (4, xI v4)] [] M (lp_X_grows_11 kx45 a0 a2 f v3 v4 M) := by
  intro f
  induction f with
  | zero => intros; exact V_.none
  | succ f ih =>
    intro v3 v4 M
    unfold lp_X_grows_11
    refine v_iload d_X_grows_11 3 rfl ?_
    refine v_aloadn d_X_grows_13 rfl 0 rfl ?_
    refine v_gR d_X_grows_14 fl_X_19 rfl (fun r14 => ?_)
    refine v_gI d_X_grows_17 fl_X_91 rfl (fun x17 => ?_)
    refine v_icge d_X_grows_20 ?_ ?_
    · refine v_sub (ls' := [(3, xI v3)]) [2] rfl ?_
      exact hkx45 v3 M
    · refine v_aloadn d_X_grows_23 rfl 1 rfl ?_
      refine v_iload d_X_grows_24 3 rfl ?_
      refine v_cVi d_X_grows_26 ml_X_312 (q := (RX2, TX2, 3)) rfl (c_Morph_growsFrom l hfl a2 v4 M) (fun _ => rfl) (by decide) (by decide) (as := [xI v4]) (st1 := []) rfl rfl (Nat.le_of_ble_eq_true rfl) (fun c26 M => ?_)
      refine v_join1 (pj := 39) (lj := fun v3_39 => [(0, xA a0), (2, xA a2), (3, xI v3_39), (4, xI v4)]) (sj := fun v3_39 => []) (fun v3_39 M => ?_) (fun j39 hj39 => ?_)
      · refine v_iinc (lz := fun z => [(4, xI z), (0, xA a0), (2, xA a2), (3, xI v3_39)]) d_X_grows_39 3 rfl (Nat.le_of_ble_eq_true rfl) (fun _ => rfl) (fun v4_39 => ?_)
        refine v_goto d_X_grows_42 ?_
        refine v_sub (ls' := [(0, xA a0), (2, xA a2), (3, xI v3_39), (4, xI v4_39)]) [1, 2, 3, 0] rfl ?_
        exact ih v3_39 v4_39 M
      refine v_ifeq d_X_grows_29 ?_ ?_
      · exact hj39 v3 M
      · refine v_iloadn d_X_grows_32 rfl 2 rfl ?_
        refine v_iconst d_X_grows_33 (by decide) ?_
        refine v_iload d_X_grows_34 3 rfl ?_
        refine v_ishl d_X_grows_36 ?_
        refine v_ior d_X_grows_37 ?_
        refine v_istoren (lz := fun z => [(3, xI z), (0, xA a0), (2, xA a2), (4, xI v4)]) d_X_grows_38 rfl (Nat.le_of_ble_eq_true rfl) (fun _ => rfl) (fun v3_38 => ?_)
        refine v_sub (ls' := [(0, xA a0), (2, xA a2), (3, xI v3_38), (4, xI v4)]) [1, 2, 0, 3] rfl ?_
        exact hj39 v3_38 M
set_option maxHeartbeats 4000000 in
set_option maxRecDepth 100000 in
theorem c_X_grows (l : Launch) (hfl : l.stackTraces = false) (a0 : Nat) (v1 : Int) (M : mm_T) : vm_ConX l yX10_grows (.code yX10_grows cX10_grows 5 (some .int)) 7 (ex_T ex_I) [xA a0, xI v1] M (k_X_grows a0 v1 M) := by
  refine vm_conX (y := q_X_grows) hfl (by decide +kernel) rfl (fun h => by cases h) (Nat.le_of_ble_eq_true rfl) rfl (fun r _ _ => by cases r with | inl E => trivial | inr x => rfl) (fun w => ?_)
  show V_ l w q_X_grows 7 (ex_T ex_I) 0 [(0, xA a0), (1, xI v1)] [] M (k_X_grows a0 v1 M)
  unfold k_X_grows
  refine v_aloadn d_X_grows_0 rfl 0 rfl ?_
  refine v_iloadn d_X_grows_1 rfl 1 rfl ?_
  refine v_xV d_X_grows_2 ml_X_275 (q := (RX10, TX10, 10)) rfl (c_X_mapOf l hfl a0 v1 M) (fun _ => rfl) (by decide) (by decide) (as := [xI v1]) (st1 := []) rfl rfl (Nat.le_of_ble_eq_true rfl) rfl (sr := fun r => [xA r]) (fun c2 M => ?_)
  show V_ l w q_X_grows 7 (ex_T ex_I) 5 [(0, xA a0), (1, xI v1)] [xA c2] M _
  refine v_astoren (lz := fun z => [(2, xA z), (0, xA a0), (1, xI v1)]) d_X_grows_5 rfl (Nat.le_of_ble_eq_true rfl) (fun _ => rfl) (fun a2_5 => ?_)
  refine v_iconst d_X_grows_6 (by decide) ?_
  refine v_istoren (lz := fun z => [(3, xI z), (2, xA a2_5), (0, xA a0), (1, xI v1)]) d_X_grows_7 rfl (Nat.le_of_ble_eq_true rfl) (fun _ => rfl) (fun v3_7 => ?_)
  refine v_iconst d_X_grows_8 (by decide) ?_
  refine v_istore (lz := fun z => [(4, xI z), (3, xI v3_7), (2, xA a2_5), (0, xA a0), (1, xI v1)]) d_X_grows_9 (Nat.le_of_ble_eq_true rfl) (fun _ => rfl) (fun v4_9 => ?_)
  refine v_sub (ls' := [(0, xA a0), (2, xA a2_5), (3, xI v3_7), (4, xI v4_9)]) [3, 2, 1, 0] rfl ?_
  refine V_lp_X_grows_11 hfl _ _ _ (fun v3_45 M => ?_) _ _ _ _
  · refine v_iloadn d_X_grows_45 rfl 0 rfl ?_
    exact v_ret d_X_grows_46 rfl
set_option maxHeartbeats 4000000 in
set_option maxRecDepth 100000 in
theorem V_lp_X_uniform_15 {l : Launch} {w : vm_W} (hfl : l.stackTraces = false) (kx45 : mm_T → Option ((Nat ⊕ Int) × mm_T)) (a0 : Nat) (a2 : Nat) (v3 : Int) (hkx45 : ∀ (M : mm_T), V_ l w q_X_uniform 7 (ex_T ex_I) 45 [(3, xI v3)] [] M (kx45 M)) : ∀ (f : Nat) (v4 : Int) (M : mm_T), V_ l w q_X_uniform 7 (ex_T ex_I) 15 [(0, xA a0), (2, xA a2), (3, xI v3), (4, xI v4)] [] M (lp_X_uniform_15 kx45 a0 a2 v3 f v4 M) := by
  intro f
  induction f with
  | zero => intros; exact V_.none
  | succ f ih =>
    intro v4 M
    unfold lp_X_uniform_15
    refine v_iload d_X_uniform_15 3 rfl ?_
    refine v_aloadn d_X_uniform_17 rfl 0 rfl ?_
    refine v_gR d_X_uniform_18 fl_X_19 rfl (fun r18 => ?_)
    refine v_gI d_X_uniform_21 fl_X_91 rfl (fun x21 => ?_)
    refine v_icge d_X_uniform_24 ?_ ?_
    · refine v_sub (ls' := [(3, xI v3)]) [2] rfl ?_
      exact hkx45 M
    · refine v_aloadn d_X_uniform_27 rfl 1 rfl ?_
      refine v_iload d_X_uniform_28 3 rfl ?_
      refine v_cVi d_X_uniform_30 ml_X_278 (q := (RX2, TX2, 3)) rfl (c_Morph_sizeOf l hfl a2 v4 M) (fun _ => rfl) (by decide) (by decide) (as := [xI v4]) (st1 := []) rfl rfl (Nat.le_of_ble_eq_true rfl) (fun c30 M => ?_)
      refine v_iloadn d_X_uniform_33 rfl 2 rfl ?_
      refine v_iceq d_X_uniform_34 ?_ ?_
      · refine v_iinc (lz := fun z => [(4, xI z), (0, xA a0), (2, xA a2), (3, xI v3)]) d_X_uniform_39 3 rfl (Nat.le_of_ble_eq_true rfl) (fun _ => rfl) (fun v4_39 => ?_)
        refine v_goto d_X_uniform_42 ?_
        refine v_sub (ls' := [(0, xA a0), (2, xA a2), (3, xI v3), (4, xI v4_39)]) [1, 2, 3, 0] rfl ?_
        exact ih v4_39 M
      · refine v_iconst d_X_uniform_37 (by decide) ?_
        exact v_ret d_X_uniform_38 rfl
set_option maxHeartbeats 4000000 in
set_option maxRecDepth 100000 in
theorem c_X_uniform (l : Launch) (hfl : l.stackTraces = false) (a0 : Nat) (v1 : Int) (M : mm_T) : vm_ConX l yX10_uniform (.code yX10_uniform cX10_uniform 5 (some .int)) 7 (ex_T ex_I) [xA a0, xI v1] M (k_X_uniform a0 v1 M) := by
  refine vm_conX (y := q_X_uniform) hfl (by decide +kernel) rfl (fun h => by cases h) (Nat.le_of_ble_eq_true rfl) rfl (fun r _ _ => by cases r with | inl E => trivial | inr x => rfl) (fun w => ?_)
  show V_ l w q_X_uniform 7 (ex_T ex_I) 0 [(0, xA a0), (1, xI v1)] [] M (k_X_uniform a0 v1 M)
  unfold k_X_uniform
  refine v_aloadn d_X_uniform_0 rfl 0 rfl ?_
  refine v_iloadn d_X_uniform_1 rfl 1 rfl ?_
  refine v_xV d_X_uniform_2 ml_X_275 (q := (RX10, TX10, 10)) rfl (c_X_mapOf l hfl a0 v1 M) (fun _ => rfl) (by decide) (by decide) (as := [xI v1]) (st1 := []) rfl rfl (Nat.le_of_ble_eq_true rfl) rfl (sr := fun r => [xA r]) (fun c2 M => ?_)
  show V_ l w q_X_uniform 7 (ex_T ex_I) 5 [(0, xA a0), (1, xI v1)] [xA c2] M _
  refine v_astoren (lz := fun z => [(2, xA z), (0, xA a0), (1, xI v1)]) d_X_uniform_5 rfl (Nat.le_of_ble_eq_true rfl) (fun _ => rfl) (fun a2_5 => ?_)
  refine v_aloadn d_X_uniform_6 rfl 0 rfl ?_
  refine v_iconst d_X_uniform_7 (by decide) ?_
  refine v_cVi d_X_uniform_8 ml_X_278 (q := (RX2, TX2, 3)) rfl (c_Morph_sizeOf l hfl a2_5 0 M) (fun _ => rfl) (by decide) (by decide) (as := [xI 0]) (st1 := []) rfl rfl (Nat.le_of_ble_eq_true rfl) (fun c8 M => ?_)
  refine v_istoren (lz := fun z => [(3, xI z), (2, xA a2_5), (0, xA a0), (1, xI v1)]) d_X_uniform_11 rfl (Nat.le_of_ble_eq_true rfl) (fun _ => rfl) (fun v3_11 => ?_)
  refine v_iconst d_X_uniform_12 (by decide) ?_
  refine v_istore (lz := fun z => [(4, xI z), (3, xI v3_11), (2, xA a2_5), (0, xA a0), (1, xI v1)]) d_X_uniform_13 (Nat.le_of_ble_eq_true rfl) (fun _ => rfl) (fun v4_13 => ?_)
  refine v_sub (ls' := [(0, xA a0), (2, xA a2_5), (3, xI v3_11), (4, xI v4_13)]) [3, 2, 1, 0] rfl ?_
  refine V_lp_X_uniform_15 hfl _ _ _ _ (fun M => ?_) _ _ _
  · refine v_iloadn d_X_uniform_45 rfl 0 rfl ?_
    exact v_ret d_X_uniform_46 rfl
set_option maxHeartbeats 4000000 in
set_option maxRecDepth 100000 in
theorem V_lp_X_fill_84 {l : Launch} {w : vm_W} (hfl : l.stackTraces = false) (kx143 : mm_T → Option ((Nat ⊕ Int) × mm_T)) (a0 : Nat) (v3 : Int) (a4 : Nat) (v5 : Int) (hkx143 : ∀ (M : mm_T), V_ l w q_X_fill 16 (ex_T ex_I) 143 [(0, xA a0), (3, xI v3), (4, xA a4), (5, xI v5)] [] M (kx143 M)) : ∀ (f : Nat) (v6 : Int) (M : mm_T), V_ l w q_X_fill 16 (ex_T ex_I) 84 [(0, xA a0), (3, xI v3), (4, xA a4), (5, xI v5), (6, xI v6)] [] M (lp_X_fill_84 kx143 a0 v3 a4 v5 f v6 M) := by
  intro f
  induction f with
  | zero => intros; exact V_.none
  | succ f ih =>
    intro v6 M
    unfold lp_X_fill_84
    refine v_iload d_X_fill_84 4 rfl ?_
    refine v_aload d_X_fill_86 2 rfl ?_
    refine v_aloadn d_X_fill_88 rfl 0 rfl ?_
    refine v_gR d_X_fill_89 fl_X_40 rfl (fun r89 => ?_)
    refine v_iload d_X_fill_92 3 rfl ?_
    refine v_cVi d_X_fill_94 ml_X_106 (q := (RX1, TX1, 5)) rfl (c_Line_at l hfl r89 v5 M) (fun _ => rfl) (by decide) (by decide) (as := [xI v5]) (st1 := [xA a4, xI v6]) rfl rfl (Nat.le_of_ble_eq_true rfl) (fun c94 M => ?_)
    refine v_cVi d_X_fill_97 ml_X_278 (q := (RX2, TX2, 3)) rfl (c_Morph_sizeOf l hfl a4 c94 M) (fun _ => rfl) (by decide) (by decide) (as := [xI c94]) (st1 := [xI v6]) rfl rfl (Nat.le_of_ble_eq_true rfl) (fun c97 M => ?_)
    refine v_icge d_X_fill_100 ?_ ?_
    · refine v_sub (ls' := [(0, xA a0), (3, xI v3), (4, xA a4), (5, xI v5)]) [0, 1, 2, 3] rfl ?_
      exact hkx143 M
    · refine v_aloadn d_X_fill_103 rfl 0 rfl ?_
      refine v_gR d_X_fill_104 fl_X_40 rfl (fun r104 => ?_)
      refine v_gI d_X_fill_107 fl_X_102 rfl (fun x107 => ?_)
      refine v_iloadn d_X_fill_110 rfl 1 rfl ?_
      refine v_icge d_X_fill_111 ?_ ?_
      · refine v_sub (ls' := [(0, xA a0), (3, xI v3), (4, xA a4), (5, xI v5)]) [0, 1, 2, 3] rfl ?_
        exact hkx143 M
      · refine v_aloadn d_X_fill_114 rfl 0 rfl ?_
        refine v_gR d_X_fill_115 fl_X_40 rfl (fun r115 => ?_)
        refine v_aload d_X_fill_118 2 rfl ?_
        refine v_aloadn d_X_fill_120 rfl 0 rfl ?_
        refine v_gR d_X_fill_121 fl_X_40 rfl (fun r121 => ?_)
        refine v_iload d_X_fill_124 3 rfl ?_
        refine v_cVi d_X_fill_126 ml_X_106 (q := (RX1, TX1, 5)) rfl (c_Line_at l hfl r121 v5 M) (fun _ => rfl) (by decide) (by decide) (as := [xI v5]) (st1 := [xA a4, xA r115]) rfl rfl (Nat.le_of_ble_eq_true rfl) (fun c126 M => ?_)
        refine v_iload d_X_fill_129 4 rfl ?_
        refine v_cVi d_X_fill_131 ml_X_287 (q := (RX2, TX2, 3)) rfl (c_Morph_at l hfl a4 c126 v6 M) (fun _ => rfl) (by decide) (by decide) (as := [xI c126, xI v6]) (st1 := [xA r115]) rfl rfl (Nat.le_of_ble_eq_true rfl) (fun c131 M => ?_)
        refine v_cVv d_X_fill_134 ml_X_119 (q := (RX1, TX1, 5)) rfl (c_Line_add l hfl r115 c131 M) (fun _ => rfl) (by decide) (by decide) (as := [xI c131]) (st1 := []) rfl rfl (Nat.le_of_ble_eq_true rfl) (fun _ M => ?_)
        refine v_iinc (lz := fun z => [(6, xI z), (0, xA a0), (3, xI v3), (4, xA a4), (5, xI v5)]) d_X_fill_137 4 rfl (Nat.le_of_ble_eq_true rfl) (fun _ => rfl) (fun v6_137 => ?_)
        refine v_goto d_X_fill_140 ?_
        refine v_sub (ls' := [(0, xA a0), (3, xI v3), (4, xA a4), (5, xI v5), (6, xI v6_137)]) [1, 2, 3, 4, 0] rfl ?_
        exact ih v6_137 M
set_option maxHeartbeats 4000000 in
set_option maxRecDepth 100000 in
theorem V_lp_X_fill_55 {l : Launch} {w : vm_W} (hfl : l.stackTraces = false) (kx149 : mm_T → Option ((Nat ⊕ Int) × mm_T)) (a0 : Nat) (v3 : Int) (a4 : Nat) (hkx149 : ∀ (M : mm_T), V_ l w q_X_fill 16 (ex_T ex_I) 149 [(0, xA a0)] [] M (kx149 M)) : ∀ (f : Nat) (v5 : Int) (M : mm_T), V_ l w q_X_fill 16 (ex_T ex_I) 55 [(0, xA a0), (3, xI v3), (4, xA a4), (5, xI v5)] [] M (lp_X_fill_55 kx149 a0 v3 a4 f v5 M) := by
  intro f
  induction f with
  | zero => intros; exact V_.none
  | succ f ih =>
    intro v5 M
    unfold lp_X_fill_55
    refine v_iload d_X_fill_55 3 rfl ?_
    refine v_iloadn d_X_fill_57 rfl 1 rfl ?_
    refine v_icge d_X_fill_58 ?_ ?_
    · refine v_sub (ls' := [(0, xA a0)]) [0] rfl ?_
      exact hkx149 M
    · refine v_aloadn d_X_fill_61 rfl 0 rfl ?_
      refine v_gR d_X_fill_62 fl_X_40 rfl (fun r62 => ?_)
      refine v_gI d_X_fill_65 fl_X_102 rfl (fun x65 => ?_)
      refine v_iloadn d_X_fill_68 rfl 1 rfl ?_
      refine v_icge d_X_fill_69 ?_ ?_
      · refine v_sub (ls' := [(0, xA a0)]) [0] rfl ?_
        exact hkx149 M
      · refine v_iload d_X_fill_72 3 rfl ?_
        refine v_join1 (pj := 82) (lj := fun s0_82 => [(0, xA a0), (3, xI v3), (4, xA a4), (5, xI v5)]) (sj := fun s0_82 => [xI s0_82]) (fun s0_82 M => ?_) (fun j82 hj82 => ?_)
        · refine v_istore (lz := fun z => [(6, xI z), (0, xA a0), (3, xI v3), (4, xA a4), (5, xI v5)]) d_X_fill_82 (Nat.le_of_ble_eq_true rfl) (fun _ => rfl) (fun v6_82 => ?_)
          refine v_sub (ls' := [(0, xA a0), (3, xI v3), (4, xA a4), (5, xI v5), (6, xI v6_82)]) [1, 2, 3, 4, 0] rfl ?_
          refine V_lp_X_fill_84 hfl _ _ _ _ _ (fun M => ?_) _ _ _
          · refine v_iinc (lz := fun z => [(5, xI z), (0, xA a0), (3, xI v3), (4, xA a4)]) d_X_fill_143 3 rfl (Nat.le_of_ble_eq_true rfl) (fun _ => rfl) (fun v5_143 => ?_)
            refine v_goto d_X_fill_146 ?_
            refine v_sub (ls' := [(0, xA a0), (3, xI v3), (4, xA a4), (5, xI v5_143)]) [1, 2, 3, 0] rfl ?_
            exact ih v5_143 M
        refine v_ifne d_X_fill_74 ?_ ?_
        · refine v_iconst d_X_fill_81 (by decide) ?_
          exact hj82 0 M
        · refine v_iconst d_X_fill_77 (by decide) ?_
          refine v_goto d_X_fill_78 ?_
          exact hj82 1 M
set_option maxHeartbeats 4000000 in
set_option maxRecDepth 100000 in
theorem c_X_fill (l : Launch) (hfl : l.stackTraces = false) (a0 : Nat) (v1 : Int) (v2 : Int) (v3 : Int) (M : mm_T) : vm_ConX l yX10_fill (.code yX10_fill cX10_fill 7 (some .int)) 16 (ex_T ex_I) [xA a0, xI v1, xI v2, xI v3] M (k_X_fill a0 v1 v2 v3 M) := by
  refine vm_conX (y := q_X_fill) hfl (by decide +kernel) rfl (fun h => by cases h) (Nat.le_of_ble_eq_true rfl) rfl (fun r _ _ => by cases r with | inl E => trivial | inr x => rfl) (fun w => ?_)
  show V_ l w q_X_fill 16 (ex_T ex_I) 0 [(0, xA a0), (1, xI v1), (2, xI v2), (3, xI v3)] [] M (k_X_fill a0 v1 v2 v3 M)
  unfold k_X_fill
  refine v_aloadn d_X_fill_0 rfl 0 rfl ?_
  refine v_iloadn d_X_fill_1 rfl 1 rfl ?_
  refine v_xV d_X_fill_2 ml_X_275 (q := (RX10, TX10, 10)) rfl (c_X_mapOf l hfl a0 v1 M) (fun _ => rfl) (by decide) (by decide) (as := [xI v1]) (st1 := []) rfl rfl (Nat.le_of_ble_eq_true rfl) rfl (sr := fun r => [xA r]) (fun c2 M => ?_)
  show V_ l w q_X_fill 16 (ex_T ex_I) 5 [(0, xA a0), (1, xI v1), (2, xI v2), (3, xI v3)] [xA c2] M _
  refine v_astore (lz := fun z => [(4, xA z), (0, xA a0), (1, xI v1), (2, xI v2), (3, xI v3)]) d_X_fill_5 (Nat.le_of_ble_eq_true rfl) (fun _ => rfl) (fun a4_5 => ?_)
  refine v_aloadn d_X_fill_7 rfl 1 rfl ?_
  refine v_iloadn d_X_fill_8 rfl 3 rfl ?_
  refine v_xV d_X_fill_9 ml_X_110 (q := (RX10, TX10, 10)) rfl (c_X_checkLetter l hfl a0 v2 M) (fun _ => rfl) (by decide) (by decide) (as := [xI v2]) (st1 := []) rfl rfl (Nat.le_of_ble_eq_true rfl) rfl (sr := fun _ => []) (fun _ M => ?_)
  show V_ l w q_X_fill 16 (ex_T ex_I) 12 [(4, xA a4_5), (0, xA a0), (1, xI v1), (2, xI v2), (3, xI v3)] [] M _
  refine v_aloadn d_X_fill_12 rfl 1 rfl ?_
  refine v_iloadn d_X_fill_13 rfl 4 rfl ?_
  refine v_iconst d_X_fill_14 (by decide) ?_
  refine v_bipush d_X_fill_15 (by decide) ?_
  refine v_xV d_X_fill_17 ml_X_173 (q := (RX10, TX10, 10)) rfl (c_X_checkRange l hfl a0 v3 1 64 M) (fun _ => rfl) (by decide) (by decide) (as := [xI v3, xI 1, xI 64]) (st1 := []) rfl rfl (Nat.le_of_ble_eq_true rfl) rfl (sr := fun _ => []) (fun _ M => ?_)
  show V_ l w q_X_fill 16 (ex_T ex_I) 20 [(4, xA a4_5), (0, xA a0), (1, xI v1), (2, xI v2), (3, xI v3)] [] M _
  refine v_aload d_X_fill_20 0 rfl ?_
  refine v_iloadn d_X_fill_22 rfl 3 rfl ?_
  refine v_cVi d_X_fill_23 ml_X_312 (q := (RX2, TX2, 3)) rfl (c_Morph_growsFrom l hfl a4_5 v2 M) (fun _ => rfl) (by decide) (by decide) (as := [xI v2]) (st1 := []) rfl rfl (Nat.le_of_ble_eq_true rfl) (fun c23 M => ?_)
  refine v_ifne d_X_fill_26 ?_ ?_
  · refine v_aloadn d_X_fill_37 rfl 1 rfl ?_
    refine v_gR d_X_fill_38 fl_X_40 rfl (fun r38 => ?_)
    refine v_cVv d_X_fill_41 ml_X_87 (q := (RX1, TX1, 5)) rfl (c_Line_clear l hfl r38 M) (fun _ => rfl) (by decide) (by decide) (as := []) (st1 := []) rfl rfl (Nat.le_of_ble_eq_true rfl) (fun _ M => ?_)
    refine v_aloadn d_X_fill_44 rfl 1 rfl ?_
    refine v_gR d_X_fill_45 fl_X_40 rfl (fun r45 => ?_)
    refine v_iloadn d_X_fill_48 rfl 3 rfl ?_
    refine v_cVv d_X_fill_49 ml_X_119 (q := (RX1, TX1, 5)) rfl (c_Line_add l hfl r45 v2 M) (fun _ => rfl) (by decide) (by decide) (as := [xI v2]) (st1 := []) rfl rfl (Nat.le_of_ble_eq_true rfl) (fun _ M => ?_)
    refine v_iconst d_X_fill_52 (by decide) ?_
    refine v_istore (lz := fun z => [(5, xI z), (4, xA a4_5), (0, xA a0), (1, xI v1), (2, xI v2), (3, xI v3)]) d_X_fill_53 (Nat.le_of_ble_eq_true rfl) (fun _ => rfl) (fun v5_53 => ?_)
    refine v_sub (ls' := [(0, xA a0), (3, xI v3), (4, xA a4_5), (5, xI v5_53)]) [2, 5, 1, 0] rfl ?_
    refine V_lp_X_fill_55 hfl _ _ _ _ (fun M => ?_) _ _ _
    · refine v_aloadn d_X_fill_149 rfl 0 rfl ?_
      refine v_aloadn d_X_fill_150 rfl 0 rfl ?_
      refine v_gR d_X_fill_151 fl_X_40 rfl (fun r151 => ?_)
      refine v_cVv d_X_fill_154 ml_X_98 (q := (RX10, TX10, 10)) rfl (c_X_become l hfl a0 r151 M) (fun _ => rfl) (by decide) (by decide) (as := [xA r151]) (st1 := []) rfl rfl (Nat.le_of_ble_eq_true rfl) (fun _ M => ?_)
      refine v_aloadn d_X_fill_157 rfl 0 rfl ?_
      refine v_gR d_X_fill_158 fl_X_36 rfl (fun r158 => ?_)
      refine v_aloadn d_X_fill_161 rfl 0 rfl ?_
      refine v_gR d_X_fill_162 fl_X_19 rfl (fun r162 => ?_)
      refine v_cVi d_X_fill_165 ml_X_155 (q := (RX1, TX1, 5)) rfl (c_Line_firstBad l hfl r158 r162 M) (fun _ => rfl) (by decide) (by decide) (as := [xA r162]) (st1 := []) rfl rfl (Nat.le_of_ble_eq_true rfl) (fun c165 M => ?_)
      exact v_ret d_X_fill_168 rfl
  · exact v_throw (E := 2) rfl d_X_fill_29.1 d_X_fill_32.1 d_X_fill_33.1 d_X_fill_36.1 gw_936 gw_132 ta_X_115 ta_X_115g (by decide +kernel) (by first | decide | omega) (Nat.le_of_ble_eq_true rfl) rfl
set_option maxHeartbeats 4000000 in
set_option maxRecDepth 100000 in
theorem V_lp_X_sources_41 {l : Launch} {w : vm_W} (hfl : l.stackTraces = false) (kx107 : Int64 → mm_T → Option ((Nat ⊕ Int64) × mm_T)) (a0 : Nat) (a2 : Nat) (v3 : Int) (hkx107 : ∀ (w4_e : Int64) (M : mm_T), V_ l w q_X_sources 7 (ex_T ex_J) 107 [(0, xA a0), (2, xA a2), (3, xI v3), (4, xJ w4_e)] [] M (kx107 w4_e M)) : ∀ (f : Nat) (w4 : Int64) (v6 : Int) (M : mm_T), V_ l w q_X_sources 7 (ex_T ex_J) 41 [(0, xA a0), (2, xA a2), (3, xI v3), (4, xJ w4), (6, xI v6)] [] M (lp_X_sources_41 kx107 a0 a2 v3 f w4 v6 M) := by
  intro f
  induction f with
  | zero => intros; exact V_.none
  | succ f ih =>
    intro w4 v6 M
    unfold lp_X_sources_41
    refine v_iload d_X_sources_41 4 rfl ?_
    refine v_aloadn d_X_sources_43 rfl 0 rfl ?_
    refine v_gR d_X_sources_44 fl_X_19 rfl (fun r44 => ?_)
    refine v_gI d_X_sources_47 fl_X_91 rfl (fun x47 => ?_)
    refine v_icge d_X_sources_50 ?_ ?_
    · refine v_sub (ls' := [(0, xA a0), (2, xA a2), (3, xI v3), (4, xJ w4)]) [0, 1, 2, 3] rfl ?_
      exact hkx107 w4 M
    · refine v_iloadn d_X_sources_53 rfl 2 rfl ?_
      refine v_aloadn d_X_sources_54 rfl 1 rfl ?_
      refine v_iload d_X_sources_55 4 rfl ?_
      refine v_cVi d_X_sources_57 ml_X_278 (q := (RX2, TX2, 3)) rfl (c_Morph_sizeOf l hfl a2 v6 M) (fun _ => rfl) (by decide) (by decide) (as := [xI v6]) (st1 := [xI v3]) rfl rfl (Nat.le_of_ble_eq_true rfl) (fun c57 M => ?_)
      refine v_isub d_X_sources_60 (fun x60 => ?_)
      refine v_istore (lz := fun z => [(7, xI z), (0, xA a0), (2, xA a2), (3, xI v3), (4, xJ w4), (6, xI v6)]) d_X_sources_61 (Nat.le_of_ble_eq_true rfl) (fun _ => rfl) (fun v7_61 => ?_)
      refine v_iload d_X_sources_63 0 rfl ?_
      refine v_join1 (pj := 101) (lj := fun w4_101 => [(0, xA a0), (2, xA a2), (3, xI v3), (4, xJ w4_101), (6, xI v6)]) (sj := fun w4_101 => []) (fun w4_101 M => ?_) (fun j101 hj101 => ?_)
      · refine v_iinc (lz := fun z => [(6, xI z), (0, xA a0), (2, xA a2), (3, xI v3), (4, xJ w4_101)]) d_X_sources_101 4 rfl (Nat.le_of_ble_eq_true rfl) (fun _ => rfl) (fun v6_101 => ?_)
        refine v_goto d_X_sources_104 ?_
        refine v_sub (ls' := [(0, xA a0), (2, xA a2), (3, xI v3), (4, xJ w4_101), (6, xI v6_101)]) [1, 2, 3, 4, 0] rfl ?_
        exact ih w4_101 v6_101 M
      refine v_iflt d_X_sources_65 ?_ ?_
      · refine v_sub (ls' := [(0, xA a0), (2, xA a2), (3, xI v3), (4, xJ w4), (6, xI v6)]) [1, 2, 3, 4, 5] rfl ?_
        exact hj101 w4 M
      · refine v_iload d_X_sources_68 0 rfl ?_
        refine v_iloadn d_X_sources_70 rfl 3 rfl ?_
        refine v_icge d_X_sources_71 ?_ ?_
        · refine v_sub (ls' := [(0, xA a0), (2, xA a2), (3, xI v3), (4, xJ w4), (6, xI v6)]) [1, 2, 3, 4, 5] rfl ?_
          exact hj101 w4 M
        · refine v_aloadn d_X_sources_74 rfl 2 rfl ?_
          refine v_aloadn d_X_sources_75 rfl 1 rfl ?_
          refine v_gR d_X_sources_76 fl_X_36 rfl (fun r76 => ?_)
          refine v_iload d_X_sources_79 0 rfl ?_
          refine v_iload d_X_sources_81 5 rfl ?_
          refine v_cVi d_X_sources_83 ml_X_316 (q := (RX2, TX2, 3)) rfl (c_Morph_standsAt l hfl a2 r76 v7_61 v6 M) (fun _ => rfl) (by decide) (by decide) (as := [xA r76, xI v7_61, xI v6]) (st1 := []) rfl rfl (Nat.le_of_ble_eq_true rfl) (fun c83 M => ?_)
          refine v_ifeq d_X_sources_86 ?_ ?_
          · refine v_sub (ls' := [(0, xA a0), (2, xA a2), (3, xI v3), (4, xJ w4), (6, xI v6)]) [1, 2, 3, 4, 5] rfl ?_
            exact hj101 w4 M
          · refine v_lload d_X_sources_89 4 rfl ?_
            refine v_aloadn d_X_sources_91 rfl 1 rfl ?_
            refine v_gR d_X_sources_92 fl_X_62 rfl (fun r92 => ?_)
            refine v_iload d_X_sources_95 0 rfl ?_
            refine v_lald d_X_sources_97 (fun x97 => ?_)
            refine v_ladd d_X_sources_98 ?_
            refine v_lstore (lz := fun z => [(4, xJ z), (7, xI v7_61), (0, xA a0), (2, xA a2), (3, xI v3), (6, xI v6)]) d_X_sources_99 (Nat.le_of_ble_eq_true rfl) (fun _ => rfl) (fun w4_99 => ?_)
            refine v_sub (ls' := [(0, xA a0), (2, xA a2), (3, xI v3), (4, xJ w4_99), (6, xI v6)]) [2, 3, 4, 0, 5] rfl ?_
            exact hj101 w4_99 M
set_option maxHeartbeats 4000000 in
set_option maxRecDepth 100000 in
theorem V_lp_X_sources_15 {l : Launch} {w : vm_W} (hfl : l.stackTraces = false) (kx121 : mm_T → Option ((Nat ⊕ Int64) × mm_T)) (a0 : Nat) (a2 : Nat) (hkx121 : ∀ (M : mm_T), V_ l w q_X_sources 7 (ex_T ex_J) 121 [(0, xA a0)] [] M (kx121 M)) : ∀ (f : Nat) (v3 : Int) (M : mm_T), V_ l w q_X_sources 7 (ex_T ex_J) 15 [(0, xA a0), (2, xA a2), (3, xI v3)] [] M (lp_X_sources_15 kx121 a0 a2 f v3 M) := by
  intro f
  induction f with
  | zero => intros; exact V_.none
  | succ f ih =>
    intro v3 M
    unfold lp_X_sources_15
    refine v_iloadn d_X_sources_15 rfl 2 rfl ?_
    refine v_aloadn d_X_sources_16 rfl 0 rfl ?_
    refine v_gR d_X_sources_17 fl_X_36 rfl (fun r17 => ?_)
    refine v_gI d_X_sources_20 fl_X_102 rfl (fun x20 => ?_)
    refine v_icgt d_X_sources_23 ?_ ?_
    · refine v_sub (ls' := [(0, xA a0)]) [0] rfl ?_
      exact hkx121 M
    · refine v_iloadn d_X_sources_26 rfl 2 rfl ?_
      refine v_aloadn d_X_sources_27 rfl 0 rfl ?_
      refine v_gR d_X_sources_28 fl_X_62 rfl (fun r28 => ?_)
      refine v_alen (t := 3) d_X_sources_31 rfl (fun x31 => ?_)
      refine v_icge d_X_sources_32 ?_ ?_
      · refine v_sub (ls' := [(0, xA a0)]) [0] rfl ?_
        exact hkx121 M
      · refine v_lconst d_X_sources_35 (v := 0) rfl ?_
        refine v_lstore (lz := fun z => [(4, xJ z), (0, xA a0), (2, xA a2), (3, xI v3)]) d_X_sources_36 (Nat.le_of_ble_eq_true rfl) (fun _ => rfl) (fun w4_36 => ?_)
        refine v_iconst d_X_sources_38 (by decide) ?_
        refine v_istore (lz := fun z => [(6, xI z), (4, xJ w4_36), (0, xA a0), (2, xA a2), (3, xI v3)]) d_X_sources_39 (Nat.le_of_ble_eq_true rfl) (fun _ => rfl) (fun v6_39 => ?_)
        refine v_sub (ls' := [(0, xA a0), (2, xA a2), (3, xI v3), (4, xJ w4_36), (6, xI v6_39)]) [2, 3, 4, 1, 0] rfl ?_
        refine V_lp_X_sources_41 hfl _ _ _ _ (fun w4_107 M => ?_) _ _ _ _
        · refine v_aloadn d_X_sources_107 rfl 0 rfl ?_
          refine v_gR d_X_sources_108 fl_X_62 rfl (fun r108 => ?_)
          refine v_iloadn d_X_sources_111 rfl 2 rfl ?_
          refine v_lload d_X_sources_112 3 rfl ?_
          refine v_last d_X_sources_114 (fun M => ?_)
          refine v_iinc (lz := fun z => [(3, xI z), (0, xA a0), (2, xA a2), (4, xJ w4_107)]) d_X_sources_115 2 rfl (Nat.le_of_ble_eq_true rfl) (fun _ => rfl) (fun v3_115 => ?_)
          refine v_goto d_X_sources_118 ?_
          refine v_sub (ls' := [(0, xA a0), (2, xA a2), (3, xI v3_115)]) [1, 2, 0] rfl ?_
          exact ih v3_115 M
set_option maxHeartbeats 4000000 in
set_option maxRecDepth 100000 in
theorem c_X_sources (l : Launch) (hfl : l.stackTraces = false) (a0 : Nat) (v1 : Int) (M : mm_T) : vm_ConX l yX10_sources (.code yX10_sources cX10_sources 8 (some .long)) 7 (ex_T ex_J) [xA a0, xI v1] M (k_X_sources a0 v1 M) := by
  refine vm_conX (y := q_X_sources) hfl (by decide +kernel) rfl (fun h => by cases h) (Nat.le_of_ble_eq_true rfl) rfl (fun r _ _ => by cases r with | inl E => trivial | inr x => rfl) (fun w => ?_)
  show V_ l w q_X_sources 7 (ex_T ex_J) 0 [(0, xA a0), (1, xI v1)] [] M (k_X_sources a0 v1 M)
  unfold k_X_sources
  refine v_aloadn d_X_sources_0 rfl 0 rfl ?_
  refine v_iloadn d_X_sources_1 rfl 1 rfl ?_
  refine v_xV d_X_sources_2 ml_X_275 (q := (RX10, TX10, 10)) rfl (c_X_mapOf l hfl a0 v1 M) (fun _ => rfl) (by decide) (by decide) (as := [xI v1]) (st1 := []) rfl rfl (Nat.le_of_ble_eq_true rfl) rfl (sr := fun r => [xA r]) (fun c2 M => ?_)
  show V_ l w q_X_sources 7 (ex_T ex_J) 5 [(0, xA a0), (1, xI v1)] [xA c2] M _
  refine v_astoren (lz := fun z => [(2, xA z), (0, xA a0), (1, xI v1)]) d_X_sources_5 rfl (Nat.le_of_ble_eq_true rfl) (fun _ => rfl) (fun a2_5 => ?_)
  refine v_aloadn d_X_sources_6 rfl 1 rfl ?_
  refine v_gR d_X_sources_7 fl_X_62 rfl (fun r7 => ?_)
  refine v_iconst d_X_sources_10 (by decide) ?_
  refine v_lconst d_X_sources_11 (v := 1) rfl ?_
  refine v_last d_X_sources_12 (fun M => ?_)
  refine v_iconst d_X_sources_13 (by decide) ?_
  refine v_istoren (lz := fun z => [(3, xI z), (2, xA a2_5), (0, xA a0), (1, xI v1)]) d_X_sources_14 rfl (Nat.le_of_ble_eq_true rfl) (fun _ => rfl) (fun v3_14 => ?_)
  refine v_sub (ls' := [(0, xA a0), (2, xA a2_5), (3, xI v3_14)]) [2, 1, 0] rfl ?_
  refine V_lp_X_sources_15 hfl _ _ _ (fun M => ?_) _ _ _
  · refine v_aloadn d_X_sources_121 rfl 0 rfl ?_
    refine v_gR d_X_sources_122 fl_X_36 rfl (fun r122 => ?_)
    refine v_gI d_X_sources_125 fl_X_102 rfl (fun x125 => ?_)
    refine v_istoren (lz := fun z => [(3, xI z), (0, xA a0)]) d_X_sources_128 rfl (Nat.le_of_ble_eq_true rfl) (fun _ => rfl) (fun v3_128 => ?_)
    refine v_iloadn d_X_sources_129 rfl 0 rfl ?_
    refine v_aloadn d_X_sources_130 rfl 1 rfl ?_
    refine v_gR d_X_sources_131 fl_X_62 rfl (fun r131 => ?_)
    refine v_alen (t := 3) d_X_sources_134 rfl (fun x134 => ?_)
    refine v_icge d_X_sources_135 ?_ ?_
    · refine v_lconst d_X_sources_147 (v := 0) rfl ?_
      exact v_ret d_X_sources_148 rfl
    · refine v_aloadn d_X_sources_138 rfl 1 rfl ?_
      refine v_gR d_X_sources_139 fl_X_62 rfl (fun r139 => ?_)
      refine v_iloadn d_X_sources_142 rfl 0 rfl ?_
      refine v_lald d_X_sources_143 (fun x143 => ?_)
      refine v_goto d_X_sources_144 ?_
      exact v_ret d_X_sources_148 rfl
set_option maxHeartbeats 4000000 in
set_option maxRecDepth 100000 in
theorem c_X_code (l : Launch) (hfl : l.stackTraces = false) (a0 : Nat) (v1 : Int) (M : mm_T) : vm_ConX l yX10_code (.code yX10_code cX10_code 2 (some .boolean)) 7 (ex_T ex_Z) [xA a0, xI v1] M (k_X_code a0 v1 M) := by
  refine vm_conX (y := q_X_code) hfl (by decide +kernel) rfl (fun h => by cases h) (Nat.le_of_ble_eq_true rfl) rfl (fun r _ _ => by cases r with | inl E => trivial | inr x => rfl) (fun w => ?_)
  show V_ l w q_X_code 7 (ex_T ex_Z) 0 [(0, xA a0), (1, xI v1)] [] M (k_X_code a0 v1 M)
  unfold k_X_code
  refine v_aloadn d_X_code_0 rfl 0 rfl ?_
  refine v_iloadn d_X_code_1 rfl 1 rfl ?_
  refine v_xV d_X_code_2 ml_X_275 (q := (RX10, TX10, 10)) rfl (c_X_mapOf l hfl a0 v1 M) (fun _ => rfl) (by decide) (by decide) (as := [xI v1]) (st1 := []) rfl rfl (Nat.le_of_ble_eq_true rfl) rfl (sr := fun r => [xA r]) (fun c2 M => ?_)
  show V_ l w q_X_code 7 (ex_T ex_Z) 5 [(0, xA a0), (1, xI v1)] [xA c2] M _
  refine v_aloadn d_X_code_5 rfl 0 rfl ?_
  refine v_gR d_X_code_6 fl_X_19 rfl (fun r6 => ?_)
  refine v_gI d_X_code_9 fl_X_91 rfl (fun x9 => ?_)
  refine v_cVi d_X_code_12 ml_X_320 (q := (RX2, TX2, 3)) rfl (c_Morph_isCode l hfl c2 x9 M) (fun _ => rfl) (by decide) (by decide) (as := [xI x9]) (st1 := []) rfl rfl (Nat.le_of_ble_eq_true rfl) (fun c12 M => ?_)
  exact v_zret d_X_code_15 rfl
set_option maxHeartbeats 4000000 in
set_option maxRecDepth 100000 in
theorem c_X_count (l : Launch) (hfl : l.stackTraces = false) (a0 : Nat) (v1 : Int) (M : mm_T) : vm_Con l yX10_count (.code yX10_count cX10_count 2 (some .int)) 3 ex_I [xA a0, xI v1] M (k_X_count a0 v1 M) := by
  refine vm_con (y := q_X_count) hfl (by decide +kernel) rfl (fun h => by cases h) (Nat.le_of_ble_eq_true rfl) rfl (fun _ _ _ => rfl) (fun r E h => by cases h) (fun w => ?_)
  show V_ l w q_X_count 3 ex_I 0 [(0, xA a0), (1, xI v1)] [] M (k_X_count a0 v1 M)
  unfold k_X_count
  refine v_iloadn d_X_count_0 rfl 1 rfl ?_
  refine v_sw (n := 9) (tg := fun i => ([52, 60, 68, 76, 84, 92, 100, 108, 116] : List Nat).getD i 0) (dt := 124) d_X_count_1 rfl rfl d_X_count_1_o (fun i hi => ?_) ?_
  · match i, hi with
    | 0, _ =>
      show V_ l w q_X_count 3 ex_I 52 [(0, xA a0), (1, xI v1)] [] M _
      refine v_aloadn d_X_count_52 rfl 0 rfl ?_
      refine v_gR d_X_count_53 fl_X_19 rfl (fun r53 => ?_)
      refine v_gI d_X_count_56 fl_X_91 rfl (fun x56 => ?_)
      exact v_ret d_X_count_59 rfl
    | 1, _ =>
      show V_ l w q_X_count 3 ex_I 60 [(0, xA a0), (1, xI v1)] [] M _
      refine v_aloadn d_X_count_60 rfl 0 rfl ?_
      refine v_gR d_X_count_61 fl_X_19 rfl (fun r61 => ?_)
      refine v_gI d_X_count_64 fl_X_138 rfl (fun x64 => ?_)
      exact v_ret d_X_count_67 rfl
    | 2, _ =>
      show V_ l w q_X_count 3 ex_I 68 [(0, xA a0), (1, xI v1)] [] M _
      refine v_aloadn d_X_count_68 rfl 0 rfl ?_
      refine v_gR d_X_count_69 fl_X_19 rfl (fun r69 => ?_)
      refine v_gI d_X_count_72 fl_X_148 rfl (fun x72 => ?_)
      exact v_ret d_X_count_75 rfl
    | 3, _ =>
      show V_ l w q_X_count 3 ex_I 76 [(0, xA a0), (1, xI v1)] [] M _
      refine v_aloadn d_X_count_76 rfl 0 rfl ?_
      refine v_gR d_X_count_77 fl_X_19 rfl (fun r77 => ?_)
      refine v_cVi d_X_count_80 ml_X_323 (q := (RX9, TX9, 8)) rfl (c_Told_avoidedCount l hfl r77 M) (fun _ => rfl) (by decide) (by decide) (as := []) (st1 := []) rfl rfl (Nat.le_of_ble_eq_true rfl) (fun c80 M => ?_)
      exact v_ret d_X_count_83 rfl
    | 4, _ =>
      show V_ l w q_X_count 3 ex_I 84 [(0, xA a0), (1, xI v1)] [] M _
      refine v_aloadn d_X_count_84 rfl 0 rfl ?_
      refine v_gR d_X_count_85 fl_X_36 rfl (fun r85 => ?_)
      refine v_gI d_X_count_88 fl_X_102 rfl (fun x88 => ?_)
      exact v_ret d_X_count_91 rfl
    | 5, _ =>
      show V_ l w q_X_count 3 ex_I 92 [(0, xA a0), (1, xI v1)] [] M _
      refine v_aloadn d_X_count_92 rfl 0 rfl ?_
      refine v_gR d_X_count_93 fl_X_53 rfl (fun r93 => ?_)
      refine v_gI d_X_count_96 fl_X_128 rfl (fun x96 => ?_)
      exact v_ret d_X_count_99 rfl
    | 6, _ =>
      show V_ l w q_X_count 3 ex_I 100 [(0, xA a0), (1, xI v1)] [] M _
      refine v_aloadn d_X_count_100 rfl 0 rfl ?_
      refine v_gR d_X_count_101 fl_X_19 rfl (fun r101 => ?_)
      refine v_gI d_X_count_104 fl_X_326 rfl (fun x104 => ?_)
      exact v_ret d_X_count_107 rfl
    | 7, _ =>
      show V_ l w q_X_count 3 ex_I 108 [(0, xA a0), (1, xI v1)] [] M _
      refine v_aloadn d_X_count_108 rfl 0 rfl ?_
      refine v_gR d_X_count_109 fl_X_19 rfl (fun r109 => ?_)
      refine v_gI d_X_count_112 fl_X_329 rfl (fun x112 => ?_)
      exact v_ret d_X_count_115 rfl
    | 8, _ =>
      show V_ l w q_X_count 3 ex_I 116 [(0, xA a0), (1, xI v1)] [] M _
      refine v_aloadn d_X_count_116 rfl 0 rfl ?_
      refine v_gR d_X_count_117 fl_X_19 rfl (fun r117 => ?_)
      refine v_gI d_X_count_120 fl_X_223 rfl (fun x120 => ?_)
      exact v_ret d_X_count_123 rfl
    | i + 9, hi => exact absurd hi (by omega)
  · refine v_iconst d_X_count_124 (by decide) ?_
    exact v_ret d_X_count_125 rfl
