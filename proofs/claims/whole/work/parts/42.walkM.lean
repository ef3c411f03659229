set_option maxHeartbeats 4000000 in
set_option maxRecDepth 100000 in
theorem c_M_thrown (l : Launch) (hfl : l.stackTraces = false) (a0 : Nat) (M : mm_T) : vm_Con l yX11_thrown (.code yX11_thrown cX11_thrown 1 (some .int)) 1 ex_I [xA a0] M (k_M_thrown a0 M) := by
  refine vm_con (y := q_M_thrown) hfl (by decide +kernel) rfl (fun h => by cases h) (Nat.le_of_ble_eq_true rfl) rfl (fun _ _ _ => rfl) (fun r E h => by cases h) (fun w => ?_)
  show V_ l w q_M_thrown 1 ex_I 0 [(0, xA a0)] [] M (k_M_thrown a0 M)
  unfold k_M_thrown
  refine v_aloadn d_M_thrown_0 rfl 0 rfl ?_
  refine v_gI d_M_thrown_1 fl_M_3 rfl (fun x1 => ?_)
  exact v_ret d_M_thrown_4 rfl
set_option maxHeartbeats 4000000 in
set_option maxRecDepth 100000 in
theorem c_M_throwsIf (l : Launch) (hfl : l.stackTraces = false) (a0 : Nat) (v1 : Int) (v2 : Int) (M : mm_T) : vm_Con l yX11_throwsIf (.code yX11_throwsIf cX11_throwsIf 3 (some .boolean)) 1 ex_Z [xA a0, xI v1, xI v2] M (k_M_throwsIf a0 v1 v2 M) := by
  refine vm_con (y := q_M_throwsIf) hfl (by decide +kernel) rfl (fun h => by cases h) (Nat.le_of_ble_eq_true rfl) rfl (fun _ _ _ => rfl) (fun r E h => by cases h) (fun w => ?_)
  show V_ l w q_M_throwsIf 1 ex_Z 0 [(0, xA a0), (1, xI v1), (2, xI v2)] [] M (k_M_throwsIf a0 v1 v2 M)
  unfold k_M_throwsIf
  refine v_iloadn d_M_throwsIf_0 rfl 1 rfl ?_
  refine v_ifeq d_M_throwsIf_1 ?_ ?_
  · refine v_iloadn d_M_throwsIf_9 rfl 1 rfl ?_
    exact v_zret d_M_throwsIf_10 rfl
  · refine v_aloadn d_M_throwsIf_4 rfl 0 rfl ?_
    refine v_iloadn d_M_throwsIf_5 rfl 2 rfl ?_
    refine v_pI d_M_throwsIf_6 fl_M_3 (Or.inl rfl) rfl rfl (fun M => ?_)
    refine v_iloadn d_M_throwsIf_9 rfl 1 rfl ?_
    exact v_zret d_M_throwsIf_10 rfl
set_option maxHeartbeats 4000000 in
set_option maxRecDepth 100000 in
theorem c_M_in (l : Launch) (hfl : l.stackTraces = false) (v0 : Int) (v1 : Int) (v2 : Int) (M : mm_T) : vm_Con l yX11_in (.code yX11_in cX11_in 3 (some .boolean)) 1 ex_Z [xI v0, xI v1, xI v2] M (k_M_in v0 v1 v2 M) := by
  refine vm_con (y := q_M_in) hfl (by decide +kernel) rfl (fun h => by cases h) (Nat.le_of_ble_eq_true rfl) rfl (fun _ _ _ => rfl) (fun r E h => by cases h) (fun w => ?_)
  show V_ l w q_M_in 1 ex_Z 0 [(0, xI v0), (1, xI v1), (2, xI v2)] [] M (k_M_in v0 v1 v2 M)
  unfold k_M_in
  refine v_iloadn d_M_in_0 rfl 0 rfl ?_
  refine v_iloadn d_M_in_1 rfl 1 rfl ?_
  refine v_join0 (pj := 14) (lj := []) (sj := []) (fun M => ?_) (fun j14 hj14 => ?_)
  · refine v_iconst d_M_in_14 (by decide) ?_
    exact v_zret d_M_in_15 rfl
  refine v_iclt d_M_in_2 ?_ ?_
  · refine v_sub (ls' := []) [] rfl ?_
    exact hj14 M
  · refine v_iloadn d_M_in_5 rfl 0 rfl ?_
    refine v_iloadn d_M_in_6 rfl 2 rfl ?_
    refine v_icgt d_M_in_7 ?_ ?_
    · refine v_sub (ls' := []) [] rfl ?_
      exact hj14 M
    · refine v_iconst d_M_in_10 (by decide) ?_
      refine v_goto d_M_in_11 ?_
      exact v_zret d_M_in_15 rfl
set_option maxHeartbeats 4000000 in
set_option maxRecDepth 100000 in
theorem V_lp_M_feed_60 {l : Launch} {w : vm_W} (hfl : l.stackTraces = false) (kx106 : mm_T → Option (Int × mm_T)) (a0 : Nat) (hkx106 : ∀ (M : mm_T), V_ l w q_M_feed 1 ex_I 106 [(0, xA a0)] [] M (kx106 M)) : ∀ (f : Nat) (v6 : Int) (M : mm_T), V_ l w q_M_feed 1 ex_I 60 [(0, xA a0), (6, xI v6)] [] M (lp_M_feed_60 kx106 a0 f v6 M) := by
  intro f
  induction f with
  | zero => intros; exact V_.none
  | succ f ih =>
    intro v6 M
    unfold lp_M_feed_60
    refine v_iload d_M_feed_60 1 rfl ?_
    refine v_bipush d_M_feed_62 (by decide) ?_
    refine v_icge d_M_feed_64 ?_ ?_
    · refine v_sub (ls' := [(0, xA a0)]) [0] rfl ?_
      exact hkx106 M
    · refine v_aloadn d_M_feed_67 rfl 0 rfl ?_
      refine v_gR d_M_feed_68 fl_M_14 rfl (fun r68 => ?_)
      refine v_aloadn d_M_feed_71 rfl 0 rfl ?_
      refine v_gI d_M_feed_72 fl_M_7 rfl (fun x72 => ?_)
      refine v_iload d_M_feed_75 1 rfl ?_
      refine v_iadd d_M_feed_77 (fun x77 => ?_)
      refine v_aloadn d_M_feed_78 rfl 0 rfl ?_
      refine v_gR d_M_feed_79 fl_M_10 rfl (fun r79 => ?_)
      refine v_iload d_M_feed_82 1 rfl ?_
      refine v_iconst d_M_feed_84 (by decide) ?_
      refine v_idiv d_M_feed_85 (fun x85 => ?_)
      refine v_iald d_M_feed_86 (fun x86 => ?_)
      refine v_bipush d_M_feed_87 (by decide) ?_
      refine v_bipush d_M_feed_89 (by decide) ?_
      refine v_iload d_M_feed_91 1 rfl ?_
      refine v_iconst d_M_feed_93 (by decide) ?_
      refine v_irem d_M_feed_94 (fun x94 => ?_)
      refine v_imul d_M_feed_95 (fun x95 => ?_)
      refine v_isub d_M_feed_96 (fun x96 => ?_)
      refine v_ishr d_M_feed_97 ?_
      refine v_i2b d_M_feed_98 ?_
      refine v_bast d_M_feed_99 (fun M => ?_)
      refine v_iinc (lz := fun z => [(6, xI z), (0, xA a0)]) d_M_feed_100 1 rfl (Nat.le_of_ble_eq_true rfl) (fun _ => rfl) (fun v6_100 => ?_)
      refine v_goto d_M_feed_103 ?_
      refine v_sub (ls' := [(0, xA a0), (6, xI v6_100)]) [1, 0] rfl ?_
      exact ih v6_100 M
set_option maxHeartbeats 4000000 in
set_option maxRecDepth 100000 in
theorem c_M_feed (l : Launch) (hfl : l.stackTraces = false) (a0 : Nat) (v1 : Int) (v2 : Int) (v3 : Int) (v4 : Int) (v5 : Int) (M : mm_T) : vm_Con l yX11_feed (.code yX11_feed cX11_feed 7 (some .int)) 1 ex_I [xA a0, xI v1, xI v2, xI v3, xI v4, xI v5] M (k_M_feed a0 v1 v2 v3 v4 v5 M) := by
  refine vm_con (y := q_M_feed) hfl (by decide +kernel) rfl (fun h => by cases h) (Nat.le_of_ble_eq_true rfl) rfl (fun _ _ _ => rfl) (fun r E h => by cases h) (fun w => ?_)
  show V_ l w q_M_feed 1 ex_I 0 [(0, xA a0), (1, xI v1), (2, xI v2), (3, xI v3), (4, xI v4), (5, xI v5)] [] M (k_M_feed a0 v1 v2 v3 v4 v5 M)
  unfold k_M_feed
  refine v_aloadn d_M_feed_0 rfl 0 rfl ?_
  refine v_iconst d_M_feed_1 (by decide) ?_
  refine v_pI d_M_feed_2 fl_M_3 (Or.inl rfl) rfl rfl (fun M => ?_)
  refine v_aloadn d_M_feed_5 rfl 0 rfl ?_
  refine v_gI d_M_feed_6 fl_M_7 rfl (fun x6 => ?_)
  refine v_bipush d_M_feed_9 (by decide) ?_
  refine v_iadd d_M_feed_11 (fun x11 => ?_)
  refine v_sipush d_M_feed_12 (by decide) ?_
  refine v_icle d_M_feed_15 ?_ ?_
  · refine v_aloadn d_M_feed_20 rfl 0 rfl ?_
    refine v_gR d_M_feed_21 fl_M_10 rfl (fun r21 => ?_)
    refine v_iconst d_M_feed_24 (by decide) ?_
    refine v_iloadn d_M_feed_25 rfl 1 rfl ?_
    refine v_iast d_M_feed_26 (fun M => ?_)
    refine v_aloadn d_M_feed_27 rfl 0 rfl ?_
    refine v_gR d_M_feed_28 fl_M_10 rfl (fun r28 => ?_)
    refine v_iconst d_M_feed_31 (by decide) ?_
    refine v_iloadn d_M_feed_32 rfl 2 rfl ?_
    refine v_iast d_M_feed_33 (fun M => ?_)
    refine v_aloadn d_M_feed_34 rfl 0 rfl ?_
    refine v_gR d_M_feed_35 fl_M_10 rfl (fun r35 => ?_)
    refine v_iconst d_M_feed_38 (by decide) ?_
    refine v_iloadn d_M_feed_39 rfl 3 rfl ?_
    refine v_iast d_M_feed_40 (fun M => ?_)
    refine v_aloadn d_M_feed_41 rfl 0 rfl ?_
    refine v_gR d_M_feed_42 fl_M_10 rfl (fun r42 => ?_)
    refine v_iconst d_M_feed_45 (by decide) ?_
    refine v_iload d_M_feed_46 4 rfl ?_
    refine v_iast d_M_feed_48 (fun M => ?_)
    refine v_aloadn d_M_feed_49 rfl 0 rfl ?_
    refine v_gR d_M_feed_50 fl_M_10 rfl (fun r50 => ?_)
    refine v_iconst d_M_feed_53 (by decide) ?_
    refine v_iload d_M_feed_54 5 rfl ?_
    refine v_iast d_M_feed_56 (fun M => ?_)
    refine v_iconst d_M_feed_57 (by decide) ?_
    refine v_istore (lz := fun z => [(6, xI z), (0, xA a0), (1, xI v1), (2, xI v2), (3, xI v3), (4, xI v4), (5, xI v5)]) d_M_feed_58 (Nat.le_of_ble_eq_true rfl) (fun _ => rfl) (fun v6_58 => ?_)
    refine v_sub (ls' := [(0, xA a0), (6, xI v6_58)]) [1, 0] rfl ?_
    refine V_lp_M_feed_60 hfl _ _ (fun M => ?_) _ _ _
    · refine v_aloadn d_M_feed_106 rfl 0 rfl ?_
      refine v_dup d_M_feed_107 rfl ?_
      refine v_gI d_M_feed_108 fl_M_7 rfl (fun x108 => ?_)
      refine v_bipush d_M_feed_111 (by decide) ?_
      refine v_iadd d_M_feed_113 (fun x113 => ?_)
      refine v_pI d_M_feed_114 fl_M_7 (Or.inl rfl) rfl rfl (fun M => ?_)
      refine v_aloadn d_M_feed_117 rfl 0 rfl ?_
      refine v_gI d_M_feed_118 fl_M_7 rfl (fun x118 => ?_)
      exact v_ret d_M_feed_121 rfl
  · refine v_iconst d_M_feed_18 (by decide) ?_
    exact v_ret d_M_feed_19 rfl
set_option maxHeartbeats 4000000 in
set_option maxRecDepth 100000 in
theorem c_M_end (l : Launch) (hfl : l.stackTraces = false) (a0 : Nat) (v1 : Int) (M : mm_T) : vm_Con l yX11_end (.code yX11_end cX11_end 2 (some .boolean)) 1 ex_Z [xA a0, xI v1] M (k_M_end a0 v1 M) := by
  refine vm_con (y := q_M_end) hfl (by decide +kernel) rfl (fun h => by cases h) (Nat.le_of_ble_eq_true rfl) rfl (fun _ _ _ => rfl) (fun r E h => by cases h) (fun w => ?_)
  show V_ l w q_M_end 1 ex_Z 0 [(0, xA a0), (1, xI v1)] [] M (k_M_end a0 v1 M)
  unfold k_M_end
  refine v_aloadn d_M_end_0 rfl 0 rfl ?_
  refine v_iconst d_M_end_1 (by decide) ?_
  refine v_pI d_M_end_2 fl_M_3 (Or.inl rfl) rfl rfl (fun M => ?_)
  refine v_iloadn d_M_end_5 rfl 1 rfl ?_
  refine v_iflt d_M_end_6 ?_ ?_
  · refine v_iconst d_M_end_17 (by decide) ?_
    exact v_zret d_M_end_18 rfl
  · refine v_iloadn d_M_end_9 rfl 1 rfl ?_
    refine v_aloadn d_M_end_10 rfl 0 rfl ?_
    refine v_gI d_M_end_11 fl_M_7 rfl (fun x11 => ?_)
    refine v_icle d_M_end_14 ?_ ?_
    · refine v_aloadn d_M_end_19 rfl 0 rfl ?_
      refine v_iloadn d_M_end_20 rfl 1 rfl ?_
      refine v_pI d_M_end_21 fl_M_7 (Or.inl rfl) rfl rfl (fun M => ?_)
      refine v_iconst d_M_end_24 (by decide) ?_
      exact v_zret d_M_end_25 rfl
    · refine v_iconst d_M_end_17 (by decide) ?_
      exact v_zret d_M_end_18 rfl
set_option maxHeartbeats 4000000 in
set_option maxRecDepth 100000 in
theorem c_M_begins (l : Launch) (hfl : l.stackTraces = false) (a0 : Nat) (M : mm_T) : vm_Con l yX11_begins (.code yX11_begins cX11_begins 1 none) 1 ex_V [xA a0] M (k_M_begins a0 M) := by
  refine vm_con (y := q_M_begins) hfl (by decide +kernel) rfl (fun h => by cases h) (Nat.le_of_ble_eq_true rfl) rfl (fun _ _ _ => rfl) (fun r E h => by cases h) (fun w => ?_)
  show V_ l w q_M_begins 1 ex_V 0 [(0, xA a0)] [] M (k_M_begins a0 M)
  unfold k_M_begins
  refine v_aloadn d_M_begins_0 rfl 0 rfl ?_
  refine v_aloadn d_M_begins_1 rfl 0 rfl ?_
  refine v_gI d_M_begins_2 fl_M_7 rfl (fun x2 => ?_)
  refine v_pI d_M_begins_5 fl_M_18 (Or.inl rfl) rfl rfl (fun M => ?_)
  refine v_aloadn d_M_begins_8 rfl 0 rfl ?_
  refine v_iconst d_M_begins_9 (by decide) ?_
  refine v_pI d_M_begins_10 fl_M_7 (Or.inl rfl) rfl rfl (fun M => ?_)
  refine v_aloadn d_M_begins_13 rfl 0 rfl ?_
  refine v_iconst d_M_begins_14 (by decide) ?_
  refine v_pI d_M_begins_15 fl_M_21 (Or.inl rfl) rfl rfl (fun M => ?_)
  refine v_aloadn d_M_begins_18 rfl 0 rfl ?_
  refine v_iconst d_M_begins_19 (by decide) ?_
  refine v_pI d_M_begins_20 fl_M_24 (Or.inl rfl) rfl rfl (fun M => ?_)
  exact v_vret d_M_begins_23 rfl
set_option maxHeartbeats 4000000 in
set_option maxRecDepth 100000 in
theorem c_M_hasFailed (l : Launch) (hfl : l.stackTraces = false) (a0 : Nat) (M : mm_T) : vm_Con l yX11_hasFailed (.code yX11_hasFailed cX11_hasFailed 1 (some .boolean)) 1 ex_Z [xA a0] M (k_M_hasFailed a0 M) := by
  refine vm_con (y := q_M_hasFailed) hfl (by decide +kernel) rfl (fun h => by cases h) (Nat.le_of_ble_eq_true rfl) rfl (fun _ _ _ => rfl) (fun r E h => by cases h) (fun w => ?_)
  show V_ l w q_M_hasFailed 1 ex_Z 0 [(0, xA a0)] [] M (k_M_hasFailed a0 M)
  unfold k_M_hasFailed
  refine v_aloadn d_M_hasFailed_0 rfl 0 rfl ?_
  refine v_gI d_M_hasFailed_1 fl_M_24 rfl (fun x1 => ?_)
  refine v_iconst d_M_hasFailed_4 (by decide) ?_
  refine v_iceq d_M_hasFailed_5 ?_ ?_
  · refine v_iconst d_M_hasFailed_12 (by decide) ?_
    exact v_zret d_M_hasFailed_13 rfl
  · refine v_iconst d_M_hasFailed_8 (by decide) ?_
    refine v_goto d_M_hasFailed_9 ?_
    exact v_zret d_M_hasFailed_13 rfl
set_option maxHeartbeats 4000000 in
set_option maxRecDepth 100000 in
theorem c_M_isAt (l : Launch) (hfl : l.stackTraces = false) (a0 : Nat) (v1 : Int) (v2 : Int) (M : mm_T) : vm_Con l yX11_isAt (.code yX11_isAt cX11_isAt 3 (some .boolean)) 1 ex_Z [xA a0, xI v1, xI v2] M (k_M_isAt a0 v1 v2 M) := by
  refine vm_con (y := q_M_isAt) hfl (by decide +kernel) rfl (fun h => by cases h) (Nat.le_of_ble_eq_true rfl) rfl (fun _ _ _ => rfl) (fun r E h => by cases h) (fun w => ?_)
  show V_ l w q_M_isAt 1 ex_Z 0 [(0, xA a0), (1, xI v1), (2, xI v2)] [] M (k_M_isAt a0 v1 v2 M)
  unfold k_M_isAt
  refine v_aloadn d_M_isAt_0 rfl 0 rfl ?_
  refine v_gI d_M_isAt_1 fl_M_21 rfl (fun x1 => ?_)
  refine v_aloadn d_M_isAt_4 rfl 0 rfl ?_
  refine v_gI d_M_isAt_5 fl_M_18 rfl (fun x5 => ?_)
  refine v_join0 (pj := 41) (lj := []) (sj := []) (fun M => ?_) (fun j41 hj41 => ?_)
  · refine v_iconst d_M_isAt_41 (by decide) ?_
    exact v_zret d_M_isAt_42 rfl
  refine v_icge d_M_isAt_8 ?_ ?_
  · refine v_sub (ls' := []) [] rfl ?_
    exact hj41 M
  · refine v_aloadn d_M_isAt_11 rfl 0 rfl ?_
    refine v_gR d_M_isAt_12 fl_M_14 rfl (fun r12 => ?_)
    refine v_aloadn d_M_isAt_15 rfl 0 rfl ?_
    refine v_gI d_M_isAt_16 fl_M_21 rfl (fun x16 => ?_)
    refine v_bald d_M_isAt_19 (fun x19 => ?_)
    refine v_iloadn d_M_isAt_20 rfl 1 rfl ?_
    refine v_iclt d_M_isAt_21 ?_ ?_
    · refine v_sub (ls' := []) [] rfl ?_
      exact hj41 M
    · refine v_aloadn d_M_isAt_24 rfl 0 rfl ?_
      refine v_gR d_M_isAt_25 fl_M_14 rfl (fun r25 => ?_)
      refine v_aloadn d_M_isAt_28 rfl 0 rfl ?_
      refine v_gI d_M_isAt_29 fl_M_21 rfl (fun x29 => ?_)
      refine v_bald d_M_isAt_32 (fun x32 => ?_)
      refine v_iloadn d_M_isAt_33 rfl 2 rfl ?_
      refine v_icgt d_M_isAt_34 ?_ ?_
      · refine v_sub (ls' := []) [] rfl ?_
        exact hj41 M
      · refine v_iconst d_M_isAt_37 (by decide) ?_
        refine v_goto d_M_isAt_38 ?_
        exact v_zret d_M_isAt_42 rfl
set_option maxHeartbeats 4000000 in
set_option maxRecDepth 100000 in
theorem V_lp_M_blanks_0 {l : Launch} {w : vm_W} (hfl : l.stackTraces = false) (kx35 : mm_T → Option (Unit × mm_T)) (a0 : Nat) (hkx35 : ∀ (M : mm_T), V_ l w q_M_blanks 2 ex_V 35 [(0, xA a0)] [] M (kx35 M)) : ∀ (f : Nat) (M : mm_T), V_ l w q_M_blanks 2 ex_V 0 [(0, xA a0)] [] M (lp_M_blanks_0 kx35 a0 f M) := by
  intro f
  induction f with
  | zero => intros; exact V_.none
  | succ f ih =>
    intro M
    unfold lp_M_blanks_0
    refine v_aloadn d_M_blanks_0 rfl 0 rfl ?_
    refine v_bipush d_M_blanks_1 (by decide) ?_
    refine v_bipush d_M_blanks_3 (by decide) ?_
    refine v_cVi d_M_blanks_5 ml_M_27 (q := (RX11, TX11, 32)) rfl (c_M_isAt l hfl a0 9 10 M) (fun _ => rfl) (by decide) (by decide) (as := [xI 9, xI 10]) (st1 := []) rfl rfl (Nat.le_of_ble_eq_true rfl) (fun c5 M => ?_)
    refine v_join0 (pj := 22) (lj := [(0, xA a0)]) (sj := []) (fun M => ?_) (fun j22 hj22 => ?_)
    · refine v_aloadn d_M_blanks_22 rfl 0 rfl ?_
      refine v_dup d_M_blanks_23 rfl ?_
      refine v_gI d_M_blanks_24 fl_M_21 rfl (fun x24 => ?_)
      refine v_iconst d_M_blanks_27 (by decide) ?_
      refine v_iadd d_M_blanks_28 (fun x28 => ?_)
      refine v_pI d_M_blanks_29 fl_M_21 (Or.inl rfl) rfl rfl (fun M => ?_)
      refine v_goto d_M_blanks_32 ?_
      exact ih M
    refine v_ifne d_M_blanks_8 ?_ ?_
    · exact hj22 M
    · refine v_aloadn d_M_blanks_11 rfl 0 rfl ?_
      refine v_bipush d_M_blanks_12 (by decide) ?_
      refine v_bipush d_M_blanks_14 (by decide) ?_
      refine v_cVi d_M_blanks_16 ml_M_27 (q := (RX11, TX11, 32)) rfl (c_M_isAt l hfl a0 32 32 M) (fun _ => rfl) (by decide) (by decide) (as := [xI 32, xI 32]) (st1 := []) rfl rfl (Nat.le_of_ble_eq_true rfl) (fun c16 M => ?_)
      refine v_ifeq d_M_blanks_19 ?_ ?_
      · exact hkx35 M
      · exact hj22 M
set_option maxHeartbeats 4000000 in
set_option maxRecDepth 100000 in
theorem c_M_blanks (l : Launch) (hfl : l.stackTraces = false) (a0 : Nat) (M : mm_T) : vm_Con l yX11_blanks (.code yX11_blanks cX11_blanks 1 none) 2 ex_V [xA a0] M (k_M_blanks a0 M) := by
  refine vm_con (y := q_M_blanks) hfl (by decide +kernel) rfl (fun h => by cases h) (Nat.le_of_ble_eq_true rfl) rfl (fun _ _ _ => rfl) (fun r E h => by cases h) (fun w => ?_)
  show V_ l w q_M_blanks 2 ex_V 0 [(0, xA a0)] [] M (k_M_blanks a0 M)
  unfold k_M_blanks
  refine V_lp_M_blanks_0 hfl _ _ (fun M => ?_) _ _
  · refine v_aloadn d_M_blanks_35 rfl 0 rfl ?_
    refine v_aloadn d_M_blanks_36 rfl 0 rfl ?_
    refine v_gI d_M_blanks_37 fl_M_21 rfl (fun x37 => ?_)
    refine v_pI d_M_blanks_40 fl_M_31 (Or.inl rfl) rfl rfl (fun M => ?_)
    exact v_vret d_M_blanks_43 rfl
set_option maxHeartbeats 4000000 in
set_option maxRecDepth 100000 in
theorem c_M_fails (l : Launch) (hfl : l.stackTraces = false) (a0 : Nat) (M : mm_T) : vm_Con l yX11_fails (.code yX11_fails cX11_fails 1 none) 1 ex_V [xA a0] M (k_M_fails a0 M) := by
  refine vm_con (y := q_M_fails) hfl (by decide +kernel) rfl (fun h => by cases h) (Nat.le_of_ble_eq_true rfl) rfl (fun _ _ _ => rfl) (fun r E h => by cases h) (fun w => ?_)
  show V_ l w q_M_fails 1 ex_V 0 [(0, xA a0)] [] M (k_M_fails a0 M)
  unfold k_M_fails
  refine v_aloadn d_M_fails_0 rfl 0 rfl ?_
  refine v_gI d_M_fails_1 fl_M_24 rfl (fun x1 => ?_)
  refine v_iconst d_M_fails_4 (by decide) ?_
  refine v_icne d_M_fails_5 ?_ ?_
  · exact v_vret d_M_fails_16 rfl
  · refine v_aloadn d_M_fails_8 rfl 0 rfl ?_
    refine v_aloadn d_M_fails_9 rfl 0 rfl ?_
    refine v_gI d_M_fails_10 fl_M_31 rfl (fun x10 => ?_)
    refine v_pI d_M_fails_13 fl_M_24 (Or.inl rfl) rfl rfl (fun M => ?_)
    exact v_vret d_M_fails_16 rfl
set_option maxHeartbeats 4000000 in
set_option maxRecDepth 100000 in
theorem c_M_asksSign (l : Launch) (hfl : l.stackTraces = false) (a0 : Nat) (v1 : Int) (M : mm_T) : vm_Con l yX11_asksSign (.code yX11_asksSign cX11_asksSign 2 none) 3 ex_V [xA a0, xI v1] M (k_M_asksSign a0 v1 M) := by
  refine vm_con (y := q_M_asksSign) hfl (by decide +kernel) rfl (fun h => by cases h) (Nat.le_of_ble_eq_true rfl) rfl (fun _ _ _ => rfl) (fun r E h => by cases h) (fun w => ?_)
  show V_ l w q_M_asksSign 3 ex_V 0 [(0, xA a0), (1, xI v1)] [] M (k_M_asksSign a0 v1 M)
  unfold k_M_asksSign
  refine v_aloadn d_M_asksSign_0 rfl 0 rfl ?_
  refine v_cVv d_M_asksSign_1 ml_M_34 (q := (RX11, TX11, 32)) rfl (c_M_blanks l hfl a0 M) (fun _ => rfl) (by decide) (by decide) (as := []) (st1 := []) rfl rfl (Nat.le_of_ble_eq_true rfl) (fun _ M => ?_)
  refine v_aloadn d_M_asksSign_4 rfl 0 rfl ?_
  refine v_cVi d_M_asksSign_5 ml_M_38 (q := (RX11, TX11, 32)) rfl (c_M_hasFailed l hfl a0 M) (fun _ => rfl) (by decide) (by decide) (as := []) (st1 := []) rfl rfl (Nat.le_of_ble_eq_true rfl) (fun c5 M => ?_)
  refine v_ifeq d_M_asksSign_8 ?_ ?_
  · refine v_aloadn d_M_asksSign_12 rfl 0 rfl ?_
    refine v_iloadn d_M_asksSign_13 rfl 1 rfl ?_
    refine v_iloadn d_M_asksSign_14 rfl 1 rfl ?_
    refine v_cVi d_M_asksSign_15 ml_M_27 (q := (RX11, TX11, 32)) rfl (c_M_isAt l hfl a0 v1 v1 M) (fun _ => rfl) (by decide) (by decide) (as := [xI v1, xI v1]) (st1 := []) rfl rfl (Nat.le_of_ble_eq_true rfl) (fun c15 M => ?_)
    refine v_ifeq d_M_asksSign_18 ?_ ?_
    · refine v_aloadn d_M_asksSign_34 rfl 0 rfl ?_
      refine v_cVv d_M_asksSign_35 ml_M_42 (q := (RX11, TX11, 32)) rfl (c_M_fails l hfl a0 M) (fun _ => rfl) (by decide) (by decide) (as := []) (st1 := []) rfl rfl (Nat.le_of_ble_eq_true rfl) (fun _ M => ?_)
      exact v_vret d_M_asksSign_38 rfl
    · refine v_aloadn d_M_asksSign_21 rfl 0 rfl ?_
      refine v_dup d_M_asksSign_22 rfl ?_
      refine v_gI d_M_asksSign_23 fl_M_21 rfl (fun x23 => ?_)
      refine v_iconst d_M_asksSign_26 (by decide) ?_
      refine v_iadd d_M_asksSign_27 (fun x27 => ?_)
      refine v_pI d_M_asksSign_28 fl_M_21 (Or.inl rfl) rfl rfl (fun M => ?_)
      refine v_goto d_M_asksSign_31 ?_
      exact v_vret d_M_asksSign_38 rfl
  · exact v_vret d_M_asksSign_11 rfl
set_option maxHeartbeats 4000000 in
set_option maxRecDepth 100000 in
theorem V_lp_M_wordMany_9 {l : Launch} {w : vm_W} (hfl : l.stackTraces = false) (kx45 : Int → mm_T → Option (Int × mm_T)) (a0 : Nat) (hkx45 : ∀ (v1_e : Int) (M : mm_T), V_ l w q_M_wordMany 3 ex_I 45 [(0, xA a0), (1, xI v1_e)] [] M (kx45 v1_e M)) : ∀ (f : Nat) (v1 : Int) (M : mm_T), V_ l w q_M_wordMany 3 ex_I 9 [(0, xA a0), (1, xI v1)] [] M (lp_M_wordMany_9 kx45 a0 f v1 M) := by
  intro f
  induction f with
  | zero => intros; exact V_.none
  | succ f ih =>
    intro v1 M
    unfold lp_M_wordMany_9
    refine v_iloadn d_M_wordMany_9 rfl 1 rfl ?_
    refine v_aloadn d_M_wordMany_10 rfl 0 rfl ?_
    refine v_gI d_M_wordMany_11 fl_M_18 rfl (fun x11 => ?_)
    refine v_icge d_M_wordMany_14 ?_ ?_
    · exact hkx45 v1 M
    · refine v_aloadn d_M_wordMany_17 rfl 0 rfl ?_
      refine v_gR d_M_wordMany_18 fl_M_14 rfl (fun r18 => ?_)
      refine v_iloadn d_M_wordMany_21 rfl 1 rfl ?_
      refine v_bald d_M_wordMany_22 (fun x22 => ?_)
      refine v_bipush d_M_wordMany_23 (by decide) ?_
      refine v_iclt d_M_wordMany_25 ?_ ?_
      · exact hkx45 v1 M
      · refine v_aloadn d_M_wordMany_28 rfl 0 rfl ?_
        refine v_gR d_M_wordMany_29 fl_M_14 rfl (fun r29 => ?_)
        refine v_iloadn d_M_wordMany_32 rfl 1 rfl ?_
        refine v_bald d_M_wordMany_33 (fun x33 => ?_)
        refine v_bipush d_M_wordMany_34 (by decide) ?_
        refine v_icgt d_M_wordMany_36 ?_ ?_
        · exact hkx45 v1 M
        · refine v_iinc (lz := fun z => [(1, xI z), (0, xA a0)]) d_M_wordMany_39 1 rfl (Nat.le_of_ble_eq_true rfl) (fun _ => rfl) (fun v1_39 => ?_)
          refine v_goto d_M_wordMany_42 ?_
          refine v_sub (ls' := [(0, xA a0), (1, xI v1_39)]) [1, 0] rfl ?_
          exact ih v1_39 M
set_option maxHeartbeats 4000000 in
set_option maxRecDepth 100000 in
theorem c_M_wordMany (l : Launch) (hfl : l.stackTraces = false) (a0 : Nat) (M : mm_T) : vm_Con l yX11_wordMany (.code yX11_wordMany cX11_wordMany 2 (some .int)) 3 ex_I [xA a0] M (k_M_wordMany a0 M) := by
  refine vm_con (y := q_M_wordMany) hfl (by decide +kernel) rfl (fun h => by cases h) (Nat.le_of_ble_eq_true rfl) rfl (fun _ _ _ => rfl) (fun r E h => by cases h) (fun w => ?_)
  show V_ l w q_M_wordMany 3 ex_I 0 [(0, xA a0)] [] M (k_M_wordMany a0 M)
  unfold k_M_wordMany
  refine v_aloadn d_M_wordMany_0 rfl 0 rfl ?_
  refine v_cVv d_M_wordMany_1 ml_M_34 (q := (RX11, TX11, 32)) rfl (c_M_blanks l hfl a0 M) (fun _ => rfl) (by decide) (by decide) (as := []) (st1 := []) rfl rfl (Nat.le_of_ble_eq_true rfl) (fun _ M => ?_)
  refine v_aloadn d_M_wordMany_4 rfl 0 rfl ?_
  refine v_gI d_M_wordMany_5 fl_M_21 rfl (fun x5 => ?_)
  refine v_istoren (lz := fun z => [(1, xI z), (0, xA a0)]) d_M_wordMany_8 rfl (Nat.le_of_ble_eq_true rfl) (fun _ => rfl) (fun v1_8 => ?_)
  refine v_sub (ls' := [(0, xA a0), (1, xI v1_8)]) [1, 0] rfl ?_
  refine V_lp_M_wordMany_9 hfl _ _ (fun v1_45 M => ?_) _ _ _
  · refine v_iloadn d_M_wordMany_45 rfl 1 rfl ?_
    refine v_aloadn d_M_wordMany_46 rfl 0 rfl ?_
    refine v_gI d_M_wordMany_47 fl_M_21 rfl (fun x47 => ?_)
    refine v_isub d_M_wordMany_50 (fun x50 => ?_)
    exact v_ret d_M_wordMany_51 rfl
set_option maxHeartbeats 4000000 in
set_option maxRecDepth 100000 in
theorem V_lp_M_isWord_26 {l : Launch} {w : vm_W} (hfl : l.stackTraces = false) (kx69 : Int → mm_T → Option (Int × mm_T)) (a0 : Nat) (a1 : Nat) (hkx69 : ∀ (v2_e : Int) (M : mm_T), V_ l w q_M_isWord 6 ex_Z 69 [(2, xI v2_e)] [] M (kx69 v2_e M)) : ∀ (f : Nat) (v2 : Int) (v3 : Int) (M : mm_T), V_ l w q_M_isWord 6 ex_Z 26 [(0, xA a0), (1, xA a1), (2, xI v2), (3, xI v3)] [] M (lp_M_isWord_26 kx69 a0 a1 f v2 v3 M) := by
  intro f
  induction f with
  | zero => intros; exact V_.none
  | succ f ih =>
    intro v2 v3 M
    unfold lp_M_isWord_26
    refine v_iloadn d_M_isWord_26 rfl 2 rfl ?_
    refine v_ifeq d_M_isWord_27 ?_ ?_
    · refine v_sub (ls' := [(2, xI v2)]) [2] rfl ?_
      exact hkx69 v2 M
    · refine v_iloadn d_M_isWord_30 rfl 3 rfl ?_
      refine v_aloadn d_M_isWord_31 rfl 1 rfl ?_
      refine v_sle d_M_isWord_32 gw_1514 (by first | decide | omega) (Nat.le_of_ble_eq_true rfl) (fun x32 => ?_)
      refine v_icge d_M_isWord_35 ?_ ?_
      · refine v_sub (ls' := [(2, xI v2)]) [2] rfl ?_
        exact hkx69 v2 M
      · refine v_aloadn d_M_isWord_38 rfl 0 rfl ?_
        refine v_gR d_M_isWord_39 fl_M_14 rfl (fun r39 => ?_)
        refine v_aloadn d_M_isWord_42 rfl 0 rfl ?_
        refine v_gI d_M_isWord_43 fl_M_21 rfl (fun x43 => ?_)
        refine v_iloadn d_M_isWord_46 rfl 3 rfl ?_
        refine v_iadd d_M_isWord_47 (fun x47 => ?_)
        refine v_bald d_M_isWord_48 (fun x48 => ?_)
        refine v_aloadn d_M_isWord_49 rfl 1 rfl ?_
        refine v_iloadn d_M_isWord_50 rfl 3 rfl ?_
        refine v_sch d_M_isWord_51 gw_1515 (by first | decide | omega) (Nat.le_of_ble_eq_true rfl) (fun x51 => ?_)
        refine v_join1 (pj := 62) (lj := fun s0_62 => [(0, xA a0), (1, xA a1), (3, xI v3)]) (sj := fun s0_62 => [xI s0_62]) (fun s0_62 M => ?_) (fun j62 hj62 => ?_)
        · refine v_istoren (lz := fun z => [(2, xI z), (0, xA a0), (1, xA a1), (3, xI v3)]) d_M_isWord_62 rfl (Nat.le_of_ble_eq_true rfl) (fun _ => rfl) (fun v2_62 => ?_)
          refine v_iinc (lz := fun z => [(3, xI z), (2, xI v2_62), (0, xA a0), (1, xA a1)]) d_M_isWord_63 3 rfl (Nat.le_of_ble_eq_true rfl) (fun _ => rfl) (fun v3_63 => ?_)
          refine v_goto d_M_isWord_66 ?_
          refine v_sub (ls' := [(0, xA a0), (1, xA a1), (2, xI v2_62), (3, xI v3_63)]) [2, 3, 1, 0] rfl ?_
          exact ih v2_62 v3_63 M
        refine v_icne d_M_isWord_54 ?_ ?_
        · refine v_iconst d_M_isWord_61 (by decide) ?_
          refine v_sub (ls' := [(0, xA a0), (1, xA a1), (3, xI v3)]) [0, 1, 3] rfl ?_
          exact hj62 0 M
        · refine v_iconst d_M_isWord_57 (by decide) ?_
          refine v_goto d_M_isWord_58 ?_
          refine v_sub (ls' := [(0, xA a0), (1, xA a1), (3, xI v3)]) [0, 1, 3] rfl ?_
          exact hj62 1 M
set_option maxHeartbeats 4000000 in
set_option maxRecDepth 100000 in
theorem c_M_isWord (l : Launch) (hfl : l.stackTraces = false) (a0 : Nat) (a1 : Nat) (M : mm_T) : vm_Con l yX11_isWord (.code yX11_isWord cX11_isWord 4 (some .boolean)) 6 ex_Z [xA a0, xA a1] M (k_M_isWord a0 a1 M) := by
  refine vm_con (y := q_M_isWord) hfl (by decide +kernel) rfl (fun h => by cases h) (Nat.le_of_ble_eq_true rfl) rfl (fun _ _ _ => rfl) (fun r E h => by cases h) (fun w => ?_)
  show V_ l w q_M_isWord 6 ex_Z 0 [(0, xA a0), (1, xA a1)] [] M (k_M_isWord a0 a1 M)
  unfold k_M_isWord
  refine v_aloadn d_M_isWord_0 rfl 0 rfl ?_
  refine v_cVi d_M_isWord_1 ml_M_38 (q := (RX11, TX11, 32)) rfl (c_M_hasFailed l hfl a0 M) (fun _ => rfl) (by decide) (by decide) (as := []) (st1 := []) rfl rfl (Nat.le_of_ble_eq_true rfl) (fun c1 M => ?_)
  refine v_join1 (pj := 23) (lj := fun s0_23 => [(0, xA a0), (1, xA a1)]) (sj := fun s0_23 => [xI s0_23]) (fun s0_23 M => ?_) (fun j23 hj23 => ?_)
  · refine v_istoren (lz := fun z => [(2, xI z), (0, xA a0), (1, xA a1)]) d_M_isWord_23 rfl (Nat.le_of_ble_eq_true rfl) (fun _ => rfl) (fun v2_23 => ?_)
    refine v_iconst d_M_isWord_24 (by decide) ?_
    refine v_istoren (lz := fun z => [(3, xI z), (2, xI v2_23), (0, xA a0), (1, xA a1)]) d_M_isWord_25 rfl (Nat.le_of_ble_eq_true rfl) (fun _ => rfl) (fun v3_25 => ?_)
    refine v_sub (ls' := [(0, xA a0), (1, xA a1), (2, xI v2_23), (3, xI v3_25)]) [2, 3, 1, 0] rfl ?_
    refine V_lp_M_isWord_26 hfl _ _ _ (fun v2_69 M => ?_) _ _ _ _
    · refine v_iloadn d_M_isWord_69 rfl 0 rfl ?_
      exact v_zret d_M_isWord_70 rfl
  refine v_join0 (pj := 22) (lj := [(0, xA a0), (1, xA a1)]) (sj := []) (fun M => ?_) (fun j22 hj22 => ?_)
  · refine v_iconst d_M_isWord_22 (by decide) ?_
    exact hj23 0 M
  refine v_ifne d_M_isWord_4 ?_ ?_
  · exact hj22 M
  · refine v_aloadn d_M_isWord_7 rfl 0 rfl ?_
    refine v_cVi d_M_isWord_8 ml_M_45 (q := (RX11, TX11, 32)) rfl (c_M_wordMany l hfl a0 M) (fun _ => rfl) (by decide) (by decide) (as := []) (st1 := []) rfl rfl (Nat.le_of_ble_eq_true rfl) (fun c8 M => ?_)
    refine v_aloadn d_M_isWord_11 rfl 1 rfl ?_
    refine v_sle d_M_isWord_12 gw_1514 (by first | decide | omega) (Nat.le_of_ble_eq_true rfl) (fun x12 => ?_)
    refine v_icne d_M_isWord_15 ?_ ?_
    · exact hj22 M
    · refine v_iconst d_M_isWord_18 (by decide) ?_
      refine v_goto d_M_isWord_19 ?_
      exact hj23 1 M
set_option maxHeartbeats 4000000 in
set_option maxRecDepth 100000 in
theorem c_M_takesWord (l : Launch) (hfl : l.stackTraces = false) (a0 : Nat) (a1 : Nat) (M : mm_T) : vm_Con l yX11_takesWord (.code yX11_takesWord cX11_takesWord 3 (some .boolean)) 7 ex_Z [xA a0, xA a1] M (k_M_takesWord a0 a1 M) := by
  refine vm_con (y := q_M_takesWord) hfl (by decide +kernel) rfl (fun h => by cases h) (Nat.le_of_ble_eq_true rfl) rfl (fun _ _ _ => rfl) (fun r E h => by cases h) (fun w => ?_)
  show V_ l w q_M_takesWord 7 ex_Z 0 [(0, xA a0), (1, xA a1)] [] M (k_M_takesWord a0 a1 M)
  unfold k_M_takesWord
  refine v_aloadn d_M_takesWord_0 rfl 0 rfl ?_
  refine v_aloadn d_M_takesWord_1 rfl 1 rfl ?_
  refine v_cVi d_M_takesWord_2 ml_M_58 (q := (RX11, TX11, 32)) rfl (c_M_isWord l hfl a0 a1 M) (fun _ => rfl) (by decide) (by decide) (as := [xA a1]) (st1 := []) rfl rfl (Nat.le_of_ble_eq_true rfl) (fun c2 M => ?_)
  refine v_istoren (lz := fun z => [(2, xI z), (0, xA a0), (1, xA a1)]) d_M_takesWord_5 rfl (Nat.le_of_ble_eq_true rfl) (fun _ => rfl) (fun v2_5 => ?_)
  refine v_iloadn d_M_takesWord_6 rfl 0 rfl ?_
  refine v_ifeq d_M_takesWord_7 ?_ ?_
  · refine v_iloadn d_M_takesWord_23 rfl 0 rfl ?_
    exact v_zret d_M_takesWord_24 rfl
  · refine v_aloadn d_M_takesWord_10 rfl 1 rfl ?_
    refine v_dup d_M_takesWord_11 rfl ?_
    refine v_gI d_M_takesWord_12 fl_M_21 rfl (fun x12 => ?_)
    refine v_aloadn d_M_takesWord_15 rfl 2 rfl ?_
    refine v_sle d_M_takesWord_16 gw_1514 (by first | decide | omega) (Nat.le_of_ble_eq_true rfl) (fun x16 => ?_)
    refine v_iadd d_M_takesWord_19 (fun x19 => ?_)
    refine v_pI d_M_takesWord_20 fl_M_21 (Or.inl rfl) rfl rfl (fun M => ?_)
    refine v_iloadn d_M_takesWord_23 rfl 0 rfl ?_
    exact v_zret d_M_takesWord_24 rfl
set_option maxHeartbeats 4000000 in
set_option maxRecDepth 100000 in
theorem c_M_asksWord (l : Launch) (hfl : l.stackTraces = false) (a0 : Nat) (a1 : Nat) (M : mm_T) : vm_Con l yX11_asksWord (.code yX11_asksWord cX11_asksWord 2 none) 8 ex_V [xA a0, xA a1] M (k_M_asksWord a0 a1 M) := by
  refine vm_con (y := q_M_asksWord) hfl (by decide +kernel) rfl (fun h => by cases h) (Nat.le_of_ble_eq_true rfl) rfl (fun _ _ _ => rfl) (fun r E h => by cases h) (fun w => ?_)
  show V_ l w q_M_asksWord 8 ex_V 0 [(0, xA a0), (1, xA a1)] [] M (k_M_asksWord a0 a1 M)
  unfold k_M_asksWord
  refine v_aloadn d_M_asksWord_0 rfl 0 rfl ?_
  refine v_cVi d_M_asksWord_1 ml_M_38 (q := (RX11, TX11, 32)) rfl (c_M_hasFailed l hfl a0 M) (fun _ => rfl) (by decide) (by decide) (as := []) (st1 := []) rfl rfl (Nat.le_of_ble_eq_true rfl) (fun c1 M => ?_)
  refine v_ifne d_M_asksWord_4 ?_ ?_
  · exact v_vret d_M_asksWord_19 rfl
  · refine v_aloadn d_M_asksWord_7 rfl 0 rfl ?_
    refine v_aloadn d_M_asksWord_8 rfl 1 rfl ?_
    refine v_cVi d_M_asksWord_9 ml_M_62 (q := (RX11, TX11, 32)) rfl (c_M_takesWord l hfl a0 a1 M) (fun _ => rfl) (by decide) (by decide) (as := [xA a1]) (st1 := []) rfl rfl (Nat.le_of_ble_eq_true rfl) (fun c9 M => ?_)
    refine v_ifne d_M_asksWord_12 ?_ ?_
    · exact v_vret d_M_asksWord_19 rfl
    · refine v_aloadn d_M_asksWord_15 rfl 0 rfl ?_
      refine v_cVv d_M_asksWord_16 ml_M_42 (q := (RX11, TX11, 32)) rfl (c_M_fails l hfl a0 M) (fun _ => rfl) (by decide) (by decide) (as := []) (st1 := []) rfl rfl (Nat.le_of_ble_eq_true rfl) (fun _ M => ?_)
      exact v_vret d_M_asksWord_19 rfl
set_option maxHeartbeats 4000000 in
set_option maxRecDepth 100000 in
theorem V_lp_M_number_15 {l : Launch} {w : vm_W} (hfl : l.stackTraces = false) (kx70 : Int → mm_T → Option (Int × mm_T)) (a0 : Nat) {v1 : Int} {v2 : Int} (hkx70 : ∀ (v3_e : Int) (M : mm_T), V_ l w q_M_number 3 ex_I 70 [(0, xA a0), (1, xI v1), (2, xI v2), (3, xI v3_e)] [] M (kx70 v3_e M)) : ∀ (f : Nat) (v3 : Int) (M : mm_T), V_ l w q_M_number 3 ex_I 15 [(0, xA a0), (1, xI v1), (2, xI v2), (3, xI v3)] [] M (lp_M_number_15 kx70 a0 f v3 M) := by
  intro f
  induction f with
  | zero => intros; exact V_.none
  | succ f ih =>
    intro v3 M
    unfold lp_M_number_15
    refine v_aloadn d_M_number_15 rfl 0 rfl ?_
    refine v_bipush d_M_number_16 (by decide) ?_
    refine v_bipush d_M_number_18 (by decide) ?_
    refine v_cVi d_M_number_20 ml_M_27 (q := (RX11, TX11, 32)) rfl (c_M_isAt l hfl a0 48 57 M) (fun _ => rfl) (by decide) (by decide) (as := [xI 48, xI 57]) (st1 := []) rfl rfl (Nat.le_of_ble_eq_true rfl) (fun c20 M => ?_)
    refine v_ifeq d_M_number_23 ?_ ?_
    · exact hkx70 v3 M
    · refine v_aloadn d_M_number_26 rfl 0 rfl ?_
      refine v_gI d_M_number_27 fl_M_21 rfl (fun x27 => ?_)
      refine v_aloadn d_M_number_30 rfl 0 rfl ?_
      refine v_gI d_M_number_31 fl_M_31 rfl (fun x31 => ?_)
      refine v_isub d_M_number_34 (fun x34 => ?_)
      refine v_iconst d_M_number_35 (by decide) ?_
      refine v_join1 (pj := 57) (lj := fun v3_57 => [(0, xA a0), (1, xI v1), (2, xI v2), (3, xI v3_57)]) (sj := fun v3_57 => []) (fun v3_57 M => ?_) (fun j57 hj57 => ?_)
      · refine v_aloadn d_M_number_57 rfl 0 rfl ?_
        refine v_dup d_M_number_58 rfl ?_
        refine v_gI d_M_number_59 fl_M_21 rfl (fun x59 => ?_)
        refine v_iconst d_M_number_62 (by decide) ?_
        refine v_iadd d_M_number_63 (fun x63 => ?_)
        refine v_pI d_M_number_64 fl_M_21 (Or.inl rfl) rfl rfl (fun M => ?_)
        refine v_goto d_M_number_67 ?_
        exact ih v3_57 M
      refine v_icge d_M_number_36 ?_ ?_
      · exact hj57 v3 M
      · refine v_bipush d_M_number_39 (by decide) ?_
        refine v_iloadn d_M_number_41 rfl 3 rfl ?_
        refine v_imul d_M_number_42 (fun x42 => ?_)
        refine v_aloadn d_M_number_43 rfl 0 rfl ?_
        refine v_gR d_M_number_44 fl_M_14 rfl (fun r44 => ?_)
        refine v_aloadn d_M_number_47 rfl 0 rfl ?_
        refine v_gI d_M_number_48 fl_M_21 rfl (fun x48 => ?_)
        refine v_bald d_M_number_51 (fun x51 => ?_)
        refine v_iadd d_M_number_52 (fun x52 => ?_)
        refine v_bipush d_M_number_53 (by decide) ?_
        refine v_isub d_M_number_55 (fun x55 => ?_)
        refine v_istoren (lz := fun z => [(3, xI z), (0, xA a0), (1, xI v1), (2, xI v2)]) d_M_number_56 rfl (Nat.le_of_ble_eq_true rfl) (fun _ => rfl) (fun v3_56 => ?_)
        refine v_sub (ls' := [(0, xA a0), (1, xI v1), (2, xI v2), (3, xI v3_56)]) [1, 2, 3, 0] rfl ?_
        exact hj57 v3_56 M
set_option maxHeartbeats 4000000 in
set_option maxRecDepth 100000 in
theorem c_M_number (l : Launch) (hfl : l.stackTraces = false) (a0 : Nat) (v1 : Int) (v2 : Int) (M : mm_T) : vm_Con l yX11_number (.code yX11_number cX11_number 5 (some .int)) 3 ex_I [xA a0, xI v1, xI v2] M (k_M_number a0 v1 v2 M) := by
  refine vm_con (y := q_M_number) hfl (by decide +kernel) rfl (fun h => by cases h) (Nat.le_of_ble_eq_true rfl) rfl (fun _ _ _ => rfl) (fun r E h => by cases h) (fun w => ?_)
  show V_ l w q_M_number 3 ex_I 0 [(0, xA a0), (1, xI v1), (2, xI v2)] [] M (k_M_number a0 v1 v2 M)
  unfold k_M_number
  refine v_aloadn d_M_number_0 rfl 0 rfl ?_
  refine v_cVi d_M_number_1 ml_M_38 (q := (RX11, TX11, 32)) rfl (c_M_hasFailed l hfl a0 M) (fun _ => rfl) (by decide) (by decide) (as := []) (st1 := []) rfl rfl (Nat.le_of_ble_eq_true rfl) (fun c1 M => ?_)
  refine v_ifeq d_M_number_4 ?_ ?_
  · refine v_aloadn d_M_number_9 rfl 0 rfl ?_
    refine v_cVv d_M_number_10 ml_M_34 (q := (RX11, TX11, 32)) rfl (c_M_blanks l hfl a0 M) (fun _ => rfl) (by decide) (by decide) (as := []) (st1 := []) rfl rfl (Nat.le_of_ble_eq_true rfl) (fun _ M => ?_)
    refine v_iconst d_M_number_13 (by decide) ?_
    refine v_istoren (lz := fun z => [(3, xI z), (0, xA a0), (1, xI v1), (2, xI v2)]) d_M_number_14 rfl (Nat.le_of_ble_eq_true rfl) (fun _ => rfl) (fun v3_14 => ?_)
    refine v_sub (ls' := [(0, xA a0), (1, xI v1), (2, xI v2), (3, xI v3_14)]) [1, 2, 3, 0] rfl ?_
    refine V_lp_M_number_15 hfl _ _ (fun v3_70 M => ?_) _ _ _
    · refine v_aloadn d_M_number_70 rfl 0 rfl ?_
      refine v_gI d_M_number_71 fl_M_21 rfl (fun x71 => ?_)
      refine v_aloadn d_M_number_74 rfl 0 rfl ?_
      refine v_gI d_M_number_75 fl_M_31 rfl (fun x75 => ?_)
      refine v_isub d_M_number_78 (fun x78 => ?_)
      refine v_istore (lz := fun z => [(4, xI z), (0, xA a0), (1, xI v1), (2, xI v2), (3, xI v3_70)]) d_M_number_79 (Nat.le_of_ble_eq_true rfl) (fun _ => rfl) (fun v4_79 => ?_)
      refine v_iload d_M_number_81 0 rfl ?_
      refine v_join0 (pj := 101) (lj := [(0, xA a0), (3, xI v3_70)]) (sj := []) (fun M => ?_) (fun j101 hj101 => ?_)
      · refine v_aloadn d_M_number_101 rfl 0 rfl ?_
        refine v_cVv d_M_number_102 ml_M_42 (q := (RX11, TX11, 32)) rfl (c_M_fails l hfl a0 M) (fun _ => rfl) (by decide) (by decide) (as := []) (st1 := []) rfl rfl (Nat.le_of_ble_eq_true rfl) (fun _ M => ?_)
        refine v_iloadn d_M_number_105 rfl 1 rfl ?_
        exact v_ret d_M_number_106 rfl
      refine v_ifeq d_M_number_83 ?_ ?_
      · refine v_sub (ls' := [(0, xA a0), (3, xI v3_70)]) [1, 4] rfl ?_
        exact hj101 M
      · refine v_iload d_M_number_86 0 rfl ?_
        refine v_iconst d_M_number_88 (by decide) ?_
        refine v_icgt d_M_number_89 ?_ ?_
        · refine v_sub (ls' := [(0, xA a0), (3, xI v3_70)]) [1, 4] rfl ?_
          exact hj101 M
        · refine v_iloadn d_M_number_92 rfl 4 rfl ?_
          refine v_iloadn d_M_number_93 rfl 2 rfl ?_
          refine v_iloadn d_M_number_94 rfl 3 rfl ?_
          refine v_cSi d_M_number_95 ml_M_65 (c_M_in l hfl v3_70 v1 v2 M) (fun _ => rfl) (by decide) (by decide) (as := [xI v3_70, xI v1, xI v2]) (st1 := []) rfl rfl (Nat.le_of_ble_eq_true rfl) (fun c95 M => ?_)
          refine v_ifne d_M_number_98 ?_ ?_
          · refine v_iloadn d_M_number_105 rfl 4 rfl ?_
            exact v_ret d_M_number_106 rfl
          · refine v_sub (ls' := [(0, xA a0), (3, xI v3_70)]) [1, 4] rfl ?_
            exact hj101 M
  · refine v_iloadn d_M_number_7 rfl 1 rfl ?_
    exact v_ret d_M_number_8 rfl
set_option maxHeartbeats 4000000 in
set_option maxRecDepth 100000 in
theorem V_lp_M_letters_28 {l : Launch} {w : vm_W} (hfl : l.stackTraces = false) (kx69 : Int → mm_T → Option (Int × mm_T)) (a0 : Nat) (v1 : Int) (v2 : Int) (v5 : Int) {a3 : Nat} {v4 : Int} (hkx69 : ∀ (v6_e : Int) (M : mm_T), V_ l w q_M_letters 4 ex_I 69 [(0, xA a0), (1, xI v1), (3, xA a3), (4, xI v4), (5, xI v5), (6, xI v6_e)] [] M (kx69 v6_e M)) : ∀ (f : Nat) (v6 : Int) (v7 : Int) (M : mm_T), V_ l w q_M_letters 4 ex_I 28 [(0, xA a0), (1, xI v1), (2, xI v2), (3, xA a3), (4, xI v4), (5, xI v5), (6, xI v6), (7, xI v7)] [] M (lp_M_letters_28 kx69 a0 v1 v2 v5 f v6 v7 M) := by
  intro f
  induction f with
  | zero => intros; exact V_.none
  | succ f ih =>
    intro v6 v7 M
    unfold lp_M_letters_28
    refine v_iload d_M_letters_28 6 rfl ?_
    refine v_ifeq d_M_letters_30 ?_ ?_
    · refine v_sub (ls' := [(0, xA a0), (1, xI v1), (3, xA a3), (4, xI v4), (5, xI v5), (6, xI v6)]) [0, 1, 3, 4, 5, 6] rfl ?_
      exact hkx69 v6 M
    · refine v_iload d_M_letters_33 7 rfl ?_
      refine v_iload d_M_letters_35 5 rfl ?_
      refine v_icge d_M_letters_37 ?_ ?_
      · refine v_sub (ls' := [(0, xA a0), (1, xI v1), (3, xA a3), (4, xI v4), (5, xI v5), (6, xI v6)]) [0, 1, 3, 4, 5, 6] rfl ?_
        exact hkx69 v6 M
      · refine v_aloadn d_M_letters_40 rfl 0 rfl ?_
        refine v_gR d_M_letters_41 fl_M_14 rfl (fun r41 => ?_)
        refine v_aloadn d_M_letters_44 rfl 0 rfl ?_
        refine v_gI d_M_letters_45 fl_M_21 rfl (fun x45 => ?_)
        refine v_iload d_M_letters_48 7 rfl ?_
        refine v_iadd d_M_letters_50 (fun x50 => ?_)
        refine v_bald d_M_letters_51 (fun x51 => ?_)
        refine v_iloadn d_M_letters_52 rfl 1 rfl ?_
        refine v_iloadn d_M_letters_53 rfl 1 rfl ?_
        refine v_iloadn d_M_letters_54 rfl 2 rfl ?_
        refine v_iadd d_M_letters_55 (fun x55 => ?_)
        refine v_iconst d_M_letters_56 (by decide) ?_
        refine v_isub d_M_letters_57 (fun x57 => ?_)
        refine v_cSi d_M_letters_58 ml_M_65 (c_M_in l hfl x51 v1 x57 M) (fun _ => rfl) (by decide) (by decide) (as := [xI x51, xI v1, xI x57]) (st1 := []) rfl rfl (Nat.le_of_ble_eq_true rfl) (fun c58 M => ?_)
        refine v_istore (lz := fun z => [(6, xI z), (0, xA a0), (1, xI v1), (2, xI v2), (3, xA a3), (4, xI v4), (5, xI v5), (7, xI v7)]) d_M_letters_61 (Nat.le_of_ble_eq_true rfl) (fun _ => rfl) (fun v6_61 => ?_)
        refine v_iinc (lz := fun z => [(7, xI z), (6, xI v6_61), (0, xA a0), (1, xI v1), (2, xI v2), (3, xA a3), (4, xI v4), (5, xI v5)]) d_M_letters_63 7 rfl (Nat.le_of_ble_eq_true rfl) (fun _ => rfl) (fun v7_63 => ?_)
        refine v_goto d_M_letters_66 ?_
        refine v_sub (ls' := [(0, xA a0), (1, xI v1), (2, xI v2), (3, xA a3), (4, xI v4), (5, xI v5), (6, xI v6_61), (7, xI v7_63)]) [2, 3, 4, 5, 6, 7, 1, 0] rfl ?_
        exact ih v6_61 v7_63 M
set_option maxHeartbeats 4000000 in
set_option maxRecDepth 100000 in
theorem V_lp_M_letters_83 {l : Launch} {w : vm_W} (hfl : l.stackTraces = false) (kx117 : mm_T → Option (Int × mm_T)) (a0 : Nat) (v1 : Int) (a3 : Nat) (v4 : Int) (v5 : Int) (hkx117 : ∀ (M : mm_T), V_ l w q_M_letters 4 ex_I 117 [(0, xA a0), (5, xI v5)] [] M (kx117 M)) : ∀ (f : Nat) (v7 : Int) (M : mm_T), V_ l w q_M_letters 4 ex_I 83 [(0, xA a0), (1, xI v1), (3, xA a3), (4, xI v4), (5, xI v5), (7, xI v7)] [] M (lp_M_letters_83 kx117 a0 v1 a3 v4 v5 f v7 M) := by
  intro f
  induction f with
  | zero => intros; exact V_.none
  | succ f ih =>
    intro v7 M
    unfold lp_M_letters_83
    refine v_iload d_M_letters_83 5 rfl ?_
    refine v_iload d_M_letters_85 4 rfl ?_
    refine v_icge d_M_letters_87 ?_ ?_
    · refine v_sub (ls' := [(0, xA a0), (5, xI v5)]) [0, 4] rfl ?_
      exact hkx117 M
    · refine v_aloadn d_M_letters_90 rfl 2 rfl ?_
      refine v_iload d_M_letters_91 3 rfl ?_
      refine v_iload d_M_letters_93 5 rfl ?_
      refine v_iadd d_M_letters_95 (fun x95 => ?_)
      refine v_aloadn d_M_letters_96 rfl 0 rfl ?_
      refine v_gR d_M_letters_97 fl_M_14 rfl (fun r97 => ?_)
      refine v_aloadn d_M_letters_100 rfl 0 rfl ?_
      refine v_gI d_M_letters_101 fl_M_21 rfl (fun x101 => ?_)
      refine v_iload d_M_letters_104 5 rfl ?_
      refine v_iadd d_M_letters_106 (fun x106 => ?_)
      refine v_bald d_M_letters_107 (fun x107 => ?_)
      refine v_iloadn d_M_letters_108 rfl 1 rfl ?_
      refine v_isub d_M_letters_109 (fun x109 => ?_)
      refine v_iast d_M_letters_110 (fun M => ?_)
      refine v_iinc (lz := fun z => [(7, xI z), (0, xA a0), (1, xI v1), (3, xA a3), (4, xI v4), (5, xI v5)]) d_M_letters_111 5 rfl (Nat.le_of_ble_eq_true rfl) (fun _ => rfl) (fun v7_111 => ?_)
      refine v_goto d_M_letters_114 ?_
      refine v_sub (ls' := [(0, xA a0), (1, xI v1), (3, xA a3), (4, xI v4), (5, xI v5), (7, xI v7_111)]) [1, 2, 3, 4, 5, 0] rfl ?_
      exact ih v7_111 M
set_option maxHeartbeats 4000000 in
set_option maxRecDepth 100000 in
theorem c_M_letters (l : Launch) (hfl : l.stackTraces = false) (a0 : Nat) (v1 : Int) (v2 : Int) (a3 : Nat) (v4 : Int) (M : mm_T) : vm_Con l yX11_letters (.code yX11_letters cX11_letters 8 (some .int)) 4 ex_I [xA a0, xI v1, xI v2, xA a3, xI v4] M (k_M_letters a0 v1 v2 a3 v4 M) := by
  refine vm_con (y := q_M_letters) hfl (by decide +kernel) rfl (fun h => by cases h) (Nat.le_of_ble_eq_true rfl) rfl (fun _ _ _ => rfl) (fun r E h => by cases h) (fun w => ?_)
  show V_ l w q_M_letters 4 ex_I 0 [(0, xA a0), (1, xI v1), (2, xI v2), (3, xA a3), (4, xI v4)] [] M (k_M_letters a0 v1 v2 a3 v4 M)
  unfold k_M_letters
  refine v_aloadn d_M_letters_0 rfl 0 rfl ?_
  refine v_cVi d_M_letters_1 ml_M_45 (q := (RX11, TX11, 32)) rfl (c_M_wordMany l hfl a0 M) (fun _ => rfl) (by decide) (by decide) (as := []) (st1 := []) rfl rfl (Nat.le_of_ble_eq_true rfl) (fun c1 M => ?_)
  refine v_istore (lz := fun z => [(5, xI z), (0, xA a0), (1, xI v1), (2, xI v2), (3, xA a3), (4, xI v4)]) d_M_letters_4 (Nat.le_of_ble_eq_true rfl) (fun _ => rfl) (fun v5_4 => ?_)
  refine v_aloadn d_M_letters_6 rfl 1 rfl ?_
  refine v_cVi d_M_letters_7 ml_M_38 (q := (RX11, TX11, 32)) rfl (c_M_hasFailed l hfl a0 M) (fun _ => rfl) (by decide) (by decide) (as := []) (st1 := []) rfl rfl (Nat.le_of_ble_eq_true rfl) (fun c7 M => ?_)
  refine v_ifeq d_M_letters_10 ?_ ?_
  · refine v_iload d_M_letters_15 0 rfl ?_
    refine v_iconst d_M_letters_17 (by decide) ?_
    refine v_bipush d_M_letters_18 (by decide) ?_
    refine v_cSi d_M_letters_20 ml_M_65 (c_M_in l hfl v5_4 1 6 M) (fun _ => rfl) (by decide) (by decide) (as := [xI v5_4, xI 1, xI 6]) (st1 := []) rfl rfl (Nat.le_of_ble_eq_true rfl) (fun c20 M => ?_)
    refine v_istore (lz := fun z => [(6, xI z), (5, xI v5_4), (0, xA a0), (1, xI v1), (2, xI v2), (3, xA a3), (4, xI v4)]) d_M_letters_23 (Nat.le_of_ble_eq_true rfl) (fun _ => rfl) (fun v6_23 => ?_)
    refine v_iconst d_M_letters_25 (by decide) ?_
    refine v_istore (lz := fun z => [(7, xI z), (6, xI v6_23), (5, xI v5_4), (0, xA a0), (1, xI v1), (2, xI v2), (3, xA a3), (4, xI v4)]) d_M_letters_26 (Nat.le_of_ble_eq_true rfl) (fun _ => rfl) (fun v7_26 => ?_)
    refine v_sub (ls' := [(0, xA a0), (1, xI v1), (2, xI v2), (3, xA a3), (4, xI v4), (5, xI v5_4), (6, xI v6_23), (7, xI v7_26)]) [3, 4, 5, 6, 7, 2, 1, 0] rfl ?_
    refine V_lp_M_letters_28 hfl _ _ _ _ _ (fun v6_69 M => ?_) _ _ _ _
    · refine v_iload d_M_letters_69 5 rfl ?_
      refine v_ifne d_M_letters_71 ?_ ?_
      · refine v_iconst d_M_letters_80 (by decide) ?_
        refine v_istore (lz := fun z => [(7, xI z), (0, xA a0), (1, xI v1), (3, xA a3), (4, xI v4), (5, xI v5_4), (6, xI v6_69)]) d_M_letters_81 (Nat.le_of_ble_eq_true rfl) (fun _ => rfl) (fun v7_81 => ?_)
        refine v_sub (ls' := [(0, xA a0), (1, xI v1), (3, xA a3), (4, xI v4), (5, xI v5_4), (7, xI v7_81)]) [1, 2, 3, 4, 5, 0] rfl ?_
        refine V_lp_M_letters_83 hfl _ _ _ _ _ _ (fun M => ?_) _ _ _
        · refine v_aloadn d_M_letters_117 rfl 0 rfl ?_
          refine v_dup d_M_letters_118 rfl ?_
          refine v_gI d_M_letters_119 fl_M_21 rfl (fun x119 => ?_)
          refine v_iload d_M_letters_122 1 rfl ?_
          refine v_iadd d_M_letters_124 (fun x124 => ?_)
          refine v_pI d_M_letters_125 fl_M_21 (Or.inl rfl) rfl rfl (fun M => ?_)
          refine v_iload d_M_letters_128 1 rfl ?_
          exact v_ret d_M_letters_130 rfl
      · refine v_aloadn d_M_letters_74 rfl 0 rfl ?_
        refine v_cVv d_M_letters_75 ml_M_42 (q := (RX11, TX11, 32)) rfl (c_M_fails l hfl a0 M) (fun _ => rfl) (by decide) (by decide) (as := []) (st1 := []) rfl rfl (Nat.le_of_ble_eq_true rfl) (fun _ M => ?_)
        refine v_iconst d_M_letters_78 (by decide) ?_
        exact v_ret d_M_letters_79 rfl
  · refine v_iconst d_M_letters_13 (by decide) ?_
    exact v_ret d_M_letters_14 rfl
set_option maxHeartbeats 4000000 in
set_option maxRecDepth 100000 in
theorem c_M_fault (l : Launch) (hfl : l.stackTraces = false) (a0 : Nat) (M : mm_T) : vm_Con l yX11_fault (.code yX11_fault cX11_fault 1 (some .int)) 1 ex_I [xA a0] M (k_M_fault a0 M) := by
  refine vm_con (y := q_M_fault) hfl (by decide +kernel) rfl (fun h => by cases h) (Nat.le_of_ble_eq_true rfl) rfl (fun _ _ _ => rfl) (fun r E h => by cases h) (fun w => ?_)
  show V_ l w q_M_fault 1 ex_I 0 [(0, xA a0)] [] M (k_M_fault a0 M)
  unfold k_M_fault
  refine v_aloadn d_M_fault_0 rfl 0 rfl ?_
  refine v_iconst d_M_fault_1 (by decide) ?_
  refine v_pI d_M_fault_2 fl_M_3 (Or.inl rfl) rfl rfl (fun M => ?_)
  refine v_aloadn d_M_fault_5 rfl 0 rfl ?_
  refine v_gI d_M_fault_6 fl_M_69 rfl (fun x6 => ?_)
  exact v_ret d_M_fault_9 rfl
set_option maxHeartbeats 4000000 in
set_option maxRecDepth 100000 in
theorem c_M_init (l : Launch) (hfl : l.stackTraces = false) (a0 : Nat) (M : mm_T) : vm_Con l yX11_init (.code yX11_init cX11_init 1 none) 1 ex_V [xA a0] M (k_M_init a0 M) := by
  refine vm_con (y := q_M_init) hfl (by decide +kernel) rfl (fun _ => rfl) (Nat.le_of_ble_eq_true rfl) rfl (fun _ _ _ => rfl) (fun r E h => by cases h) (fun w => ?_)
  show V_ l w q_M_init 1 ex_V 0 [(0, xA a0)] [] M (k_M_init a0 M)
  unfold k_M_init
  refine v_aloadn d_M_init_0 rfl 0 rfl ?_
  refine v_objinit d_M_init_1 (q := (RX11, TX11, 32)) rfl gw_1378 gw_141 gw_142 (by decide) ?_
  refine v_aloadn d_M_init_4 rfl 0 rfl ?_
  refine v_sipush d_M_init_5 (by decide) ?_
  refine v_newa (t := 1) d_M_init_8 rfl gw_895 rfl (by decide) (fun r8 M => ?_)
  refine v_pR (ty := .array .byte) d_M_init_10 fl_M_14 (Or.inr ⟨rfl, rfl, gw_1380, rfl⟩) rfl rfl (fun v hv => by rcases hv with rfl | ⟨b, rfl⟩ <;> exact ⟨rfl, rfl⟩) (fun M => ?_)
  refine v_aloadn d_M_init_13 rfl 0 rfl ?_
  refine v_iconst d_M_init_14 (by decide) ?_
  refine v_newa (t := 0) d_M_init_15 rfl gw_164 rfl (by decide) (fun r15 M => ?_)
  refine v_pR (ty := .array .int) d_M_init_17 fl_M_10 (Or.inr ⟨rfl, rfl, gw_1382, rfl⟩) rfl rfl (fun v hv => by rcases hv with rfl | ⟨b, rfl⟩ <;> exact ⟨rfl, rfl⟩) (fun M => ?_)
  refine v_aloadn d_M_init_20 rfl 0 rfl ?_
  refine v_iconst d_M_init_21 (by decide) ?_
  refine v_pI d_M_init_22 fl_M_69 (Or.inl rfl) rfl rfl (fun M => ?_)
  refine v_aloadn d_M_init_25 rfl 0 rfl ?_
  refine v_sipush d_M_init_26 (by decide) ?_
  refine v_newa (t := 0) d_M_init_29 rfl gw_164 rfl (by decide) (fun r29 M => ?_)
  refine v_pR (ty := .array .int) d_M_init_31 fl_M_77 (Or.inr ⟨rfl, rfl, gw_1388, rfl⟩) rfl rfl (fun v hv => by rcases hv with rfl | ⟨b, rfl⟩ <;> exact ⟨rfl, rfl⟩) (fun M => ?_)
  refine v_aloadn d_M_init_34 rfl 0 rfl ?_
  refine v_sipush d_M_init_35 (by decide) ?_
  refine v_newa (t := 0) d_M_init_38 rfl gw_164 rfl (by decide) (fun r38 M => ?_)
  refine v_pR (ty := .array .int) d_M_init_40 fl_M_80 (Or.inr ⟨rfl, rfl, gw_1389, rfl⟩) rfl rfl (fun v hv => by rcases hv with rfl | ⟨b, rfl⟩ <;> exact ⟨rfl, rfl⟩) (fun M => ?_)
  refine v_aloadn d_M_init_43 rfl 0 rfl ?_
  refine v_bipush d_M_init_44 (by decide) ?_
  refine v_newa (t := 0) d_M_init_46 rfl gw_164 rfl (by decide) (fun r46 M => ?_)
  refine v_pR (ty := .array .int) d_M_init_48 fl_M_83 (Or.inr ⟨rfl, rfl, gw_1391, rfl⟩) rfl rfl (fun v hv => by rcases hv with rfl | ⟨b, rfl⟩ <;> exact ⟨rfl, rfl⟩) (fun M => ?_)
  refine v_aloadn d_M_init_51 rfl 0 rfl ?_
  refine v_bipush d_M_init_52 (by decide) ?_
  refine v_newa (t := 0) d_M_init_54 rfl gw_164 rfl (by decide) (fun r54 M => ?_)
  refine v_pR (ty := .array .int) d_M_init_56 fl_M_86 (Or.inr ⟨rfl, rfl, gw_1392, rfl⟩) rfl rfl (fun v hv => by rcases hv with rfl | ⟨b, rfl⟩ <;> exact ⟨rfl, rfl⟩) (fun M => ?_)
  refine v_aloadn d_M_init_59 rfl 0 rfl ?_
  refine v_sipush d_M_init_60 (by decide) ?_
  refine v_newa (t := 0) d_M_init_63 rfl gw_164 rfl (by decide) (fun r63 M => ?_)
  refine v_pR (ty := .array .int) d_M_init_65 fl_M_89 (Or.inr ⟨rfl, rfl, gw_1395, rfl⟩) rfl rfl (fun v hv => by rcases hv with rfl | ⟨b, rfl⟩ <;> exact ⟨rfl, rfl⟩) (fun M => ?_)
  refine v_aloadn d_M_init_68 rfl 0 rfl ?_
  refine v_iconst d_M_init_69 (by decide) ?_
  refine v_newa (t := 0) d_M_init_70 rfl gw_164 rfl (by decide) (fun r70 M => ?_)
  refine v_pR (ty := .array .int) d_M_init_72 fl_M_92 (Or.inr ⟨rfl, rfl, gw_1396, rfl⟩) rfl rfl (fun v hv => by rcases hv with rfl | ⟨b, rfl⟩ <;> exact ⟨rfl, rfl⟩) (fun M => ?_)
  refine v_aloadn d_M_init_75 rfl 0 rfl ?_
  refine v_iconst d_M_init_76 (by decide) ?_
  refine v_newa (t := 0) d_M_init_77 rfl gw_164 rfl (by decide) (fun r77 M => ?_)
  refine v_pR (ty := .array .int) d_M_init_79 fl_M_95 (Or.inr ⟨rfl, rfl, gw_1397, rfl⟩) rfl rfl (fun v hv => by rcases hv with rfl | ⟨b, rfl⟩ <;> exact ⟨rfl, rfl⟩) (fun M => ?_)
  refine v_aloadn d_M_init_82 rfl 0 rfl ?_
  refine v_bipush d_M_init_83 (by decide) ?_
  refine v_newa (t := 0) d_M_init_85 rfl gw_164 rfl (by decide) (fun r85 M => ?_)
  refine v_pR (ty := .array .int) d_M_init_87 fl_M_98 (Or.inr ⟨rfl, rfl, gw_1398, rfl⟩) rfl rfl (fun v hv => by rcases hv with rfl | ⟨b, rfl⟩ <;> exact ⟨rfl, rfl⟩) (fun M => ?_)
  refine v_aloadn d_M_init_90 rfl 0 rfl ?_
  refine v_sipush d_M_init_91 (by decide) ?_
  refine v_newa (t := 0) d_M_init_94 rfl gw_164 rfl (by decide) (fun r94 M => ?_)
  refine v_pR (ty := .array .int) d_M_init_96 fl_M_101 (Or.inr ⟨rfl, rfl, gw_1405, rfl⟩) rfl rfl (fun v hv => by rcases hv with rfl | ⟨b, rfl⟩ <;> exact ⟨rfl, rfl⟩) (fun M => ?_)
  refine v_aloadn d_M_init_99 rfl 0 rfl ?_
  refine v_sipush d_M_init_100 (by decide) ?_
  refine v_newa (t := 3) d_M_init_103 rfl gw_424 rfl (by decide) (fun r103 M => ?_)
  refine v_pR (ty := .array .long) d_M_init_105 fl_M_104 (Or.inr ⟨rfl, rfl, gw_1406, rfl⟩) rfl rfl (fun v hv => by rcases hv with rfl | ⟨b, rfl⟩ <;> exact ⟨rfl, rfl⟩) (fun M => ?_)
  refine v_aloadn d_M_init_108 rfl 0 rfl ?_
  refine v_bipush d_M_init_109 (by decide) ?_
  refine v_newa (t := 3) d_M_init_111 rfl gw_424 rfl (by decide) (fun r111 M => ?_)
  refine v_pR (ty := .array .long) d_M_init_113 fl_M_108 (Or.inr ⟨rfl, rfl, gw_1407, rfl⟩) rfl rfl (fun v hv => by rcases hv with rfl | ⟨b, rfl⟩ <;> exact ⟨rfl, rfl⟩) (fun M => ?_)
  refine v_aloadn d_M_init_116 rfl 0 rfl ?_
  refine v_bipush d_M_init_117 (by decide) ?_
  refine v_newa (t := 2) d_M_init_119 rfl gw_1476 rfl (by decide) (fun r119 M => ?_)
  refine v_pR (ty := .array .boolean) d_M_init_121 fl_M_111 (Or.inr ⟨rfl, rfl, gw_1408, rfl⟩) rfl rfl (fun v hv => by rcases hv with rfl | ⟨b, rfl⟩ <;> exact ⟨rfl, rfl⟩) (fun M => ?_)
  refine v_aloadn d_M_init_124 rfl 0 rfl ?_
  refine v_bipush d_M_init_125 (by decide) ?_
  refine v_newa (t := 0) d_M_init_127 rfl gw_164 rfl (by decide) (fun r127 M => ?_)
  refine v_pR (ty := .array .int) d_M_init_129 fl_M_115 (Or.inr ⟨rfl, rfl, gw_1410, rfl⟩) rfl rfl (fun v hv => by rcases hv with rfl | ⟨b, rfl⟩ <;> exact ⟨rfl, rfl⟩) (fun M => ?_)
  refine v_aloadn d_M_init_132 rfl 0 rfl ?_
  refine v_gR d_M_init_133 fl_M_77 rfl (fun r133 => ?_)
  refine v_iconst d_M_init_136 (by decide) ?_
  refine v_iconst d_M_init_137 (by decide) ?_
  refine v_iast d_M_init_138 (fun M => ?_)
  exact v_vret d_M_init_139 rfl
set_option maxHeartbeats 4000000 in
set_option maxRecDepth 100000 in
theorem c_M_isName (l : Launch) (hfl : l.stackTraces = false) (a0 : Nat) (M : mm_T) : vm_Con l yX11_isName (.code yX11_isName cX11_isName 2 (some .boolean)) 7 ex_Z [xA a0] M (k_M_isName a0 M) := by
  refine vm_con (y := q_M_isName) hfl (by decide +kernel) rfl (fun h => by cases h) (Nat.le_of_ble_eq_true rfl) rfl (fun _ _ _ => rfl) (fun r E h => by cases h) (fun w => ?_)
  show V_ l w q_M_isName 7 ex_Z 0 [(0, xA a0)] [] M (k_M_isName a0 M)
  unfold k_M_isName
  refine v_aloadn d_M_isName_0 rfl 0 rfl ?_
  refine v_cVi d_M_isName_1 ml_M_45 (q := (RX11, TX11, 32)) rfl (c_M_wordMany l hfl a0 M) (fun _ => rfl) (by decide) (by decide) (as := []) (st1 := []) rfl rfl (Nat.le_of_ble_eq_true rfl) (fun c1 M => ?_)
  refine v_istoren (lz := fun z => [(1, xI z), (0, xA a0)]) d_M_isName_4 rfl (Nat.le_of_ble_eq_true rfl) (fun _ => rfl) (fun v1_4 => ?_)
  refine v_aloadn d_M_isName_5 rfl 1 rfl ?_
  refine v_cVi d_M_isName_6 ml_M_38 (q := (RX11, TX11, 32)) rfl (c_M_hasFailed l hfl a0 M) (fun _ => rfl) (by decide) (by decide) (as := []) (st1 := []) rfl rfl (Nat.le_of_ble_eq_true rfl) (fun c6 M => ?_)
  refine v_join0 (pj := 98) (lj := []) (sj := []) (fun M => ?_) (fun j98 hj98 => ?_)
  · refine v_iconst d_M_isName_98 (by decide) ?_
    exact v_zret d_M_isName_99 rfl
  refine v_ifne d_M_isName_9 ?_ ?_
  · refine v_sub (ls' := []) [] rfl ?_
    exact hj98 M
  · refine v_iloadn d_M_isName_12 rfl 0 rfl ?_
    refine v_iconst d_M_isName_13 (by decide) ?_
    refine v_bipush d_M_isName_14 (by decide) ?_
    refine v_cSi d_M_isName_16 ml_M_65 (c_M_in l hfl v1_4 1 6 M) (fun _ => rfl) (by decide) (by decide) (as := [xI v1_4, xI 1, xI 6]) (st1 := []) rfl rfl (Nat.le_of_ble_eq_true rfl) (fun c16 M => ?_)
    refine v_ifeq d_M_isName_19 ?_ ?_
    · refine v_sub (ls' := []) [] rfl ?_
      exact hj98 M
    · refine v_aloadn d_M_isName_22 rfl 1 rfl ?_
      refine v_ldcS (i := 0) d_M_isName_23 (by decide +kernel) (by decide) ?_
      refine v_cVi d_M_isName_25 ml_M_58 (q := (RX11, TX11, 32)) rfl (c_M_isWord l hfl a0 2 M) (fun _ => rfl) (by decide) (by decide) (as := [xA 2]) (st1 := []) rfl rfl (Nat.le_of_ble_eq_true rfl) (fun c25 M => ?_)
      refine v_ifne d_M_isName_28 ?_ ?_
      · refine v_sub (ls' := []) [] rfl ?_
        exact hj98 M
      · refine v_aloadn d_M_isName_31 rfl 1 rfl ?_
        refine v_ldcS (i := 1) d_M_isName_32 (by decide +kernel) (by decide) ?_
        refine v_cVi d_M_isName_34 ml_M_58 (q := (RX11, TX11, 32)) rfl (c_M_isWord l hfl a0 3 M) (fun _ => rfl) (by decide) (by decide) (as := [xA 3]) (st1 := []) rfl rfl (Nat.le_of_ble_eq_true rfl) (fun c34 M => ?_)
        refine v_ifne d_M_isName_37 ?_ ?_
        · refine v_sub (ls' := []) [] rfl ?_
          exact hj98 M
        · refine v_aloadn d_M_isName_40 rfl 1 rfl ?_
          refine v_ldcS (i := 2) d_M_isName_41 (by decide +kernel) (by decide) ?_
          refine v_cVi d_M_isName_43 ml_M_58 (q := (RX11, TX11, 32)) rfl (c_M_isWord l hfl a0 4 M) (fun _ => rfl) (by decide) (by decide) (as := [xA 4]) (st1 := []) rfl rfl (Nat.le_of_ble_eq_true rfl) (fun c43 M => ?_)
          refine v_ifne d_M_isName_46 ?_ ?_
          · refine v_sub (ls' := []) [] rfl ?_
            exact hj98 M
          · refine v_aloadn d_M_isName_49 rfl 1 rfl ?_
            refine v_ldcS (i := 3) d_M_isName_50 (by decide +kernel) (by decide) ?_
            refine v_cVi d_M_isName_52 ml_M_58 (q := (RX11, TX11, 32)) rfl (c_M_isWord l hfl a0 5 M) (fun _ => rfl) (by decide) (by decide) (as := [xA 5]) (st1 := []) rfl rfl (Nat.le_of_ble_eq_true rfl) (fun c52 M => ?_)
            refine v_ifne d_M_isName_55 ?_ ?_
            · refine v_sub (ls' := []) [] rfl ?_
              exact hj98 M
            · refine v_aloadn d_M_isName_58 rfl 1 rfl ?_
              refine v_ldcS (i := 4) d_M_isName_59 (by decide +kernel) (by decide) ?_
              refine v_cVi d_M_isName_61 ml_M_58 (q := (RX11, TX11, 32)) rfl (c_M_isWord l hfl a0 6 M) (fun _ => rfl) (by decide) (by decide) (as := [xA 6]) (st1 := []) rfl rfl (Nat.le_of_ble_eq_true rfl) (fun c61 M => ?_)
              refine v_ifne d_M_isName_64 ?_ ?_
              · refine v_sub (ls' := []) [] rfl ?_
                exact hj98 M
              · refine v_aloadn d_M_isName_67 rfl 1 rfl ?_
                refine v_ldcS (i := 5) d_M_isName_68 (by decide +kernel) (by decide) ?_
                refine v_cVi d_M_isName_70 ml_M_58 (q := (RX11, TX11, 32)) rfl (c_M_isWord l hfl a0 7 M) (fun _ => rfl) (by decide) (by decide) (as := [xA 7]) (st1 := []) rfl rfl (Nat.le_of_ble_eq_true rfl) (fun c70 M => ?_)
                refine v_ifne d_M_isName_73 ?_ ?_
                · refine v_sub (ls' := []) [] rfl ?_
                  exact hj98 M
                · refine v_aloadn d_M_isName_76 rfl 1 rfl ?_
                  refine v_ldcS (i := 6) d_M_isName_77 (by decide +kernel) (by decide) ?_
                  refine v_cVi d_M_isName_79 ml_M_58 (q := (RX11, TX11, 32)) rfl (c_M_isWord l hfl a0 8 M) (fun _ => rfl) (by decide) (by decide) (as := [xA 8]) (st1 := []) rfl rfl (Nat.le_of_ble_eq_true rfl) (fun c79 M => ?_)
                  refine v_ifne d_M_isName_82 ?_ ?_
                  · refine v_sub (ls' := []) [] rfl ?_
                    exact hj98 M
                  · refine v_aloadn d_M_isName_85 rfl 1 rfl ?_
                    refine v_ldcS (i := 7) d_M_isName_86 (by decide +kernel) (by decide) ?_
                    refine v_cVi d_M_isName_88 ml_M_58 (q := (RX11, TX11, 32)) rfl (c_M_isWord l hfl a0 9 M) (fun _ => rfl) (by decide) (by decide) (as := [xA 9]) (st1 := []) rfl rfl (Nat.le_of_ble_eq_true rfl) (fun c88 M => ?_)
                    refine v_ifne d_M_isName_91 ?_ ?_
                    · refine v_sub (ls' := []) [] rfl ?_
                      exact hj98 M
                    · refine v_iconst d_M_isName_94 (by decide) ?_
                      refine v_goto d_M_isName_95 ?_
                      exact v_zret d_M_isName_99 rfl
set_option maxHeartbeats 4000000 in
set_option maxRecDepth 100000 in
theorem V_lp_M_named_20 {l : Launch} {w : vm_W} (hfl : l.stackTraces = false) (kx88 : Int → mm_T → Option (Int × mm_T)) (a0 : Nat) (v1 : Int) (v3 : Int) (v4 : Int) {v2 : Int} (hkx88 : ∀ (v5_e : Int) (M : mm_T), V_ l w q_M_named 4 ex_I 88 [(0, xA a0), (1, xI v1), (2, xI v2), (3, xI v3), (4, xI v4), (5, xI v5_e)] [] M (kx88 v5_e M)) : ∀ (f : Nat) (v5 : Int) (v6 : Int) (M : mm_T), V_ l w q_M_named 4 ex_I 20 [(0, xA a0), (1, xI v1), (2, xI v2), (3, xI v3), (4, xI v4), (5, xI v5), (6, xI v6)] [] M (lp_M_named_20 kx88 a0 v1 v3 v4 f v5 v6 M) := by
  intro f
  induction f with
  | zero => intros; exact V_.none
  | succ f ih =>
    intro v5 v6 M
    unfold lp_M_named_20
    refine v_iload d_M_named_20 6 rfl ?_
    refine v_bipush d_M_named_22 (by decide) ?_
    refine v_icge d_M_named_24 ?_ ?_
    · refine v_sub (ls' := [(0, xA a0), (1, xI v1), (2, xI v2), (3, xI v3), (4, xI v4), (5, xI v5)]) [0, 1, 2, 3, 4, 5] rfl ?_
      exact hkx88 v5 M
    · refine v_iload d_M_named_27 5 rfl ?_
      refine v_join1 (pj := 80) (lj := fun s0_80 => [(0, xA a0), (1, xI v1), (2, xI v2), (3, xI v3), (4, xI v4), (6, xI v6)]) (sj := fun s0_80 => [xI s0_80]) (fun s0_80 M => ?_) (fun j80 hj80 => ?_)
      · refine v_istore (lz := fun z => [(5, xI z), (0, xA a0), (1, xI v1), (2, xI v2), (3, xI v3), (4, xI v4), (6, xI v6)]) d_M_named_80 (Nat.le_of_ble_eq_true rfl) (fun _ => rfl) (fun v5_80 => ?_)
        refine v_iinc (lz := fun z => [(6, xI z), (5, xI v5_80), (0, xA a0), (1, xI v1), (2, xI v2), (3, xI v3), (4, xI v4)]) d_M_named_82 6 rfl (Nat.le_of_ble_eq_true rfl) (fun _ => rfl) (fun v6_82 => ?_)
        refine v_goto d_M_named_85 ?_
        refine v_sub (ls' := [(0, xA a0), (1, xI v1), (2, xI v2), (3, xI v3), (4, xI v4), (5, xI v5_80), (6, xI v6_82)]) [2, 3, 4, 5, 6, 1, 0] rfl ?_
        exact ih v5_80 v6_82 M
      refine v_join0 (pj := 79) (lj := [(0, xA a0), (1, xI v1), (2, xI v2), (3, xI v3), (4, xI v4), (6, xI v6)]) (sj := []) (fun M => ?_) (fun j79 hj79 => ?_)
      · refine v_iconst d_M_named_79 (by decide) ?_
        exact hj80 0 M
      refine v_ifeq d_M_named_29 ?_ ?_
      · refine v_sub (ls' := [(0, xA a0), (1, xI v1), (2, xI v2), (3, xI v3), (4, xI v4), (6, xI v6)]) [0, 1, 2, 3, 4, 6] rfl ?_
        exact hj79 M
      · refine v_aloadn d_M_named_32 rfl 0 rfl ?_
        refine v_gR d_M_named_33 fl_M_80 rfl (fun r33 => ?_)
        refine v_bipush d_M_named_36 (by decide) ?_
        refine v_bipush d_M_named_38 (by decide) ?_
        refine v_iloadn d_M_named_40 rfl 1 rfl ?_
        refine v_iload d_M_named_41 4 rfl ?_
        refine v_iadd d_M_named_43 (fun x43 => ?_)
        refine v_imul d_M_named_44 (fun x44 => ?_)
        refine v_iadd d_M_named_45 (fun x45 => ?_)
        refine v_iload d_M_named_46 6 rfl ?_
        refine v_iadd d_M_named_48 (fun x48 => ?_)
        refine v_iald d_M_named_49 (fun x49 => ?_)
        refine v_iload d_M_named_50 6 rfl ?_
        refine v_iloadn d_M_named_52 rfl 3 rfl ?_
        refine v_join2 (pj := 72) (lj := fun s0_72 s1_72 => [(0, xA a0), (1, xI v1), (2, xI v2), (3, xI v3), (4, xI v4), (6, xI v6)]) (sj := fun s0_72 s1_72 => [xI s1_72, xI s0_72]) (fun s0_72 s1_72 M => ?_) (fun j72 hj72 => ?_)
        · refine v_icne d_M_named_72 ?_ ?_
          · exact hj79 M
          · refine v_iconst d_M_named_75 (by decide) ?_
            refine v_goto d_M_named_76 ?_
            exact hj80 1 M
        refine v_icge d_M_named_53 ?_ ?_
        · refine v_iconst d_M_named_71 (by decide) ?_
          refine v_sub (ls' := [(0, xA a0), (1, xI v1), (2, xI v2), (3, xI v3), (4, xI v4), (6, xI v6)]) [0, 1, 2, 3, 4, 6] rfl ?_
          exact hj72 x49 0 M
        · refine v_aloadn d_M_named_56 rfl 0 rfl ?_
          refine v_gR d_M_named_57 fl_M_14 rfl (fun r57 => ?_)
          refine v_aloadn d_M_named_60 rfl 0 rfl ?_
          refine v_gI d_M_named_61 fl_M_21 rfl (fun x61 => ?_)
          refine v_iload d_M_named_64 6 rfl ?_
          refine v_iadd d_M_named_66 (fun x66 => ?_)
          refine v_bald d_M_named_67 (fun x67 => ?_)
          refine v_goto d_M_named_68 ?_
          refine v_sub (ls' := [(0, xA a0), (1, xI v1), (2, xI v2), (3, xI v3), (4, xI v4), (6, xI v6)]) [0, 1, 2, 3, 4, 6] rfl ?_
          exact hj72 x49 x67 M
set_option maxHeartbeats 4000000 in
set_option maxRecDepth 100000 in
theorem V_lp_M_named_8 {l : Launch} {w : vm_W} (hfl : l.stackTraces = false) (kx102 : mm_T → Option (Int × mm_T)) (a0 : Nat) (v1 : Int) (v2 : Int) (v3 : Int) (hkx102 : ∀ (M : mm_T), V_ l w q_M_named 4 ex_I 102 [] [] M (kx102 M)) : ∀ (f : Nat) (v4 : Int) (M : mm_T), V_ l w q_M_named 4 ex_I 8 [(0, xA a0), (1, xI v1), (2, xI v2), (3, xI v3), (4, xI v4)] [] M (lp_M_named_8 kx102 a0 v1 v2 v3 f v4 M) := by
  intro f
  induction f with
  | zero => intros; exact V_.none
  | succ f ih =>
    intro v4 M
    unfold lp_M_named_8
    refine v_iload d_M_named_8 4 rfl ?_
    refine v_iloadn d_M_named_10 rfl 2 rfl ?_
    refine v_icge d_M_named_11 ?_ ?_
    · refine v_sub (ls' := []) [] rfl ?_
      exact hkx102 M
    · refine v_iconst d_M_named_14 (by decide) ?_
      refine v_istore (lz := fun z => [(5, xI z), (0, xA a0), (1, xI v1), (2, xI v2), (3, xI v3), (4, xI v4)]) d_M_named_15 (Nat.le_of_ble_eq_true rfl) (fun _ => rfl) (fun v5_15 => ?_)
      refine v_iconst d_M_named_17 (by decide) ?_
      refine v_istore (lz := fun z => [(6, xI z), (5, xI v5_15), (0, xA a0), (1, xI v1), (2, xI v2), (3, xI v3), (4, xI v4)]) d_M_named_18 (Nat.le_of_ble_eq_true rfl) (fun _ => rfl) (fun v6_18 => ?_)
      refine v_sub (ls' := [(0, xA a0), (1, xI v1), (2, xI v2), (3, xI v3), (4, xI v4), (5, xI v5_15), (6, xI v6_18)]) [2, 3, 4, 5, 6, 1, 0] rfl ?_
      refine V_lp_M_named_20 hfl _ _ _ _ _ (fun v5_88 M => ?_) _ _ _ _
      · refine v_iload d_M_named_88 5 rfl ?_
        refine v_ifeq d_M_named_90 ?_ ?_
        · refine v_iinc (lz := fun z => [(4, xI z), (0, xA a0), (1, xI v1), (2, xI v2), (3, xI v3), (5, xI v5_88)]) d_M_named_96 4 rfl (Nat.le_of_ble_eq_true rfl) (fun _ => rfl) (fun v4_96 => ?_)
          refine v_goto d_M_named_99 ?_
          refine v_sub (ls' := [(0, xA a0), (1, xI v1), (2, xI v2), (3, xI v3), (4, xI v4_96)]) [1, 2, 3, 4, 0] rfl ?_
          exact ih v4_96 M
        · refine v_iload d_M_named_93 4 rfl ?_
          exact v_ret d_M_named_95 rfl
set_option maxHeartbeats 4000000 in
set_option maxRecDepth 100000 in
theorem c_M_named (l : Launch) (hfl : l.stackTraces = false) (a0 : Nat) (v1 : Int) (v2 : Int) (M : mm_T) : vm_Con l yX11_named (.code yX11_named cX11_named 7 (some .int)) 4 ex_I [xA a0, xI v1, xI v2] M (k_M_named a0 v1 v2 M) := by
  refine vm_con (y := q_M_named) hfl (by decide +kernel) rfl (fun h => by cases h) (Nat.le_of_ble_eq_true rfl) rfl (fun _ _ _ => rfl) (fun r E h => by cases h) (fun w => ?_)
  show V_ l w q_M_named 4 ex_I 0 [(0, xA a0), (1, xI v1), (2, xI v2)] [] M (k_M_named a0 v1 v2 M)
  unfold k_M_named
  refine v_aloadn d_M_named_0 rfl 0 rfl ?_
  refine v_cVi d_M_named_1 ml_M_45 (q := (RX11, TX11, 32)) rfl (c_M_wordMany l hfl a0 M) (fun _ => rfl) (by decide) (by decide) (as := []) (st1 := []) rfl rfl (Nat.le_of_ble_eq_true rfl) (fun c1 M => ?_)
  refine v_istoren (lz := fun z => [(3, xI z), (0, xA a0), (1, xI v1), (2, xI v2)]) d_M_named_4 rfl (Nat.le_of_ble_eq_true rfl) (fun _ => rfl) (fun v3_4 => ?_)
  refine v_iconst d_M_named_5 (by decide) ?_
  refine v_istore (lz := fun z => [(4, xI z), (3, xI v3_4), (0, xA a0), (1, xI v1), (2, xI v2)]) d_M_named_6 (Nat.le_of_ble_eq_true rfl) (fun _ => rfl) (fun v4_6 => ?_)
  refine v_sub (ls' := [(0, xA a0), (1, xI v1), (2, xI v2), (3, xI v3_4), (4, xI v4_6)]) [2, 3, 4, 1, 0] rfl ?_
  refine V_lp_M_named_8 hfl _ _ _ _ _ (fun M => ?_) _ _ _
  · refine v_iconst d_M_named_102 (by decide) ?_
    exact v_ret d_M_named_103 rfl
set_option maxHeartbeats 4000000 in
set_option maxRecDepth 100000 in
theorem V_lp_M_freshName_57 {l : Launch} {w : vm_W} (hfl : l.stackTraces = false) (kx103 : mm_T → Option (Unit × mm_T)) (a0 : Nat) (v1 : Int) (v2 : Int) (hkx103 : ∀ (M : mm_T), V_ l w q_M_freshName 8 ex_V 103 [(0, xA a0), (2, xI v2)] [] M (kx103 M)) : ∀ (f : Nat) (v3 : Int) (M : mm_T), V_ l w q_M_freshName 8 ex_V 57 [(0, xA a0), (1, xI v1), (2, xI v2), (3, xI v3)] [] M (lp_M_freshName_57 kx103 a0 v1 v2 f v3 M) := by
  intro f
  induction f with
  | zero => intros; exact V_.none
  | succ f ih =>
    intro v3 M
    unfold lp_M_freshName_57
    refine v_iloadn d_M_freshName_57 rfl 3 rfl ?_
    refine v_bipush d_M_freshName_58 (by decide) ?_
    refine v_icge d_M_freshName_60 ?_ ?_
    · refine v_sub (ls' := [(0, xA a0), (2, xI v2)]) [0, 2] rfl ?_
      exact hkx103 M
    · refine v_aloadn d_M_freshName_63 rfl 0 rfl ?_
      refine v_gR d_M_freshName_64 fl_M_80 rfl (fun r64 => ?_)
      refine v_bipush d_M_freshName_67 (by decide) ?_
      refine v_bipush d_M_freshName_69 (by decide) ?_
      refine v_iloadn d_M_freshName_71 rfl 1 rfl ?_
      refine v_imul d_M_freshName_72 (fun x72 => ?_)
      refine v_iadd d_M_freshName_73 (fun x73 => ?_)
      refine v_iloadn d_M_freshName_74 rfl 3 rfl ?_
      refine v_iadd d_M_freshName_75 (fun x75 => ?_)
      refine v_iloadn d_M_freshName_76 rfl 3 rfl ?_
      refine v_iloadn d_M_freshName_77 rfl 2 rfl ?_
      refine v_join3 (pj := 96) (lj := fun sa0_96 s1_96 s2_96 => [(0, xA a0), (1, xI v1), (2, xI v2), (3, xI v3)]) (sj := fun sa0_96 s1_96 s2_96 => [xI s2_96, xI s1_96, xA sa0_96]) (fun sa0_96 s1_96 s2_96 M => ?_) (fun j96 hj96 => ?_)
      · refine v_iast d_M_freshName_96 (fun M => ?_)
        refine v_iinc (lz := fun z => [(3, xI z), (0, xA a0), (1, xI v1), (2, xI v2)]) d_M_freshName_97 3 rfl (Nat.le_of_ble_eq_true rfl) (fun _ => rfl) (fun v3_97 => ?_)
        refine v_goto d_M_freshName_100 ?_
        refine v_sub (ls' := [(0, xA a0), (1, xI v1), (2, xI v2), (3, xI v3_97)]) [1, 2, 3, 0] rfl ?_
        exact ih v3_97 M
      refine v_icge d_M_freshName_78 ?_ ?_
      · refine v_iconst d_M_freshName_95 (by decide) ?_
        exact hj96 r64 x75 0 M
      · refine v_aloadn d_M_freshName_81 rfl 0 rfl ?_
        refine v_gR d_M_freshName_82 fl_M_14 rfl (fun r82 => ?_)
        refine v_aloadn d_M_freshName_85 rfl 0 rfl ?_
        refine v_gI d_M_freshName_86 fl_M_21 rfl (fun x86 => ?_)
        refine v_iloadn d_M_freshName_89 rfl 3 rfl ?_
        refine v_iadd d_M_freshName_90 (fun x90 => ?_)
        refine v_bald d_M_freshName_91 (fun x91 => ?_)
        refine v_goto d_M_freshName_92 ?_
        exact hj96 r64 x75 x91 M
set_option maxHeartbeats 4000000 in
set_option maxRecDepth 100000 in
theorem c_M_freshName (l : Launch) (hfl : l.stackTraces = false) (a0 : Nat) (v1 : Int) (M : mm_T) : vm_Con l yX11_freshName (.code yX11_freshName cX11_freshName 4 none) 8 ex_V [xA a0, xI v1] M (k_M_freshName a0 v1 M) := by
  refine vm_con (y := q_M_freshName) hfl (by decide +kernel) rfl (fun h => by cases h) (Nat.le_of_ble_eq_true rfl) rfl (fun _ _ _ => rfl) (fun r E h => by cases h) (fun w => ?_)
  show V_ l w q_M_freshName 8 ex_V 0 [(0, xA a0), (1, xI v1)] [] M (k_M_freshName a0 v1 M)
  unfold k_M_freshName
  refine v_aloadn d_M_freshName_0 rfl 0 rfl ?_
  refine v_cVi d_M_freshName_1 ml_M_38 (q := (RX11, TX11, 32)) rfl (c_M_hasFailed l hfl a0 M) (fun _ => rfl) (by decide) (by decide) (as := []) (st1 := []) rfl rfl (Nat.le_of_ble_eq_true rfl) (fun c1 M => ?_)
  refine v_ifeq d_M_freshName_4 ?_ ?_
  · refine v_aloadn d_M_freshName_8 rfl 0 rfl ?_
    refine v_cVi d_M_freshName_9 ml_M_134 (q := (RX11, TX11, 32)) rfl (c_M_isName l hfl a0 M) (fun _ => rfl) (by decide) (by decide) (as := []) (st1 := []) rfl rfl (Nat.le_of_ble_eq_true rfl) (fun c9 M => ?_)
    refine v_join0 (pj := 45) (lj := [(0, xA a0)]) (sj := []) (fun M => ?_) (fun j45 hj45 => ?_)
    · refine v_aloadn d_M_freshName_45 rfl 0 rfl ?_
      refine v_cVv d_M_freshName_46 ml_M_42 (q := (RX11, TX11, 32)) rfl (c_M_fails l hfl a0 M) (fun _ => rfl) (by decide) (by decide) (as := []) (st1 := []) rfl rfl (Nat.le_of_ble_eq_true rfl) (fun _ M => ?_)
      exact v_vret d_M_freshName_49 rfl
    refine v_ifeq d_M_freshName_12 ?_ ?_
    · refine v_sub (ls' := [(0, xA a0)]) [0] rfl ?_
      exact hj45 M
    · refine v_aloadn d_M_freshName_15 rfl 0 rfl ?_
      refine v_iconst d_M_freshName_16 (by decide) ?_
      refine v_aloadn d_M_freshName_17 rfl 0 rfl ?_
      refine v_gR d_M_freshName_18 fl_M_80 rfl (fun r18 => ?_)
      refine v_iconst d_M_freshName_21 (by decide) ?_
      refine v_iald d_M_freshName_22 (fun x22 => ?_)
      refine v_cVi d_M_freshName_23 ml_M_137 (q := (RX11, TX11, 32)) rfl (c_M_named l hfl a0 0 x22 M) (fun _ => rfl) (by decide) (by decide) (as := [xI 0, xI x22]) (st1 := []) rfl rfl (Nat.le_of_ble_eq_true rfl) (fun c23 M => ?_)
      refine v_iconst d_M_freshName_26 (by decide) ?_
      refine v_icne d_M_freshName_27 ?_ ?_
      · refine v_sub (ls' := [(0, xA a0)]) [0] rfl ?_
        exact hj45 M
      · refine v_aloadn d_M_freshName_30 rfl 0 rfl ?_
        refine v_iconst d_M_freshName_31 (by decide) ?_
        refine v_aloadn d_M_freshName_32 rfl 0 rfl ?_
        refine v_gR d_M_freshName_33 fl_M_80 rfl (fun r33 => ?_)
        refine v_iconst d_M_freshName_36 (by decide) ?_
        refine v_iald d_M_freshName_37 (fun x37 => ?_)
        refine v_cVi d_M_freshName_38 ml_M_137 (q := (RX11, TX11, 32)) rfl (c_M_named l hfl a0 4 x37 M) (fun _ => rfl) (by decide) (by decide) (as := [xI 4, xI x37]) (st1 := []) rfl rfl (Nat.le_of_ble_eq_true rfl) (fun c38 M => ?_)
        refine v_iconst d_M_freshName_41 (by decide) ?_
        refine v_iceq d_M_freshName_42 ?_ ?_
        · refine v_aloadn d_M_freshName_50 rfl 0 rfl ?_
          refine v_cVi d_M_freshName_51 ml_M_45 (q := (RX11, TX11, 32)) rfl (c_M_wordMany l hfl a0 M) (fun _ => rfl) (by decide) (by decide) (as := []) (st1 := []) rfl rfl (Nat.le_of_ble_eq_true rfl) (fun c51 M => ?_)
          refine v_istoren (lz := fun z => [(2, xI z), (0, xA a0), (1, xI v1)]) d_M_freshName_54 rfl (Nat.le_of_ble_eq_true rfl) (fun _ => rfl) (fun v2_54 => ?_)
          refine v_iconst d_M_freshName_55 (by decide) ?_
          refine v_istoren (lz := fun z => [(3, xI z), (2, xI v2_54), (0, xA a0), (1, xI v1)]) d_M_freshName_56 rfl (Nat.le_of_ble_eq_true rfl) (fun _ => rfl) (fun v3_56 => ?_)
          refine v_sub (ls' := [(0, xA a0), (1, xI v1), (2, xI v2_54), (3, xI v3_56)]) [2, 3, 1, 0] rfl ?_
          refine V_lp_M_freshName_57 hfl _ _ _ _ (fun M => ?_) _ _ _
          · refine v_aloadn d_M_freshName_103 rfl 0 rfl ?_
            refine v_dup d_M_freshName_104 rfl ?_
            refine v_gI d_M_freshName_105 fl_M_21 rfl (fun x105 => ?_)
            refine v_iloadn d_M_freshName_108 rfl 1 rfl ?_
            refine v_iadd d_M_freshName_109 (fun x109 => ?_)
            refine v_pI d_M_freshName_110 fl_M_21 (Or.inl rfl) rfl rfl (fun M => ?_)
            exact v_vret d_M_freshName_113 rfl
        · refine v_sub (ls' := [(0, xA a0)]) [0] rfl ?_
          exact hj45 M
  · exact v_vret d_M_freshName_7 rfl
set_option maxHeartbeats 4000000 in
set_option maxRecDepth 100000 in
theorem c_M_limitLine (l : Launch) (hfl : l.stackTraces = false) (a0 : Nat) (M : mm_T) : vm_Con l yX11_limitLine (.code yX11_limitLine cX11_limitLine 2 none) 9 ex_V [xA a0] M (k_M_limitLine a0 M) := by
  refine vm_con (y := q_M_limitLine) hfl (by decide +kernel) rfl (fun h => by cases h) (Nat.le_of_ble_eq_true rfl) rfl (fun _ _ _ => rfl) (fun r E h => by cases h) (fun w => ?_)
  show V_ l w q_M_limitLine 9 ex_V 0 [(0, xA a0)] [] M (k_M_limitLine a0 M)
  unfold k_M_limitLine
  refine v_aloadn d_M_limitLine_0 rfl 0 rfl ?_
  refine v_gI d_M_limitLine_1 fl_M_141 rfl (fun x1 => ?_)
  refine v_ifeq d_M_limitLine_4 ?_ ?_
  · refine v_aloadn d_M_limitLine_12 rfl 0 rfl ?_
    refine v_iconst d_M_limitLine_13 (by decide) ?_
    refine v_pZ d_M_limitLine_14 fl_M_141 (Or.inl rfl) rfl rfl (fun M => ?_)
    refine v_aloadn d_M_limitLine_17 rfl 0 rfl ?_
    refine v_ldcS (i := 1) d_M_limitLine_18 (by decide +kernel) (by decide) ?_
    refine v_cVv d_M_limitLine_20 ml_M_145 (q := (RX11, TX11, 32)) rfl (c_M_asksWord l hfl a0 3 M) (fun _ => rfl) (by decide) (by decide) (as := [xA 3]) (st1 := []) rfl rfl (Nat.le_of_ble_eq_true rfl) (fun _ M => ?_)
    refine v_aloadn d_M_limitLine_23 rfl 0 rfl ?_
    refine v_ldcS (i := 2) d_M_limitLine_24 (by decide +kernel) (by decide) ?_
    refine v_cVi d_M_limitLine_26 ml_M_62 (q := (RX11, TX11, 32)) rfl (c_M_takesWord l hfl a0 4 M) (fun _ => rfl) (by decide) (by decide) (as := [xA 4]) (st1 := []) rfl rfl (Nat.le_of_ble_eq_true rfl) (fun c26 M => ?_)
    refine v_istoren (lz := fun z => [(1, xI z), (0, xA a0)]) d_M_limitLine_29 rfl (Nat.le_of_ble_eq_true rfl) (fun _ => rfl) (fun v1_29 => ?_)
    refine v_iloadn d_M_limitLine_30 rfl 0 rfl ?_
    refine v_join0 (pj := 40) (lj := [(0, xA a0), (1, xI v1_29)]) (sj := []) (fun M => ?_) (fun j40 hj40 => ?_)
    · refine v_aloadn d_M_limitLine_40 rfl 0 rfl ?_
      refine v_gR d_M_limitLine_41 fl_M_80 rfl (fun r41 => ?_)
      refine v_iconst d_M_limitLine_44 (by decide) ?_
      refine v_iloadn d_M_limitLine_45 rfl 1 rfl ?_
      refine v_join3 (pj := 54) (lj := fun sa0_54 s1_54 s2_54 => [(0, xA a0)]) (sj := fun sa0_54 s1_54 s2_54 => [xI s2_54, xI s1_54, xA sa0_54]) (fun sa0_54 s1_54 s2_54 M => ?_) (fun j54 hj54 => ?_)
      · refine v_iast d_M_limitLine_54 (fun M => ?_)
        refine v_aloadn d_M_limitLine_55 rfl 0 rfl ?_
        refine v_gR d_M_limitLine_56 fl_M_80 rfl (fun r56 => ?_)
        refine v_iconst d_M_limitLine_59 (by decide) ?_
        refine v_aloadn d_M_limitLine_60 rfl 0 rfl ?_
        refine v_iconst d_M_limitLine_61 (by decide) ?_
        refine v_bipush d_M_limitLine_62 (by decide) ?_
        refine v_cVi d_M_limitLine_64 ml_M_149 (q := (RX11, TX11, 32)) rfl (c_M_number l hfl a0 1 99 M) (fun _ => rfl) (by decide) (by decide) (as := [xI 1, xI 99]) (st1 := [xI 2, xA r56]) rfl rfl (Nat.le_of_ble_eq_true rfl) (fun c64 M => ?_)
        refine v_iast d_M_limitLine_67 (fun M => ?_)
        refine v_aloadn d_M_limitLine_68 rfl 0 rfl ?_
        refine v_ldcS (i := 4) d_M_limitLine_69 (by decide +kernel) (by decide) ?_
        refine v_cVv d_M_limitLine_71 ml_M_145 (q := (RX11, TX11, 32)) rfl (c_M_asksWord l hfl a0 6 M) (fun _ => rfl) (by decide) (by decide) (as := [xA 6]) (st1 := []) rfl rfl (Nat.le_of_ble_eq_true rfl) (fun _ M => ?_)
        refine v_aloadn d_M_limitLine_74 rfl 0 rfl ?_
        refine v_gR d_M_limitLine_75 fl_M_80 rfl (fun r75 => ?_)
        refine v_iconst d_M_limitLine_78 (by decide) ?_
        refine v_aloadn d_M_limitLine_79 rfl 0 rfl ?_
        refine v_iconst d_M_limitLine_80 (by decide) ?_
        refine v_bipush d_M_limitLine_81 (by decide) ?_
        refine v_cVi d_M_limitLine_83 ml_M_149 (q := (RX11, TX11, 32)) rfl (c_M_number l hfl a0 1 9 M) (fun _ => rfl) (by decide) (by decide) (as := [xI 1, xI 9]) (st1 := [xI 3, xA r75]) rfl rfl (Nat.le_of_ble_eq_true rfl) (fun c83 M => ?_)
        refine v_iast d_M_limitLine_86 (fun M => ?_)
        exact v_vret d_M_limitLine_87 rfl
      refine v_ifeq d_M_limitLine_46 ?_ ?_
      · refine v_iconst d_M_limitLine_53 (by decide) ?_
        refine v_sub (ls' := [(0, xA a0)]) [0] rfl ?_
        exact hj54 r41 1 2 M
      · refine v_iconst d_M_limitLine_49 (by decide) ?_
        refine v_goto d_M_limitLine_50 ?_
        refine v_sub (ls' := [(0, xA a0)]) [0] rfl ?_
        exact hj54 r41 1 1 M
    refine v_ifne d_M_limitLine_31 ?_ ?_
    · refine v_sub (ls' := [(0, xA a0), (1, xI v1_29)]) [1, 0] rfl ?_
      exact hj40 M
    · refine v_aloadn d_M_limitLine_34 rfl 1 rfl ?_
      refine v_ldcS (i := 3) d_M_limitLine_35 (by decide +kernel) (by decide) ?_
      refine v_cVv d_M_limitLine_37 ml_M_145 (q := (RX11, TX11, 32)) rfl (c_M_asksWord l hfl a0 5 M) (fun _ => rfl) (by decide) (by decide) (as := [xA 5]) (st1 := []) rfl rfl (Nat.le_of_ble_eq_true rfl) (fun _ M => ?_)
      refine v_sub (ls' := [(0, xA a0), (1, xI v1_29)]) [1, 0] rfl ?_
      exact hj40 M
  · refine v_aloadn d_M_limitLine_7 rfl 0 rfl ?_
    refine v_cVv d_M_limitLine_8 ml_M_42 (q := (RX11, TX11, 32)) rfl (c_M_fails l hfl a0 M) (fun _ => rfl) (by decide) (by decide) (as := []) (st1 := []) rfl rfl (Nat.le_of_ble_eq_true rfl) (fun _ M => ?_)
    exact v_vret d_M_limitLine_11 rfl
set_option maxHeartbeats 4000000 in
set_option maxRecDepth 100000 in
theorem V_lp_M_mapLine_30 {l : Launch} {w : vm_W} (hfl : l.stackTraces = false) (kx132 : mm_T → Option (Unit × mm_T)) (a0 : Nat) (v1 : Int) (hkx132 : ∀ (M : mm_T), V_ l w q_M_mapLine 9 ex_V 132 [(0, xA a0)] [] M (kx132 M)) : ∀ (f : Nat) (v2 : Int) (M : mm_T), V_ l w q_M_mapLine 9 ex_V 30 [(0, xA a0), (1, xI v1), (2, xI v2)] [] M (lp_M_mapLine_30 kx132 a0 v1 f v2 M) := by
  intro f
  induction f with
  | zero => intros; exact V_.none
  | succ f ih =>
    intro v2 M
    unfold lp_M_mapLine_30
    refine v_iloadn d_M_mapLine_30 rfl 2 rfl ?_
    refine v_aloadn d_M_mapLine_31 rfl 0 rfl ?_
    refine v_gR d_M_mapLine_32 fl_M_80 rfl (fun r32 => ?_)
    refine v_iconst d_M_mapLine_35 (by decide) ?_
    refine v_iald d_M_mapLine_36 (fun x36 => ?_)
    refine v_icge d_M_mapLine_37 ?_ ?_
    · refine v_sub (ls' := [(0, xA a0)]) [0] rfl ?_
      exact hkx132 M
    · refine v_aloadn d_M_mapLine_40 rfl 0 rfl ?_
      refine v_cVi d_M_mapLine_41 ml_M_38 (q := (RX11, TX11, 32)) rfl (c_M_hasFailed l hfl a0 M) (fun _ => rfl) (by decide) (by decide) (as := []) (st1 := []) rfl rfl (Nat.le_of_ble_eq_true rfl) (fun c41 M => ?_)
      refine v_ifne d_M_mapLine_44 ?_ ?_
      · refine v_sub (ls' := [(0, xA a0)]) [0] rfl ?_
        exact hkx132 M
      · refine v_aloadn d_M_mapLine_47 rfl 0 rfl ?_
        refine v_cVi d_M_mapLine_48 ml_M_45 (q := (RX11, TX11, 32)) rfl (c_M_wordMany l hfl a0 M) (fun _ => rfl) (by decide) (by decide) (as := []) (st1 := []) rfl rfl (Nat.le_of_ble_eq_true rfl) (fun c48 M => ?_)
        refine v_iconst d_M_mapLine_51 (by decide) ?_
        refine v_join0 (pj := 71) (lj := [(0, xA a0)]) (sj := []) (fun M => ?_) (fun j71 hj71 => ?_)
        · refine v_aloadn d_M_mapLine_71 rfl 0 rfl ?_
          refine v_cVv d_M_mapLine_72 ml_M_42 (q := (RX11, TX11, 32)) rfl (c_M_fails l hfl a0 M) (fun _ => rfl) (by decide) (by decide) (as := []) (st1 := []) rfl rfl (Nat.le_of_ble_eq_true rfl) (fun _ M => ?_)
          exact v_vret d_M_mapLine_75 rfl
        refine v_icne d_M_mapLine_52 ?_ ?_
        · refine v_sub (ls' := [(0, xA a0)]) [0] rfl ?_
          exact hj71 M
        · refine v_aloadn d_M_mapLine_55 rfl 0 rfl ?_
          refine v_gR d_M_mapLine_56 fl_M_14 rfl (fun r56 => ?_)
          refine v_aloadn d_M_mapLine_59 rfl 0 rfl ?_
          refine v_gI d_M_mapLine_60 fl_M_21 rfl (fun x60 => ?_)
          refine v_bald d_M_mapLine_63 (fun x63 => ?_)
          refine v_bipush d_M_mapLine_64 (by decide) ?_
          refine v_iloadn d_M_mapLine_66 rfl 2 rfl ?_
          refine v_iadd d_M_mapLine_67 (fun x67 => ?_)
          refine v_iceq d_M_mapLine_68 ?_ ?_
          · refine v_aloadn d_M_mapLine_76 rfl 0 rfl ?_
            refine v_dup d_M_mapLine_77 rfl ?_
            refine v_gI d_M_mapLine_78 fl_M_21 rfl (fun x78 => ?_)
            refine v_iconst d_M_mapLine_81 (by decide) ?_
            refine v_iadd d_M_mapLine_82 (fun x82 => ?_)
            refine v_pI d_M_mapLine_83 fl_M_21 (Or.inl rfl) rfl rfl (fun M => ?_)
            refine v_aloadn d_M_mapLine_86 rfl 0 rfl ?_
            refine v_gR d_M_mapLine_87 fl_M_80 rfl (fun r87 => ?_)
            refine v_bipush d_M_mapLine_90 (by decide) ?_
            refine v_iconst d_M_mapLine_92 (by decide) ?_
            refine v_iloadn d_M_mapLine_93 rfl 1 rfl ?_
            refine v_imul d_M_mapLine_94 (fun x94 => ?_)
            refine v_iadd d_M_mapLine_95 (fun x95 => ?_)
            refine v_iloadn d_M_mapLine_96 rfl 2 rfl ?_
            refine v_iadd d_M_mapLine_97 (fun x97 => ?_)
            refine v_aloadn d_M_mapLine_98 rfl 0 rfl ?_
            refine v_bipush d_M_mapLine_99 (by decide) ?_
            refine v_aloadn d_M_mapLine_101 rfl 0 rfl ?_
            refine v_gR d_M_mapLine_102 fl_M_80 rfl (fun r102 => ?_)
            refine v_iconst d_M_mapLine_105 (by decide) ?_
            refine v_iald d_M_mapLine_106 (fun x106 => ?_)
            refine v_aloadn d_M_mapLine_107 rfl 0 rfl ?_
            refine v_gR d_M_mapLine_108 fl_M_80 rfl (fun r108 => ?_)
            refine v_bipush d_M_mapLine_111 (by decide) ?_
            refine v_bipush d_M_mapLine_113 (by decide) ?_
            refine v_iconst d_M_mapLine_115 (by decide) ?_
            refine v_iloadn d_M_mapLine_116 rfl 1 rfl ?_
            refine v_imul d_M_mapLine_117 (fun x117 => ?_)
            refine v_iloadn d_M_mapLine_118 rfl 2 rfl ?_
            refine v_iadd d_M_mapLine_119 (fun x119 => ?_)
            refine v_imul d_M_mapLine_120 (fun x120 => ?_)
            refine v_iadd d_M_mapLine_121 (fun x121 => ?_)
            refine v_cVi d_M_mapLine_122 ml_M_156 (q := (RX11, TX11, 32)) rfl (c_M_letters l hfl a0 97 x106 r108 x121 M) (fun _ => rfl) (by decide) (by decide) (as := [xI 97, xI x106, xA r108, xI x121]) (st1 := [xI x97, xA r87]) rfl rfl (Nat.le_of_ble_eq_true rfl) (fun c122 M => ?_)
            refine v_iast d_M_mapLine_125 (fun M => ?_)
            refine v_iinc (lz := fun z => [(2, xI z), (0, xA a0), (1, xI v1)]) d_M_mapLine_126 2 rfl (Nat.le_of_ble_eq_true rfl) (fun _ => rfl) (fun v2_126 => ?_)
            refine v_goto d_M_mapLine_129 ?_
            refine v_sub (ls' := [(0, xA a0), (1, xI v1), (2, xI v2_126)]) [1, 2, 0] rfl ?_
            exact ih v2_126 M
          · refine v_sub (ls' := [(0, xA a0)]) [0] rfl ?_
            exact hj71 M
set_option maxHeartbeats 4000000 in
set_option maxRecDepth 100000 in
theorem c_M_mapLine (l : Launch) (hfl : l.stackTraces = false) (a0 : Nat) (M : mm_T) : vm_Con l yX11_mapLine (.code yX11_mapLine cX11_mapLine 3 none) 9 ex_V [xA a0] M (k_M_mapLine a0 M) := by
  refine vm_con (y := q_M_mapLine) hfl (by decide +kernel) rfl (fun h => by cases h) (Nat.le_of_ble_eq_true rfl) rfl (fun _ _ _ => rfl) (fun r E h => by cases h) (fun w => ?_)
  show V_ l w q_M_mapLine 9 ex_V 0 [(0, xA a0)] [] M (k_M_mapLine a0 M)
  unfold k_M_mapLine
  refine v_aloadn d_M_mapLine_0 rfl 0 rfl ?_
  refine v_gR d_M_mapLine_1 fl_M_80 rfl (fun r1 => ?_)
  refine v_iconst d_M_mapLine_4 (by decide) ?_
  refine v_iald d_M_mapLine_5 (fun x5 => ?_)
  refine v_istoren (lz := fun z => [(1, xI z), (0, xA a0)]) d_M_mapLine_6 rfl (Nat.le_of_ble_eq_true rfl) (fun _ => rfl) (fun v1_6 => ?_)
  refine v_iloadn d_M_mapLine_7 rfl 0 rfl ?_
  refine v_iconst d_M_mapLine_8 (by decide) ?_
  refine v_icne d_M_mapLine_9 ?_ ?_
  · refine v_aloadn d_M_mapLine_17 rfl 1 rfl ?_
    refine v_ldcS (i := 5) d_M_mapLine_18 (by decide +kernel) (by decide) ?_
    refine v_cVv d_M_mapLine_20 ml_M_145 (q := (RX11, TX11, 32)) rfl (c_M_asksWord l hfl a0 7 M) (fun _ => rfl) (by decide) (by decide) (as := [xA 7]) (st1 := []) rfl rfl (Nat.le_of_ble_eq_true rfl) (fun _ M => ?_)
    refine v_aloadn d_M_mapLine_23 rfl 1 rfl ?_
    refine v_iloadn d_M_mapLine_24 rfl 0 rfl ?_
    refine v_cVv d_M_mapLine_25 ml_M_152 (q := (RX11, TX11, 32)) rfl (c_M_freshName l hfl a0 v1_6 M) (fun _ => rfl) (by decide) (by decide) (as := [xI v1_6]) (st1 := []) rfl rfl (Nat.le_of_ble_eq_true rfl) (fun _ M => ?_)
    refine v_iconst d_M_mapLine_28 (by decide) ?_
    refine v_istoren (lz := fun z => [(2, xI z), (1, xI v1_6), (0, xA a0)]) d_M_mapLine_29 rfl (Nat.le_of_ble_eq_true rfl) (fun _ => rfl) (fun v2_29 => ?_)
    refine v_sub (ls' := [(0, xA a0), (1, xI v1_6), (2, xI v2_29)]) [2, 1, 0] rfl ?_
    refine V_lp_M_mapLine_30 hfl _ _ _ (fun M => ?_) _ _ _
    · refine v_aloadn d_M_mapLine_132 rfl 0 rfl ?_
      refine v_gR d_M_mapLine_133 fl_M_80 rfl (fun r133 => ?_)
      refine v_iconst d_M_mapLine_136 (by decide) ?_
      refine v_dup2 d_M_mapLine_137 rfl rfl ?_
      refine v_iald d_M_mapLine_138 (fun x138 => ?_)
      refine v_iconst d_M_mapLine_139 (by decide) ?_
      refine v_iadd d_M_mapLine_140 (fun x140 => ?_)
      refine v_iast d_M_mapLine_141 (fun M => ?_)
      exact v_vret d_M_mapLine_142 rfl
  · refine v_aloadn d_M_mapLine_12 rfl 1 rfl ?_
    refine v_cVv d_M_mapLine_13 ml_M_42 (q := (RX11, TX11, 32)) rfl (c_M_fails l hfl a0 M) (fun _ => rfl) (by decide) (by decide) (as := []) (st1 := []) rfl rfl (Nat.le_of_ble_eq_true rfl) (fun _ M => ?_)
    exact v_vret d_M_mapLine_16 rfl
set_option maxHeartbeats 4000000 in
set_option maxRecDepth 100000 in
theorem c_M_patternLine (l : Launch) (hfl : l.stackTraces = false) (a0 : Nat) (M : mm_T) : vm_Con l yX11_patternLine (.code yX11_patternLine cX11_patternLine 2 none) 9 ex_V [xA a0] M (k_M_patternLine a0 M) := by
  refine vm_con (y := q_M_patternLine) hfl (by decide +kernel) rfl (fun h => by cases h) (Nat.le_of_ble_eq_true rfl) rfl (fun _ _ _ => rfl) (fun r E h => by cases h) (fun w => ?_)
  show V_ l w q_M_patternLine 9 ex_V 0 [(0, xA a0)] [] M (k_M_patternLine a0 M)
  unfold k_M_patternLine
  refine v_aloadn d_M_patternLine_0 rfl 0 rfl ?_
  refine v_gR d_M_patternLine_1 fl_M_80 rfl (fun r1 => ?_)
  refine v_iconst d_M_patternLine_4 (by decide) ?_
  refine v_iald d_M_patternLine_5 (fun x5 => ?_)
  refine v_istoren (lz := fun z => [(1, xI z), (0, xA a0)]) d_M_patternLine_6 rfl (Nat.le_of_ble_eq_true rfl) (fun _ => rfl) (fun v1_6 => ?_)
  refine v_iloadn d_M_patternLine_7 rfl 0 rfl ?_
  refine v_iconst d_M_patternLine_8 (by decide) ?_
  refine v_icne d_M_patternLine_9 ?_ ?_
  · refine v_aloadn d_M_patternLine_17 rfl 1 rfl ?_
    refine v_ldcS (i := 6) d_M_patternLine_18 (by decide +kernel) (by decide) ?_
    refine v_cVv d_M_patternLine_20 ml_M_145 (q := (RX11, TX11, 32)) rfl (c_M_asksWord l hfl a0 8 M) (fun _ => rfl) (by decide) (by decide) (as := [xA 8]) (st1 := []) rfl rfl (Nat.le_of_ble_eq_true rfl) (fun _ M => ?_)
    refine v_aloadn d_M_patternLine_23 rfl 1 rfl ?_
    refine v_iconst d_M_patternLine_24 (by decide) ?_
    refine v_iloadn d_M_patternLine_25 rfl 0 rfl ?_
    refine v_iadd d_M_patternLine_26 (fun x26 => ?_)
    refine v_cVv d_M_patternLine_27 ml_M_152 (q := (RX11, TX11, 32)) rfl (c_M_freshName l hfl a0 x26 M) (fun _ => rfl) (by decide) (by decide) (as := [xI x26]) (st1 := []) rfl rfl (Nat.le_of_ble_eq_true rfl) (fun _ M => ?_)
    refine v_aloadn d_M_patternLine_30 rfl 1 rfl ?_
    refine v_gR d_M_patternLine_31 fl_M_80 rfl (fun r31 => ?_)
    refine v_sipush d_M_patternLine_34 (by decide) ?_
    refine v_iloadn d_M_patternLine_37 rfl 0 rfl ?_
    refine v_iadd d_M_patternLine_38 (fun x38 => ?_)
    refine v_aloadn d_M_patternLine_39 rfl 1 rfl ?_
    refine v_bipush d_M_patternLine_40 (by decide) ?_
    refine v_iconst d_M_patternLine_42 (by decide) ?_
    refine v_aloadn d_M_patternLine_43 rfl 1 rfl ?_
    refine v_gR d_M_patternLine_44 fl_M_80 rfl (fun r44 => ?_)
    refine v_sipush d_M_patternLine_47 (by decide) ?_
    refine v_bipush d_M_patternLine_50 (by decide) ?_
    refine v_iloadn d_M_patternLine_52 rfl 0 rfl ?_
    refine v_imul d_M_patternLine_53 (fun x53 => ?_)
    refine v_iadd d_M_patternLine_54 (fun x54 => ?_)
    refine v_cVi d_M_patternLine_55 ml_M_156 (q := (RX11, TX11, 32)) rfl (c_M_letters l hfl a0 120 3 r44 x54 M) (fun _ => rfl) (by decide) (by decide) (as := [xI 120, xI 3, xA r44, xI x54]) (st1 := [xI x38, xA r31]) rfl rfl (Nat.le_of_ble_eq_true rfl) (fun c55 M => ?_)
    refine v_iast d_M_patternLine_58 (fun M => ?_)
    refine v_aloadn d_M_patternLine_59 rfl 1 rfl ?_
    refine v_gR d_M_patternLine_60 fl_M_80 rfl (fun r60 => ?_)
    refine v_iconst d_M_patternLine_63 (by decide) ?_
    refine v_dup2 d_M_patternLine_64 rfl rfl ?_
    refine v_iald d_M_patternLine_65 (fun x65 => ?_)
    refine v_iconst d_M_patternLine_66 (by decide) ?_
    refine v_iadd d_M_patternLine_67 (fun x67 => ?_)
    refine v_iast d_M_patternLine_68 (fun M => ?_)
    exact v_vret d_M_patternLine_69 rfl
  · refine v_aloadn d_M_patternLine_12 rfl 1 rfl ?_
    refine v_cVv d_M_patternLine_13 ml_M_42 (q := (RX11, TX11, 32)) rfl (c_M_fails l hfl a0 M) (fun _ => rfl) (by decide) (by decide) (as := []) (st1 := []) rfl rfl (Nat.le_of_ble_eq_true rfl) (fun _ M => ?_)
    exact v_vret d_M_patternLine_16 rfl
set_option maxHeartbeats 4000000 in
set_option maxRecDepth 100000 in
theorem c_M_avoidLine (l : Launch) (hfl : l.stackTraces = false) (a0 : Nat) (M : mm_T) : vm_Con l yX11_avoidLine (.code yX11_avoidLine cX11_avoidLine 2 none) 9 ex_V [xA a0] M (k_M_avoidLine a0 M) := by
  refine vm_con (y := q_M_avoidLine) hfl (by decide +kernel) rfl (fun h => by cases h) (Nat.le_of_ble_eq_true rfl) rfl (fun _ _ _ => rfl) (fun r E h => by cases h) (fun w => ?_)
  show V_ l w q_M_avoidLine 9 ex_V 0 [(0, xA a0)] [] M (k_M_avoidLine a0 M)
  unfold k_M_avoidLine
  refine v_aloadn d_M_avoidLine_0 rfl 0 rfl ?_
  refine v_ldcS (i := 7) d_M_avoidLine_1 (by decide +kernel) (by decide) ?_
  refine v_cVv d_M_avoidLine_3 ml_M_145 (q := (RX11, TX11, 32)) rfl (c_M_asksWord l hfl a0 9 M) (fun _ => rfl) (by decide) (by decide) (as := [xA 9]) (st1 := []) rfl rfl (Nat.le_of_ble_eq_true rfl) (fun _ M => ?_)
  refine v_aloadn d_M_avoidLine_6 rfl 0 rfl ?_
  refine v_cVv d_M_avoidLine_7 ml_M_34 (q := (RX11, TX11, 32)) rfl (c_M_blanks l hfl a0 M) (fun _ => rfl) (by decide) (by decide) (as := []) (st1 := []) rfl rfl (Nat.le_of_ble_eq_true rfl) (fun _ M => ?_)
  refine v_aloadn d_M_avoidLine_10 rfl 0 rfl ?_
  refine v_cVi d_M_avoidLine_11 ml_M_38 (q := (RX11, TX11, 32)) rfl (c_M_hasFailed l hfl a0 M) (fun _ => rfl) (by decide) (by decide) (as := []) (st1 := []) rfl rfl (Nat.le_of_ble_eq_true rfl) (fun c11 M => ?_)
  refine v_ifeq d_M_avoidLine_14 ?_ ?_
  · refine v_aloadn d_M_avoidLine_18 rfl 0 rfl ?_
    refine v_cVi d_M_avoidLine_19 ml_M_134 (q := (RX11, TX11, 32)) rfl (c_M_isName l hfl a0 M) (fun _ => rfl) (by decide) (by decide) (as := []) (st1 := []) rfl rfl (Nat.le_of_ble_eq_true rfl) (fun c19 M => ?_)
    refine v_join1 (pj := 40) (lj := fun s0_40 => [(0, xA a0)]) (sj := fun s0_40 => [xI s0_40]) (fun s0_40 M => ?_) (fun j40 hj40 => ?_)
    · refine v_istoren (lz := fun z => [(1, xI z), (0, xA a0)]) d_M_avoidLine_40 rfl (Nat.le_of_ble_eq_true rfl) (fun _ => rfl) (fun v1_40 => ?_)
      refine v_iloadn d_M_avoidLine_41 rfl 0 rfl ?_
      refine v_iconst d_M_avoidLine_42 (by decide) ?_
      refine v_join0 (pj := 60) (lj := [(0, xA a0)]) (sj := []) (fun M => ?_) (fun j60 hj60 => ?_)
      · refine v_aloadn d_M_avoidLine_60 rfl 0 rfl ?_
        refine v_cVv d_M_avoidLine_61 ml_M_42 (q := (RX11, TX11, 32)) rfl (c_M_fails l hfl a0 M) (fun _ => rfl) (by decide) (by decide) (as := []) (st1 := []) rfl rfl (Nat.le_of_ble_eq_true rfl) (fun _ M => ?_)
        exact v_vret d_M_avoidLine_64 rfl
      refine v_iceq d_M_avoidLine_43 ?_ ?_
      · refine v_sub (ls' := [(0, xA a0)]) [1] rfl ?_
        exact hj60 M
      · refine v_aloadn d_M_avoidLine_46 rfl 1 rfl ?_
        refine v_gR d_M_avoidLine_47 fl_M_80 rfl (fun r47 => ?_)
        refine v_sipush d_M_avoidLine_50 (by decide) ?_
        refine v_iloadn d_M_avoidLine_53 rfl 0 rfl ?_
        refine v_iadd d_M_avoidLine_54 (fun x54 => ?_)
        refine v_iald d_M_avoidLine_55 (fun x55 => ?_)
        refine v_iconst d_M_avoidLine_56 (by decide) ?_
        refine v_icne d_M_avoidLine_57 ?_ ?_
        · refine v_aloadn d_M_avoidLine_65 rfl 1 rfl ?_
          refine v_dup d_M_avoidLine_66 rfl ?_
          refine v_gI d_M_avoidLine_67 fl_M_21 rfl (fun x67 => ?_)
          refine v_aloadn d_M_avoidLine_70 rfl 1 rfl ?_
          refine v_cVi d_M_avoidLine_71 ml_M_45 (q := (RX11, TX11, 32)) rfl (c_M_wordMany l hfl a0 M) (fun _ => rfl) (by decide) (by decide) (as := []) (st1 := [xI x67, xA a0]) rfl rfl (Nat.le_of_ble_eq_true rfl) (fun c71 M => ?_)
          refine v_iadd d_M_avoidLine_74 (fun x74 => ?_)
          refine v_pI d_M_avoidLine_75 fl_M_21 (Or.inl rfl) rfl rfl (fun M => ?_)
          refine v_aloadn d_M_avoidLine_78 rfl 1 rfl ?_
          refine v_gR d_M_avoidLine_79 fl_M_80 rfl (fun r79 => ?_)
          refine v_sipush d_M_avoidLine_82 (by decide) ?_
          refine v_iloadn d_M_avoidLine_85 rfl 0 rfl ?_
          refine v_iadd d_M_avoidLine_86 (fun x86 => ?_)
          refine v_iconst d_M_avoidLine_87 (by decide) ?_
          refine v_iast d_M_avoidLine_88 (fun M => ?_)
          exact v_vret d_M_avoidLine_89 rfl
        · refine v_sub (ls' := [(0, xA a0)]) [1] rfl ?_
          exact hj60 M
    refine v_ifeq d_M_avoidLine_22 ?_ ?_
    · refine v_iconst d_M_avoidLine_39 (by decide) ?_
      exact hj40 (-1) M
    · refine v_aloadn d_M_avoidLine_25 rfl 0 rfl ?_
      refine v_iconst d_M_avoidLine_26 (by decide) ?_
      refine v_aloadn d_M_avoidLine_27 rfl 0 rfl ?_
      refine v_gR d_M_avoidLine_28 fl_M_80 rfl (fun r28 => ?_)
      refine v_iconst d_M_avoidLine_31 (by decide) ?_
      refine v_iald d_M_avoidLine_32 (fun x32 => ?_)
      refine v_cVi d_M_avoidLine_33 ml_M_137 (q := (RX11, TX11, 32)) rfl (c_M_named l hfl a0 4 x32 M) (fun _ => rfl) (by decide) (by decide) (as := [xI 4, xI x32]) (st1 := []) rfl rfl (Nat.le_of_ble_eq_true rfl) (fun c33 M => ?_)
      refine v_goto d_M_avoidLine_36 ?_
      exact hj40 c33 M
  · exact v_vret d_M_avoidLine_17 rfl
set_option maxHeartbeats 4000000 in
set_option maxRecDepth 100000 in
theorem c_M_line (l : Launch) (hfl : l.stackTraces = false) (a0 : Nat) (M : mm_T) : vm_Con l yX11_line (.code yX11_line cX11_line 2 none) 10 ex_V [xA a0] M (k_M_line a0 M) := by
  refine vm_con (y := q_M_line) hfl (by decide +kernel) rfl (fun h => by cases h) (Nat.le_of_ble_eq_true rfl) rfl (fun _ _ _ => rfl) (fun r E h => by cases h) (fun w => ?_)
  show V_ l w q_M_line 10 ex_V 0 [(0, xA a0)] [] M (k_M_line a0 M)
  unfold k_M_line
  refine v_aloadn d_M_line_0 rfl 0 rfl ?_
  refine v_cVv d_M_line_1 ml_M_34 (q := (RX11, TX11, 32)) rfl (c_M_blanks l hfl a0 M) (fun _ => rfl) (by decide) (by decide) (as := []) (st1 := []) rfl rfl (Nat.le_of_ble_eq_true rfl) (fun _ M => ?_)
  refine v_aloadn d_M_line_4 rfl 0 rfl ?_
  refine v_gR d_M_line_5 fl_M_80 rfl (fun r5 => ?_)
  refine v_iconst d_M_line_8 (by decide) ?_
  refine v_iald d_M_line_9 (fun x9 => ?_)
  refine v_join1 (pj := 18) (lj := fun s0_18 => [(0, xA a0)]) (sj := fun s0_18 => [xI s0_18]) (fun s0_18 M => ?_) (fun j18 hj18 => ?_)
  · refine v_istoren (lz := fun z => [(1, xI z), (0, xA a0)]) d_M_line_18 rfl (Nat.le_of_ble_eq_true rfl) (fun _ => rfl) (fun v1_18 => ?_)
    refine v_iloadn d_M_line_19 rfl 0 rfl ?_
    refine v_join0 (pj := 131) (lj := [(0, xA a0)]) (sj := []) (fun M => ?_) (fun j131 hj131 => ?_)
    · refine v_aloadn d_M_line_131 rfl 0 rfl ?_
      refine v_bipush d_M_line_132 (by decide) ?_
      refine v_cVv d_M_line_134 ml_M_171 (q := (RX11, TX11, 32)) rfl (c_M_asksSign l hfl a0 59 M) (fun _ => rfl) (by decide) (by decide) (as := [xI 59]) (st1 := []) rfl rfl (Nat.le_of_ble_eq_true rfl) (fun _ M => ?_)
      exact v_vret d_M_line_137 rfl
    refine v_join0 (pj := 47) (lj := [(0, xA a0), (1, xI v1_18)]) (sj := []) (fun M => ?_) (fun j47 hj47 => ?_)
    · refine v_iloadn d_M_line_47 rfl 1 rfl ?_
      refine v_join0 (pj := 67) (lj := [(0, xA a0), (1, xI v1_18)]) (sj := []) (fun M => ?_) (fun j67 hj67 => ?_)
      · refine v_iloadn d_M_line_67 rfl 1 rfl ?_
        refine v_join0 (pj := 87) (lj := [(0, xA a0), (1, xI v1_18)]) (sj := []) (fun M => ?_) (fun j87 hj87 => ?_)
        · refine v_iloadn d_M_line_87 rfl 1 rfl ?_
          refine v_join0 (pj := 107) (lj := [(0, xA a0), (1, xI v1_18)]) (sj := []) (fun M => ?_) (fun j107 hj107 => ?_)
          · refine v_iloadn d_M_line_107 rfl 1 rfl ?_
            refine v_join0 (pj := 127) (lj := [(0, xA a0)]) (sj := []) (fun M => ?_) (fun j127 hj127 => ?_)
            · refine v_aloadn d_M_line_127 rfl 0 rfl ?_
              refine v_cVv d_M_line_128 ml_M_42 (q := (RX11, TX11, 32)) rfl (c_M_fails l hfl a0 M) (fun _ => rfl) (by decide) (by decide) (as := []) (st1 := []) rfl rfl (Nat.le_of_ble_eq_true rfl) (fun _ M => ?_)
              exact hj131 M
            refine v_ifeq d_M_line_108 ?_ ?_
            · refine v_sub (ls' := [(0, xA a0)]) [0] rfl ?_
              exact hj127 M
            · refine v_aloadn d_M_line_111 rfl 0 rfl ?_
              refine v_ldcS (i := 7) d_M_line_112 (by decide +kernel) (by decide) ?_
              refine v_cVi d_M_line_114 ml_M_58 (q := (RX11, TX11, 32)) rfl (c_M_isWord l hfl a0 9 M) (fun _ => rfl) (by decide) (by decide) (as := [xA 9]) (st1 := []) rfl rfl (Nat.le_of_ble_eq_true rfl) (fun c114 M => ?_)
              refine v_ifeq d_M_line_117 ?_ ?_
              · refine v_sub (ls' := [(0, xA a0)]) [0] rfl ?_
                exact hj127 M
              · refine v_aloadn d_M_line_120 rfl 0 rfl ?_
                refine v_cVv d_M_line_121 ml_M_168 (q := (RX11, TX11, 32)) rfl (c_M_avoidLine l hfl a0 M) (fun _ => rfl) (by decide) (by decide) (as := []) (st1 := []) rfl rfl (Nat.le_of_ble_eq_true rfl) (fun _ M => ?_)
                refine v_goto d_M_line_124 ?_
                refine v_sub (ls' := [(0, xA a0)]) [0] rfl ?_
                exact hj131 M
          refine v_ifeq d_M_line_88 ?_ ?_
          · exact hj107 M
          · refine v_aloadn d_M_line_91 rfl 0 rfl ?_
            refine v_ldcS (i := 6) d_M_line_92 (by decide +kernel) (by decide) ?_
            refine v_cVi d_M_line_94 ml_M_58 (q := (RX11, TX11, 32)) rfl (c_M_isWord l hfl a0 8 M) (fun _ => rfl) (by decide) (by decide) (as := [xA 8]) (st1 := []) rfl rfl (Nat.le_of_ble_eq_true rfl) (fun c94 M => ?_)
            refine v_ifeq d_M_line_97 ?_ ?_
            · exact hj107 M
            · refine v_aloadn d_M_line_100 rfl 0 rfl ?_
              refine v_cVv d_M_line_101 ml_M_165 (q := (RX11, TX11, 32)) rfl (c_M_patternLine l hfl a0 M) (fun _ => rfl) (by decide) (by decide) (as := []) (st1 := []) rfl rfl (Nat.le_of_ble_eq_true rfl) (fun _ M => ?_)
              refine v_goto d_M_line_104 ?_
              refine v_sub (ls' := [(0, xA a0)]) [0] rfl ?_
              exact hj131 M
        refine v_ifeq d_M_line_68 ?_ ?_
        · exact hj87 M
        · refine v_aloadn d_M_line_71 rfl 0 rfl ?_
          refine v_ldcS (i := 5) d_M_line_72 (by decide +kernel) (by decide) ?_
          refine v_cVi d_M_line_74 ml_M_58 (q := (RX11, TX11, 32)) rfl (c_M_isWord l hfl a0 7 M) (fun _ => rfl) (by decide) (by decide) (as := [xA 7]) (st1 := []) rfl rfl (Nat.le_of_ble_eq_true rfl) (fun c74 M => ?_)
          refine v_ifeq d_M_line_77 ?_ ?_
          · exact hj87 M
          · refine v_aloadn d_M_line_80 rfl 0 rfl ?_
            refine v_cVv d_M_line_81 ml_M_162 (q := (RX11, TX11, 32)) rfl (c_M_mapLine l hfl a0 M) (fun _ => rfl) (by decide) (by decide) (as := []) (st1 := []) rfl rfl (Nat.le_of_ble_eq_true rfl) (fun _ M => ?_)
            refine v_goto d_M_line_84 ?_
            refine v_sub (ls' := [(0, xA a0)]) [0] rfl ?_
            exact hj131 M
      refine v_ifeq d_M_line_48 ?_ ?_
      · exact hj67 M
      · refine v_aloadn d_M_line_51 rfl 0 rfl ?_
        refine v_ldcS (i := 1) d_M_line_52 (by decide +kernel) (by decide) ?_
        refine v_cVi d_M_line_54 ml_M_58 (q := (RX11, TX11, 32)) rfl (c_M_isWord l hfl a0 3 M) (fun _ => rfl) (by decide) (by decide) (as := [xA 3]) (st1 := []) rfl rfl (Nat.le_of_ble_eq_true rfl) (fun c54 M => ?_)
        refine v_ifeq d_M_line_57 ?_ ?_
        · exact hj67 M
        · refine v_aloadn d_M_line_60 rfl 0 rfl ?_
          refine v_cVv d_M_line_61 ml_M_159 (q := (RX11, TX11, 32)) rfl (c_M_limitLine l hfl a0 M) (fun _ => rfl) (by decide) (by decide) (as := []) (st1 := []) rfl rfl (Nat.le_of_ble_eq_true rfl) (fun _ M => ?_)
          refine v_goto d_M_line_64 ?_
          refine v_sub (ls' := [(0, xA a0)]) [0] rfl ?_
          exact hj131 M
    refine v_ifne d_M_line_20 ?_ ?_
    · refine v_sub (ls' := [(0, xA a0), (1, xI v1_18)]) [1, 0] rfl ?_
      exact hj47 M
    · refine v_aloadn d_M_line_23 rfl 1 rfl ?_
      refine v_ldcS (i := 0) d_M_line_24 (by decide +kernel) (by decide) ?_
      refine v_cVi d_M_line_26 ml_M_62 (q := (RX11, TX11, 32)) rfl (c_M_takesWord l hfl a0 2 M) (fun _ => rfl) (by decide) (by decide) (as := [xA 2]) (st1 := []) rfl rfl (Nat.le_of_ble_eq_true rfl) (fun c26 M => ?_)
      refine v_ifeq d_M_line_29 ?_ ?_
      · refine v_sub (ls' := [(0, xA a0), (1, xI v1_18)]) [1, 0] rfl ?_
        exact hj47 M
      · refine v_aloadn d_M_line_32 rfl 1 rfl ?_
        refine v_gR d_M_line_33 fl_M_80 rfl (fun r33 => ?_)
        refine v_iconst d_M_line_36 (by decide) ?_
        refine v_aloadn d_M_line_37 rfl 1 rfl ?_
        refine v_iconst d_M_line_38 (by decide) ?_
        refine v_iconst d_M_line_39 (by decide) ?_
        refine v_cVi d_M_line_40 ml_M_149 (q := (RX11, TX11, 32)) rfl (c_M_number l hfl a0 2 4 M) (fun _ => rfl) (by decide) (by decide) (as := [xI 2, xI 4]) (st1 := [xI 0, xA r33]) rfl rfl (Nat.le_of_ble_eq_true rfl) (fun c40 M => ?_)
        refine v_iast d_M_line_43 (fun M => ?_)
        refine v_goto d_M_line_44 ?_
        refine v_sub (ls' := [(0, xA a0)]) [1] rfl ?_
        exact hj131 M
  refine v_ifle d_M_line_10 ?_ ?_
  · refine v_iconst d_M_line_17 (by decide) ?_
    exact hj18 0 M
  · refine v_iconst d_M_line_13 (by decide) ?_
    refine v_goto d_M_line_14 ?_
    exact hj18 1 M
set_option maxHeartbeats 4000000 in
set_option maxRecDepth 100000 in
theorem V_lp_M_read_11 {l : Launch} {w : vm_W} (hfl : l.stackTraces = false) (kx31 : mm_T → Option (Int × mm_T)) (a0 : Nat) (hkx31 : ∀ (M : mm_T), V_ l w q_M_read 11 ex_I 31 [(0, xA a0)] [] M (kx31 M)) : ∀ (f : Nat) (v1 : Int) (M : mm_T), V_ l w q_M_read 11 ex_I 11 [(0, xA a0), (1, xI v1)] [] M (lp_M_read_11 kx31 a0 f v1 M) := by
  intro f
  induction f with
  | zero => intros; exact V_.none
  | succ f ih =>
    intro v1 M
    unfold lp_M_read_11
    refine v_iloadn d_M_read_11 rfl 1 rfl ?_
    refine v_sipush d_M_read_12 (by decide) ?_
    refine v_icge d_M_read_15 ?_ ?_
    · refine v_sub (ls' := [(0, xA a0)]) [0] rfl ?_
      exact hkx31 M
    · refine v_aloadn d_M_read_18 rfl 0 rfl ?_
      refine v_gR d_M_read_19 fl_M_80 rfl (fun r19 => ?_)
      refine v_iloadn d_M_read_22 rfl 1 rfl ?_
      refine v_iconst d_M_read_23 (by decide) ?_
      refine v_iast d_M_read_24 (fun M => ?_)
      refine v_iinc (lz := fun z => [(1, xI z), (0, xA a0)]) d_M_read_25 1 rfl (Nat.le_of_ble_eq_true rfl) (fun _ => rfl) (fun v1_25 => ?_)
      refine v_goto d_M_read_28 ?_
      refine v_sub (ls' := [(0, xA a0), (1, xI v1_25)]) [1, 0] rfl ?_
      exact ih v1_25 M
set_option maxHeartbeats 4000000 in
set_option maxRecDepth 100000 in
theorem V_lp_M_read_40 {l : Launch} {w : vm_W} (hfl : l.stackTraces = false) (kx69 : mm_T → Option (Int × mm_T)) (a0 : Nat) (hkx69 : ∀ (M : mm_T), V_ l w q_M_read 11 ex_I 69 [(0, xA a0)] [] M (kx69 M)) : ∀ (f : Nat) (M : mm_T), V_ l w q_M_read 11 ex_I 40 [(0, xA a0)] [] M (lp_M_read_40 kx69 a0 f M) := by
  intro f
  induction f with
  | zero => intros; exact V_.none
  | succ f ih =>
    intro M
    unfold lp_M_read_40
    refine v_aloadn d_M_read_40 rfl 0 rfl ?_
    refine v_cVi d_M_read_41 ml_M_38 (q := (RX11, TX11, 32)) rfl (c_M_hasFailed l hfl a0 M) (fun _ => rfl) (by decide) (by decide) (as := []) (st1 := []) rfl rfl (Nat.le_of_ble_eq_true rfl) (fun c41 M => ?_)
    refine v_ifne d_M_read_44 ?_ ?_
    · exact hkx69 M
    · refine v_aloadn d_M_read_47 rfl 0 rfl ?_
      refine v_gI d_M_read_48 fl_M_21 rfl (fun x48 => ?_)
      refine v_aloadn d_M_read_51 rfl 0 rfl ?_
      refine v_gI d_M_read_52 fl_M_18 rfl (fun x52 => ?_)
      refine v_icge d_M_read_55 ?_ ?_
      · exact hkx69 M
      · refine v_aloadn d_M_read_58 rfl 0 rfl ?_
        refine v_cVv d_M_read_59 ml_M_177 (q := (RX11, TX11, 32)) rfl (c_M_line l hfl a0 M) (fun _ => rfl) (by decide) (by decide) (as := []) (st1 := []) rfl rfl (Nat.le_of_ble_eq_true rfl) (fun _ M => ?_)
        refine v_aloadn d_M_read_62 rfl 0 rfl ?_
        refine v_cVv d_M_read_63 ml_M_34 (q := (RX11, TX11, 32)) rfl (c_M_blanks l hfl a0 M) (fun _ => rfl) (by decide) (by decide) (as := []) (st1 := []) rfl rfl (Nat.le_of_ble_eq_true rfl) (fun _ M => ?_)
        refine v_goto d_M_read_66 ?_
        exact ih M
set_option maxHeartbeats 4000000 in
set_option maxRecDepth 100000 in
theorem V_lp_M_read_113 {l : Launch} {w : vm_W} (hfl : l.stackTraces = false) (kx138 : mm_T → Option (Int × mm_T)) (a0 : Nat) (hkx138 : ∀ (M : mm_T), V_ l w q_M_read 11 ex_I 138 [(0, xA a0)] [] M (kx138 M)) : ∀ (f : Nat) (v1 : Int) (M : mm_T), V_ l w q_M_read 11 ex_I 113 [(0, xA a0), (1, xI v1)] [] M (lp_M_read_113 kx138 a0 f v1 M) := by
  intro f
  induction f with
  | zero => intros; exact V_.none
  | succ f ih =>
    intro v1 M
    unfold lp_M_read_113
    refine v_iloadn d_M_read_113 rfl 1 rfl ?_
    refine v_sipush d_M_read_114 (by decide) ?_
    refine v_icge d_M_read_117 ?_ ?_
    · refine v_sub (ls' := [(0, xA a0)]) [0] rfl ?_
      exact hkx138 M
    · refine v_aloadn d_M_read_120 rfl 0 rfl ?_
      refine v_gR d_M_read_121 fl_M_77 rfl (fun r121 => ?_)
      refine v_iloadn d_M_read_124 rfl 1 rfl ?_
      refine v_aloadn d_M_read_125 rfl 0 rfl ?_
      refine v_gR d_M_read_126 fl_M_80 rfl (fun r126 => ?_)
      refine v_iloadn d_M_read_129 rfl 1 rfl ?_
      refine v_iald d_M_read_130 (fun x130 => ?_)
      refine v_iast d_M_read_131 (fun M => ?_)
      refine v_iinc (lz := fun z => [(1, xI z), (0, xA a0)]) d_M_read_132 1 rfl (Nat.le_of_ble_eq_true rfl) (fun _ => rfl) (fun v1_132 => ?_)
      refine v_goto d_M_read_135 ?_
      refine v_sub (ls' := [(0, xA a0), (1, xI v1_132)]) [1, 0] rfl ?_
      exact ih v1_132 M
set_option maxHeartbeats 4000000 in
set_option maxRecDepth 100000 in
theorem c_M_read (l : Launch) (hfl : l.stackTraces = false) (a0 : Nat) (M : mm_T) : vm_Con l yX11_read (.code yX11_read cX11_read 2 (some .int)) 11 ex_I [xA a0] M (k_M_read a0 M) := by
  refine vm_con (y := q_M_read) hfl (by decide +kernel) rfl (fun h => by cases h) (Nat.le_of_ble_eq_true rfl) rfl (fun _ _ _ => rfl) (fun r E h => by cases h) (fun w => ?_)
  show V_ l w q_M_read 11 ex_I 0 [(0, xA a0)] [] M (k_M_read a0 M)
  unfold k_M_read
  refine v_aloadn d_M_read_0 rfl 0 rfl ?_
  refine v_iconst d_M_read_1 (by decide) ?_
  refine v_pI d_M_read_2 fl_M_3 (Or.inl rfl) rfl rfl (fun M => ?_)
  refine v_aloadn d_M_read_5 rfl 0 rfl ?_
  refine v_cVv d_M_read_6 ml_M_174 (q := (RX11, TX11, 32)) rfl (c_M_begins l hfl a0 M) (fun _ => rfl) (by decide) (by decide) (as := []) (st1 := []) rfl rfl (Nat.le_of_ble_eq_true rfl) (fun _ M => ?_)
  refine v_iconst d_M_read_9 (by decide) ?_
  refine v_istoren (lz := fun z => [(1, xI z), (0, xA a0)]) d_M_read_10 rfl (Nat.le_of_ble_eq_true rfl) (fun _ => rfl) (fun v1_10 => ?_)
  refine v_sub (ls' := [(0, xA a0), (1, xI v1_10)]) [1, 0] rfl ?_
  refine V_lp_M_read_11 hfl _ _ (fun M => ?_) _ _ _
  · refine v_aloadn d_M_read_31 rfl 0 rfl ?_
    refine v_iconst d_M_read_32 (by decide) ?_
    refine v_pZ d_M_read_33 fl_M_141 (Or.inl rfl) rfl rfl (fun M => ?_)
    refine v_aloadn d_M_read_36 rfl 0 rfl ?_
    refine v_cVv d_M_read_37 ml_M_34 (q := (RX11, TX11, 32)) rfl (c_M_blanks l hfl a0 M) (fun _ => rfl) (by decide) (by decide) (as := []) (st1 := []) rfl rfl (Nat.le_of_ble_eq_true rfl) (fun _ M => ?_)
    refine V_lp_M_read_40 hfl _ _ (fun M => ?_) _ _
    · refine v_aloadn d_M_read_69 rfl 0 rfl ?_
      refine v_cVi d_M_read_70 ml_M_38 (q := (RX11, TX11, 32)) rfl (c_M_hasFailed l hfl a0 M) (fun _ => rfl) (by decide) (by decide) (as := []) (st1 := []) rfl rfl (Nat.le_of_ble_eq_true rfl) (fun c70 M => ?_)
      refine v_join0 (pj := 89) (lj := [(0, xA a0)]) (sj := []) (fun M => ?_) (fun j89 hj89 => ?_)
      · refine v_aloadn d_M_read_89 rfl 0 rfl ?_
        refine v_aloadn d_M_read_90 rfl 0 rfl ?_
        refine v_gI d_M_read_91 fl_M_24 rfl (fun x91 => ?_)
        refine v_pI d_M_read_94 fl_M_69 (Or.inl rfl) rfl rfl (fun M => ?_)
        refine v_aloadn d_M_read_97 rfl 0 rfl ?_
        refine v_aloadn d_M_read_98 rfl 0 rfl ?_
        refine v_cVi d_M_read_99 ml_M_38 (q := (RX11, TX11, 32)) rfl (c_M_hasFailed l hfl a0 M) (fun _ => rfl) (by decide) (by decide) (as := []) (st1 := [xA a0]) rfl rfl (Nat.le_of_ble_eq_true rfl) (fun c99 M => ?_)
        refine v_iconst d_M_read_102 (by decide) ?_
        refine v_cVi d_M_read_103 ml_M_180 (q := (RX11, TX11, 32)) rfl (c_M_throwsIf l hfl a0 c99 1 M) (fun _ => rfl) (by decide) (by decide) (as := [xI c99, xI 1]) (st1 := []) rfl rfl (Nat.le_of_ble_eq_true rfl) (fun c103 M => ?_)
        refine v_ifeq d_M_read_106 ?_ ?_
        · refine v_iconst d_M_read_111 (by decide) ?_
          refine v_istoren (lz := fun z => [(1, xI z), (0, xA a0)]) d_M_read_112 rfl (Nat.le_of_ble_eq_true rfl) (fun _ => rfl) (fun v1_112 => ?_)
          refine v_sub (ls' := [(0, xA a0), (1, xI v1_112)]) [1, 0] rfl ?_
          refine V_lp_M_read_113 hfl _ _ (fun M => ?_) _ _ _
          · refine v_aloadn d_M_read_138 rfl 0 rfl ?_
            refine v_iconst d_M_read_139 (by decide) ?_
            refine v_pI d_M_read_140 fl_M_184 (Or.inl rfl) rfl rfl (fun M => ?_)
            refine v_aloadn d_M_read_143 rfl 0 rfl ?_
            refine v_iconst d_M_read_144 (by decide) ?_
            refine v_pI d_M_read_145 fl_M_187 (Or.inl rfl) rfl rfl (fun M => ?_)
            refine v_aloadn d_M_read_148 rfl 0 rfl ?_
            refine v_gR d_M_read_149 fl_M_77 rfl (fun r149 => ?_)
            refine v_iconst d_M_read_152 (by decide) ?_
            refine v_iald d_M_read_153 (fun x153 => ?_)
            exact v_ret d_M_read_154 rfl
        · refine v_iconst d_M_read_109 (by decide) ?_
          exact v_ret d_M_read_110 rfl
      refine v_ifne d_M_read_73 ?_ ?_
      · exact hj89 M
      · refine v_aloadn d_M_read_76 rfl 0 rfl ?_
        refine v_gR d_M_read_77 fl_M_80 rfl (fun r77 => ?_)
        refine v_iconst d_M_read_80 (by decide) ?_
        refine v_iald d_M_read_81 (fun x81 => ?_)
        refine v_ifne d_M_read_82 ?_ ?_
        · exact hj89 M
        · refine v_aloadn d_M_read_85 rfl 0 rfl ?_
          refine v_cVv d_M_read_86 ml_M_42 (q := (RX11, TX11, 32)) rfl (c_M_fails l hfl a0 M) (fun _ => rfl) (by decide) (by decide) (as := []) (st1 := []) rfl rfl (Nat.le_of_ble_eq_true rfl) (fun _ M => ?_)
          exact hj89 M
set_option maxHeartbeats 4000000 in
set_option maxRecDepth 100000 in
theorem V_lp_M_laysAside_69 {l : Launch} {w : vm_W} (hfl : l.stackTraces = false) (kx104 : mm_T → Option (Unit × mm_T)) (a0 : Nat) (v1 : Int) (hkx104 : ∀ (M : mm_T), V_ l w q_M_laysAside 1 ex_V 104 [(0, xA a0)] [] M (kx104 M)) : ∀ (f : Nat) (v2 : Int) (M : mm_T), V_ l w q_M_laysAside 1 ex_V 69 [(0, xA a0), (1, xI v1), (2, xI v2)] [] M (lp_M_laysAside_69 kx104 a0 v1 f v2 M) := by
  intro f
  induction f with
  | zero => intros; exact V_.none
  | succ f ih =>
    intro v2 M
    unfold lp_M_laysAside_69
    refine v_iloadn d_M_laysAside_69 rfl 2 rfl ?_
    refine v_aloadn d_M_laysAside_70 rfl 0 rfl ?_
    refine v_gI d_M_laysAside_71 fl_M_184 rfl (fun x71 => ?_)
    refine v_icge d_M_laysAside_74 ?_ ?_
    · refine v_sub (ls' := [(0, xA a0)]) [0] rfl ?_
      exact hkx104 M
    · refine v_aloadn d_M_laysAside_77 rfl 0 rfl ?_
      refine v_gR d_M_laysAside_78 fl_M_89 rfl (fun r78 => ?_)
      refine v_iloadn d_M_laysAside_81 rfl 1 rfl ?_
      refine v_aloadn d_M_laysAside_82 rfl 0 rfl ?_
      refine v_gI d_M_laysAside_83 fl_M_187 rfl (fun x83 => ?_)
      refine v_imul d_M_laysAside_86 (fun x86 => ?_)
      refine v_iconst d_M_laysAside_87 (by decide) ?_
      refine v_iadd d_M_laysAside_88 (fun x88 => ?_)
      refine v_iloadn d_M_laysAside_89 rfl 2 rfl ?_
      refine v_iadd d_M_laysAside_90 (fun x90 => ?_)
      refine v_aloadn d_M_laysAside_91 rfl 0 rfl ?_
      refine v_gR d_M_laysAside_92 fl_M_83 rfl (fun r92 => ?_)
      refine v_iloadn d_M_laysAside_95 rfl 2 rfl ?_
      refine v_iald d_M_laysAside_96 (fun x96 => ?_)
      refine v_iast d_M_laysAside_97 (fun M => ?_)
      refine v_iinc (lz := fun z => [(2, xI z), (0, xA a0), (1, xI v1)]) d_M_laysAside_98 2 rfl (Nat.le_of_ble_eq_true rfl) (fun _ => rfl) (fun v2_98 => ?_)
      refine v_goto d_M_laysAside_101 ?_
      refine v_sub (ls' := [(0, xA a0), (1, xI v1), (2, xI v2_98)]) [1, 2, 0] rfl ?_
      exact ih v2_98 M
set_option maxHeartbeats 4000000 in
set_option maxRecDepth 100000 in
theorem V_lp_M_laysAside_14 {l : Launch} {w : vm_W} (hfl : l.stackTraces = false) (kx42 : mm_T → Option (Unit × mm_T)) (a0 : Nat) (v1 : Int) (hkx42 : ∀ (M : mm_T), V_ l w q_M_laysAside 1 ex_V 42 [(0, xA a0), (1, xI v1)] [] M (kx42 M)) : ∀ (f : Nat) (v2 : Int) (M : mm_T), V_ l w q_M_laysAside 1 ex_V 14 [(0, xA a0), (1, xI v1), (2, xI v2)] [] M (lp_M_laysAside_14 kx42 a0 v1 f v2 M) := by
  intro f
  induction f with
  | zero => intros; exact V_.none
  | succ f ih =>
    intro v2 M
    unfold lp_M_laysAside_14
    refine v_iloadn d_M_laysAside_14 rfl 2 rfl ?_
    refine v_bipush d_M_laysAside_15 (by decide) ?_
    refine v_iloadn d_M_laysAside_17 rfl 1 rfl ?_
    refine v_imul d_M_laysAside_18 (fun x18 => ?_)
    refine v_icge d_M_laysAside_19 ?_ ?_
    · refine v_sub (ls' := [(0, xA a0), (1, xI v1)]) [0, 1] rfl ?_
      exact hkx42 M
    · refine v_aloadn d_M_laysAside_22 rfl 0 rfl ?_
      refine v_gR d_M_laysAside_23 fl_M_89 rfl (fun r23 => ?_)
      refine v_iloadn d_M_laysAside_26 rfl 2 rfl ?_
      refine v_iloadn d_M_laysAside_27 rfl 1 rfl ?_
      refine v_isub d_M_laysAside_28 (fun x28 => ?_)
      refine v_aloadn d_M_laysAside_29 rfl 0 rfl ?_
      refine v_gR d_M_laysAside_30 fl_M_89 rfl (fun r30 => ?_)
      refine v_iloadn d_M_laysAside_33 rfl 2 rfl ?_
      refine v_iald d_M_laysAside_34 (fun x34 => ?_)
      refine v_iast d_M_laysAside_35 (fun M => ?_)
      refine v_iinc (lz := fun z => [(2, xI z), (0, xA a0), (1, xI v1)]) d_M_laysAside_36 2 rfl (Nat.le_of_ble_eq_true rfl) (fun _ => rfl) (fun v2_36 => ?_)
      refine v_goto d_M_laysAside_39 ?_
      refine v_sub (ls' := [(0, xA a0), (1, xI v1), (2, xI v2_36)]) [1, 2, 0] rfl ?_
      exact ih v2_36 M
set_option maxHeartbeats 4000000 in
set_option maxRecDepth 100000 in
theorem c_M_laysAside (l : Launch) (hfl : l.stackTraces = false) (a0 : Nat) (M : mm_T) : vm_Con l yX11_laysAside (.code yX11_laysAside cX11_laysAside 3 none) 1 ex_V [xA a0] M (k_M_laysAside a0 M) := by
  refine vm_con (y := q_M_laysAside) hfl (by decide +kernel) rfl (fun h => by cases h) (Nat.le_of_ble_eq_true rfl) rfl (fun _ _ _ => rfl) (fun r E h => by cases h) (fun w => ?_)
  show V_ l w q_M_laysAside 1 ex_V 0 [(0, xA a0)] [] M (k_M_laysAside a0 M)
  unfold k_M_laysAside
  refine v_bipush d_M_laysAside_0 (by decide) ?_
  refine v_istoren (lz := fun z => [(1, xI z), (0, xA a0)]) d_M_laysAside_2 rfl (Nat.le_of_ble_eq_true rfl) (fun _ => rfl) (fun v1_2 => ?_)
  refine v_aloadn d_M_laysAside_3 rfl 1 rfl ?_
  refine v_gI d_M_laysAside_4 fl_M_187 rfl (fun x4 => ?_)
  refine v_bipush d_M_laysAside_7 (by decide) ?_
  refine v_join0 (pj := 52) (lj := [(0, xA a0), (1, xI v1_2)]) (sj := []) (fun M => ?_) (fun j52 hj52 => ?_)
  · refine v_aloadn d_M_laysAside_52 rfl 0 rfl ?_
    refine v_gR d_M_laysAside_53 fl_M_89 rfl (fun r53 => ?_)
    refine v_iloadn d_M_laysAside_56 rfl 1 rfl ?_
    refine v_aloadn d_M_laysAside_57 rfl 0 rfl ?_
    refine v_gI d_M_laysAside_58 fl_M_187 rfl (fun x58 => ?_)
    refine v_imul d_M_laysAside_61 (fun x61 => ?_)
    refine v_aloadn d_M_laysAside_62 rfl 0 rfl ?_
    refine v_gI d_M_laysAside_63 fl_M_184 rfl (fun x63 => ?_)
    refine v_iast d_M_laysAside_66 (fun M => ?_)
    refine v_iconst d_M_laysAside_67 (by decide) ?_
    refine v_istoren (lz := fun z => [(2, xI z), (0, xA a0), (1, xI v1_2)]) d_M_laysAside_68 rfl (Nat.le_of_ble_eq_true rfl) (fun _ => rfl) (fun v2_68 => ?_)
    refine v_sub (ls' := [(0, xA a0), (1, xI v1_2), (2, xI v2_68)]) [1, 2, 0] rfl ?_
    refine V_lp_M_laysAside_69 hfl _ _ _ (fun M => ?_) _ _ _
    · refine v_aloadn d_M_laysAside_104 rfl 0 rfl ?_
      refine v_dup d_M_laysAside_105 rfl ?_
      refine v_gI d_M_laysAside_106 fl_M_187 rfl (fun x106 => ?_)
      refine v_iconst d_M_laysAside_109 (by decide) ?_
      refine v_iadd d_M_laysAside_110 (fun x110 => ?_)
      refine v_pI d_M_laysAside_111 fl_M_187 (Or.inl rfl) rfl rfl (fun M => ?_)
      exact v_vret d_M_laysAside_114 rfl
  refine v_icne d_M_laysAside_9 ?_ ?_
  · refine v_sub (ls' := [(0, xA a0), (1, xI v1_2)]) [1, 0] rfl ?_
    exact hj52 M
  · refine v_iloadn d_M_laysAside_12 rfl 0 rfl ?_
    refine v_istoren (lz := fun z => [(2, xI z), (1, xI v1_2), (0, xA a0)]) d_M_laysAside_13 rfl (Nat.le_of_ble_eq_true rfl) (fun _ => rfl) (fun v2_13 => ?_)
    refine v_sub (ls' := [(0, xA a0), (1, xI v1_2), (2, xI v2_13)]) [2, 1, 0] rfl ?_
    refine V_lp_M_laysAside_14 hfl _ _ _ (fun M => ?_) _ _ _
    · refine v_aloadn d_M_laysAside_42 rfl 0 rfl ?_
      refine v_dup d_M_laysAside_43 rfl ?_
      refine v_gI d_M_laysAside_44 fl_M_187 rfl (fun x44 => ?_)
      refine v_iconst d_M_laysAside_47 (by decide) ?_
      refine v_isub d_M_laysAside_48 (fun x48 => ?_)
      refine v_pI d_M_laysAside_49 fl_M_187 (Or.inl rfl) rfl rfl (fun M => ?_)
      exact hj52 M
set_option maxHeartbeats 4000000 in
set_option maxRecDepth 100000 in
theorem V_lp_M_becomes_11 {l : Launch} {w : vm_W} (hfl : l.stackTraces = false) (kx34 : mm_T → Option (Unit × mm_T)) (a0 : Nat) (v1 : Int) (hkx34 : ∀ (M : mm_T), V_ l w q_M_becomes 2 ex_V 34 [] [] M (kx34 M)) : ∀ (f : Nat) (v2 : Int) (M : mm_T), V_ l w q_M_becomes 2 ex_V 11 [(0, xA a0), (1, xI v1), (2, xI v2)] [] M (lp_M_becomes_11 kx34 a0 v1 f v2 M) := by
  intro f
  induction f with
  | zero => intros; exact V_.none
  | succ f ih =>
    intro v2 M
    unfold lp_M_becomes_11
    refine v_iloadn d_M_becomes_11 rfl 2 rfl ?_
    refine v_iloadn d_M_becomes_12 rfl 1 rfl ?_
    refine v_icge d_M_becomes_13 ?_ ?_
    · refine v_sub (ls' := []) [] rfl ?_
      exact hkx34 M
    · refine v_aloadn d_M_becomes_16 rfl 0 rfl ?_
      refine v_gR d_M_becomes_17 fl_M_83 rfl (fun r17 => ?_)
      refine v_iloadn d_M_becomes_20 rfl 2 rfl ?_
      refine v_aloadn d_M_becomes_21 rfl 0 rfl ?_
      refine v_gR d_M_becomes_22 fl_M_86 rfl (fun r22 => ?_)
      refine v_iloadn d_M_becomes_25 rfl 2 rfl ?_
      refine v_iald d_M_becomes_26 (fun x26 => ?_)
      refine v_iast d_M_becomes_27 (fun M => ?_)
      refine v_iinc (lz := fun z => [(2, xI z), (0, xA a0), (1, xI v1)]) d_M_becomes_28 2 rfl (Nat.le_of_ble_eq_true rfl) (fun _ => rfl) (fun v2_28 => ?_)
      refine v_goto d_M_becomes_31 ?_
      refine v_sub (ls' := [(0, xA a0), (1, xI v1), (2, xI v2_28)]) [1, 2, 0] rfl ?_
      exact ih v2_28 M
set_option maxHeartbeats 4000000 in
set_option maxRecDepth 100000 in
theorem c_M_becomes (l : Launch) (hfl : l.stackTraces = false) (a0 : Nat) (v1 : Int) (M : mm_T) : vm_Con l yX11_becomes (.code yX11_becomes cX11_becomes 3 none) 2 ex_V [xA a0, xI v1] M (k_M_becomes a0 v1 M) := by
  refine vm_con (y := q_M_becomes) hfl (by decide +kernel) rfl (fun h => by cases h) (Nat.le_of_ble_eq_true rfl) rfl (fun _ _ _ => rfl) (fun r E h => by cases h) (fun w => ?_)
  show V_ l w q_M_becomes 2 ex_V 0 [(0, xA a0), (1, xI v1)] [] M (k_M_becomes a0 v1 M)
  unfold k_M_becomes
  refine v_aloadn d_M_becomes_0 rfl 0 rfl ?_
  refine v_cVv d_M_becomes_1 ml_M_190 (q := (RX11, TX11, 32)) rfl (c_M_laysAside l hfl a0 M) (fun _ => rfl) (by decide) (by decide) (as := []) (st1 := []) rfl rfl (Nat.le_of_ble_eq_true rfl) (fun _ M => ?_)
  refine v_aloadn d_M_becomes_4 rfl 0 rfl ?_
  refine v_iloadn d_M_becomes_5 rfl 1 rfl ?_
  refine v_pI d_M_becomes_6 fl_M_184 (Or.inl rfl) rfl rfl (fun M => ?_)
  refine v_iconst d_M_becomes_9 (by decide) ?_
  refine v_istoren (lz := fun z => [(2, xI z), (0, xA a0), (1, xI v1)]) d_M_becomes_10 rfl (Nat.le_of_ble_eq_true rfl) (fun _ => rfl) (fun v2_10 => ?_)
  refine v_sub (ls' := [(0, xA a0), (1, xI v1), (2, xI v2_10)]) [1, 2, 0] rfl ?_
  refine V_lp_M_becomes_11 hfl _ _ _ (fun M => ?_) _ _ _
  · exact v_vret d_M_becomes_34 rfl
set_option maxHeartbeats 4000000 in
set_option maxRecDepth 100000 in
theorem V_lp_M_undo_44 {l : Launch} {w : vm_W} (hfl : l.stackTraces = false) (kx74 : mm_T → Option (Int × mm_T)) (a0 : Nat) (v1 : Int) (hkx74 : ∀ (M : mm_T), V_ l w q_M_undo 1 ex_I 74 [(0, xA a0)] [] M (kx74 M)) : ∀ (f : Nat) (v2 : Int) (M : mm_T), V_ l w q_M_undo 1 ex_I 44 [(0, xA a0), (1, xI v1), (2, xI v2)] [] M (lp_M_undo_44 kx74 a0 v1 f v2 M) := by
  intro f
  induction f with
  | zero => intros; exact V_.none
  | succ f ih =>
    intro v2 M
    unfold lp_M_undo_44
    refine v_iloadn d_M_undo_44 rfl 2 rfl ?_
    refine v_aloadn d_M_undo_45 rfl 0 rfl ?_
    refine v_gI d_M_undo_46 fl_M_184 rfl (fun x46 => ?_)
    refine v_icge d_M_undo_49 ?_ ?_
    · refine v_sub (ls' := [(0, xA a0)]) [0] rfl ?_
      exact hkx74 M
    · refine v_aloadn d_M_undo_52 rfl 0 rfl ?_
      refine v_gR d_M_undo_53 fl_M_83 rfl (fun r53 => ?_)
      refine v_iloadn d_M_undo_56 rfl 2 rfl ?_
      refine v_aloadn d_M_undo_57 rfl 0 rfl ?_
      refine v_gR d_M_undo_58 fl_M_89 rfl (fun r58 => ?_)
      refine v_iloadn d_M_undo_61 rfl 1 rfl ?_
      refine v_iconst d_M_undo_62 (by decide) ?_
      refine v_iadd d_M_undo_63 (fun x63 => ?_)
      refine v_iloadn d_M_undo_64 rfl 2 rfl ?_
      refine v_iadd d_M_undo_65 (fun x65 => ?_)
      refine v_iald d_M_undo_66 (fun x66 => ?_)
      refine v_iast d_M_undo_67 (fun M => ?_)
      refine v_iinc (lz := fun z => [(2, xI z), (0, xA a0), (1, xI v1)]) d_M_undo_68 2 rfl (Nat.le_of_ble_eq_true rfl) (fun _ => rfl) (fun v2_68 => ?_)
      refine v_goto d_M_undo_71 ?_
      refine v_sub (ls' := [(0, xA a0), (1, xI v1), (2, xI v2_68)]) [1, 2, 0] rfl ?_
      exact ih v2_68 M
set_option maxHeartbeats 4000000 in
set_option maxRecDepth 100000 in
theorem c_M_undo (l : Launch) (hfl : l.stackTraces = false) (a0 : Nat) (M : mm_T) : vm_Con l yX11_undo (.code yX11_undo cX11_undo 3 (some .int)) 1 ex_I [xA a0] M (k_M_undo a0 M) := by
  refine vm_con (y := q_M_undo) hfl (by decide +kernel) rfl (fun h => by cases h) (Nat.le_of_ble_eq_true rfl) rfl (fun _ _ _ => rfl) (fun r E h => by cases h) (fun w => ?_)
  show V_ l w q_M_undo 1 ex_I 0 [(0, xA a0)] [] M (k_M_undo a0 M)
  unfold k_M_undo
  refine v_aloadn d_M_undo_0 rfl 0 rfl ?_
  refine v_iconst d_M_undo_1 (by decide) ?_
  refine v_pI d_M_undo_2 fl_M_3 (Or.inl rfl) rfl rfl (fun M => ?_)
  refine v_aloadn d_M_undo_5 rfl 0 rfl ?_
  refine v_gI d_M_undo_6 fl_M_187 rfl (fun x6 => ?_)
  refine v_ifne d_M_undo_9 ?_ ?_
  · refine v_aloadn d_M_undo_14 rfl 0 rfl ?_
    refine v_dup d_M_undo_15 rfl ?_
    refine v_gI d_M_undo_16 fl_M_187 rfl (fun x16 => ?_)
    refine v_iconst d_M_undo_19 (by decide) ?_
    refine v_isub d_M_undo_20 (fun x20 => ?_)
    refine v_pI d_M_undo_21 fl_M_187 (Or.inl rfl) rfl rfl (fun M => ?_)
    refine v_bipush d_M_undo_24 (by decide) ?_
    refine v_aloadn d_M_undo_26 rfl 0 rfl ?_
    refine v_gI d_M_undo_27 fl_M_187 rfl (fun x27 => ?_)
    refine v_imul d_M_undo_30 (fun x30 => ?_)
    refine v_istoren (lz := fun z => [(1, xI z), (0, xA a0)]) d_M_undo_31 rfl (Nat.le_of_ble_eq_true rfl) (fun _ => rfl) (fun v1_31 => ?_)
    refine v_aloadn d_M_undo_32 rfl 1 rfl ?_
    refine v_aloadn d_M_undo_33 rfl 1 rfl ?_
    refine v_gR d_M_undo_34 fl_M_89 rfl (fun r34 => ?_)
    refine v_iloadn d_M_undo_37 rfl 0 rfl ?_
    refine v_iald d_M_undo_38 (fun x38 => ?_)
    refine v_pI d_M_undo_39 fl_M_184 (Or.inl rfl) rfl rfl (fun M => ?_)
    refine v_iconst d_M_undo_42 (by decide) ?_
    refine v_istoren (lz := fun z => [(2, xI z), (1, xI v1_31), (0, xA a0)]) d_M_undo_43 rfl (Nat.le_of_ble_eq_true rfl) (fun _ => rfl) (fun v2_43 => ?_)
    refine v_sub (ls' := [(0, xA a0), (1, xI v1_31), (2, xI v2_43)]) [2, 1, 0] rfl ?_
    refine V_lp_M_undo_44 hfl _ _ _ (fun M => ?_) _ _ _
    · refine v_aloadn d_M_undo_74 rfl 0 rfl ?_
      refine v_gI d_M_undo_75 fl_M_187 rfl (fun x75 => ?_)
      exact v_ret d_M_undo_78 rfl
  · refine v_iconst d_M_undo_12 (by decide) ?_
    exact v_ret d_M_undo_13 rfl
set_option maxHeartbeats 4000000 in
set_option maxRecDepth 100000 in
theorem V_lp_M_word_15 {l : Launch} {w : vm_W} (hfl : l.stackTraces = false) (kx75 : Int → mm_T → Option (Int × mm_T)) (a0 : Nat) (hkx75 : ∀ (v1_e : Int) (M : mm_T), V_ l w q_M_word 3 ex_I 75 [(0, xA a0), (1, xI v1_e)] [] M (kx75 v1_e M)) : ∀ (f : Nat) (v1 : Int) (M : mm_T), V_ l w q_M_word 3 ex_I 15 [(0, xA a0), (1, xI v1)] [] M (lp_M_word_15 kx75 a0 f v1 M) := by
  intro f
  induction f with
  | zero => intros; exact V_.none
  | succ f ih =>
    intro v1 M
    unfold lp_M_word_15
    refine v_aloadn d_M_word_15 rfl 0 rfl ?_
    refine v_bipush d_M_word_16 (by decide) ?_
    refine v_bipush d_M_word_18 (by decide) ?_
    refine v_aloadn d_M_word_20 rfl 0 rfl ?_
    refine v_gR d_M_word_21 fl_M_77 rfl (fun r21 => ?_)
    refine v_iconst d_M_word_24 (by decide) ?_
    refine v_iald d_M_word_25 (fun x25 => ?_)
    refine v_iadd d_M_word_26 (fun x26 => ?_)
    refine v_iconst d_M_word_27 (by decide) ?_
    refine v_isub d_M_word_28 (fun x28 => ?_)
    refine v_cVi d_M_word_29 ml_M_27 (q := (RX11, TX11, 32)) rfl (c_M_isAt l hfl a0 97 x28 M) (fun _ => rfl) (by decide) (by decide) (as := [xI 97, xI x28]) (st1 := []) rfl rfl (Nat.le_of_ble_eq_true rfl) (fun c29 M => ?_)
    refine v_ifeq d_M_word_32 ?_ ?_
    · exact hkx75 v1 M
    · refine v_iloadn d_M_word_35 rfl 1 rfl ?_
      refine v_bipush d_M_word_36 (by decide) ?_
      refine v_icge d_M_word_38 ?_ ?_
      · exact hkx75 v1 M
      · refine v_aloadn d_M_word_41 rfl 0 rfl ?_
        refine v_gR d_M_word_42 fl_M_86 rfl (fun r42 => ?_)
        refine v_iloadn d_M_word_45 rfl 1 rfl ?_
        refine v_aloadn d_M_word_46 rfl 0 rfl ?_
        refine v_gR d_M_word_47 fl_M_14 rfl (fun r47 => ?_)
        refine v_aloadn d_M_word_50 rfl 0 rfl ?_
        refine v_gI d_M_word_51 fl_M_21 rfl (fun x51 => ?_)
        refine v_bald d_M_word_54 (fun x54 => ?_)
        refine v_bipush d_M_word_55 (by decide) ?_
        refine v_isub d_M_word_57 (fun x57 => ?_)
        refine v_iast d_M_word_58 (fun M => ?_)
        refine v_iinc (lz := fun z => [(1, xI z), (0, xA a0)]) d_M_word_59 1 rfl (Nat.le_of_ble_eq_true rfl) (fun _ => rfl) (fun v1_59 => ?_)
        refine v_aloadn d_M_word_62 rfl 1 rfl ?_
        refine v_dup d_M_word_63 rfl ?_
        refine v_gI d_M_word_64 fl_M_21 rfl (fun x64 => ?_)
        refine v_iconst d_M_word_67 (by decide) ?_
        refine v_iadd d_M_word_68 (fun x68 => ?_)
        refine v_pI d_M_word_69 fl_M_21 (Or.inl rfl) rfl rfl (fun M => ?_)
        refine v_goto d_M_word_72 ?_
        refine v_sub (ls' := [(0, xA a0), (1, xI v1_59)]) [1, 0] rfl ?_
        exact ih v1_59 M
set_option maxHeartbeats 4000000 in
set_option maxRecDepth 100000 in
theorem c_M_word (l : Launch) (hfl : l.stackTraces = false) (a0 : Nat) (M : mm_T) : vm_Con l yX11_word (.code yX11_word cX11_word 2 (some .int)) 3 ex_I [xA a0] M (k_M_word a0 M) := by
  refine vm_con (y := q_M_word) hfl (by decide +kernel) rfl (fun h => by cases h) (Nat.le_of_ble_eq_true rfl) rfl (fun _ _ _ => rfl) (fun r E h => by cases h) (fun w => ?_)
  show V_ l w q_M_word 3 ex_I 0 [(0, xA a0)] [] M (k_M_word a0 M)
  unfold k_M_word
  refine v_aloadn d_M_word_0 rfl 0 rfl ?_
  refine v_iconst d_M_word_1 (by decide) ?_
  refine v_pI d_M_word_2 fl_M_3 (Or.inl rfl) rfl rfl (fun M => ?_)
  refine v_aloadn d_M_word_5 rfl 0 rfl ?_
  refine v_cVv d_M_word_6 ml_M_174 (q := (RX11, TX11, 32)) rfl (c_M_begins l hfl a0 M) (fun _ => rfl) (by decide) (by decide) (as := []) (st1 := []) rfl rfl (Nat.le_of_ble_eq_true rfl) (fun _ M => ?_)
  refine v_aloadn d_M_word_9 rfl 0 rfl ?_
  refine v_cVv d_M_word_10 ml_M_34 (q := (RX11, TX11, 32)) rfl (c_M_blanks l hfl a0 M) (fun _ => rfl) (by decide) (by decide) (as := []) (st1 := []) rfl rfl (Nat.le_of_ble_eq_true rfl) (fun _ M => ?_)
  refine v_iconst d_M_word_13 (by decide) ?_
  refine v_istoren (lz := fun z => [(1, xI z), (0, xA a0)]) d_M_word_14 rfl (Nat.le_of_ble_eq_true rfl) (fun _ => rfl) (fun v1_14 => ?_)
  refine v_sub (ls' := [(0, xA a0), (1, xI v1_14)]) [1, 0] rfl ?_
  refine V_lp_M_word_15 hfl _ _ (fun v1_75 M => ?_) _ _ _
  · refine v_aloadn d_M_word_75 rfl 0 rfl ?_
    refine v_cVv d_M_word_76 ml_M_34 (q := (RX11, TX11, 32)) rfl (c_M_blanks l hfl a0 M) (fun _ => rfl) (by decide) (by decide) (as := []) (st1 := []) rfl rfl (Nat.le_of_ble_eq_true rfl) (fun _ M => ?_)
    refine v_aloadn d_M_word_79 rfl 0 rfl ?_
    refine v_gI d_M_word_80 fl_M_21 rfl (fun x80 => ?_)
    refine v_aloadn d_M_word_83 rfl 0 rfl ?_
    refine v_gI d_M_word_84 fl_M_18 rfl (fun x84 => ?_)
    refine v_join0 (pj := 94) (lj := [(0, xA a0), (1, xI v1_75)]) (sj := []) (fun M => ?_) (fun j94 hj94 => ?_)
    · refine v_aloadn d_M_word_94 rfl 0 rfl ?_
      refine v_aloadn d_M_word_95 rfl 0 rfl ?_
      refine v_gI d_M_word_96 fl_M_24 rfl (fun x96 => ?_)
      refine v_pI d_M_word_99 fl_M_69 (Or.inl rfl) rfl rfl (fun M => ?_)
      refine v_aloadn d_M_word_102 rfl 0 rfl ?_
      refine v_aloadn d_M_word_103 rfl 0 rfl ?_
      refine v_cVi d_M_word_104 ml_M_38 (q := (RX11, TX11, 32)) rfl (c_M_hasFailed l hfl a0 M) (fun _ => rfl) (by decide) (by decide) (as := []) (st1 := [xA a0]) rfl rfl (Nat.le_of_ble_eq_true rfl) (fun c104 M => ?_)
      refine v_iconst d_M_word_107 (by decide) ?_
      refine v_cVi d_M_word_108 ml_M_180 (q := (RX11, TX11, 32)) rfl (c_M_throwsIf l hfl a0 c104 1 M) (fun _ => rfl) (by decide) (by decide) (as := [xI c104, xI 1]) (st1 := []) rfl rfl (Nat.le_of_ble_eq_true rfl) (fun c108 M => ?_)
      refine v_ifeq d_M_word_111 ?_ ?_
      · refine v_aloadn d_M_word_116 rfl 0 rfl ?_
        refine v_iloadn d_M_word_117 rfl 1 rfl ?_
        refine v_cVv d_M_word_118 ml_M_193 (q := (RX11, TX11, 32)) rfl (c_M_becomes l hfl a0 v1_75 M) (fun _ => rfl) (by decide) (by decide) (as := [xI v1_75]) (st1 := []) rfl rfl (Nat.le_of_ble_eq_true rfl) (fun _ M => ?_)
        refine v_aloadn d_M_word_121 rfl 0 rfl ?_
        refine v_gI d_M_word_122 fl_M_184 rfl (fun x122 => ?_)
        exact v_ret d_M_word_125 rfl
      · refine v_iconst d_M_word_114 (by decide) ?_
        exact v_ret d_M_word_115 rfl
    refine v_icge d_M_word_87 ?_ ?_
    · exact hj94 M
    · refine v_aloadn d_M_word_90 rfl 0 rfl ?_
      refine v_cVv d_M_word_91 ml_M_42 (q := (RX11, TX11, 32)) rfl (c_M_fails l hfl a0 M) (fun _ => rfl) (by decide) (by decide) (as := []) (st1 := []) rfl rfl (Nat.le_of_ble_eq_true rfl) (fun _ M => ?_)
      exact hj94 M
set_option maxHeartbeats 4000000 in
set_option maxRecDepth 100000 in
theorem c_M_letter (l : Launch) (hfl : l.stackTraces = false) (a0 : Nat) (v1 : Int) (M : mm_T) : vm_Con l yX11_letter (.code yX11_letter cX11_letter 2 (some .int)) 2 ex_I [xA a0, xI v1] M (k_M_letter a0 v1 M) := by
  refine vm_con (y := q_M_letter) hfl (by decide +kernel) rfl (fun h => by cases h) (Nat.le_of_ble_eq_true rfl) rfl (fun _ _ _ => rfl) (fun r E h => by cases h) (fun w => ?_)
  show V_ l w q_M_letter 2 ex_I 0 [(0, xA a0), (1, xI v1)] [] M (k_M_letter a0 v1 M)
  unfold k_M_letter
  refine v_aloadn d_M_letter_0 rfl 0 rfl ?_
  refine v_iconst d_M_letter_1 (by decide) ?_
  refine v_pI d_M_letter_2 fl_M_3 (Or.inl rfl) rfl rfl (fun M => ?_)
  refine v_iloadn d_M_letter_5 rfl 1 rfl ?_
  refine v_iconst d_M_letter_6 (by decide) ?_
  refine v_aloadn d_M_letter_7 rfl 0 rfl ?_
  refine v_gI d_M_letter_8 fl_M_184 rfl (fun x8 => ?_)
  refine v_iconst d_M_letter_11 (by decide) ?_
  refine v_isub d_M_letter_12 (fun x12 => ?_)
  refine v_cSi d_M_letter_13 ml_M_65 (c_M_in l hfl v1 0 x12 M) (fun _ => rfl) (by decide) (by decide) (as := [xI v1, xI 0, xI x12]) (st1 := []) rfl rfl (Nat.le_of_ble_eq_true rfl) (fun c13 M => ?_)
  refine v_ifeq d_M_letter_16 ?_ ?_
  · refine v_iconst d_M_letter_28 (by decide) ?_
    exact v_ret d_M_letter_29 rfl
  · refine v_aloadn d_M_letter_19 rfl 0 rfl ?_
    refine v_gR d_M_letter_20 fl_M_83 rfl (fun r20 => ?_)
    refine v_iloadn d_M_letter_23 rfl 1 rfl ?_
    refine v_iald d_M_letter_24 (fun x24 => ?_)
    refine v_goto d_M_letter_25 ?_
    exact v_ret d_M_letter_29 rfl
set_option maxHeartbeats 4000000 in
set_option maxRecDepth 100000 in
theorem c_M_noLetter (l : Launch) (hfl : l.stackTraces = false) (a0 : Nat) (v1 : Int) (v2 : Int) (M : mm_T) : vm_Con l yX11_noLetter (.code yX11_noLetter cX11_noLetter 3 (some .boolean)) 2 ex_Z [xA a0, xI v1, xI v2] M (k_M_noLetter a0 v1 v2 M) := by
  refine vm_con (y := q_M_noLetter) hfl (by decide +kernel) rfl (fun h => by cases h) (Nat.le_of_ble_eq_true rfl) rfl (fun _ _ _ => rfl) (fun r E h => by cases h) (fun w => ?_)
  show V_ l w q_M_noLetter 2 ex_Z 0 [(0, xA a0), (1, xI v1), (2, xI v2)] [] M (k_M_noLetter a0 v1 v2 M)
  unfold k_M_noLetter
  refine v_aloadn d_M_noLetter_0 rfl 0 rfl ?_
  refine v_iloadn d_M_noLetter_1 rfl 1 rfl ?_
  refine v_iconst d_M_noLetter_2 (by decide) ?_
  refine v_aloadn d_M_noLetter_3 rfl 0 rfl ?_
  refine v_gR d_M_noLetter_4 fl_M_77 rfl (fun r4 => ?_)
  refine v_iconst d_M_noLetter_7 (by decide) ?_
  refine v_iald d_M_noLetter_8 (fun x8 => ?_)
  refine v_iconst d_M_noLetter_9 (by decide) ?_
  refine v_isub d_M_noLetter_10 (fun x10 => ?_)
  refine v_cSi d_M_noLetter_11 ml_M_65 (c_M_in l hfl v1 0 x10 M) (fun _ => rfl) (by decide) (by decide) (as := [xI v1, xI 0, xI x10]) (st1 := [xA a0]) rfl rfl (Nat.le_of_ble_eq_true rfl) (fun c11 M => ?_)
  refine v_join2 (pj := 22) (lj := fun sa0_22 s1_22 => [(2, xI v2)]) (sj := fun sa0_22 s1_22 => [xI s1_22, xA sa0_22]) (fun sa0_22 s1_22 M => ?_) (fun j22 hj22 => ?_)
  · refine v_iloadn d_M_noLetter_22 rfl 0 rfl ?_
    refine v_cVi d_M_noLetter_23 ml_M_180 (q := (RX11, TX11, 32)) rfl (c_M_throwsIf l hfl sa0_22 s1_22 v2 M) (fun _ => rfl) (by decide) (by decide) (as := [xI s1_22, xI v2]) (st1 := []) rfl rfl (Nat.le_of_ble_eq_true rfl) (fun c23 M => ?_)
    exact v_zret d_M_noLetter_26 rfl
  refine v_ifne d_M_noLetter_14 ?_ ?_
  · refine v_iconst d_M_noLetter_21 (by decide) ?_
    refine v_sub (ls' := [(2, xI v2)]) [2] rfl ?_
    exact hj22 a0 0 M
  · refine v_iconst d_M_noLetter_17 (by decide) ?_
    refine v_goto d_M_noLetter_18 ?_
    refine v_sub (ls' := [(2, xI v2)]) [2] rfl ?_
    exact hj22 a0 1 M
set_option maxHeartbeats 4000000 in
set_option maxRecDepth 100000 in
theorem c_M_push (l : Launch) (hfl : l.stackTraces = false) (a0 : Nat) (v1 : Int) (M : mm_T) : vm_Con l yX11_push (.code yX11_push cX11_push 2 (some .int)) 3 ex_I [xA a0, xI v1] M (k_M_push a0 v1 M) := by
  refine vm_con (y := q_M_push) hfl (by decide +kernel) rfl (fun h => by cases h) (Nat.le_of_ble_eq_true rfl) rfl (fun _ _ _ => rfl) (fun r E h => by cases h) (fun w => ?_)
  show V_ l w q_M_push 3 ex_I 0 [(0, xA a0), (1, xI v1)] [] M (k_M_push a0 v1 M)
  unfold k_M_push
  refine v_aloadn d_M_push_0 rfl 0 rfl ?_
  refine v_iconst d_M_push_1 (by decide) ?_
  refine v_pI d_M_push_2 fl_M_3 (Or.inl rfl) rfl rfl (fun M => ?_)
  refine v_aloadn d_M_push_5 rfl 0 rfl ?_
  refine v_iloadn d_M_push_6 rfl 1 rfl ?_
  refine v_iconst d_M_push_7 (by decide) ?_
  refine v_cVi d_M_push_8 ml_M_196 (q := (RX11, TX11, 32)) rfl (c_M_noLetter l hfl a0 v1 1 M) (fun _ => rfl) (by decide) (by decide) (as := [xI v1, xI 1]) (st1 := []) rfl rfl (Nat.le_of_ble_eq_true rfl) (fun c8 M => ?_)
  refine v_ifne d_M_push_11 ?_ ?_
  · refine v_iconst d_M_push_36 (by decide) ?_
    exact v_ret d_M_push_37 rfl
  · refine v_aloadn d_M_push_14 rfl 0 rfl ?_
    refine v_aloadn d_M_push_15 rfl 0 rfl ?_
    refine v_gI d_M_push_16 fl_M_184 rfl (fun x16 => ?_)
    refine v_bipush d_M_push_19 (by decide) ?_
    refine v_join2 (pj := 29) (lj := fun sa0_29 s1_29 => [(0, xA a0), (1, xI v1)]) (sj := fun sa0_29 s1_29 => [xI s1_29, xA sa0_29]) (fun sa0_29 s1_29 M => ?_) (fun j29 hj29 => ?_)
    · refine v_iconst d_M_push_29 (by decide) ?_
      refine v_cVi d_M_push_30 ml_M_180 (q := (RX11, TX11, 32)) rfl (c_M_throwsIf l hfl sa0_29 s1_29 2 M) (fun _ => rfl) (by decide) (by decide) (as := [xI s1_29, xI 2]) (st1 := []) rfl rfl (Nat.le_of_ble_eq_true rfl) (fun c30 M => ?_)
      refine v_ifeq d_M_push_33 ?_ ?_
      · refine v_aloadn d_M_push_38 rfl 0 rfl ?_
        refine v_cVv d_M_push_39 ml_M_190 (q := (RX11, TX11, 32)) rfl (c_M_laysAside l hfl a0 M) (fun _ => rfl) (by decide) (by decide) (as := []) (st1 := []) rfl rfl (Nat.le_of_ble_eq_true rfl) (fun _ M => ?_)
        refine v_aloadn d_M_push_42 rfl 0 rfl ?_
        refine v_gR d_M_push_43 fl_M_83 rfl (fun r43 => ?_)
        refine v_aloadn d_M_push_46 rfl 0 rfl ?_
        refine v_gI d_M_push_47 fl_M_184 rfl (fun x47 => ?_)
        refine v_iloadn d_M_push_50 rfl 1 rfl ?_
        refine v_iast d_M_push_51 (fun M => ?_)
        refine v_aloadn d_M_push_52 rfl 0 rfl ?_
        refine v_dup d_M_push_53 rfl ?_
        refine v_gI d_M_push_54 fl_M_184 rfl (fun x54 => ?_)
        refine v_iconst d_M_push_57 (by decide) ?_
        refine v_iadd d_M_push_58 (fun x58 => ?_)
        refine v_pI d_M_push_59 fl_M_184 (Or.inl rfl) rfl rfl (fun M => ?_)
        refine v_aloadn d_M_push_62 rfl 0 rfl ?_
        refine v_gI d_M_push_63 fl_M_184 rfl (fun x63 => ?_)
        exact v_ret d_M_push_66 rfl
      · refine v_iconst d_M_push_36 (by decide) ?_
        exact v_ret d_M_push_37 rfl
    refine v_icne d_M_push_21 ?_ ?_
    · refine v_iconst d_M_push_28 (by decide) ?_
      exact hj29 a0 0 M
    · refine v_iconst d_M_push_24 (by decide) ?_
      refine v_goto d_M_push_25 ?_
      exact hj29 a0 1 M
set_option maxHeartbeats 4000000 in
set_option maxRecDepth 100000 in
theorem c_M_pop (l : Launch) (hfl : l.stackTraces = false) (a0 : Nat) (M : mm_T) : vm_Con l yX11_pop (.code yX11_pop cX11_pop 1 (some .int)) 2 ex_I [xA a0] M (k_M_pop a0 M) := by
  refine vm_con (y := q_M_pop) hfl (by decide +kernel) rfl (fun h => by cases h) (Nat.le_of_ble_eq_true rfl) rfl (fun _ _ _ => rfl) (fun r E h => by cases h) (fun w => ?_)
  show V_ l w q_M_pop 2 ex_I 0 [(0, xA a0)] [] M (k_M_pop a0 M)
  unfold k_M_pop
  refine v_aloadn d_M_pop_0 rfl 0 rfl ?_
  refine v_iconst d_M_pop_1 (by decide) ?_
  refine v_pI d_M_pop_2 fl_M_3 (Or.inl rfl) rfl rfl (fun M => ?_)
  refine v_aloadn d_M_pop_5 rfl 0 rfl ?_
  refine v_aloadn d_M_pop_6 rfl 0 rfl ?_
  refine v_gI d_M_pop_7 fl_M_184 rfl (fun x7 => ?_)
  refine v_join2 (pj := 18) (lj := fun sa0_18 s1_18 => [(0, xA a0)]) (sj := fun sa0_18 s1_18 => [xI s1_18, xA sa0_18]) (fun sa0_18 s1_18 M => ?_) (fun j18 hj18 => ?_)
  · refine v_iconst d_M_pop_18 (by decide) ?_
    refine v_cVi d_M_pop_19 ml_M_180 (q := (RX11, TX11, 32)) rfl (c_M_throwsIf l hfl sa0_18 s1_18 1 M) (fun _ => rfl) (by decide) (by decide) (as := [xI s1_18, xI 1]) (st1 := []) rfl rfl (Nat.le_of_ble_eq_true rfl) (fun c19 M => ?_)
    refine v_ifeq d_M_pop_22 ?_ ?_
    · refine v_aloadn d_M_pop_27 rfl 0 rfl ?_
      refine v_cVv d_M_pop_28 ml_M_190 (q := (RX11, TX11, 32)) rfl (c_M_laysAside l hfl a0 M) (fun _ => rfl) (by decide) (by decide) (as := []) (st1 := []) rfl rfl (Nat.le_of_ble_eq_true rfl) (fun _ M => ?_)
      refine v_aloadn d_M_pop_31 rfl 0 rfl ?_
      refine v_dup d_M_pop_32 rfl ?_
      refine v_gI d_M_pop_33 fl_M_184 rfl (fun x33 => ?_)
      refine v_iconst d_M_pop_36 (by decide) ?_
      refine v_isub d_M_pop_37 (fun x37 => ?_)
      refine v_pI d_M_pop_38 fl_M_184 (Or.inl rfl) rfl rfl (fun M => ?_)
      refine v_aloadn d_M_pop_41 rfl 0 rfl ?_
      refine v_gR d_M_pop_42 fl_M_83 rfl (fun r42 => ?_)
      refine v_aloadn d_M_pop_45 rfl 0 rfl ?_
      refine v_gI d_M_pop_46 fl_M_184 rfl (fun x46 => ?_)
      refine v_iald d_M_pop_49 (fun x49 => ?_)
      exact v_ret d_M_pop_50 rfl
    · refine v_iconst d_M_pop_25 (by decide) ?_
      exact v_ret d_M_pop_26 rfl
  refine v_ifne d_M_pop_10 ?_ ?_
  · refine v_iconst d_M_pop_17 (by decide) ?_
    exact hj18 a0 0 M
  · refine v_iconst d_M_pop_13 (by decide) ?_
    refine v_goto d_M_pop_14 ?_
    exact hj18 a0 1 M
set_option maxHeartbeats 4000000 in
set_option maxRecDepth 100000 in
theorem c_M_isBeyond (l : Launch) (hfl : l.stackTraces = false) (a0 : Nat) (v1 : Int) (v2 : Int) (M : mm_T) : vm_Con l yX11_isBeyond (.code yX11_isBeyond cX11_isBeyond 4 (some .boolean)) 1 ex_Z [xA a0, xI v1, xI v2] M (k_M_isBeyond a0 v1 v2 M) := by
  refine vm_con (y := q_M_isBeyond) hfl (by decide +kernel) rfl (fun h => by cases h) (Nat.le_of_ble_eq_true rfl) rfl (fun _ _ _ => rfl) (fun r E h => by cases h) (fun w => ?_)
  show V_ l w q_M_isBeyond 1 ex_Z 0 [(0, xA a0), (1, xI v1), (2, xI v2)] [] M (k_M_isBeyond a0 v1 v2 M)
  unfold k_M_isBeyond
  refine v_iloadn d_M_isBeyond_0 rfl 1 rfl ?_
  refine v_aloadn d_M_isBeyond_1 rfl 0 rfl ?_
  refine v_gR d_M_isBeyond_2 fl_M_77 rfl (fun r2 => ?_)
  refine v_iconst d_M_isBeyond_5 (by decide) ?_
  refine v_iald d_M_isBeyond_6 (fun x6 => ?_)
  refine v_imul d_M_isBeyond_7 (fun x7 => ?_)
  refine v_aloadn d_M_isBeyond_8 rfl 0 rfl ?_
  refine v_gR d_M_isBeyond_9 fl_M_77 rfl (fun r9 => ?_)
  refine v_iconst d_M_isBeyond_12 (by decide) ?_
  refine v_iald d_M_isBeyond_13 (fun x13 => ?_)
  refine v_iloadn d_M_isBeyond_14 rfl 2 rfl ?_
  refine v_imul d_M_isBeyond_15 (fun x15 => ?_)
  refine v_isub d_M_isBeyond_16 (fun x16 => ?_)
  refine v_istoren (lz := fun z => [(3, xI z), (0, xA a0), (1, xI v1), (2, xI v2)]) d_M_isBeyond_17 rfl (Nat.le_of_ble_eq_true rfl) (fun _ => rfl) (fun v3_17 => ?_)
  refine v_aloadn d_M_isBeyond_18 rfl 1 rfl ?_
  refine v_gR d_M_isBeyond_19 fl_M_77 rfl (fun r19 => ?_)
  refine v_iconst d_M_isBeyond_22 (by decide) ?_
  refine v_iald d_M_isBeyond_23 (fun x23 => ?_)
  refine v_iconst d_M_isBeyond_24 (by decide) ?_
  refine v_icne d_M_isBeyond_25 ?_ ?_
  · refine v_aloadn d_M_isBeyond_40 rfl 1 rfl ?_
    refine v_gR d_M_isBeyond_41 fl_M_77 rfl (fun r41 => ?_)
    refine v_iconst d_M_isBeyond_44 (by decide) ?_
    refine v_iald d_M_isBeyond_45 (fun x45 => ?_)
    refine v_iconst d_M_isBeyond_46 (by decide) ?_
    refine v_join0 (pj := 58) (lj := []) (sj := []) (fun M => ?_) (fun j58 hj58 => ?_)
    · refine v_iconst d_M_isBeyond_58 (by decide) ?_
      exact v_zret d_M_isBeyond_59 rfl
    refine v_icne d_M_isBeyond_47 ?_ ?_
    · refine v_sub (ls' := []) [] rfl ?_
      exact hj58 M
    · refine v_iloadn d_M_isBeyond_50 rfl 0 rfl ?_
      refine v_ifle d_M_isBeyond_51 ?_ ?_
      · refine v_sub (ls' := []) [] rfl ?_
        exact hj58 M
      · refine v_iconst d_M_isBeyond_54 (by decide) ?_
        refine v_goto d_M_isBeyond_55 ?_
        exact v_zret d_M_isBeyond_59 rfl
  · refine v_iloadn d_M_isBeyond_28 rfl 0 rfl ?_
    refine v_iflt d_M_isBeyond_29 ?_ ?_
    · refine v_iconst d_M_isBeyond_36 (by decide) ?_
      refine v_goto d_M_isBeyond_37 ?_
      exact v_zret d_M_isBeyond_59 rfl
    · refine v_iconst d_M_isBeyond_32 (by decide) ?_
      refine v_goto d_M_isBeyond_33 ?_
      exact v_zret d_M_isBeyond_59 rfl
set_option maxHeartbeats 4000000 in
set_option maxRecDepth 100000 in
theorem V_lp_M_isRepeated_19 {l : Launch} {w : vm_W} (hfl : l.stackTraces = false) (kx52 : Int → mm_T → Option (Int × mm_T)) (a1 : Nat) (v2 : Int) (v3 : Int) {a0 : Nat} (hkx52 : ∀ (v4_e : Int) (M : mm_T), V_ l w q_M_isRepeated 2 ex_Z 52 [(0, xA a0), (1, xA a1), (2, xI v2), (3, xI v3), (4, xI v4_e)] [] M (kx52 v4_e M)) : ∀ (f : Nat) (v4 : Int) (M : mm_T), V_ l w q_M_isRepeated 2 ex_Z 19 [(0, xA a0), (1, xA a1), (2, xI v2), (3, xI v3), (4, xI v4)] [] M (lp_M_isRepeated_19 kx52 a1 v2 v3 f v4 M) := by
  intro f
  induction f with
  | zero => intros; exact V_.none
  | succ f ih =>
    intro v4 M
    unfold lp_M_isRepeated_19
    refine v_iload d_M_isRepeated_19 4 rfl ?_
    refine v_iloadn d_M_isRepeated_21 rfl 2 rfl ?_
    refine v_icge d_M_isRepeated_22 ?_ ?_
    · exact hkx52 v4 M
    · refine v_aloadn d_M_isRepeated_25 rfl 1 rfl ?_
      refine v_iloadn d_M_isRepeated_26 rfl 2 rfl ?_
      refine v_iconst d_M_isRepeated_27 (by decide) ?_
      refine v_isub d_M_isRepeated_28 (fun x28 => ?_)
      refine v_iload d_M_isRepeated_29 4 rfl ?_
      refine v_isub d_M_isRepeated_31 (fun x31 => ?_)
      refine v_iald d_M_isRepeated_32 (fun x32 => ?_)
      refine v_aloadn d_M_isRepeated_33 rfl 1 rfl ?_
      refine v_iloadn d_M_isRepeated_34 rfl 2 rfl ?_
      refine v_iconst d_M_isRepeated_35 (by decide) ?_
      refine v_isub d_M_isRepeated_36 (fun x36 => ?_)
      refine v_iload d_M_isRepeated_37 4 rfl ?_
      refine v_isub d_M_isRepeated_39 (fun x39 => ?_)
      refine v_iloadn d_M_isRepeated_40 rfl 3 rfl ?_
      refine v_iadd d_M_isRepeated_41 (fun x41 => ?_)
      refine v_iald d_M_isRepeated_42 (fun x42 => ?_)
      refine v_icne d_M_isRepeated_43 ?_ ?_
      · exact hkx52 v4 M
      · refine v_iinc (lz := fun z => [(4, xI z), (0, xA a0), (1, xA a1), (2, xI v2), (3, xI v3)]) d_M_isRepeated_46 4 rfl (Nat.le_of_ble_eq_true rfl) (fun _ => rfl) (fun v4_46 => ?_)
        refine v_goto d_M_isRepeated_49 ?_
        refine v_sub (ls' := [(0, xA a0), (1, xA a1), (2, xI v2), (3, xI v3), (4, xI v4_46)]) [1, 2, 3, 4, 0] rfl ?_
        exact ih v4_46 M
set_option maxHeartbeats 4000000 in
set_option maxRecDepth 100000 in
theorem V_lp_M_isRepeated_2 {l : Launch} {w : vm_W} (hfl : l.stackTraces = false) (kx70 : mm_T → Option (Int × mm_T)) (a0 : Nat) (a1 : Nat) (v2 : Int) (hkx70 : ∀ (M : mm_T), V_ l w q_M_isRepeated 2 ex_Z 70 [] [] M (kx70 M)) : ∀ (f : Nat) (v3 : Int) (M : mm_T), V_ l w q_M_isRepeated 2 ex_Z 2 [(0, xA a0), (1, xA a1), (2, xI v2), (3, xI v3)] [] M (lp_M_isRepeated_2 kx70 a0 a1 v2 f v3 M) := by
  intro f
  induction f with
  | zero => intros; exact V_.none
  | succ f ih =>
    intro v3 M
    unfold lp_M_isRepeated_2
    refine v_iloadn d_M_isRepeated_2 rfl 3 rfl ?_
    refine v_iloadn d_M_isRepeated_3 rfl 2 rfl ?_
    refine v_icgt d_M_isRepeated_4 ?_ ?_
    · refine v_sub (ls' := []) [] rfl ?_
      exact hkx70 M
    · refine v_aloadn d_M_isRepeated_7 rfl 0 rfl ?_
      refine v_gR d_M_isRepeated_8 fl_M_77 rfl (fun r8 => ?_)
      refine v_iconst d_M_isRepeated_11 (by decide) ?_
      refine v_iald d_M_isRepeated_12 (fun x12 => ?_)
      refine v_ifle d_M_isRepeated_13 ?_ ?_
      · refine v_sub (ls' := []) [] rfl ?_
        exact hkx70 M
      · refine v_iloadn d_M_isRepeated_16 rfl 3 rfl ?_
        refine v_istore (lz := fun z => [(4, xI z), (0, xA a0), (1, xA a1), (2, xI v2), (3, xI v3)]) d_M_isRepeated_17 (Nat.le_of_ble_eq_true rfl) (fun _ => rfl) (fun v4_17 => ?_)
        refine v_sub (ls' := [(0, xA a0), (1, xA a1), (2, xI v2), (3, xI v3), (4, xI v4_17)]) [1, 2, 3, 4, 0] rfl ?_
        refine V_lp_M_isRepeated_19 hfl _ _ _ _ (fun v4_52 M => ?_) _ _ _
        · refine v_aloadn d_M_isRepeated_52 rfl 0 rfl ?_
          refine v_iload d_M_isRepeated_53 4 rfl ?_
          refine v_iloadn d_M_isRepeated_55 rfl 3 rfl ?_
          refine v_cVi d_M_isRepeated_56 ml_M_199 (q := (RX11, TX11, 32)) rfl (c_M_isBeyond l hfl a0 v4_52 v3 M) (fun _ => rfl) (by decide) (by decide) (as := [xI v4_52, xI v3]) (st1 := []) rfl rfl (Nat.le_of_ble_eq_true rfl) (fun c56 M => ?_)
          refine v_ifeq d_M_isRepeated_59 ?_ ?_
          · refine v_iinc (lz := fun z => [(3, xI z), (0, xA a0), (1, xA a1), (2, xI v2), (4, xI v4_52)]) d_M_isRepeated_64 3 rfl (Nat.le_of_ble_eq_true rfl) (fun _ => rfl) (fun v3_64 => ?_)
            refine v_goto d_M_isRepeated_67 ?_
            refine v_sub (ls' := [(0, xA a0), (1, xA a1), (2, xI v2), (3, xI v3_64)]) [1, 2, 3, 0] rfl ?_
            exact ih v3_64 M
          · refine v_iconst d_M_isRepeated_62 (by decide) ?_
            exact v_zret d_M_isRepeated_63 rfl
set_option maxHeartbeats 4000000 in
set_option maxRecDepth 100000 in
theorem c_M_isRepeated (l : Launch) (hfl : l.stackTraces = false) (a0 : Nat) (a1 : Nat) (v2 : Int) (M : mm_T) : vm_Con l yX11_isRepeated (.code yX11_isRepeated cX11_isRepeated 5 (some .boolean)) 2 ex_Z [xA a0, xA a1, xI v2] M (k_M_isRepeated a0 a1 v2 M) := by
  refine vm_con (y := q_M_isRepeated) hfl (by decide +kernel) rfl (fun h => by cases h) (Nat.le_of_ble_eq_true rfl) rfl (fun _ _ _ => rfl) (fun r E h => by cases h) (fun w => ?_)
  show V_ l w q_M_isRepeated 2 ex_Z 0 [(0, xA a0), (1, xA a1), (2, xI v2)] [] M (k_M_isRepeated a0 a1 v2 M)
  unfold k_M_isRepeated
  refine v_iconst d_M_isRepeated_0 (by decide) ?_
  refine v_istoren (lz := fun z => [(3, xI z), (0, xA a0), (1, xA a1), (2, xI v2)]) d_M_isRepeated_1 rfl (Nat.le_of_ble_eq_true rfl) (fun _ => rfl) (fun v3_1 => ?_)
  refine v_sub (ls' := [(0, xA a0), (1, xA a1), (2, xI v2), (3, xI v3_1)]) [1, 2, 3, 0] rfl ?_
  refine V_lp_M_isRepeated_2 hfl _ _ _ _ (fun M => ?_) _ _ _
  · refine v_iconst d_M_isRepeated_70 (by decide) ?_
    exact v_zret d_M_isRepeated_71 rfl
set_option maxHeartbeats 4000000 in
set_option maxRecDepth 100000 in
theorem c_M_letterOf (l : Launch) (hfl : l.stackTraces = false) (a0 : Nat) (v1 : Int) (v2 : Int) (M : mm_T) : vm_Con l yX11_letterOf (.code yX11_letterOf cX11_letterOf 3 (some .int)) 1 ex_I [xA a0, xI v1, xI v2] M (k_M_letterOf a0 v1 v2 M) := by
  refine vm_con (y := q_M_letterOf) hfl (by decide +kernel) rfl (fun h => by cases h) (Nat.le_of_ble_eq_true rfl) rfl (fun _ _ _ => rfl) (fun r E h => by cases h) (fun w => ?_)
  show V_ l w q_M_letterOf 1 ex_I 0 [(0, xA a0), (1, xI v1), (2, xI v2)] [] M (k_M_letterOf a0 v1 v2 M)
  unfold k_M_letterOf
  refine v_aloadn d_M_letterOf_0 rfl 0 rfl ?_
  refine v_gR d_M_letterOf_1 fl_M_77 rfl (fun r1 => ?_)
  refine v_sipush d_M_letterOf_4 (by decide) ?_
  refine v_bipush d_M_letterOf_7 (by decide) ?_
  refine v_iloadn d_M_letterOf_9 rfl 1 rfl ?_
  refine v_imul d_M_letterOf_10 (fun x10 => ?_)
  refine v_iadd d_M_letterOf_11 (fun x11 => ?_)
  refine v_iloadn d_M_letterOf_12 rfl 2 rfl ?_
  refine v_iadd d_M_letterOf_13 (fun x13 => ?_)
  refine v_iald d_M_letterOf_14 (fun x14 => ?_)
  exact v_ret d_M_letterOf_15 rfl
set_option maxHeartbeats 4000000 in
set_option maxRecDepth 100000 in
theorem V_lp_M_hasLetter_2 {l : Launch} {w : vm_W} (hfl : l.stackTraces = false) (kx34 : mm_T → Option (Int × mm_T)) (a0 : Nat) (v1 : Int) (v2 : Int) (hkx34 : ∀ (M : mm_T), V_ l w q_M_hasLetter 2 ex_Z 34 [] [] M (kx34 M)) : ∀ (f : Nat) (v3 : Int) (M : mm_T), V_ l w q_M_hasLetter 2 ex_Z 2 [(0, xA a0), (1, xI v1), (2, xI v2), (3, xI v3)] [] M (lp_M_hasLetter_2 kx34 a0 v1 v2 f v3 M) := by
  intro f
  induction f with
  | zero => intros; exact V_.none
  | succ f ih =>
    intro v3 M
    unfold lp_M_hasLetter_2
    refine v_iloadn d_M_hasLetter_2 rfl 3 rfl ?_
    refine v_aloadn d_M_hasLetter_3 rfl 0 rfl ?_
    refine v_gR d_M_hasLetter_4 fl_M_77 rfl (fun r4 => ?_)
    refine v_sipush d_M_hasLetter_7 (by decide) ?_
    refine v_iloadn d_M_hasLetter_10 rfl 1 rfl ?_
    refine v_iadd d_M_hasLetter_11 (fun x11 => ?_)
    refine v_iald d_M_hasLetter_12 (fun x12 => ?_)
    refine v_icge d_M_hasLetter_13 ?_ ?_
    · refine v_sub (ls' := []) [] rfl ?_
      exact hkx34 M
    · refine v_aloadn d_M_hasLetter_16 rfl 0 rfl ?_
      refine v_iloadn d_M_hasLetter_17 rfl 1 rfl ?_
      refine v_iloadn d_M_hasLetter_18 rfl 3 rfl ?_
      refine v_cVi d_M_hasLetter_19 ml_M_202 (q := (RX11, TX11, 32)) rfl (c_M_letterOf l hfl a0 v1 v3 M) (fun _ => rfl) (by decide) (by decide) (as := [xI v1, xI v3]) (st1 := []) rfl rfl (Nat.le_of_ble_eq_true rfl) (fun c19 M => ?_)
      refine v_iloadn d_M_hasLetter_22 rfl 2 rfl ?_
      refine v_icne d_M_hasLetter_23 ?_ ?_
      · refine v_iinc (lz := fun z => [(3, xI z), (0, xA a0), (1, xI v1), (2, xI v2)]) d_M_hasLetter_28 3 rfl (Nat.le_of_ble_eq_true rfl) (fun _ => rfl) (fun v3_28 => ?_)
        refine v_goto d_M_hasLetter_31 ?_
        refine v_sub (ls' := [(0, xA a0), (1, xI v1), (2, xI v2), (3, xI v3_28)]) [1, 2, 3, 0] rfl ?_
        exact ih v3_28 M
      · refine v_iconst d_M_hasLetter_26 (by decide) ?_
        exact v_zret d_M_hasLetter_27 rfl
set_option maxHeartbeats 4000000 in
set_option maxRecDepth 100000 in
theorem c_M_hasLetter (l : Launch) (hfl : l.stackTraces = false) (a0 : Nat) (v1 : Int) (v2 : Int) (M : mm_T) : vm_Con l yX11_hasLetter (.code yX11_hasLetter cX11_hasLetter 4 (some .boolean)) 2 ex_Z [xA a0, xI v1, xI v2] M (k_M_hasLetter a0 v1 v2 M) := by
  refine vm_con (y := q_M_hasLetter) hfl (by decide +kernel) rfl (fun h => by cases h) (Nat.le_of_ble_eq_true rfl) rfl (fun _ _ _ => rfl) (fun r E h => by cases h) (fun w => ?_)
  show V_ l w q_M_hasLetter 2 ex_Z 0 [(0, xA a0), (1, xI v1), (2, xI v2)] [] M (k_M_hasLetter a0 v1 v2 M)
  unfold k_M_hasLetter
  refine v_iconst d_M_hasLetter_0 (by decide) ?_
  refine v_istoren (lz := fun z => [(3, xI z), (0, xA a0), (1, xI v1), (2, xI v2)]) d_M_hasLetter_1 rfl (Nat.le_of_ble_eq_true rfl) (fun _ => rfl) (fun v3_1 => ?_)
  refine v_sub (ls' := [(0, xA a0), (1, xI v1), (2, xI v2), (3, xI v3_1)]) [1, 2, 3, 0] rfl ?_
  refine V_lp_M_hasLetter_2 hfl _ _ _ _ (fun M => ?_) _ _ _
  · refine v_iconst d_M_hasLetter_34 (by decide) ?_
    exact v_zret d_M_hasLetter_35 rfl
set_option maxHeartbeats 4000000 in
set_option maxRecDepth 100000 in
theorem V_lp_M_longBy_4 {l : Launch} {w : vm_W} (hfl : l.stackTraces = false) (kx38 : Int → mm_T → Option (Int × mm_T)) (a0 : Nat) (v1 : Int) (hkx38 : ∀ (v2_e : Int) (M : mm_T), V_ l w q_M_longBy 2 ex_I 38 [(2, xI v2_e)] [] M (kx38 v2_e M)) : ∀ (f : Nat) (v2 : Int) (v3 : Int) (M : mm_T), V_ l w q_M_longBy 2 ex_I 4 [(0, xA a0), (1, xI v1), (2, xI v2), (3, xI v3)] [] M (lp_M_longBy_4 kx38 a0 v1 f v2 v3 M) := by
  intro f
  induction f with
  | zero => intros; exact V_.none
  | succ f ih =>
    intro v2 v3 M
    unfold lp_M_longBy_4
    refine v_iloadn d_M_longBy_4 rfl 3 rfl ?_
    refine v_aloadn d_M_longBy_5 rfl 0 rfl ?_
    refine v_gR d_M_longBy_6 fl_M_77 rfl (fun r6 => ?_)
    refine v_sipush d_M_longBy_9 (by decide) ?_
    refine v_iloadn d_M_longBy_12 rfl 1 rfl ?_
    refine v_iadd d_M_longBy_13 (fun x13 => ?_)
    refine v_iald d_M_longBy_14 (fun x14 => ?_)
    refine v_icge d_M_longBy_15 ?_ ?_
    · refine v_sub (ls' := [(2, xI v2)]) [2] rfl ?_
      exact hkx38 v2 M
    · refine v_iloadn d_M_longBy_18 rfl 2 rfl ?_
      refine v_aloadn d_M_longBy_19 rfl 0 rfl ?_
      refine v_gR d_M_longBy_20 fl_M_92 rfl (fun r20 => ?_)
      refine v_aloadn d_M_longBy_23 rfl 0 rfl ?_
      refine v_iloadn d_M_longBy_24 rfl 1 rfl ?_
      refine v_iloadn d_M_longBy_25 rfl 3 rfl ?_
      refine v_cVi d_M_longBy_26 ml_M_202 (q := (RX11, TX11, 32)) rfl (c_M_letterOf l hfl a0 v1 v3 M) (fun _ => rfl) (by decide) (by decide) (as := [xI v1, xI v3]) (st1 := [xA r20, xI v2]) rfl rfl (Nat.le_of_ble_eq_true rfl) (fun c26 M => ?_)
      refine v_iald d_M_longBy_29 (fun x29 => ?_)
      refine v_iadd d_M_longBy_30 (fun x30 => ?_)
      refine v_istoren (lz := fun z => [(2, xI z), (0, xA a0), (1, xI v1), (3, xI v3)]) d_M_longBy_31 rfl (Nat.le_of_ble_eq_true rfl) (fun _ => rfl) (fun v2_31 => ?_)
      refine v_iinc (lz := fun z => [(3, xI z), (2, xI v2_31), (0, xA a0), (1, xI v1)]) d_M_longBy_32 3 rfl (Nat.le_of_ble_eq_true rfl) (fun _ => rfl) (fun v3_32 => ?_)
      refine v_goto d_M_longBy_35 ?_
      refine v_sub (ls' := [(0, xA a0), (1, xI v1), (2, xI v2_31), (3, xI v3_32)]) [2, 3, 1, 0] rfl ?_
      exact ih v2_31 v3_32 M
set_option maxHeartbeats 4000000 in
set_option maxRecDepth 100000 in
theorem c_M_longBy (l : Launch) (hfl : l.stackTraces = false) (a0 : Nat) (v1 : Int) (M : mm_T) : vm_Con l yX11_longBy (.code yX11_longBy cX11_longBy 4 (some .int)) 2 ex_I [xA a0, xI v1] M (k_M_longBy a0 v1 M) := by
  refine vm_con (y := q_M_longBy) hfl (by decide +kernel) rfl (fun h => by cases h) (Nat.le_of_ble_eq_true rfl) rfl (fun _ _ _ => rfl) (fun r E h => by cases h) (fun w => ?_)
  show V_ l w q_M_longBy 2 ex_I 0 [(0, xA a0), (1, xI v1)] [] M (k_M_longBy a0 v1 M)
  unfold k_M_longBy
  refine v_iconst d_M_longBy_0 (by decide) ?_
  refine v_istoren (lz := fun z => [(2, xI z), (0, xA a0), (1, xI v1)]) d_M_longBy_1 rfl (Nat.le_of_ble_eq_true rfl) (fun _ => rfl) (fun v2_1 => ?_)
  refine v_iconst d_M_longBy_2 (by decide) ?_
  refine v_istoren (lz := fun z => [(3, xI z), (2, xI v2_1), (0, xA a0), (1, xI v1)]) d_M_longBy_3 rfl (Nat.le_of_ble_eq_true rfl) (fun _ => rfl) (fun v3_3 => ?_)
  refine v_sub (ls' := [(0, xA a0), (1, xI v1), (2, xI v2_1), (3, xI v3_3)]) [2, 3, 1, 0] rfl ?_
  refine V_lp_M_longBy_4 hfl _ _ _ (fun v2_38 M => ?_) _ _ _ _
  · refine v_iloadn d_M_longBy_38 rfl 0 rfl ?_
    exact v_ret d_M_longBy_39 rfl
set_option maxHeartbeats 4000000 in
set_option maxRecDepth 100000 in
theorem V_lp_M_fitsAt_6 {l : Launch} {w : vm_W} (hfl : l.stackTraces = false) (kx26 : mm_T → Option (Int × mm_T)) (a0 : Nat) {a1 : Nat} {v3 : Int} {v4 : Int} (hkx26 : ∀ (M : mm_T), V_ l w q_M_fitsAt 2 ex_Z 26 [(0, xA a0), (1, xA a1), (3, xI v3), (4, xI v4)] [] M (kx26 M)) : ∀ (f : Nat) (v5 : Int) (M : mm_T), V_ l w q_M_fitsAt 2 ex_Z 6 [(0, xA a0), (1, xA a1), (3, xI v3), (4, xI v4), (5, xI v5)] [] M (lp_M_fitsAt_6 kx26 a0 f v5 M) := by
  intro f
  induction f with
  | zero => intros; exact V_.none
  | succ f ih =>
    intro v5 M
    unfold lp_M_fitsAt_6
    refine v_iload d_M_fitsAt_6 4 rfl ?_
    refine v_iconst d_M_fitsAt_8 (by decide) ?_
    refine v_icge d_M_fitsAt_9 ?_ ?_
    · refine v_sub (ls' := [(0, xA a0), (1, xA a1), (3, xI v3), (4, xI v4)]) [0, 1, 2, 3] rfl ?_
      exact hkx26 M
    · refine v_aloadn d_M_fitsAt_12 rfl 0 rfl ?_
      refine v_gR d_M_fitsAt_13 fl_M_95 rfl (fun r13 => ?_)
      refine v_iload d_M_fitsAt_16 4 rfl ?_
      refine v_iconst d_M_fitsAt_18 (by decide) ?_
      refine v_iast d_M_fitsAt_19 (fun M => ?_)
      refine v_iinc (lz := fun z => [(5, xI z), (0, xA a0), (1, xA a1), (3, xI v3), (4, xI v4)]) d_M_fitsAt_20 4 rfl (Nat.le_of_ble_eq_true rfl) (fun _ => rfl) (fun v5_20 => ?_)
      refine v_goto d_M_fitsAt_23 ?_
      refine v_sub (ls' := [(0, xA a0), (1, xA a1), (3, xI v3), (4, xI v4), (5, xI v5_20)]) [1, 2, 3, 4, 0] rfl ?_
      exact ih v5_20 M
set_option maxHeartbeats 4000000 in
set_option maxRecDepth 100000 in
theorem V_lp_M_fitsAt_76 {l : Launch} {w : vm_W} (hfl : l.stackTraces = false) (kx118 : mm_T → Option (Int × mm_T)) (a0 : Nat) (a1 : Nat) (v4 : Int) (v6 : Int) {v3 : Int} {v5 : Int} (hkx118 : ∀ (M : mm_T), V_ l w q_M_fitsAt 2 ex_Z 118 [(0, xA a0), (1, xA a1), (3, xI v3), (4, xI v4), (5, xI v5), (6, xI v6)] [] M (kx118 M)) : ∀ (f : Nat) (v7 : Int) (M : mm_T), V_ l w q_M_fitsAt 2 ex_Z 76 [(0, xA a0), (1, xA a1), (3, xI v3), (4, xI v4), (5, xI v5), (6, xI v6), (7, xI v7)] [] M (lp_M_fitsAt_76 kx118 a0 a1 v4 v6 f v7 M) := by
  intro f
  induction f with
  | zero => intros; exact V_.none
  | succ f ih =>
    intro v7 M
    unfold lp_M_fitsAt_76
    refine v_iload d_M_fitsAt_76 6 rfl ?_
    refine v_aloadn d_M_fitsAt_78 rfl 0 rfl ?_
    refine v_gR d_M_fitsAt_79 fl_M_92 rfl (fun r79 => ?_)
    refine v_iload d_M_fitsAt_82 5 rfl ?_
    refine v_iald d_M_fitsAt_84 (fun x84 => ?_)
    refine v_icge d_M_fitsAt_85 ?_ ?_
    · refine v_sub (ls' := [(0, xA a0), (1, xA a1), (3, xI v3), (4, xI v4), (5, xI v5), (6, xI v6)]) [0, 1, 2, 3, 4, 5] rfl ?_
      exact hkx118 M
    · refine v_aloadn d_M_fitsAt_88 rfl 1 rfl ?_
      refine v_aloadn d_M_fitsAt_89 rfl 0 rfl ?_
      refine v_gR d_M_fitsAt_90 fl_M_95 rfl (fun r90 => ?_)
      refine v_iload d_M_fitsAt_93 5 rfl ?_
      refine v_iald d_M_fitsAt_95 (fun x95 => ?_)
      refine v_iload d_M_fitsAt_96 6 rfl ?_
      refine v_iadd d_M_fitsAt_98 (fun x98 => ?_)
      refine v_iald d_M_fitsAt_99 (fun x99 => ?_)
      refine v_aloadn d_M_fitsAt_100 rfl 1 rfl ?_
      refine v_iload d_M_fitsAt_101 3 rfl ?_
      refine v_iload d_M_fitsAt_103 6 rfl ?_
      refine v_iadd d_M_fitsAt_105 (fun x105 => ?_)
      refine v_iald d_M_fitsAt_106 (fun x106 => ?_)
      refine v_iceq d_M_fitsAt_107 ?_ ?_
      · refine v_iinc (lz := fun z => [(7, xI z), (0, xA a0), (1, xA a1), (3, xI v3), (4, xI v4), (5, xI v5), (6, xI v6)]) d_M_fitsAt_112 6 rfl (Nat.le_of_ble_eq_true rfl) (fun _ => rfl) (fun v7_112 => ?_)
        refine v_goto d_M_fitsAt_115 ?_
        refine v_sub (ls' := [(0, xA a0), (1, xA a1), (3, xI v3), (4, xI v4), (5, xI v5), (6, xI v6), (7, xI v7_112)]) [1, 2, 3, 4, 5, 6, 0] rfl ?_
        exact ih v7_112 M
      · refine v_iconst d_M_fitsAt_110 (by decide) ?_
        exact v_zret d_M_fitsAt_111 rfl
set_option maxHeartbeats 4000000 in
set_option maxRecDepth 100000 in
theorem V_lp_M_fitsAt_29 {l : Launch} {w : vm_W} (hfl : l.stackTraces = false) (kx136 : mm_T → Option (Int × mm_T)) (a0 : Nat) (a1 : Nat) (v3 : Int) (hkx136 : ∀ (M : mm_T), V_ l w q_M_fitsAt 2 ex_Z 136 [] [] M (kx136 M)) : ∀ (f : Nat) (v4 : Int) (v5 : Int) (M : mm_T), V_ l w q_M_fitsAt 2 ex_Z 29 [(0, xA a0), (1, xA a1), (3, xI v3), (4, xI v4), (5, xI v5)] [] M (lp_M_fitsAt_29 kx136 a0 a1 v3 f v4 v5 M) := by
  intro f
  induction f with
  | zero => intros; exact V_.none
  | succ f ih =>
    intro v4 v5 M
    unfold lp_M_fitsAt_29
    refine v_iload d_M_fitsAt_29 4 rfl ?_
    refine v_aloadn d_M_fitsAt_31 rfl 0 rfl ?_
    refine v_gR d_M_fitsAt_32 fl_M_77 rfl (fun r32 => ?_)
    refine v_sipush d_M_fitsAt_35 (by decide) ?_
    refine v_iloadn d_M_fitsAt_38 rfl 2 rfl ?_
    refine v_iadd d_M_fitsAt_39 (fun x39 => ?_)
    refine v_iald d_M_fitsAt_40 (fun x40 => ?_)
    refine v_icge d_M_fitsAt_41 ?_ ?_
    · refine v_sub (ls' := []) [] rfl ?_
      exact hkx136 M
    · refine v_aloadn d_M_fitsAt_44 rfl 0 rfl ?_
      refine v_iloadn d_M_fitsAt_45 rfl 2 rfl ?_
      refine v_iload d_M_fitsAt_46 4 rfl ?_
      refine v_cVi d_M_fitsAt_48 ml_M_202 (q := (RX11, TX11, 32)) rfl (c_M_letterOf l hfl a0 v3 v5 M) (fun _ => rfl) (by decide) (by decide) (as := [xI v3, xI v5]) (st1 := []) rfl rfl (Nat.le_of_ble_eq_true rfl) (fun c48 M => ?_)
      refine v_istore (lz := fun z => [(6, xI z), (0, xA a0), (1, xA a1), (3, xI v3), (4, xI v4), (5, xI v5)]) d_M_fitsAt_51 (Nat.le_of_ble_eq_true rfl) (fun _ => rfl) (fun v6_51 => ?_)
      refine v_aloadn d_M_fitsAt_53 rfl 1 rfl ?_
      refine v_gR d_M_fitsAt_54 fl_M_95 rfl (fun r54 => ?_)
      refine v_iload d_M_fitsAt_57 0 rfl ?_
      refine v_iald d_M_fitsAt_59 (fun x59 => ?_)
      refine v_iconst d_M_fitsAt_60 (by decide) ?_
      refine v_join0 (pj := 73) (lj := [(0, xA a0), (1, xA a1), (3, xI v3), (4, xI v4), (5, xI v5), (6, xI v6_51)]) (sj := []) (fun M => ?_) (fun j73 hj73 => ?_)
      · refine v_iconst d_M_fitsAt_73 (by decide) ?_
        refine v_istore (lz := fun z => [(7, xI z), (0, xA a0), (1, xA a1), (3, xI v3), (4, xI v4), (5, xI v5), (6, xI v6_51)]) d_M_fitsAt_74 (Nat.le_of_ble_eq_true rfl) (fun _ => rfl) (fun v7_74 => ?_)
        refine v_sub (ls' := [(0, xA a0), (1, xA a1), (3, xI v3), (4, xI v4), (5, xI v5), (6, xI v6_51), (7, xI v7_74)]) [1, 2, 3, 4, 5, 6, 0] rfl ?_
        refine V_lp_M_fitsAt_76 hfl _ _ _ _ _ (fun M => ?_) _ _ _
        · refine v_iload d_M_fitsAt_118 3 rfl ?_
          refine v_aloadn d_M_fitsAt_120 rfl 0 rfl ?_
          refine v_gR d_M_fitsAt_121 fl_M_92 rfl (fun r121 => ?_)
          refine v_iload d_M_fitsAt_124 5 rfl ?_
          refine v_iald d_M_fitsAt_126 (fun x126 => ?_)
          refine v_iadd d_M_fitsAt_127 (fun x127 => ?_)
          refine v_istore (lz := fun z => [(4, xI z), (0, xA a0), (1, xA a1), (3, xI v3), (5, xI v5), (6, xI v6_51)]) d_M_fitsAt_128 (Nat.le_of_ble_eq_true rfl) (fun _ => rfl) (fun v4_128 => ?_)
          refine v_iinc (lz := fun z => [(5, xI z), (4, xI v4_128), (0, xA a0), (1, xA a1), (3, xI v3), (6, xI v6_51)]) d_M_fitsAt_130 4 rfl (Nat.le_of_ble_eq_true rfl) (fun _ => rfl) (fun v5_130 => ?_)
          refine v_goto d_M_fitsAt_133 ?_
          refine v_sub (ls' := [(0, xA a0), (1, xA a1), (3, xI v3), (4, xI v4_128), (5, xI v5_130)]) [2, 3, 4, 1, 0] rfl ?_
          exact ih v4_128 v5_130 M
      refine v_icne d_M_fitsAt_61 ?_ ?_
      · refine v_sub (ls' := [(0, xA a0), (1, xA a1), (3, xI v3), (4, xI v4), (5, xI v5), (6, xI v6_51)]) [1, 2, 3, 4, 5, 0] rfl ?_
        exact hj73 M
      · refine v_aloadn d_M_fitsAt_64 rfl 1 rfl ?_
        refine v_gR d_M_fitsAt_65 fl_M_95 rfl (fun r65 => ?_)
        refine v_iload d_M_fitsAt_68 0 rfl ?_
        refine v_iload d_M_fitsAt_70 4 rfl ?_
        refine v_iast d_M_fitsAt_72 (fun M => ?_)
        refine v_sub (ls' := [(0, xA a0), (1, xA a1), (3, xI v3), (4, xI v4), (5, xI v5), (6, xI v6_51)]) [1, 2, 3, 4, 5, 0] rfl ?_
        exact hj73 M
set_option maxHeartbeats 4000000 in
set_option maxRecDepth 100000 in
theorem c_M_fitsAt (l : Launch) (hfl : l.stackTraces = false) (a0 : Nat) (a1 : Nat) (v2 : Int) (v3 : Int) (M : mm_T) : vm_Con l yX11_fitsAt (.code yX11_fitsAt cX11_fitsAt 8 (some .boolean)) 2 ex_Z [xA a0, xA a1, xI v2, xI v3] M (k_M_fitsAt a0 a1 v2 v3 M) := by
  refine vm_con (y := q_M_fitsAt) hfl (by decide +kernel) rfl (fun h => by cases h) (Nat.le_of_ble_eq_true rfl) rfl (fun _ _ _ => rfl) (fun r E h => by cases h) (fun w => ?_)
  show V_ l w q_M_fitsAt 2 ex_Z 0 [(0, xA a0), (1, xA a1), (2, xI v2), (3, xI v3)] [] M (k_M_fitsAt a0 a1 v2 v3 M)
  unfold k_M_fitsAt
  refine v_iloadn d_M_fitsAt_0 rfl 2 rfl ?_
  refine v_istore (lz := fun z => [(4, xI z), (0, xA a0), (1, xA a1), (2, xI v2), (3, xI v3)]) d_M_fitsAt_1 (Nat.le_of_ble_eq_true rfl) (fun _ => rfl) (fun v4_1 => ?_)
  refine v_iconst d_M_fitsAt_3 (by decide) ?_
  refine v_istore (lz := fun z => [(5, xI z), (4, xI v4_1), (0, xA a0), (1, xA a1), (2, xI v2), (3, xI v3)]) d_M_fitsAt_4 (Nat.le_of_ble_eq_true rfl) (fun _ => rfl) (fun v5_4 => ?_)
  refine v_sub (ls' := [(0, xA a0), (1, xA a1), (3, xI v3), (4, xI v4_1), (5, xI v5_4)]) [2, 3, 5, 1, 0] rfl ?_
  refine V_lp_M_fitsAt_6 hfl _ _ (fun M => ?_) _ _ _
  · refine v_iconst d_M_fitsAt_26 (by decide) ?_
    refine v_istore (lz := fun z => [(5, xI z), (0, xA a0), (1, xA a1), (3, xI v3), (4, xI v4_1)]) d_M_fitsAt_27 (Nat.le_of_ble_eq_true rfl) (fun _ => rfl) (fun v5_27 => ?_)
    refine v_sub (ls' := [(0, xA a0), (1, xA a1), (3, xI v3), (4, xI v4_1), (5, xI v5_27)]) [1, 2, 3, 4, 0] rfl ?_
    refine V_lp_M_fitsAt_29 hfl _ _ _ _ (fun M => ?_) _ _ _ _
    · refine v_iconst d_M_fitsAt_136 (by decide) ?_
      exact v_zret d_M_fitsAt_137 rfl
set_option maxHeartbeats 4000000 in
set_option maxRecDepth 100000 in
theorem V_lp_M_nextSizes_2 {l : Launch} {w : vm_W} (hfl : l.stackTraces = false) (kx52 : mm_T → Option (Int × mm_T)) (a0 : Nat) (v1 : Int) (v2 : Int) (hkx52 : ∀ (M : mm_T), V_ l w q_M_nextSizes 3 ex_Z 52 [] [] M (kx52 M)) : ∀ (f : Nat) (v3 : Int) (M : mm_T), V_ l w q_M_nextSizes 3 ex_Z 2 [(0, xA a0), (1, xI v1), (2, xI v2), (3, xI v3)] [] M (lp_M_nextSizes_2 kx52 a0 v1 v2 f v3 M) := by
  intro f
  induction f with
  | zero => intros; exact V_.none
  | succ f ih =>
    intro v3 M
    unfold lp_M_nextSizes_2
    refine v_iloadn d_M_nextSizes_2 rfl 3 rfl ?_
    refine v_iflt d_M_nextSizes_3 ?_ ?_
    · refine v_sub (ls' := []) [] rfl ?_
      exact hkx52 M
    · refine v_aloadn d_M_nextSizes_6 rfl 0 rfl ?_
      refine v_iloadn d_M_nextSizes_7 rfl 1 rfl ?_
      refine v_iloadn d_M_nextSizes_8 rfl 3 rfl ?_
      refine v_cVi d_M_nextSizes_9 ml_M_205 (q := (RX11, TX11, 32)) rfl (c_M_hasLetter l hfl a0 v1 v3 M) (fun _ => rfl) (by decide) (by decide) (as := [xI v1, xI v3]) (st1 := []) rfl rfl (Nat.le_of_ble_eq_true rfl) (fun c9 M => ?_)
      refine v_join0 (pj := 46) (lj := [(0, xA a0), (1, xI v1), (2, xI v2), (3, xI v3)]) (sj := []) (fun M => ?_) (fun j46 hj46 => ?_)
      · refine v_iinc (lz := fun z => [(3, xI z), (0, xA a0), (1, xI v1), (2, xI v2)]) d_M_nextSizes_46 3 rfl (Nat.le_of_ble_eq_true rfl) (fun _ => rfl) (fun v3_46 => ?_)
        refine v_goto d_M_nextSizes_49 ?_
        refine v_sub (ls' := [(0, xA a0), (1, xI v1), (2, xI v2), (3, xI v3_46)]) [1, 2, 3, 0] rfl ?_
        exact ih v3_46 M
      refine v_ifne d_M_nextSizes_12 ?_ ?_
      · refine v_aloadn d_M_nextSizes_18 rfl 0 rfl ?_
        refine v_gR d_M_nextSizes_19 fl_M_92 rfl (fun r19 => ?_)
        refine v_iloadn d_M_nextSizes_22 rfl 3 rfl ?_
        refine v_dup2 d_M_nextSizes_23 rfl rfl ?_
        refine v_iald d_M_nextSizes_24 (fun x24 => ?_)
        refine v_iconst d_M_nextSizes_25 (by decide) ?_
        refine v_iadd d_M_nextSizes_26 (fun x26 => ?_)
        refine v_iast d_M_nextSizes_27 (fun M => ?_)
        refine v_aloadn d_M_nextSizes_28 rfl 0 rfl ?_
        refine v_iloadn d_M_nextSizes_29 rfl 1 rfl ?_
        refine v_cVi d_M_nextSizes_30 ml_M_208 (q := (RX11, TX11, 32)) rfl (c_M_longBy l hfl a0 v1 M) (fun _ => rfl) (by decide) (by decide) (as := [xI v1]) (st1 := []) rfl rfl (Nat.le_of_ble_eq_true rfl) (fun c30 M => ?_)
        refine v_iloadn d_M_nextSizes_33 rfl 2 rfl ?_
        refine v_icgt d_M_nextSizes_34 ?_ ?_
        · refine v_aloadn d_M_nextSizes_39 rfl 0 rfl ?_
          refine v_gR d_M_nextSizes_40 fl_M_92 rfl (fun r40 => ?_)
          refine v_iloadn d_M_nextSizes_43 rfl 3 rfl ?_
          refine v_iconst d_M_nextSizes_44 (by decide) ?_
          refine v_iast d_M_nextSizes_45 (fun M => ?_)
          exact hj46 M
        · refine v_iconst d_M_nextSizes_37 (by decide) ?_
          exact v_zret d_M_nextSizes_38 rfl
      · refine v_goto d_M_nextSizes_15 ?_
        exact hj46 M
set_option maxHeartbeats 4000000 in
set_option maxRecDepth 100000 in
theorem c_M_nextSizes (l : Launch) (hfl : l.stackTraces = false) (a0 : Nat) (v1 : Int) (v2 : Int) (M : mm_T) : vm_Con l yX11_nextSizes (.code yX11_nextSizes cX11_nextSizes 4 (some .boolean)) 3 ex_Z [xA a0, xI v1, xI v2] M (k_M_nextSizes a0 v1 v2 M) := by
  refine vm_con (y := q_M_nextSizes) hfl (by decide +kernel) rfl (fun h => by cases h) (Nat.le_of_ble_eq_true rfl) rfl (fun _ _ _ => rfl) (fun r E h => by cases h) (fun w => ?_)
  show V_ l w q_M_nextSizes 3 ex_Z 0 [(0, xA a0), (1, xI v1), (2, xI v2)] [] M (k_M_nextSizes a0 v1 v2 M)
  unfold k_M_nextSizes
  refine v_iconst d_M_nextSizes_0 (by decide) ?_
  refine v_istoren (lz := fun z => [(3, xI z), (0, xA a0), (1, xI v1), (2, xI v2)]) d_M_nextSizes_1 rfl (Nat.le_of_ble_eq_true rfl) (fun _ => rfl) (fun v3_1 => ?_)
  refine v_sub (ls' := [(0, xA a0), (1, xI v1), (2, xI v2), (3, xI v3_1)]) [1, 2, 3, 0] rfl ?_
  refine V_lp_M_nextSizes_2 hfl _ _ _ _ (fun M => ?_) _ _ _
  · refine v_iconst d_M_nextSizes_52 (by decide) ?_
    exact v_zret d_M_nextSizes_53 rfl
set_option maxHeartbeats 4000000 in
set_option maxRecDepth 100000 in
theorem V_lp_M_firstSizes_2 {l : Launch} {w : vm_W} (hfl : l.stackTraces = false) (kx33 : mm_T → Option (Int × mm_T)) (a0 : Nat) (v1 : Int) {v2 : Int} (hkx33 : ∀ (M : mm_T), V_ l w q_M_firstSizes 3 ex_Z 33 [(0, xA a0), (1, xI v1), (2, xI v2)] [] M (kx33 M)) : ∀ (f : Nat) (v3 : Int) (M : mm_T), V_ l w q_M_firstSizes 3 ex_Z 2 [(0, xA a0), (1, xI v1), (2, xI v2), (3, xI v3)] [] M (lp_M_firstSizes_2 kx33 a0 v1 f v3 M) := by
  intro f
  induction f with
  | zero => intros; exact V_.none
  | succ f ih =>
    intro v3 M
    unfold lp_M_firstSizes_2
    refine v_iloadn d_M_firstSizes_2 rfl 3 rfl ?_
    refine v_iconst d_M_firstSizes_3 (by decide) ?_
    refine v_icge d_M_firstSizes_4 ?_ ?_
    · refine v_sub (ls' := [(0, xA a0), (1, xI v1), (2, xI v2)]) [0, 1, 2] rfl ?_
      exact hkx33 M
    · refine v_aloadn d_M_firstSizes_7 rfl 0 rfl ?_
      refine v_gR d_M_firstSizes_8 fl_M_92 rfl (fun r8 => ?_)
      refine v_iloadn d_M_firstSizes_11 rfl 3 rfl ?_
      refine v_aloadn d_M_firstSizes_12 rfl 0 rfl ?_
      refine v_iloadn d_M_firstSizes_13 rfl 1 rfl ?_
      refine v_iloadn d_M_firstSizes_14 rfl 3 rfl ?_
      refine v_cVi d_M_firstSizes_15 ml_M_205 (q := (RX11, TX11, 32)) rfl (c_M_hasLetter l hfl a0 v1 v3 M) (fun _ => rfl) (by decide) (by decide) (as := [xI v1, xI v3]) (st1 := [xI v3, xA r8]) rfl rfl (Nat.le_of_ble_eq_true rfl) (fun c15 M => ?_)
      refine v_join3 (pj := 26) (lj := fun sa0_26 s1_26 s2_26 => [(0, xA a0), (1, xI v1), (2, xI v2), (3, xI v3)]) (sj := fun sa0_26 s1_26 s2_26 => [xI s2_26, xI s1_26, xA sa0_26]) (fun sa0_26 s1_26 s2_26 M => ?_) (fun j26 hj26 => ?_)
      · refine v_iast d_M_firstSizes_26 (fun M => ?_)
        refine v_iinc (lz := fun z => [(3, xI z), (0, xA a0), (1, xI v1), (2, xI v2)]) d_M_firstSizes_27 3 rfl (Nat.le_of_ble_eq_true rfl) (fun _ => rfl) (fun v3_27 => ?_)
        refine v_goto d_M_firstSizes_30 ?_
        refine v_sub (ls' := [(0, xA a0), (1, xI v1), (2, xI v2), (3, xI v3_27)]) [1, 2, 3, 0] rfl ?_
        exact ih v3_27 M
      refine v_ifeq d_M_firstSizes_18 ?_ ?_
      · refine v_iconst d_M_firstSizes_25 (by decide) ?_
        exact hj26 r8 v3 0 M
      · refine v_iconst d_M_firstSizes_21 (by decide) ?_
        refine v_goto d_M_firstSizes_22 ?_
        exact hj26 r8 v3 1 M
set_option maxHeartbeats 4000000 in
set_option maxRecDepth 100000 in
theorem c_M_firstSizes (l : Launch) (hfl : l.stackTraces = false) (a0 : Nat) (v1 : Int) (v2 : Int) (M : mm_T) : vm_Con l yX11_firstSizes (.code yX11_firstSizes cX11_firstSizes 4 (some .boolean)) 3 ex_Z [xA a0, xI v1, xI v2] M (k_M_firstSizes a0 v1 v2 M) := by
  refine vm_con (y := q_M_firstSizes) hfl (by decide +kernel) rfl (fun h => by cases h) (Nat.le_of_ble_eq_true rfl) rfl (fun _ _ _ => rfl) (fun r E h => by cases h) (fun w => ?_)
  show V_ l w q_M_firstSizes 3 ex_Z 0 [(0, xA a0), (1, xI v1), (2, xI v2)] [] M (k_M_firstSizes a0 v1 v2 M)
  unfold k_M_firstSizes
  refine v_iconst d_M_firstSizes_0 (by decide) ?_
  refine v_istoren (lz := fun z => [(3, xI z), (0, xA a0), (1, xI v1), (2, xI v2)]) d_M_firstSizes_1 rfl (Nat.le_of_ble_eq_true rfl) (fun _ => rfl) (fun v3_1 => ?_)
  refine v_sub (ls' := [(0, xA a0), (1, xI v1), (2, xI v2), (3, xI v3_1)]) [1, 2, 3, 0] rfl ?_
  refine V_lp_M_firstSizes_2 hfl _ _ _ (fun M => ?_) _ _ _
  · refine v_aloadn d_M_firstSizes_33 rfl 0 rfl ?_
    refine v_iloadn d_M_firstSizes_34 rfl 1 rfl ?_
    refine v_cVi d_M_firstSizes_35 ml_M_208 (q := (RX11, TX11, 32)) rfl (c_M_longBy l hfl a0 v1 M) (fun _ => rfl) (by decide) (by decide) (as := [xI v1]) (st1 := []) rfl rfl (Nat.le_of_ble_eq_true rfl) (fun c35 M => ?_)
    refine v_iloadn d_M_firstSizes_38 rfl 2 rfl ?_
    refine v_icgt d_M_firstSizes_39 ?_ ?_
    · refine v_iconst d_M_firstSizes_46 (by decide) ?_
      exact v_zret d_M_firstSizes_47 rfl
    · refine v_iconst d_M_firstSizes_42 (by decide) ?_
      refine v_goto d_M_firstSizes_43 ?_
      exact v_zret d_M_firstSizes_47 rfl
set_option maxHeartbeats 4000000 in
set_option maxRecDepth 100000 in
theorem V_lp_M_endsBy_8 {l : Launch} {w : vm_W} (hfl : l.stackTraces = false) (kx42 : mm_T → Option (Int × mm_T)) (a0 : Nat) (a1 : Nat) (v2 : Int) (v3 : Int) (hkx42 : ∀ (M : mm_T), V_ l w q_M_endsBy 4 ex_Z 42 [] [] M (kx42 M)) : ∀ (f : Nat) (v4 : Int) (M : mm_T), V_ l w q_M_endsBy 4 ex_Z 8 [(0, xA a0), (1, xA a1), (2, xI v2), (3, xI v3), (4, xI v4)] [] M (lp_M_endsBy_8 kx42 a0 a1 v2 v3 f v4 M) := by
  intro f
  induction f with
  | zero => intros; exact V_.none
  | succ f ih =>
    intro v4 M
    unfold lp_M_endsBy_8
    refine v_iload d_M_endsBy_8 4 rfl ?_
    refine v_ifeq d_M_endsBy_10 ?_ ?_
    · refine v_sub (ls' := []) [] rfl ?_
      exact hkx42 M
    · refine v_aloadn d_M_endsBy_13 rfl 0 rfl ?_
      refine v_aloadn d_M_endsBy_14 rfl 1 rfl ?_
      refine v_iloadn d_M_endsBy_15 rfl 2 rfl ?_
      refine v_aloadn d_M_endsBy_16 rfl 0 rfl ?_
      refine v_iloadn d_M_endsBy_17 rfl 3 rfl ?_
      refine v_cVi d_M_endsBy_18 ml_M_208 (q := (RX11, TX11, 32)) rfl (c_M_longBy l hfl a0 v3 M) (fun _ => rfl) (by decide) (by decide) (as := [xI v3]) (st1 := [xI v2, xA a1, xA a0]) rfl rfl (Nat.le_of_ble_eq_true rfl) (fun c18 M => ?_)
      refine v_isub d_M_endsBy_21 (fun x21 => ?_)
      refine v_iloadn d_M_endsBy_22 rfl 3 rfl ?_
      refine v_cVi d_M_endsBy_23 ml_M_215 (q := (RX11, TX11, 32)) rfl (c_M_fitsAt l hfl a0 a1 x21 v3 M) (fun _ => rfl) (by decide) (by decide) (as := [xA a1, xI x21, xI v3]) (st1 := []) rfl rfl (Nat.le_of_ble_eq_true rfl) (fun c23 M => ?_)
      refine v_ifeq d_M_endsBy_26 ?_ ?_
      · refine v_aloadn d_M_endsBy_31 rfl 0 rfl ?_
        refine v_iloadn d_M_endsBy_32 rfl 3 rfl ?_
        refine v_iloadn d_M_endsBy_33 rfl 2 rfl ?_
        refine v_cVi d_M_endsBy_34 ml_M_219 (q := (RX11, TX11, 32)) rfl (c_M_nextSizes l hfl a0 v3 v2 M) (fun _ => rfl) (by decide) (by decide) (as := [xI v3, xI v2]) (st1 := []) rfl rfl (Nat.le_of_ble_eq_true rfl) (fun c34 M => ?_)
        refine v_istore (lz := fun z => [(4, xI z), (0, xA a0), (1, xA a1), (2, xI v2), (3, xI v3)]) d_M_endsBy_37 (Nat.le_of_ble_eq_true rfl) (fun _ => rfl) (fun v4_37 => ?_)
        refine v_goto d_M_endsBy_39 ?_
        refine v_sub (ls' := [(0, xA a0), (1, xA a1), (2, xI v2), (3, xI v3), (4, xI v4_37)]) [1, 2, 3, 4, 0] rfl ?_
        exact ih v4_37 M
      · refine v_iconst d_M_endsBy_29 (by decide) ?_
        exact v_zret d_M_endsBy_30 rfl
set_option maxHeartbeats 4000000 in
set_option maxRecDepth 100000 in
theorem c_M_endsBy (l : Launch) (hfl : l.stackTraces = false) (a0 : Nat) (a1 : Nat) (v2 : Int) (v3 : Int) (M : mm_T) : vm_Con l yX11_endsBy (.code yX11_endsBy cX11_endsBy 5 (some .boolean)) 4 ex_Z [xA a0, xA a1, xI v2, xI v3] M (k_M_endsBy a0 a1 v2 v3 M) := by
  refine vm_con (y := q_M_endsBy) hfl (by decide +kernel) rfl (fun h => by cases h) (Nat.le_of_ble_eq_true rfl) rfl (fun _ _ _ => rfl) (fun r E h => by cases h) (fun w => ?_)
  show V_ l w q_M_endsBy 4 ex_Z 0 [(0, xA a0), (1, xA a1), (2, xI v2), (3, xI v3)] [] M (k_M_endsBy a0 a1 v2 v3 M)
  unfold k_M_endsBy
  refine v_aloadn d_M_endsBy_0 rfl 0 rfl ?_
  refine v_iloadn d_M_endsBy_1 rfl 3 rfl ?_
  refine v_iloadn d_M_endsBy_2 rfl 2 rfl ?_
  refine v_cVi d_M_endsBy_3 ml_M_212 (q := (RX11, TX11, 32)) rfl (c_M_firstSizes l hfl a0 v3 v2 M) (fun _ => rfl) (by decide) (by decide) (as := [xI v3, xI v2]) (st1 := []) rfl rfl (Nat.le_of_ble_eq_true rfl) (fun c3 M => ?_)
  refine v_istore (lz := fun z => [(4, xI z), (0, xA a0), (1, xA a1), (2, xI v2), (3, xI v3)]) d_M_endsBy_6 (Nat.le_of_ble_eq_true rfl) (fun _ => rfl) (fun v4_6 => ?_)
  refine v_sub (ls' := [(0, xA a0), (1, xA a1), (2, xI v2), (3, xI v3), (4, xI v4_6)]) [1, 2, 3, 4, 0] rfl ?_
  refine V_lp_M_endsBy_8 hfl _ _ _ _ _ (fun M => ?_) _ _ _
  · refine v_iconst d_M_endsBy_42 (by decide) ?_
    exact v_zret d_M_endsBy_43 rfl
set_option maxHeartbeats 4000000 in
set_option maxRecDepth 100000 in
theorem V_lp_M_goesOn_13 {l : Launch} {w : vm_W} (hfl : l.stackTraces = false) (kx55 : mm_T → Option (Int × mm_T)) (a0 : Nat) (a1 : Nat) (v2 : Int) (hkx55 : ∀ (M : mm_T), V_ l w q_M_goesOn 5 ex_Z 55 [] [] M (kx55 M)) : ∀ (f : Nat) (v3 : Int) (M : mm_T), V_ l w q_M_goesOn 5 ex_Z 13 [(0, xA a0), (1, xA a1), (2, xI v2), (3, xI v3)] [] M (lp_M_goesOn_13 kx55 a0 a1 v2 f v3 M) := by
  intro f
  induction f with
  | zero => intros; exact V_.none
  | succ f ih =>
    intro v3 M
    unfold lp_M_goesOn_13
    refine v_iloadn d_M_goesOn_13 rfl 3 rfl ?_
    refine v_aloadn d_M_goesOn_14 rfl 0 rfl ?_
    refine v_gR d_M_goesOn_15 fl_M_77 rfl (fun r15 => ?_)
    refine v_iconst d_M_goesOn_18 (by decide) ?_
    refine v_iald d_M_goesOn_19 (fun x19 => ?_)
    refine v_icge d_M_goesOn_20 ?_ ?_
    · refine v_sub (ls' := []) [] rfl ?_
      exact hkx55 M
    · refine v_aloadn d_M_goesOn_23 rfl 0 rfl ?_
      refine v_gR d_M_goesOn_24 fl_M_77 rfl (fun r24 => ?_)
      refine v_sipush d_M_goesOn_27 (by decide) ?_
      refine v_iloadn d_M_goesOn_30 rfl 3 rfl ?_
      refine v_iadd d_M_goesOn_31 (fun x31 => ?_)
      refine v_iald d_M_goesOn_32 (fun x32 => ?_)
      refine v_iconst d_M_goesOn_33 (by decide) ?_
      refine v_join0 (pj := 49) (lj := [(0, xA a0), (1, xA a1), (2, xI v2), (3, xI v3)]) (sj := []) (fun M => ?_) (fun j49 hj49 => ?_)
      · refine v_iinc (lz := fun z => [(3, xI z), (0, xA a0), (1, xA a1), (2, xI v2)]) d_M_goesOn_49 3 rfl (Nat.le_of_ble_eq_true rfl) (fun _ => rfl) (fun v3_49 => ?_)
        refine v_goto d_M_goesOn_52 ?_
        refine v_sub (ls' := [(0, xA a0), (1, xA a1), (2, xI v2), (3, xI v3_49)]) [1, 2, 3, 0] rfl ?_
        exact ih v3_49 M
      refine v_icne d_M_goesOn_34 ?_ ?_
      · exact hj49 M
      · refine v_aloadn d_M_goesOn_37 rfl 0 rfl ?_
        refine v_aloadn d_M_goesOn_38 rfl 1 rfl ?_
        refine v_iloadn d_M_goesOn_39 rfl 2 rfl ?_
        refine v_iloadn d_M_goesOn_40 rfl 3 rfl ?_
        refine v_cVi d_M_goesOn_41 ml_M_226 (q := (RX11, TX11, 32)) rfl (c_M_endsBy l hfl a0 a1 v2 v3 M) (fun _ => rfl) (by decide) (by decide) (as := [xA a1, xI v2, xI v3]) (st1 := []) rfl rfl (Nat.le_of_ble_eq_true rfl) (fun c41 M => ?_)
        refine v_ifeq d_M_goesOn_44 ?_ ?_
        · exact hj49 M
        · refine v_iconst d_M_goesOn_47 (by decide) ?_
          exact v_zret d_M_goesOn_48 rfl
set_option maxHeartbeats 4000000 in
set_option maxRecDepth 100000 in
theorem c_M_goesOn (l : Launch) (hfl : l.stackTraces = false) (a0 : Nat) (a1 : Nat) (v2 : Int) (M : mm_T) : vm_Con l yX11_goesOn (.code yX11_goesOn cX11_goesOn 4 (some .boolean)) 5 ex_Z [xA a0, xA a1, xI v2] M (k_M_goesOn a0 a1 v2 M) := by
  refine vm_con (y := q_M_goesOn) hfl (by decide +kernel) rfl (fun h => by cases h) (Nat.le_of_ble_eq_true rfl) rfl (fun _ _ _ => rfl) (fun r E h => by cases h) (fun w => ?_)
  show V_ l w q_M_goesOn 5 ex_Z 0 [(0, xA a0), (1, xA a1), (2, xI v2)] [] M (k_M_goesOn a0 a1 v2 M)
  unfold k_M_goesOn
  refine v_aloadn d_M_goesOn_0 rfl 0 rfl ?_
  refine v_aloadn d_M_goesOn_1 rfl 1 rfl ?_
  refine v_iloadn d_M_goesOn_2 rfl 2 rfl ?_
  refine v_cVi d_M_goesOn_3 ml_M_222 (q := (RX11, TX11, 32)) rfl (c_M_isRepeated l hfl a0 a1 v2 M) (fun _ => rfl) (by decide) (by decide) (as := [xA a1, xI v2]) (st1 := []) rfl rfl (Nat.le_of_ble_eq_true rfl) (fun c3 M => ?_)
  refine v_ifeq d_M_goesOn_6 ?_ ?_
  · refine v_iconst d_M_goesOn_11 (by decide) ?_
    refine v_istoren (lz := fun z => [(3, xI z), (0, xA a0), (1, xA a1), (2, xI v2)]) d_M_goesOn_12 rfl (Nat.le_of_ble_eq_true rfl) (fun _ => rfl) (fun v3_12 => ?_)
    refine v_sub (ls' := [(0, xA a0), (1, xA a1), (2, xI v2), (3, xI v3_12)]) [1, 2, 3, 0] rfl ?_
    refine V_lp_M_goesOn_13 hfl _ _ _ _ (fun M => ?_) _ _ _
    · refine v_iconst d_M_goesOn_55 (by decide) ?_
      exact v_zret d_M_goesOn_56 rfl
  · refine v_iconst d_M_goesOn_9 (by decide) ?_
    exact v_zret d_M_goesOn_10 rfl
set_option maxHeartbeats 4000000 in
set_option maxRecDepth 100000 in
theorem V_lp_M_freeOf_2 {l : Launch} {w : vm_W} (hfl : l.stackTraces = false) (kx24 : Int → mm_T → Option (Int × mm_T)) (a0 : Nat) (a1 : Nat) (v2 : Int) (hkx24 : ∀ (v3_e : Int) (M : mm_T), V_ l w q_M_freeOf 6 ex_I 24 [(3, xI v3_e)] [] M (kx24 v3_e M)) : ∀ (f : Nat) (v3 : Int) (M : mm_T), V_ l w q_M_freeOf 6 ex_I 2 [(0, xA a0), (1, xA a1), (2, xI v2), (3, xI v3)] [] M (lp_M_freeOf_2 kx24 a0 a1 v2 f v3 M) := by
  intro f
  induction f with
  | zero => intros; exact V_.none
  | succ f ih =>
    intro v3 M
    unfold lp_M_freeOf_2
    refine v_iloadn d_M_freeOf_2 rfl 3 rfl ?_
    refine v_iloadn d_M_freeOf_3 rfl 2 rfl ?_
    refine v_icge d_M_freeOf_4 ?_ ?_
    · refine v_sub (ls' := [(3, xI v3)]) [3] rfl ?_
      exact hkx24 v3 M
    · refine v_aloadn d_M_freeOf_7 rfl 0 rfl ?_
      refine v_aloadn d_M_freeOf_8 rfl 1 rfl ?_
      refine v_iloadn d_M_freeOf_9 rfl 3 rfl ?_
      refine v_iconst d_M_freeOf_10 (by decide) ?_
      refine v_iadd d_M_freeOf_11 (fun x11 => ?_)
      refine v_cVi d_M_freeOf_12 ml_M_229 (q := (RX11, TX11, 32)) rfl (c_M_goesOn l hfl a0 a1 x11 M) (fun _ => rfl) (by decide) (by decide) (as := [xA a1, xI x11]) (st1 := []) rfl rfl (Nat.le_of_ble_eq_true rfl) (fun c12 M => ?_)
      refine v_ifeq d_M_freeOf_15 ?_ ?_
      · refine v_sub (ls' := [(3, xI v3)]) [3] rfl ?_
        exact hkx24 v3 M
      · refine v_iinc (lz := fun z => [(3, xI z), (0, xA a0), (1, xA a1), (2, xI v2)]) d_M_freeOf_18 3 rfl (Nat.le_of_ble_eq_true rfl) (fun _ => rfl) (fun v3_18 => ?_)
        refine v_goto d_M_freeOf_21 ?_
        refine v_sub (ls' := [(0, xA a0), (1, xA a1), (2, xI v2), (3, xI v3_18)]) [1, 2, 3, 0] rfl ?_
        exact ih v3_18 M
set_option maxHeartbeats 4000000 in
set_option maxRecDepth 100000 in
theorem c_M_freeOf (l : Launch) (hfl : l.stackTraces = false) (a0 : Nat) (a1 : Nat) (v2 : Int) (M : mm_T) : vm_Con l yX11_freeOf (.code yX11_freeOf cX11_freeOf 4 (some .int)) 6 ex_I [xA a0, xA a1, xI v2] M (k_M_freeOf a0 a1 v2 M) := by
  refine vm_con (y := q_M_freeOf) hfl (by decide +kernel) rfl (fun h => by cases h) (Nat.le_of_ble_eq_true rfl) rfl (fun _ _ _ => rfl) (fun r E h => by cases h) (fun w => ?_)
  show V_ l w q_M_freeOf 6 ex_I 0 [(0, xA a0), (1, xA a1), (2, xI v2)] [] M (k_M_freeOf a0 a1 v2 M)
  unfold k_M_freeOf
  refine v_iconst d_M_freeOf_0 (by decide) ?_
  refine v_istoren (lz := fun z => [(3, xI z), (0, xA a0), (1, xA a1), (2, xI v2)]) d_M_freeOf_1 rfl (Nat.le_of_ble_eq_true rfl) (fun _ => rfl) (fun v3_1 => ?_)
  refine v_sub (ls' := [(0, xA a0), (1, xA a1), (2, xI v2), (3, xI v3_1)]) [1, 2, 3, 0] rfl ?_
  refine V_lp_M_freeOf_2 hfl _ _ _ _ (fun v3_24 M => ?_) _ _ _
  · refine v_iloadn d_M_freeOf_24 rfl 0 rfl ?_
    exact v_ret d_M_freeOf_25 rfl
set_option maxHeartbeats 4000000 in
set_option maxRecDepth 100000 in
theorem c_M_isFree (l : Launch) (hfl : l.stackTraces = false) (a0 : Nat) (M : mm_T) : vm_Con l yX11_isFree (.code yX11_isFree cX11_isFree 1 (some .boolean)) 7 ex_Z [xA a0] M (k_M_isFree a0 M) := by
  refine vm_con (y := q_M_isFree) hfl (by decide +kernel) rfl (fun h => by cases h) (Nat.le_of_ble_eq_true rfl) rfl (fun _ _ _ => rfl) (fun r E h => by cases h) (fun w => ?_)
  show V_ l w q_M_isFree 7 ex_Z 0 [(0, xA a0)] [] M (k_M_isFree a0 M)
  unfold k_M_isFree
  refine v_aloadn d_M_isFree_0 rfl 0 rfl ?_
  refine v_aloadn d_M_isFree_1 rfl 0 rfl ?_
  refine v_gR d_M_isFree_2 fl_M_83 rfl (fun r2 => ?_)
  refine v_aloadn d_M_isFree_5 rfl 0 rfl ?_
  refine v_gI d_M_isFree_6 fl_M_184 rfl (fun x6 => ?_)
  refine v_cVi d_M_isFree_9 ml_M_232 (q := (RX11, TX11, 32)) rfl (c_M_freeOf l hfl a0 r2 x6 M) (fun _ => rfl) (by decide) (by decide) (as := [xA r2, xI x6]) (st1 := []) rfl rfl (Nat.le_of_ble_eq_true rfl) (fun c9 M => ?_)
  refine v_aloadn d_M_isFree_12 rfl 0 rfl ?_
  refine v_gI d_M_isFree_13 fl_M_184 rfl (fun x13 => ?_)
  refine v_icne d_M_isFree_16 ?_ ?_
  · refine v_iconst d_M_isFree_23 (by decide) ?_
    exact v_zret d_M_isFree_24 rfl
  · refine v_iconst d_M_isFree_19 (by decide) ?_
    refine v_goto d_M_isFree_20 ?_
    exact v_zret d_M_isFree_24 rfl
set_option maxHeartbeats 4000000 in
set_option maxRecDepth 100000 in
theorem c_M_free (l : Launch) (hfl : l.stackTraces = false) (a0 : Nat) (M : mm_T) : vm_Con l yX11_free (.code yX11_free cX11_free 1 (some .boolean)) 8 ex_Z [xA a0] M (k_M_free a0 M) := by
  refine vm_con (y := q_M_free) hfl (by decide +kernel) rfl (fun h => by cases h) (Nat.le_of_ble_eq_true rfl) rfl (fun _ _ _ => rfl) (fun r E h => by cases h) (fun w => ?_)
  show V_ l w q_M_free 8 ex_Z 0 [(0, xA a0)] [] M (k_M_free a0 M)
  unfold k_M_free
  refine v_aloadn d_M_free_0 rfl 0 rfl ?_
  refine v_iconst d_M_free_1 (by decide) ?_
  refine v_pI d_M_free_2 fl_M_3 (Or.inl rfl) rfl rfl (fun M => ?_)
  refine v_aloadn d_M_free_5 rfl 0 rfl ?_
  refine v_cVi d_M_free_6 ml_M_236 (q := (RX11, TX11, 32)) rfl (c_M_isFree l hfl a0 M) (fun _ => rfl) (by decide) (by decide) (as := []) (st1 := []) rfl rfl (Nat.le_of_ble_eq_true rfl) (fun c6 M => ?_)
  exact v_zret d_M_free_9 rfl
set_option maxHeartbeats 4000000 in
set_option maxRecDepth 100000 in
theorem c_M_endsAt (l : Launch) (hfl : l.stackTraces = false) (a0 : Nat) (M : mm_T) : vm_Con l yX11_endsAt (.code yX11_endsAt cX11_endsAt 2 (some .int)) 7 ex_I [xA a0] M (k_M_endsAt a0 M) := by
  refine vm_con (y := q_M_endsAt) hfl (by decide +kernel) rfl (fun h => by cases h) (Nat.le_of_ble_eq_true rfl) rfl (fun _ _ _ => rfl) (fun r E h => by cases h) (fun w => ?_)
  show V_ l w q_M_endsAt 7 ex_I 0 [(0, xA a0)] [] M (k_M_endsAt a0 M)
  unfold k_M_endsAt
  refine v_aloadn d_M_endsAt_0 rfl 0 rfl ?_
  refine v_aloadn d_M_endsAt_1 rfl 0 rfl ?_
  refine v_gR d_M_endsAt_2 fl_M_83 rfl (fun r2 => ?_)
  refine v_aloadn d_M_endsAt_5 rfl 0 rfl ?_
  refine v_gI d_M_endsAt_6 fl_M_184 rfl (fun x6 => ?_)
  refine v_cVi d_M_endsAt_9 ml_M_232 (q := (RX11, TX11, 32)) rfl (c_M_freeOf l hfl a0 r2 x6 M) (fun _ => rfl) (by decide) (by decide) (as := [xA r2, xI x6]) (st1 := []) rfl rfl (Nat.le_of_ble_eq_true rfl) (fun c9 M => ?_)
  refine v_istoren (lz := fun z => [(1, xI z), (0, xA a0)]) d_M_endsAt_12 rfl (Nat.le_of_ble_eq_true rfl) (fun _ => rfl) (fun v1_12 => ?_)
  refine v_iloadn d_M_endsAt_13 rfl 0 rfl ?_
  refine v_aloadn d_M_endsAt_14 rfl 1 rfl ?_
  refine v_gI d_M_endsAt_15 fl_M_184 rfl (fun x15 => ?_)
  refine v_icne d_M_endsAt_18 ?_ ?_
  · refine v_iloadn d_M_endsAt_25 rfl 0 rfl ?_
    exact v_ret d_M_endsAt_26 rfl
  · refine v_iconst d_M_endsAt_21 (by decide) ?_
    refine v_goto d_M_endsAt_22 ?_
    exact v_ret d_M_endsAt_26 rfl
set_option maxHeartbeats 4000000 in
set_option maxRecDepth 100000 in
theorem c_M_ends (l : Launch) (hfl : l.stackTraces = false) (a0 : Nat) (M : mm_T) : vm_Con l yX11_ends (.code yX11_ends cX11_ends 1 (some .int)) 8 ex_I [xA a0] M (k_M_ends a0 M) := by
  refine vm_con (y := q_M_ends) hfl (by decide +kernel) rfl (fun h => by cases h) (Nat.le_of_ble_eq_true rfl) rfl (fun _ _ _ => rfl) (fun r E h => by cases h) (fun w => ?_)
  show V_ l w q_M_ends 8 ex_I 0 [(0, xA a0)] [] M (k_M_ends a0 M)
  unfold k_M_ends
  refine v_aloadn d_M_ends_0 rfl 0 rfl ?_
  refine v_iconst d_M_ends_1 (by decide) ?_
  refine v_pI d_M_ends_2 fl_M_3 (Or.inl rfl) rfl rfl (fun M => ?_)
  refine v_aloadn d_M_ends_5 rfl 0 rfl ?_
  refine v_cVi d_M_ends_6 ml_M_239 (q := (RX11, TX11, 32)) rfl (c_M_endsAt l hfl a0 M) (fun _ => rfl) (by decide) (by decide) (as := []) (st1 := []) rfl rfl (Nat.le_of_ble_eq_true rfl) (fun c6 M => ?_)
  exact v_ret d_M_ends_9 rfl
set_option maxHeartbeats 4000000 in
set_option maxRecDepth 100000 in
theorem V_lp_M_laysGiven_2 {l : Launch} {w : vm_W} (hfl : l.stackTraces = false) (kx25 : mm_T → Option (Unit × mm_T)) (a0 : Nat) (v1 : Int) (hkx25 : ∀ (M : mm_T), V_ l w q_M_laysGiven 1 ex_V 25 [] [] M (kx25 M)) : ∀ (f : Nat) (v2 : Int) (M : mm_T), V_ l w q_M_laysGiven 1 ex_V 2 [(0, xA a0), (1, xI v1), (2, xI v2)] [] M (lp_M_laysGiven_2 kx25 a0 v1 f v2 M) := by
  intro f
  induction f with
  | zero => intros; exact V_.none
  | succ f ih =>
    intro v2 M
    unfold lp_M_laysGiven_2
    refine v_iloadn d_M_laysGiven_2 rfl 2 rfl ?_
    refine v_iloadn d_M_laysGiven_3 rfl 1 rfl ?_
    refine v_icge d_M_laysGiven_4 ?_ ?_
    · refine v_sub (ls' := []) [] rfl ?_
      exact hkx25 M
    · refine v_aloadn d_M_laysGiven_7 rfl 0 rfl ?_
      refine v_gR d_M_laysGiven_8 fl_M_86 rfl (fun r8 => ?_)
      refine v_iloadn d_M_laysGiven_11 rfl 2 rfl ?_
      refine v_aloadn d_M_laysGiven_12 rfl 0 rfl ?_
      refine v_gR d_M_laysGiven_13 fl_M_83 rfl (fun r13 => ?_)
      refine v_iloadn d_M_laysGiven_16 rfl 2 rfl ?_
      refine v_iald d_M_laysGiven_17 (fun x17 => ?_)
      refine v_iast d_M_laysGiven_18 (fun M => ?_)
      refine v_iinc (lz := fun z => [(2, xI z), (0, xA a0), (1, xI v1)]) d_M_laysGiven_19 2 rfl (Nat.le_of_ble_eq_true rfl) (fun _ => rfl) (fun v2_19 => ?_)
      refine v_goto d_M_laysGiven_22 ?_
      refine v_sub (ls' := [(0, xA a0), (1, xI v1), (2, xI v2_19)]) [1, 2, 0] rfl ?_
      exact ih v2_19 M
set_option maxHeartbeats 4000000 in
set_option maxRecDepth 100000 in
theorem c_M_laysGiven (l : Launch) (hfl : l.stackTraces = false) (a0 : Nat) (v1 : Int) (M : mm_T) : vm_Con l yX11_laysGiven (.code yX11_laysGiven cX11_laysGiven 3 none) 1 ex_V [xA a0, xI v1] M (k_M_laysGiven a0 v1 M) := by
  refine vm_con (y := q_M_laysGiven) hfl (by decide +kernel) rfl (fun h => by cases h) (Nat.le_of_ble_eq_true rfl) rfl (fun _ _ _ => rfl) (fun r E h => by cases h) (fun w => ?_)
  show V_ l w q_M_laysGiven 1 ex_V 0 [(0, xA a0), (1, xI v1)] [] M (k_M_laysGiven a0 v1 M)
  unfold k_M_laysGiven
  refine v_iconst d_M_laysGiven_0 (by decide) ?_
  refine v_istoren (lz := fun z => [(2, xI z), (0, xA a0), (1, xI v1)]) d_M_laysGiven_1 rfl (Nat.le_of_ble_eq_true rfl) (fun _ => rfl) (fun v2_1 => ?_)
  refine v_sub (ls' := [(0, xA a0), (1, xI v1), (2, xI v2_1)]) [1, 2, 0] rfl ?_
  refine V_lp_M_laysGiven_2 hfl _ _ _ (fun M => ?_) _ _ _
  · exact v_vret d_M_laysGiven_25 rfl
set_option maxHeartbeats 4000000 in
set_option maxRecDepth 100000 in
theorem V_lp_M_goes_35 {l : Launch} {w : vm_W} (hfl : l.stackTraces = false) (kx88 : Int → mm_T → Option (Int × mm_T)) (a0 : Nat) (hkx88 : ∀ (v1_e : Int) (M : mm_T), V_ l w q_M_goes 8 ex_I 88 [(1, xI v1_e)] [] M (kx88 v1_e M)) : ∀ (f : Nat) (v1 : Int) (v2 : Int) (M : mm_T), V_ l w q_M_goes 8 ex_I 35 [(0, xA a0), (1, xI v1), (2, xI v2)] [] M (lp_M_goes_35 kx88 a0 f v1 v2 M) := by
  intro f
  induction f with
  | zero => intros; exact V_.none
  | succ f ih =>
    intro v1 v2 M
    unfold lp_M_goes_35
    refine v_iloadn d_M_goes_35 rfl 2 rfl ?_
    refine v_aloadn d_M_goes_36 rfl 0 rfl ?_
    refine v_gR d_M_goes_37 fl_M_77 rfl (fun r37 => ?_)
    refine v_iconst d_M_goes_40 (by decide) ?_
    refine v_iald d_M_goes_41 (fun x41 => ?_)
    refine v_icge d_M_goes_42 ?_ ?_
    · refine v_sub (ls' := [(1, xI v1)]) [1] rfl ?_
      exact hkx88 v1 M
    · refine v_aloadn d_M_goes_45 rfl 0 rfl ?_
      refine v_gR d_M_goes_46 fl_M_86 rfl (fun r46 => ?_)
      refine v_aloadn d_M_goes_49 rfl 0 rfl ?_
      refine v_gI d_M_goes_50 fl_M_184 rfl (fun x50 => ?_)
      refine v_iloadn d_M_goes_53 rfl 2 rfl ?_
      refine v_iast d_M_goes_54 (fun M => ?_)
      refine v_iloadn d_M_goes_55 rfl 1 rfl ?_
      refine v_aloadn d_M_goes_56 rfl 0 rfl ?_
      refine v_aloadn d_M_goes_57 rfl 0 rfl ?_
      refine v_gR d_M_goes_58 fl_M_86 rfl (fun r58 => ?_)
      refine v_aloadn d_M_goes_61 rfl 0 rfl ?_
      refine v_gI d_M_goes_62 fl_M_184 rfl (fun x62 => ?_)
      refine v_iconst d_M_goes_65 (by decide) ?_
      refine v_iadd d_M_goes_66 (fun x66 => ?_)
      refine v_cVi d_M_goes_67 ml_M_229 (q := (RX11, TX11, 32)) rfl (c_M_goesOn l hfl a0 r58 x66 M) (fun _ => rfl) (by decide) (by decide) (as := [xA r58, xI x66]) (st1 := [xI v1]) rfl rfl (Nat.le_of_ble_eq_true rfl) (fun c67 M => ?_)
      refine v_join2 (pj := 80) (lj := fun s0_80 s1_80 => [(0, xA a0), (2, xI v2)]) (sj := fun s0_80 s1_80 => [xI s1_80, xI s0_80]) (fun s0_80 s1_80 M => ?_) (fun j80 hj80 => ?_)
      · refine v_ior d_M_goes_80 ?_
        refine v_istoren (lz := fun z => [(1, xI z), (0, xA a0), (2, xI v2)]) d_M_goes_81 rfl (Nat.le_of_ble_eq_true rfl) (fun _ => rfl) (fun v1_81 => ?_)
        refine v_iinc (lz := fun z => [(2, xI z), (1, xI v1_81), (0, xA a0)]) d_M_goes_82 2 rfl (Nat.le_of_ble_eq_true rfl) (fun _ => rfl) (fun v2_82 => ?_)
        refine v_goto d_M_goes_85 ?_
        refine v_sub (ls' := [(0, xA a0), (1, xI v1_81), (2, xI v2_82)]) [2, 1, 0] rfl ?_
        exact ih v1_81 v2_82 M
      refine v_ifeq d_M_goes_70 ?_ ?_
      · refine v_iconst d_M_goes_79 (by decide) ?_
        refine v_sub (ls' := [(0, xA a0), (2, xI v2)]) [0, 2] rfl ?_
        exact hj80 v1 0 M
      · refine v_iconst d_M_goes_73 (by decide) ?_
        refine v_iloadn d_M_goes_74 rfl 2 rfl ?_
        refine v_ishl d_M_goes_75 ?_
        refine v_goto d_M_goes_76 ?_
        refine v_sub (ls' := [(0, xA a0), (2, xI v2)]) [0, 2] rfl ?_
        exact hj80 v1 (shl_ 1 v2) M
set_option maxHeartbeats 4000000 in
set_option maxRecDepth 100000 in
theorem c_M_goes (l : Launch) (hfl : l.stackTraces = false) (a0 : Nat) (M : mm_T) : vm_Con l yX11_goes (.code yX11_goes cX11_goes 3 (some .int)) 8 ex_I [xA a0] M (k_M_goes a0 M) := by
  refine vm_con (y := q_M_goes) hfl (by decide +kernel) rfl (fun h => by cases h) (Nat.le_of_ble_eq_true rfl) rfl (fun _ _ _ => rfl) (fun r E h => by cases h) (fun w => ?_)
  show V_ l w q_M_goes 8 ex_I 0 [(0, xA a0)] [] M (k_M_goes a0 M)
  unfold k_M_goes
  refine v_aloadn d_M_goes_0 rfl 0 rfl ?_
  refine v_iconst d_M_goes_1 (by decide) ?_
  refine v_pI d_M_goes_2 fl_M_3 (Or.inl rfl) rfl rfl (fun M => ?_)
  refine v_aloadn d_M_goes_5 rfl 0 rfl ?_
  refine v_gI d_M_goes_6 fl_M_184 rfl (fun x6 => ?_)
  refine v_bipush d_M_goes_9 (by decide) ?_
  refine v_iceq d_M_goes_11 ?_ ?_
  · refine v_iconst d_M_goes_21 (by decide) ?_
    exact v_ret d_M_goes_22 rfl
  · refine v_aloadn d_M_goes_14 rfl 0 rfl ?_
    refine v_cVi d_M_goes_15 ml_M_236 (q := (RX11, TX11, 32)) rfl (c_M_isFree l hfl a0 M) (fun _ => rfl) (by decide) (by decide) (as := []) (st1 := []) rfl rfl (Nat.le_of_ble_eq_true rfl) (fun c15 M => ?_)
    refine v_ifne d_M_goes_18 ?_ ?_
    · refine v_aloadn d_M_goes_23 rfl 0 rfl ?_
      refine v_aloadn d_M_goes_24 rfl 0 rfl ?_
      refine v_gI d_M_goes_25 fl_M_184 rfl (fun x25 => ?_)
      refine v_cVv d_M_goes_28 ml_M_242 (q := (RX11, TX11, 32)) rfl (c_M_laysGiven l hfl a0 x25 M) (fun _ => rfl) (by decide) (by decide) (as := [xI x25]) (st1 := []) rfl rfl (Nat.le_of_ble_eq_true rfl) (fun _ M => ?_)
      refine v_iconst d_M_goes_31 (by decide) ?_
      refine v_istoren (lz := fun z => [(1, xI z), (0, xA a0)]) d_M_goes_32 rfl (Nat.le_of_ble_eq_true rfl) (fun _ => rfl) (fun v1_32 => ?_)
      refine v_iconst d_M_goes_33 (by decide) ?_
      refine v_istoren (lz := fun z => [(2, xI z), (1, xI v1_32), (0, xA a0)]) d_M_goes_34 rfl (Nat.le_of_ble_eq_true rfl) (fun _ => rfl) (fun v2_34 => ?_)
      refine v_sub (ls' := [(0, xA a0), (1, xI v1_32), (2, xI v2_34)]) [2, 1, 0] rfl ?_
      refine V_lp_M_goes_35 hfl _ _ (fun v1_88 M => ?_) _ _ _ _
      · refine v_iloadn d_M_goes_88 rfl 0 rfl ?_
        exact v_ret d_M_goes_89 rfl
    · refine v_iconst d_M_goes_21 (by decide) ?_
      exact v_ret d_M_goes_22 rfl
set_option maxHeartbeats 4000000 in
set_option maxRecDepth 100000 in
theorem V_lp_M_ahead_18 {l : Launch} {w : vm_W} (hfl : l.stackTraces = false) (kx46 : mm_T → Option (Int × mm_T)) (a0 : Nat) (hkx46 : ∀ (M : mm_T), V_ l w q_M_ahead 7 ex_I 46 [(0, xA a0)] [] M (kx46 M)) : ∀ (f : Nat) (v1 : Int) (M : mm_T), V_ l w q_M_ahead 7 ex_I 18 [(0, xA a0), (1, xI v1)] [] M (lp_M_ahead_18 kx46 a0 f v1 M) := by
  intro f
  induction f with
  | zero => intros; exact V_.none
  | succ f ih =>
    intro v1 M
    unfold lp_M_ahead_18
    refine v_iloadn d_M_ahead_18 rfl 1 rfl ?_
    refine v_aloadn d_M_ahead_19 rfl 0 rfl ?_
    refine v_gI d_M_ahead_20 fl_M_184 rfl (fun x20 => ?_)
    refine v_icge d_M_ahead_23 ?_ ?_
    · refine v_sub (ls' := [(0, xA a0)]) [0] rfl ?_
      exact hkx46 M
    · refine v_aloadn d_M_ahead_26 rfl 0 rfl ?_
      refine v_gR d_M_ahead_27 fl_M_86 rfl (fun r27 => ?_)
      refine v_iloadn d_M_ahead_30 rfl 1 rfl ?_
      refine v_iconst d_M_ahead_31 (by decide) ?_
      refine v_iadd d_M_ahead_32 (fun x32 => ?_)
      refine v_aloadn d_M_ahead_33 rfl 0 rfl ?_
      refine v_gR d_M_ahead_34 fl_M_83 rfl (fun r34 => ?_)
      refine v_iloadn d_M_ahead_37 rfl 1 rfl ?_
      refine v_iald d_M_ahead_38 (fun x38 => ?_)
      refine v_iast d_M_ahead_39 (fun M => ?_)
      refine v_iinc (lz := fun z => [(1, xI z), (0, xA a0)]) d_M_ahead_40 1 rfl (Nat.le_of_ble_eq_true rfl) (fun _ => rfl) (fun v1_40 => ?_)
      refine v_goto d_M_ahead_43 ?_
      refine v_sub (ls' := [(0, xA a0), (1, xI v1_40)]) [1, 0] rfl ?_
      exact ih v1_40 M
set_option maxHeartbeats 4000000 in
set_option maxRecDepth 100000 in
theorem V_lp_M_ahead_50 {l : Launch} {w : vm_W} (hfl : l.stackTraces = false) (kx106 : Int → mm_T → Option (Int × mm_T)) (a0 : Nat) (hkx106 : ∀ (v1_e : Int) (M : mm_T), V_ l w q_M_ahead 7 ex_I 106 [(1, xI v1_e)] [] M (kx106 v1_e M)) : ∀ (f : Nat) (v1 : Int) (v2 : Int) (M : mm_T), V_ l w q_M_ahead 7 ex_I 50 [(0, xA a0), (1, xI v1), (2, xI v2)] [] M (lp_M_ahead_50 kx106 a0 f v1 v2 M) := by
  intro f
  induction f with
  | zero => intros; exact V_.none
  | succ f ih =>
    intro v1 v2 M
    unfold lp_M_ahead_50
    refine v_iloadn d_M_ahead_50 rfl 2 rfl ?_
    refine v_aloadn d_M_ahead_51 rfl 0 rfl ?_
    refine v_gR d_M_ahead_52 fl_M_77 rfl (fun r52 => ?_)
    refine v_iconst d_M_ahead_55 (by decide) ?_
    refine v_iald d_M_ahead_56 (fun x56 => ?_)
    refine v_icge d_M_ahead_57 ?_ ?_
    · refine v_sub (ls' := [(1, xI v1)]) [1] rfl ?_
      exact hkx106 v1 M
    · refine v_aloadn d_M_ahead_60 rfl 0 rfl ?_
      refine v_gR d_M_ahead_61 fl_M_86 rfl (fun r61 => ?_)
      refine v_iconst d_M_ahead_64 (by decide) ?_
      refine v_iloadn d_M_ahead_65 rfl 2 rfl ?_
      refine v_iast d_M_ahead_66 (fun M => ?_)
      refine v_iloadn d_M_ahead_67 rfl 1 rfl ?_
      refine v_aloadn d_M_ahead_68 rfl 0 rfl ?_
      refine v_aloadn d_M_ahead_69 rfl 0 rfl ?_
      refine v_gR d_M_ahead_70 fl_M_86 rfl (fun r70 => ?_)
      refine v_aloadn d_M_ahead_73 rfl 0 rfl ?_
      refine v_gI d_M_ahead_74 fl_M_184 rfl (fun x74 => ?_)
      refine v_iconst d_M_ahead_77 (by decide) ?_
      refine v_iadd d_M_ahead_78 (fun x78 => ?_)
      refine v_cVi d_M_ahead_79 ml_M_232 (q := (RX11, TX11, 32)) rfl (c_M_freeOf l hfl a0 r70 x78 M) (fun _ => rfl) (by decide) (by decide) (as := [xA r70, xI x78]) (st1 := [xI v1]) rfl rfl (Nat.le_of_ble_eq_true rfl) (fun c79 M => ?_)
      refine v_aloadn d_M_ahead_82 rfl 0 rfl ?_
      refine v_gI d_M_ahead_83 fl_M_184 rfl (fun x83 => ?_)
      refine v_iconst d_M_ahead_86 (by decide) ?_
      refine v_iadd d_M_ahead_87 (fun x87 => ?_)
      refine v_join2 (pj := 98) (lj := fun s0_98 s1_98 => [(0, xA a0), (2, xI v2)]) (sj := fun s0_98 s1_98 => [xI s1_98, xI s0_98]) (fun s0_98 s1_98 M => ?_) (fun j98 hj98 => ?_)
      · refine v_ior d_M_ahead_98 ?_
        refine v_istoren (lz := fun z => [(1, xI z), (0, xA a0), (2, xI v2)]) d_M_ahead_99 rfl (Nat.le_of_ble_eq_true rfl) (fun _ => rfl) (fun v1_99 => ?_)
        refine v_iinc (lz := fun z => [(2, xI z), (1, xI v1_99), (0, xA a0)]) d_M_ahead_100 2 rfl (Nat.le_of_ble_eq_true rfl) (fun _ => rfl) (fun v2_100 => ?_)
        refine v_goto d_M_ahead_103 ?_
        refine v_sub (ls' := [(0, xA a0), (1, xI v1_99), (2, xI v2_100)]) [2, 1, 0] rfl ?_
        exact ih v1_99 v2_100 M
      refine v_icne d_M_ahead_88 ?_ ?_
      · refine v_iconst d_M_ahead_97 (by decide) ?_
        refine v_sub (ls' := [(0, xA a0), (2, xI v2)]) [0, 2] rfl ?_
        exact hj98 v1 0 M
      · refine v_iconst d_M_ahead_91 (by decide) ?_
        refine v_iloadn d_M_ahead_92 rfl 2 rfl ?_
        refine v_ishl d_M_ahead_93 ?_
        refine v_goto d_M_ahead_94 ?_
        refine v_sub (ls' := [(0, xA a0), (2, xI v2)]) [0, 2] rfl ?_
        exact hj98 v1 (shl_ 1 v2) M
set_option maxHeartbeats 4000000 in
set_option maxRecDepth 100000 in
theorem c_M_ahead (l : Launch) (hfl : l.stackTraces = false) (a0 : Nat) (M : mm_T) : vm_Con l yX11_ahead (.code yX11_ahead cX11_ahead 3 (some .int)) 7 ex_I [xA a0] M (k_M_ahead a0 M) := by
  refine vm_con (y := q_M_ahead) hfl (by decide +kernel) rfl (fun h => by cases h) (Nat.le_of_ble_eq_true rfl) rfl (fun _ _ _ => rfl) (fun r E h => by cases h) (fun w => ?_)
  show V_ l w q_M_ahead 7 ex_I 0 [(0, xA a0)] [] M (k_M_ahead a0 M)
  unfold k_M_ahead
  refine v_aloadn d_M_ahead_0 rfl 0 rfl ?_
  refine v_iconst d_M_ahead_1 (by decide) ?_
  refine v_pI d_M_ahead_2 fl_M_3 (Or.inl rfl) rfl rfl (fun M => ?_)
  refine v_aloadn d_M_ahead_5 rfl 0 rfl ?_
  refine v_gI d_M_ahead_6 fl_M_184 rfl (fun x6 => ?_)
  refine v_bipush d_M_ahead_9 (by decide) ?_
  refine v_icne d_M_ahead_11 ?_ ?_
  · refine v_iconst d_M_ahead_16 (by decide) ?_
    refine v_istoren (lz := fun z => [(1, xI z), (0, xA a0)]) d_M_ahead_17 rfl (Nat.le_of_ble_eq_true rfl) (fun _ => rfl) (fun v1_17 => ?_)
    refine v_sub (ls' := [(0, xA a0), (1, xI v1_17)]) [1, 0] rfl ?_
    refine V_lp_M_ahead_18 hfl _ _ (fun M => ?_) _ _ _
    · refine v_iconst d_M_ahead_46 (by decide) ?_
      refine v_istoren (lz := fun z => [(1, xI z), (0, xA a0)]) d_M_ahead_47 rfl (Nat.le_of_ble_eq_true rfl) (fun _ => rfl) (fun v1_47 => ?_)
      refine v_iconst d_M_ahead_48 (by decide) ?_
      refine v_istoren (lz := fun z => [(2, xI z), (1, xI v1_47), (0, xA a0)]) d_M_ahead_49 rfl (Nat.le_of_ble_eq_true rfl) (fun _ => rfl) (fun v2_49 => ?_)
      refine v_sub (ls' := [(0, xA a0), (1, xI v1_47), (2, xI v2_49)]) [2, 1, 0] rfl ?_
      refine V_lp_M_ahead_50 hfl _ _ (fun v1_106 M => ?_) _ _ _ _
      · refine v_iloadn d_M_ahead_106 rfl 0 rfl ?_
        exact v_ret d_M_ahead_107 rfl
  · refine v_iconst d_M_ahead_14 (by decide) ?_
    exact v_ret d_M_ahead_15 rfl
set_option maxHeartbeats 4000000 in
set_option maxRecDepth 100000 in
theorem V_lp_M_periodOf_10 {l : Launch} {w : vm_W} (hfl : l.stackTraces = false) (kx45 : Int → mm_T → Option (Int × mm_T)) (a0 : Nat) (v1 : Int) (v2 : Int) (v3 : Int) (hkx45 : ∀ (v4_e : Int) (M : mm_T), V_ l w q_M_periodOf 1 ex_I 45 [(0, xA a0), (1, xI v1), (2, xI v2), (3, xI v3), (4, xI v4_e)] [] M (kx45 v4_e M)) : ∀ (f : Nat) (v4 : Int) (M : mm_T), V_ l w q_M_periodOf 1 ex_I 10 [(0, xA a0), (1, xI v1), (2, xI v2), (3, xI v3), (4, xI v4)] [] M (lp_M_periodOf_10 kx45 a0 v1 v2 v3 f v4 M) := by
  intro f
  induction f with
  | zero => intros; exact V_.none
  | succ f ih =>
    intro v4 M
    unfold lp_M_periodOf_10
    refine v_iload d_M_periodOf_10 4 rfl ?_
    refine v_iloadn d_M_periodOf_12 rfl 2 rfl ?_
    refine v_icge d_M_periodOf_13 ?_ ?_
    · exact hkx45 v4 M
    · refine v_aloadn d_M_periodOf_16 rfl 0 rfl ?_
      refine v_gR d_M_periodOf_17 fl_M_83 rfl (fun r17 => ?_)
      refine v_iloadn d_M_periodOf_20 rfl 1 rfl ?_
      refine v_iload d_M_periodOf_21 4 rfl ?_
      refine v_iadd d_M_periodOf_23 (fun x23 => ?_)
      refine v_iald d_M_periodOf_24 (fun x24 => ?_)
      refine v_aloadn d_M_periodOf_25 rfl 0 rfl ?_
      refine v_gR d_M_periodOf_26 fl_M_83 rfl (fun r26 => ?_)
      refine v_iloadn d_M_periodOf_29 rfl 1 rfl ?_
      refine v_iload d_M_periodOf_30 4 rfl ?_
      refine v_iadd d_M_periodOf_32 (fun x32 => ?_)
      refine v_iloadn d_M_periodOf_33 rfl 3 rfl ?_
      refine v_isub d_M_periodOf_34 (fun x34 => ?_)
      refine v_iald d_M_periodOf_35 (fun x35 => ?_)
      refine v_icne d_M_periodOf_36 ?_ ?_
      · exact hkx45 v4 M
      · refine v_iinc (lz := fun z => [(4, xI z), (0, xA a0), (1, xI v1), (2, xI v2), (3, xI v3)]) d_M_periodOf_39 4 rfl (Nat.le_of_ble_eq_true rfl) (fun _ => rfl) (fun v4_39 => ?_)
        refine v_goto d_M_periodOf_42 ?_
        refine v_sub (ls' := [(0, xA a0), (1, xI v1), (2, xI v2), (3, xI v3), (4, xI v4_39)]) [1, 2, 3, 4, 0] rfl ?_
        exact ih v4_39 M
set_option maxHeartbeats 4000000 in
set_option maxRecDepth 100000 in
theorem V_lp_M_periodOf_2 {l : Launch} {w : vm_W} (hfl : l.stackTraces = false) (kx59 : mm_T → Option (Int × mm_T)) (a0 : Nat) (v1 : Int) (v2 : Int) (hkx59 : ∀ (M : mm_T), V_ l w q_M_periodOf 1 ex_I 59 [(2, xI v2)] [] M (kx59 M)) : ∀ (f : Nat) (v3 : Int) (M : mm_T), V_ l w q_M_periodOf 1 ex_I 2 [(0, xA a0), (1, xI v1), (2, xI v2), (3, xI v3)] [] M (lp_M_periodOf_2 kx59 a0 v1 v2 f v3 M) := by
  intro f
  induction f with
  | zero => intros; exact V_.none
  | succ f ih =>
    intro v3 M
    unfold lp_M_periodOf_2
    refine v_iloadn d_M_periodOf_2 rfl 3 rfl ?_
    refine v_iloadn d_M_periodOf_3 rfl 2 rfl ?_
    refine v_icge d_M_periodOf_4 ?_ ?_
    · refine v_sub (ls' := [(2, xI v2)]) [2] rfl ?_
      exact hkx59 M
    · refine v_iloadn d_M_periodOf_7 rfl 3 rfl ?_
      refine v_istore (lz := fun z => [(4, xI z), (0, xA a0), (1, xI v1), (2, xI v2), (3, xI v3)]) d_M_periodOf_8 (Nat.le_of_ble_eq_true rfl) (fun _ => rfl) (fun v4_8 => ?_)
      refine v_sub (ls' := [(0, xA a0), (1, xI v1), (2, xI v2), (3, xI v3), (4, xI v4_8)]) [1, 2, 3, 4, 0] rfl ?_
      refine V_lp_M_periodOf_10 hfl _ _ _ _ _ (fun v4_45 M => ?_) _ _ _
      · refine v_iload d_M_periodOf_45 4 rfl ?_
        refine v_iloadn d_M_periodOf_47 rfl 2 rfl ?_
        refine v_icne d_M_periodOf_48 ?_ ?_
        · refine v_iinc (lz := fun z => [(3, xI z), (0, xA a0), (1, xI v1), (2, xI v2), (4, xI v4_45)]) d_M_periodOf_53 3 rfl (Nat.le_of_ble_eq_true rfl) (fun _ => rfl) (fun v3_53 => ?_)
          refine v_goto d_M_periodOf_56 ?_
          refine v_sub (ls' := [(0, xA a0), (1, xI v1), (2, xI v2), (3, xI v3_53)]) [1, 2, 3, 0] rfl ?_
          exact ih v3_53 M
        · refine v_iloadn d_M_periodOf_51 rfl 3 rfl ?_
          exact v_ret d_M_periodOf_52 rfl
set_option maxHeartbeats 4000000 in
set_option maxRecDepth 100000 in
theorem c_M_periodOf (l : Launch) (hfl : l.stackTraces = false) (a0 : Nat) (v1 : Int) (v2 : Int) (M : mm_T) : vm_Con l yX11_periodOf (.code yX11_periodOf cX11_periodOf 5 (some .int)) 1 ex_I [xA a0, xI v1, xI v2] M (k_M_periodOf a0 v1 v2 M) := by
  refine vm_con (y := q_M_periodOf) hfl (by decide +kernel) rfl (fun h => by cases h) (Nat.le_of_ble_eq_true rfl) rfl (fun _ _ _ => rfl) (fun r E h => by cases h) (fun w => ?_)
  show V_ l w q_M_periodOf 1 ex_I 0 [(0, xA a0), (1, xI v1), (2, xI v2)] [] M (k_M_periodOf a0 v1 v2 M)
  unfold k_M_periodOf
  refine v_iconst d_M_periodOf_0 (by decide) ?_
  refine v_istoren (lz := fun z => [(3, xI z), (0, xA a0), (1, xI v1), (2, xI v2)]) d_M_periodOf_1 rfl (Nat.le_of_ble_eq_true rfl) (fun _ => rfl) (fun v3_1 => ?_)
  refine v_sub (ls' := [(0, xA a0), (1, xI v1), (2, xI v2), (3, xI v3_1)]) [1, 2, 3, 0] rfl ?_
  refine V_lp_M_periodOf_2 hfl _ _ _ _ (fun M => ?_) _ _ _
  · refine v_iloadn d_M_periodOf_59 rfl 0 rfl ?_
    exact v_ret d_M_periodOf_60 rfl
set_option maxHeartbeats 4000000 in
set_option maxRecDepth 100000 in
theorem V_lp_M_greatest_69 {l : Launch} {w : vm_W} (hfl : l.stackTraces = false) (kx144 : Int → Int → Int → mm_T → Option (Int × mm_T)) (a0 : Nat) (v5 : Int) {v1 : Int} (hkx144 : ∀ (v2_e : Int) (v3_e : Int) (v4_e : Int) (M : mm_T), V_ l w q_M_greatest 2 ex_I 144 [(0, xA a0), (1, xI v1), (2, xI v2_e), (3, xI v3_e), (4, xI v4_e), (5, xI v5)] [] M (kx144 v2_e v3_e v4_e M)) : ∀ (f : Nat) (v2 : Int) (v3 : Int) (v4 : Int) (v6 : Int) (M : mm_T), V_ l w q_M_greatest 2 ex_I 69 [(0, xA a0), (1, xI v1), (2, xI v2), (3, xI v3), (4, xI v4), (5, xI v5), (6, xI v6)] [] M (lp_M_greatest_69 kx144 a0 v5 f v2 v3 v4 v6 M) := by
  intro f
  induction f with
  | zero => intros; exact V_.none
  | succ f ih =>
    intro v2 v3 v4 v6 M
    unfold lp_M_greatest_69
    refine v_iload d_M_greatest_69 6 rfl ?_
    refine v_aloadn d_M_greatest_71 rfl 0 rfl ?_
    refine v_gI d_M_greatest_72 fl_M_184 rfl (fun x72 => ?_)
    refine v_iload d_M_greatest_75 5 rfl ?_
    refine v_isub d_M_greatest_77 (fun x77 => ?_)
    refine v_icgt d_M_greatest_78 ?_ ?_
    · refine v_sub (ls' := [(0, xA a0), (1, xI v1), (2, xI v2), (3, xI v3), (4, xI v4), (5, xI v5)]) [0, 1, 2, 3, 4, 5] rfl ?_
      exact hkx144 v2 v3 v4 M
    · refine v_aloadn d_M_greatest_81 rfl 0 rfl ?_
      refine v_iload d_M_greatest_82 5 rfl ?_
      refine v_iload d_M_greatest_84 6 rfl ?_
      refine v_cVi d_M_greatest_86 ml_M_245 (q := (RX11, TX11, 32)) rfl (c_M_periodOf l hfl a0 v5 v6 M) (fun _ => rfl) (by decide) (by decide) (as := [xI v5, xI v6]) (st1 := []) rfl rfl (Nat.le_of_ble_eq_true rfl) (fun c86 M => ?_)
      refine v_istore (lz := fun z => [(7, xI z), (0, xA a0), (1, xI v1), (2, xI v2), (3, xI v3), (4, xI v4), (5, xI v5), (6, xI v6)]) d_M_greatest_89 (Nat.le_of_ble_eq_true rfl) (fun _ => rfl) (fun v7_89 => ?_)
      refine v_iload d_M_greatest_91 7 rfl ?_
      refine v_iloadn d_M_greatest_93 rfl 4 rfl ?_
      refine v_imul d_M_greatest_94 (fun x94 => ?_)
      refine v_iloadn d_M_greatest_95 rfl 3 rfl ?_
      refine v_iload d_M_greatest_96 0 rfl ?_
      refine v_imul d_M_greatest_98 (fun x98 => ?_)
      refine v_isub d_M_greatest_99 (fun x99 => ?_)
      refine v_istore (lz := fun z => [(8, xI z), (7, xI v7_89), (0, xA a0), (1, xI v1), (2, xI v2), (3, xI v3), (4, xI v4), (5, xI v5), (6, xI v6)]) d_M_greatest_100 (Nat.le_of_ble_eq_true rfl) (fun _ => rfl) (fun v8_100 => ?_)
      refine v_iload d_M_greatest_102 0 rfl ?_
      refine v_join3 (pj := 138) (lj := fun v2_138 v3_138 v4_138 => [(0, xA a0), (1, xI v1), (2, xI v2_138), (3, xI v3_138), (4, xI v4_138), (5, xI v5), (6, xI v6)]) (sj := fun v2_138 v3_138 v4_138 => []) (fun v2_138 v3_138 v4_138 M => ?_) (fun j138 hj138 => ?_)
      · refine v_iinc (lz := fun z => [(6, xI z), (0, xA a0), (1, xI v1), (2, xI v2_138), (3, xI v3_138), (4, xI v4_138), (5, xI v5)]) d_M_greatest_138 6 rfl (Nat.le_of_ble_eq_true rfl) (fun _ => rfl) (fun v6_138 => ?_)
        refine v_goto d_M_greatest_141 ?_
        refine v_sub (ls' := [(0, xA a0), (1, xI v1), (2, xI v2_138), (3, xI v3_138), (4, xI v4_138), (5, xI v5), (6, xI v6_138)]) [1, 2, 3, 4, 5, 6, 0] rfl ?_
        exact ih v2_138 v3_138 v4_138 v6_138 M
      refine v_iflt d_M_greatest_104 ?_ ?_
      · refine v_sub (ls' := [(0, xA a0), (1, xI v1), (2, xI v2), (3, xI v3), (4, xI v4), (5, xI v5), (6, xI v6)]) [2, 3, 4, 5, 6, 7, 8] rfl ?_
        exact hj138 v2 v3 v4 M
      · refine v_iload d_M_greatest_107 0 rfl ?_
        refine v_join0 (pj := 128) (lj := [(0, xA a0), (1, xI v1), (5, xI v5), (6, xI v6), (7, xI v7_89)]) (sj := []) (fun M => ?_) (fun j128 hj128 => ?_)
        · refine v_iload d_M_greatest_128 3 rfl ?_
          refine v_istoren (lz := fun z => [(2, xI z), (0, xA a0), (1, xI v1), (5, xI v5), (6, xI v6), (7, xI v7_89)]) d_M_greatest_130 rfl (Nat.le_of_ble_eq_true rfl) (fun _ => rfl) (fun v2_130 => ?_)
          refine v_iload d_M_greatest_131 5 rfl ?_
          refine v_istoren (lz := fun z => [(3, xI z), (2, xI v2_130), (0, xA a0), (1, xI v1), (5, xI v5), (6, xI v6), (7, xI v7_89)]) d_M_greatest_133 rfl (Nat.le_of_ble_eq_true rfl) (fun _ => rfl) (fun v3_133 => ?_)
          refine v_iload d_M_greatest_134 4 rfl ?_
          refine v_istore (lz := fun z => [(4, xI z), (3, xI v3_133), (2, xI v2_130), (0, xA a0), (1, xI v1), (5, xI v5), (6, xI v6), (7, xI v7_89)]) d_M_greatest_136 (Nat.le_of_ble_eq_true rfl) (fun _ => rfl) (fun v4_136 => ?_)
          refine v_sub (ls' := [(0, xA a0), (1, xI v1), (2, xI v2_130), (3, xI v3_133), (4, xI v4_136), (5, xI v5), (6, xI v6)]) [3, 4, 2, 1, 0, 5, 6] rfl ?_
          exact hj138 v2_130 v3_133 v4_136 M
        refine v_ifne d_M_greatest_109 ?_ ?_
        · refine v_sub (ls' := [(0, xA a0), (1, xI v1), (5, xI v5), (6, xI v6), (7, xI v7_89)]) [2, 3, 7, 8, 1] rfl ?_
          exact hj128 M
        · refine v_iload d_M_greatest_112 7 rfl ?_
          refine v_iload d_M_greatest_114 6 rfl ?_
          refine v_icne d_M_greatest_116 ?_ ?_
          · refine v_sub (ls' := [(0, xA a0), (1, xI v1), (2, xI v2), (3, xI v3), (4, xI v4), (5, xI v5), (6, xI v6)]) [2, 3, 4, 5, 6, 7, 8] rfl ?_
            exact hj138 v2 v3 v4 M
          · refine v_iload d_M_greatest_119 8 rfl ?_
            refine v_iloadn d_M_greatest_121 rfl 4 rfl ?_
            refine v_icgt d_M_greatest_122 ?_ ?_
            · refine v_sub (ls' := [(0, xA a0), (1, xI v1), (5, xI v5), (6, xI v6), (7, xI v7_89)]) [2, 3, 7, 8, 1] rfl ?_
              exact hj128 M
            · refine v_goto d_M_greatest_125 ?_
              refine v_sub (ls' := [(0, xA a0), (1, xI v1), (2, xI v2), (3, xI v3), (4, xI v4), (5, xI v5), (6, xI v6)]) [2, 3, 4, 5, 6, 7, 8] rfl ?_
              exact hj138 v2 v3 v4 M
set_option maxHeartbeats 4000000 in
set_option maxRecDepth 100000 in
theorem V_lp_M_greatest_57 {l : Launch} {w : vm_W} (hfl : l.stackTraces = false) (kx150 : Int → Int → Int → mm_T → Option (Int × mm_T)) (a0 : Nat) {v1 : Int} (hkx150 : ∀ (v2_e : Int) (v3_e : Int) (v4_e : Int) (M : mm_T), V_ l w q_M_greatest 2 ex_I 150 [(1, xI v1), (2, xI v2_e), (3, xI v3_e), (4, xI v4_e)] [] M (kx150 v2_e v3_e v4_e M)) : ∀ (f : Nat) (v2 : Int) (v3 : Int) (v4 : Int) (v5 : Int) (M : mm_T), V_ l w q_M_greatest 2 ex_I 57 [(0, xA a0), (1, xI v1), (2, xI v2), (3, xI v3), (4, xI v4), (5, xI v5)] [] M (lp_M_greatest_57 kx150 a0 f v2 v3 v4 v5 M) := by
  intro f
  induction f with
  | zero => intros; exact V_.none
  | succ f ih =>
    intro v2 v3 v4 v5 M
    unfold lp_M_greatest_57
    refine v_iload d_M_greatest_57 5 rfl ?_
    refine v_aloadn d_M_greatest_59 rfl 0 rfl ?_
    refine v_gI d_M_greatest_60 fl_M_184 rfl (fun x60 => ?_)
    refine v_icge d_M_greatest_63 ?_ ?_
    · refine v_sub (ls' := [(1, xI v1), (2, xI v2), (3, xI v3), (4, xI v4)]) [1, 2, 3, 4] rfl ?_
      exact hkx150 v2 v3 v4 M
    · refine v_iconst d_M_greatest_66 (by decide) ?_
      refine v_istore (lz := fun z => [(6, xI z), (0, xA a0), (1, xI v1), (2, xI v2), (3, xI v3), (4, xI v4), (5, xI v5)]) d_M_greatest_67 (Nat.le_of_ble_eq_true rfl) (fun _ => rfl) (fun v6_67 => ?_)
      refine v_sub (ls' := [(0, xA a0), (1, xI v1), (2, xI v2), (3, xI v3), (4, xI v4), (5, xI v5), (6, xI v6_67)]) [1, 2, 3, 4, 5, 6, 0] rfl ?_
      refine V_lp_M_greatest_69 hfl _ _ _ (fun v2_144 v3_144 v4_144 M => ?_) _ _ _ _ _ _
      · refine v_iinc (lz := fun z => [(5, xI z), (0, xA a0), (1, xI v1), (2, xI v2_144), (3, xI v3_144), (4, xI v4_144)]) d_M_greatest_144 5 rfl (Nat.le_of_ble_eq_true rfl) (fun _ => rfl) (fun v5_144 => ?_)
        refine v_goto d_M_greatest_147 ?_
        refine v_sub (ls' := [(0, xA a0), (1, xI v1), (2, xI v2_144), (3, xI v3_144), (4, xI v4_144), (5, xI v5_144)]) [1, 2, 3, 4, 5, 0] rfl ?_
        exact ih v2_144 v3_144 v4_144 v5_144 M
set_option maxHeartbeats 4000000 in
set_option maxRecDepth 100000 in
theorem c_M_greatest (l : Launch) (hfl : l.stackTraces = false) (a0 : Nat) (v1 : Int) (M : mm_T) : vm_Con l yX11_greatest (.code yX11_greatest cX11_greatest 9 (some .int)) 2 ex_I [xA a0, xI v1] M (k_M_greatest a0 v1 M) := by
  refine vm_con (y := q_M_greatest) hfl (by decide +kernel) rfl (fun h => by cases h) (Nat.le_of_ble_eq_true rfl) rfl (fun _ _ _ => rfl) (fun r E h => by cases h) (fun w => ?_)
  show V_ l w q_M_greatest 2 ex_I 0 [(0, xA a0), (1, xI v1)] [] M (k_M_greatest a0 v1 M)
  unfold k_M_greatest
  refine v_aloadn d_M_greatest_0 rfl 0 rfl ?_
  refine v_iconst d_M_greatest_1 (by decide) ?_
  refine v_pI d_M_greatest_2 fl_M_3 (Or.inl rfl) rfl rfl (fun M => ?_)
  refine v_aloadn d_M_greatest_5 rfl 0 rfl ?_
  refine v_iloadn d_M_greatest_6 rfl 1 rfl ?_
  refine v_iconst d_M_greatest_7 (by decide) ?_
  refine v_iconst d_M_greatest_8 (by decide) ?_
  refine v_cSi d_M_greatest_9 ml_M_65 (c_M_in l hfl v1 0 2 M) (fun _ => rfl) (by decide) (by decide) (as := [xI v1, xI 0, xI 2]) (st1 := [xA a0]) rfl rfl (Nat.le_of_ble_eq_true rfl) (fun c9 M => ?_)
  refine v_join2 (pj := 20) (lj := fun sa0_20 s1_20 => [(0, xA a0), (1, xI v1)]) (sj := fun sa0_20 s1_20 => [xI s1_20, xA sa0_20]) (fun sa0_20 s1_20 M => ?_) (fun j20 hj20 => ?_)
  · refine v_iconst d_M_greatest_20 (by decide) ?_
    refine v_cVi d_M_greatest_21 ml_M_180 (q := (RX11, TX11, 32)) rfl (c_M_throwsIf l hfl sa0_20 s1_20 1 M) (fun _ => rfl) (by decide) (by decide) (as := [xI s1_20, xI 1]) (st1 := []) rfl rfl (Nat.le_of_ble_eq_true rfl) (fun c21 M => ?_)
    refine v_join0 (pj := 34) (lj := [(0, xA a0)]) (sj := []) (fun M => ?_) (fun j34 hj34 => ?_)
    · refine v_aloadn d_M_greatest_34 rfl 0 rfl ?_
      refine v_gI d_M_greatest_35 fl_M_3 rfl (fun x35 => ?_)
      refine v_ifle d_M_greatest_38 ?_ ?_
      · refine v_iconst d_M_greatest_45 (by decide) ?_
        exact v_ret d_M_greatest_46 rfl
      · refine v_iconst d_M_greatest_41 (by decide) ?_
        refine v_goto d_M_greatest_42 ?_
        exact v_ret d_M_greatest_46 rfl
    refine v_ifne d_M_greatest_24 ?_ ?_
    · refine v_sub (ls' := [(0, xA a0)]) [0] rfl ?_
      exact hj34 M
    · refine v_aloadn d_M_greatest_27 rfl 0 rfl ?_
      refine v_gI d_M_greatest_28 fl_M_184 rfl (fun x28 => ?_)
      refine v_ifne d_M_greatest_31 ?_ ?_
      · refine v_iconst d_M_greatest_47 (by decide) ?_
        refine v_istoren (lz := fun z => [(2, xI z), (0, xA a0), (1, xI v1)]) d_M_greatest_48 rfl (Nat.le_of_ble_eq_true rfl) (fun _ => rfl) (fun v2_48 => ?_)
        refine v_iconst d_M_greatest_49 (by decide) ?_
        refine v_istoren (lz := fun z => [(3, xI z), (2, xI v2_48), (0, xA a0), (1, xI v1)]) d_M_greatest_50 rfl (Nat.le_of_ble_eq_true rfl) (fun _ => rfl) (fun v3_50 => ?_)
        refine v_iconst d_M_greatest_51 (by decide) ?_
        refine v_istore (lz := fun z => [(4, xI z), (3, xI v3_50), (2, xI v2_48), (0, xA a0), (1, xI v1)]) d_M_greatest_52 (Nat.le_of_ble_eq_true rfl) (fun _ => rfl) (fun v4_52 => ?_)
        refine v_iconst d_M_greatest_54 (by decide) ?_
        refine v_istore (lz := fun z => [(5, xI z), (4, xI v4_52), (3, xI v3_50), (2, xI v2_48), (0, xA a0), (1, xI v1)]) d_M_greatest_55 (Nat.le_of_ble_eq_true rfl) (fun _ => rfl) (fun v5_55 => ?_)
        refine v_sub (ls' := [(0, xA a0), (1, xI v1), (2, xI v2_48), (3, xI v3_50), (4, xI v4_52), (5, xI v5_55)]) [4, 5, 3, 2, 1, 0] rfl ?_
        refine V_lp_M_greatest_57 hfl _ _ (fun v2_150 v3_150 v4_150 M => ?_) _ _ _ _ _ _
        · refine v_iloadn d_M_greatest_150 rfl 0 rfl ?_
          refine v_ifne d_M_greatest_151 ?_ ?_
          · refine v_iloadn d_M_greatest_158 rfl 0 rfl ?_
            refine v_iconst d_M_greatest_159 (by decide) ?_
            refine v_icne d_M_greatest_160 ?_ ?_
            · refine v_iload d_M_greatest_167 3 rfl ?_
              exact v_ret d_M_greatest_169 rfl
            · refine v_iloadn d_M_greatest_163 rfl 2 rfl ?_
              refine v_goto d_M_greatest_164 ?_
              exact v_ret d_M_greatest_169 rfl
          · refine v_iloadn d_M_greatest_154 rfl 1 rfl ?_
            refine v_goto d_M_greatest_155 ?_
            exact v_ret d_M_greatest_169 rfl
      · refine v_sub (ls' := [(0, xA a0)]) [0] rfl ?_
        exact hj34 M
  refine v_ifne d_M_greatest_12 ?_ ?_
  · refine v_iconst d_M_greatest_19 (by decide) ?_
    exact hj20 a0 0 M
  · refine v_iconst d_M_greatest_15 (by decide) ?_
    refine v_goto d_M_greatest_16 ?_
    exact hj20 a0 1 M
set_option maxHeartbeats 4000000 in
set_option maxRecDepth 100000 in
theorem c_M_period (l : Launch) (hfl : l.stackTraces = false) (a0 : Nat) (M : mm_T) : vm_Con l yX11_period (.code yX11_period cX11_period 1 (some .int)) 2 ex_I [xA a0] M (k_M_period a0 M) := by
  refine vm_con (y := q_M_period) hfl (by decide +kernel) rfl (fun h => by cases h) (Nat.le_of_ble_eq_true rfl) rfl (fun _ _ _ => rfl) (fun r E h => by cases h) (fun w => ?_)
  show V_ l w q_M_period 2 ex_I 0 [(0, xA a0)] [] M (k_M_period a0 M)
  unfold k_M_period
  refine v_aloadn d_M_period_0 rfl 0 rfl ?_
  refine v_iconst d_M_period_1 (by decide) ?_
  refine v_pI d_M_period_2 fl_M_3 (Or.inl rfl) rfl rfl (fun M => ?_)
  refine v_aloadn d_M_period_5 rfl 0 rfl ?_
  refine v_gI d_M_period_6 fl_M_184 rfl (fun x6 => ?_)
  refine v_ifne d_M_period_9 ?_ ?_
  · refine v_aloadn d_M_period_16 rfl 0 rfl ?_
    refine v_iconst d_M_period_17 (by decide) ?_
    refine v_aloadn d_M_period_18 rfl 0 rfl ?_
    refine v_gI d_M_period_19 fl_M_184 rfl (fun x19 => ?_)
    refine v_cVi d_M_period_22 ml_M_245 (q := (RX11, TX11, 32)) rfl (c_M_periodOf l hfl a0 0 x19 M) (fun _ => rfl) (by decide) (by decide) (as := [xI 0, xI x19]) (st1 := []) rfl rfl (Nat.le_of_ble_eq_true rfl) (fun c22 M => ?_)
    exact v_ret d_M_period_25 rfl
  · refine v_iconst d_M_period_12 (by decide) ?_
    refine v_goto d_M_period_13 ?_
    exact v_ret d_M_period_25 rfl
set_option maxHeartbeats 4000000 in
set_option maxRecDepth 100000 in
theorem V_lp_M_border_28 {l : Launch} {w : vm_W} (hfl : l.stackTraces = false) (kx76 : Int → mm_T → Option (Int × mm_T)) (a0 : Nat) (v3 : Int) {v1 : Int} {v2 : Int} (hkx76 : ∀ (v4_e : Int) (M : mm_T), V_ l w q_M_border 1 ex_I 76 [(0, xA a0), (1, xI v1), (2, xI v2), (3, xI v3), (4, xI v4_e)] [] M (kx76 v4_e M)) : ∀ (f : Nat) (v4 : Int) (v5 : Int) (M : mm_T), V_ l w q_M_border 1 ex_I 28 [(0, xA a0), (1, xI v1), (2, xI v2), (3, xI v3), (4, xI v4), (5, xI v5)] [] M (lp_M_border_28 kx76 a0 v3 f v4 v5 M) := by
  intro f
  induction f with
  | zero => intros; exact V_.none
  | succ f ih =>
    intro v4 v5 M
    unfold lp_M_border_28
    refine v_iload d_M_border_28 5 rfl ?_
    refine v_iloadn d_M_border_30 rfl 3 rfl ?_
    refine v_icge d_M_border_31 ?_ ?_
    · refine v_sub (ls' := [(0, xA a0), (1, xI v1), (2, xI v2), (3, xI v3), (4, xI v4)]) [0, 1, 2, 3, 4] rfl ?_
      exact hkx76 v4 M
    · refine v_iload d_M_border_34 4 rfl ?_
      refine v_ifeq d_M_border_36 ?_ ?_
      · refine v_sub (ls' := [(0, xA a0), (1, xI v1), (2, xI v2), (3, xI v3), (4, xI v4)]) [0, 1, 2, 3, 4] rfl ?_
        exact hkx76 v4 M
      · refine v_aloadn d_M_border_39 rfl 0 rfl ?_
        refine v_gR d_M_border_40 fl_M_83 rfl (fun r40 => ?_)
        refine v_iload d_M_border_43 5 rfl ?_
        refine v_iald d_M_border_45 (fun x45 => ?_)
        refine v_aloadn d_M_border_46 rfl 0 rfl ?_
        refine v_gR d_M_border_47 fl_M_83 rfl (fun r47 => ?_)
        refine v_aloadn d_M_border_50 rfl 0 rfl ?_
        refine v_gI d_M_border_51 fl_M_184 rfl (fun x51 => ?_)
        refine v_iloadn d_M_border_54 rfl 3 rfl ?_
        refine v_isub d_M_border_55 (fun x55 => ?_)
        refine v_iload d_M_border_56 5 rfl ?_
        refine v_iadd d_M_border_58 (fun x58 => ?_)
        refine v_iald d_M_border_59 (fun x59 => ?_)
        refine v_join1 (pj := 68) (lj := fun s0_68 => [(0, xA a0), (1, xI v1), (2, xI v2), (3, xI v3), (5, xI v5)]) (sj := fun s0_68 => [xI s0_68]) (fun s0_68 M => ?_) (fun j68 hj68 => ?_)
        · refine v_istore (lz := fun z => [(4, xI z), (0, xA a0), (1, xI v1), (2, xI v2), (3, xI v3), (5, xI v5)]) d_M_border_68 (Nat.le_of_ble_eq_true rfl) (fun _ => rfl) (fun v4_68 => ?_)
          refine v_iinc (lz := fun z => [(5, xI z), (4, xI v4_68), (0, xA a0), (1, xI v1), (2, xI v2), (3, xI v3)]) d_M_border_70 5 rfl (Nat.le_of_ble_eq_true rfl) (fun _ => rfl) (fun v5_70 => ?_)
          refine v_goto d_M_border_73 ?_
          refine v_sub (ls' := [(0, xA a0), (1, xI v1), (2, xI v2), (3, xI v3), (4, xI v4_68), (5, xI v5_70)]) [2, 3, 4, 5, 1, 0] rfl ?_
          exact ih v4_68 v5_70 M
        refine v_icne d_M_border_60 ?_ ?_
        · refine v_iconst d_M_border_67 (by decide) ?_
          refine v_sub (ls' := [(0, xA a0), (1, xI v1), (2, xI v2), (3, xI v3), (5, xI v5)]) [0, 1, 2, 3, 5] rfl ?_
          exact hj68 0 M
        · refine v_iconst d_M_border_63 (by decide) ?_
          refine v_goto d_M_border_64 ?_
          refine v_sub (ls' := [(0, xA a0), (1, xI v1), (2, xI v2), (3, xI v3), (5, xI v5)]) [0, 1, 2, 3, 5] rfl ?_
          exact hj68 1 M
set_option maxHeartbeats 4000000 in
set_option maxRecDepth 100000 in
theorem V_lp_M_border_14 {l : Launch} {w : vm_W} (hfl : l.stackTraces = false) (kx99 : mm_T → Option (Int × mm_T)) (a0 : Nat) (v1 : Int) (hkx99 : ∀ (M : mm_T), V_ l w q_M_border 1 ex_I 99 [] [] M (kx99 M)) : ∀ (f : Nat) (v2 : Int) (v3 : Int) (M : mm_T), V_ l w q_M_border 1 ex_I 14 [(0, xA a0), (1, xI v1), (2, xI v2), (3, xI v3)] [] M (lp_M_border_14 kx99 a0 v1 f v2 v3 M) := by
  intro f
  induction f with
  | zero => intros; exact V_.none
  | succ f ih =>
    intro v2 v3 M
    unfold lp_M_border_14
    refine v_iloadn d_M_border_14 rfl 3 rfl ?_
    refine v_ifle d_M_border_15 ?_ ?_
    · refine v_sub (ls' := []) [] rfl ?_
      exact hkx99 M
    · refine v_iloadn d_M_border_18 rfl 1 rfl ?_
      refine v_iflt d_M_border_19 ?_ ?_
      · refine v_sub (ls' := []) [] rfl ?_
        exact hkx99 M
      · refine v_iconst d_M_border_22 (by decide) ?_
        refine v_istore (lz := fun z => [(4, xI z), (0, xA a0), (1, xI v1), (2, xI v2), (3, xI v3)]) d_M_border_23 (Nat.le_of_ble_eq_true rfl) (fun _ => rfl) (fun v4_23 => ?_)
        refine v_iconst d_M_border_25 (by decide) ?_
        refine v_istore (lz := fun z => [(5, xI z), (4, xI v4_23), (0, xA a0), (1, xI v1), (2, xI v2), (3, xI v3)]) d_M_border_26 (Nat.le_of_ble_eq_true rfl) (fun _ => rfl) (fun v5_26 => ?_)
        refine v_sub (ls' := [(0, xA a0), (1, xI v1), (2, xI v2), (3, xI v3), (4, xI v4_23), (5, xI v5_26)]) [2, 3, 4, 5, 1, 0] rfl ?_
        refine V_lp_M_border_28 hfl _ _ _ (fun v4_76 M => ?_) _ _ _ _
        · refine v_iload d_M_border_76 4 rfl ?_
          refine v_join1 (pj := 93) (lj := fun v2_93 => [(0, xA a0), (1, xI v1), (2, xI v2_93), (3, xI v3)]) (sj := fun v2_93 => []) (fun v2_93 M => ?_) (fun j93 hj93 => ?_)
          · refine v_iinc (lz := fun z => [(3, xI z), (0, xA a0), (1, xI v1), (2, xI v2_93)]) d_M_border_93 3 rfl (Nat.le_of_ble_eq_true rfl) (fun _ => rfl) (fun v3_93 => ?_)
            refine v_goto d_M_border_96 ?_
            refine v_sub (ls' := [(0, xA a0), (1, xI v1), (2, xI v2_93), (3, xI v3_93)]) [1, 2, 3, 0] rfl ?_
            exact ih v2_93 v3_93 M
          refine v_ifne d_M_border_78 ?_ ?_
          · refine v_iloadn d_M_border_84 rfl 2 rfl ?_
            refine v_ifne d_M_border_85 ?_ ?_
            · refine v_iinc (lz := fun z => [(2, xI z), (0, xA a0), (1, xI v1), (3, xI v3), (4, xI v4_76)]) d_M_border_90 2 rfl (Nat.le_of_ble_eq_true rfl) (fun _ => rfl) (fun v2_90 => ?_)
              refine v_sub (ls' := [(0, xA a0), (1, xI v1), (2, xI v2_90), (3, xI v3)]) [1, 2, 0, 3] rfl ?_
              exact hj93 v2_90 M
            · refine v_iloadn d_M_border_88 rfl 3 rfl ?_
              exact v_ret d_M_border_89 rfl
          · refine v_goto d_M_border_81 ?_
            refine v_sub (ls' := [(0, xA a0), (1, xI v1), (2, xI v2), (3, xI v3)]) [0, 1, 2, 3] rfl ?_
            exact hj93 v2 M
set_option maxHeartbeats 4000000 in
set_option maxRecDepth 100000 in
theorem c_M_border (l : Launch) (hfl : l.stackTraces = false) (a0 : Nat) (v1 : Int) (M : mm_T) : vm_Con l yX11_border (.code yX11_border cX11_border 6 (some .int)) 1 ex_I [xA a0, xI v1] M (k_M_border a0 v1 M) := by
  refine vm_con (y := q_M_border) hfl (by decide +kernel) rfl (fun h => by cases h) (Nat.le_of_ble_eq_true rfl) rfl (fun _ _ _ => rfl) (fun r E h => by cases h) (fun w => ?_)
  show V_ l w q_M_border 1 ex_I 0 [(0, xA a0), (1, xI v1)] [] M (k_M_border a0 v1 M)
  unfold k_M_border
  refine v_aloadn d_M_border_0 rfl 0 rfl ?_
  refine v_iconst d_M_border_1 (by decide) ?_
  refine v_pI d_M_border_2 fl_M_3 (Or.inl rfl) rfl rfl (fun M => ?_)
  refine v_iloadn d_M_border_5 rfl 1 rfl ?_
  refine v_istoren (lz := fun z => [(2, xI z), (0, xA a0), (1, xI v1)]) d_M_border_6 rfl (Nat.le_of_ble_eq_true rfl) (fun _ => rfl) (fun v2_6 => ?_)
  refine v_aloadn d_M_border_7 rfl 1 rfl ?_
  refine v_gI d_M_border_8 fl_M_184 rfl (fun x8 => ?_)
  refine v_iconst d_M_border_11 (by decide) ?_
  refine v_isub d_M_border_12 (fun x12 => ?_)
  refine v_istoren (lz := fun z => [(3, xI z), (2, xI v2_6), (0, xA a0), (1, xI v1)]) d_M_border_13 rfl (Nat.le_of_ble_eq_true rfl) (fun _ => rfl) (fun v3_13 => ?_)
  refine v_sub (ls' := [(0, xA a0), (1, xI v1), (2, xI v2_6), (3, xI v3_13)]) [2, 3, 1, 0] rfl ?_
  refine V_lp_M_border_14 hfl _ _ _ (fun M => ?_) _ _ _ _
  · refine v_iconst d_M_border_99 (by decide) ?_
    exact v_ret d_M_border_100 rfl
set_option maxHeartbeats 4000000 in
set_option maxRecDepth 100000 in
theorem V_lp_M_runAt_41 {l : Launch} {w : vm_W} (hfl : l.stackTraces = false) (kx78 : Int → mm_T → Option (Int × mm_T)) (a0 : Nat) (v1 : Int) (v2 : Int) (hkx78 : ∀ (v3_e : Int) (M : mm_T), V_ l w q_M_runAt 2 ex_I 78 [(0, xA a0), (1, xI v1), (2, xI v2), (3, xI v3_e)] [] M (kx78 v3_e M)) : ∀ (f : Nat) (v3 : Int) (M : mm_T), V_ l w q_M_runAt 2 ex_I 41 [(0, xA a0), (1, xI v1), (2, xI v2), (3, xI v3)] [] M (lp_M_runAt_41 kx78 a0 v1 v2 f v3 M) := by
  intro f
  induction f with
  | zero => intros; exact V_.none
  | succ f ih =>
    intro v3 M
    unfold lp_M_runAt_41
    refine v_iloadn d_M_runAt_41 rfl 1 rfl ?_
    refine v_iloadn d_M_runAt_42 rfl 3 rfl ?_
    refine v_iadd d_M_runAt_43 (fun x43 => ?_)
    refine v_aloadn d_M_runAt_44 rfl 0 rfl ?_
    refine v_gI d_M_runAt_45 fl_M_184 rfl (fun x45 => ?_)
    refine v_icge d_M_runAt_48 ?_ ?_
    · exact hkx78 v3 M
    · refine v_aloadn d_M_runAt_51 rfl 0 rfl ?_
      refine v_gR d_M_runAt_52 fl_M_83 rfl (fun r52 => ?_)
      refine v_iloadn d_M_runAt_55 rfl 1 rfl ?_
      refine v_iloadn d_M_runAt_56 rfl 3 rfl ?_
      refine v_iadd d_M_runAt_57 (fun x57 => ?_)
      refine v_iald d_M_runAt_58 (fun x58 => ?_)
      refine v_aloadn d_M_runAt_59 rfl 0 rfl ?_
      refine v_gR d_M_runAt_60 fl_M_83 rfl (fun r60 => ?_)
      refine v_iloadn d_M_runAt_63 rfl 1 rfl ?_
      refine v_iloadn d_M_runAt_64 rfl 3 rfl ?_
      refine v_iadd d_M_runAt_65 (fun x65 => ?_)
      refine v_iloadn d_M_runAt_66 rfl 2 rfl ?_
      refine v_isub d_M_runAt_67 (fun x67 => ?_)
      refine v_iald d_M_runAt_68 (fun x68 => ?_)
      refine v_icne d_M_runAt_69 ?_ ?_
      · exact hkx78 v3 M
      · refine v_iinc (lz := fun z => [(3, xI z), (0, xA a0), (1, xI v1), (2, xI v2)]) d_M_runAt_72 3 rfl (Nat.le_of_ble_eq_true rfl) (fun _ => rfl) (fun v3_72 => ?_)
        refine v_goto d_M_runAt_75 ?_
        refine v_sub (ls' := [(0, xA a0), (1, xI v1), (2, xI v2), (3, xI v3_72)]) [1, 2, 3, 0] rfl ?_
        exact ih v3_72 M
set_option maxHeartbeats 4000000 in
set_option maxRecDepth 100000 in
theorem c_M_runAt (l : Launch) (hfl : l.stackTraces = false) (a0 : Nat) (v1 : Int) (v2 : Int) (M : mm_T) : vm_Con l yX11_runAt (.code yX11_runAt cX11_runAt 4 (some .int)) 2 ex_I [xA a0, xI v1, xI v2] M (k_M_runAt a0 v1 v2 M) := by
  refine vm_con (y := q_M_runAt) hfl (by decide +kernel) rfl (fun h => by cases h) (Nat.le_of_ble_eq_true rfl) rfl (fun _ _ _ => rfl) (fun r E h => by cases h) (fun w => ?_)
  show V_ l w q_M_runAt 2 ex_I 0 [(0, xA a0), (1, xI v1), (2, xI v2)] [] M (k_M_runAt a0 v1 v2 M)
  unfold k_M_runAt
  refine v_iloadn d_M_runAt_0 rfl 1 rfl ?_
  refine v_join0 (pj := 39) (lj := [(0, xA a0), (1, xI v1), (2, xI v2)]) (sj := []) (fun M => ?_) (fun j39 hj39 => ?_)
  · refine v_iloadn d_M_runAt_39 rfl 2 rfl ?_
    refine v_istoren (lz := fun z => [(3, xI z), (0, xA a0), (1, xI v1), (2, xI v2)]) d_M_runAt_40 rfl (Nat.le_of_ble_eq_true rfl) (fun _ => rfl) (fun v3_40 => ?_)
    refine v_sub (ls' := [(0, xA a0), (1, xI v1), (2, xI v2), (3, xI v3_40)]) [1, 2, 3, 0] rfl ?_
    refine V_lp_M_runAt_41 hfl _ _ _ _ (fun v3_78 M => ?_) _ _ _
    · refine v_iloadn d_M_runAt_78 rfl 3 rfl ?_
      refine v_iconst d_M_runAt_79 (by decide) ?_
      refine v_iloadn d_M_runAt_80 rfl 2 rfl ?_
      refine v_imul d_M_runAt_81 (fun x81 => ?_)
      refine v_join0 (pj := 99) (lj := []) (sj := []) (fun M => ?_) (fun j99 hj99 => ?_)
      · refine v_iconst d_M_runAt_99 (by decide) ?_
        exact v_ret d_M_runAt_100 rfl
      refine v_iclt d_M_runAt_82 ?_ ?_
      · refine v_sub (ls' := []) [] rfl ?_
        exact hj99 M
      · refine v_aloadn d_M_runAt_85 rfl 0 rfl ?_
        refine v_iloadn d_M_runAt_86 rfl 1 rfl ?_
        refine v_iloadn d_M_runAt_87 rfl 3 rfl ?_
        refine v_cVi d_M_runAt_88 ml_M_245 (q := (RX11, TX11, 32)) rfl (c_M_periodOf l hfl a0 v1 v3_78 M) (fun _ => rfl) (by decide) (by decide) (as := [xI v1, xI v3_78]) (st1 := []) rfl rfl (Nat.le_of_ble_eq_true rfl) (fun c88 M => ?_)
        refine v_iloadn d_M_runAt_91 rfl 2 rfl ?_
        refine v_icne d_M_runAt_92 ?_ ?_
        · refine v_sub (ls' := []) [] rfl ?_
          exact hj99 M
        · refine v_iloadn d_M_runAt_95 rfl 3 rfl ?_
          refine v_goto d_M_runAt_96 ?_
          exact v_ret d_M_runAt_100 rfl
  refine v_ifle d_M_runAt_1 ?_ ?_
  · exact hj39 M
  · refine v_iloadn d_M_runAt_4 rfl 1 rfl ?_
    refine v_iloadn d_M_runAt_5 rfl 2 rfl ?_
    refine v_iadd d_M_runAt_6 (fun x6 => ?_)
    refine v_iconst d_M_runAt_7 (by decide) ?_
    refine v_isub d_M_runAt_8 (fun x8 => ?_)
    refine v_aloadn d_M_runAt_9 rfl 0 rfl ?_
    refine v_gI d_M_runAt_10 fl_M_184 rfl (fun x10 => ?_)
    refine v_icge d_M_runAt_13 ?_ ?_
    · exact hj39 M
    · refine v_aloadn d_M_runAt_16 rfl 0 rfl ?_
      refine v_gR d_M_runAt_17 fl_M_83 rfl (fun r17 => ?_)
      refine v_iloadn d_M_runAt_20 rfl 1 rfl ?_
      refine v_iconst d_M_runAt_21 (by decide) ?_
      refine v_isub d_M_runAt_22 (fun x22 => ?_)
      refine v_iald d_M_runAt_23 (fun x23 => ?_)
      refine v_aloadn d_M_runAt_24 rfl 0 rfl ?_
      refine v_gR d_M_runAt_25 fl_M_83 rfl (fun r25 => ?_)
      refine v_iloadn d_M_runAt_28 rfl 1 rfl ?_
      refine v_iloadn d_M_runAt_29 rfl 2 rfl ?_
      refine v_iadd d_M_runAt_30 (fun x30 => ?_)
      refine v_iconst d_M_runAt_31 (by decide) ?_
      refine v_isub d_M_runAt_32 (fun x32 => ?_)
      refine v_iald d_M_runAt_33 (fun x33 => ?_)
      refine v_icne d_M_runAt_34 ?_ ?_
      · exact hj39 M
      · refine v_iconst d_M_runAt_37 (by decide) ?_
        exact v_ret d_M_runAt_38 rfl
set_option maxHeartbeats 4000000 in
set_option maxRecDepth 100000 in
theorem V_lp_M_run_46 {l : Launch} {w : vm_W} (hfl : l.stackTraces = false) (kx114 : Int → mm_T → Option (Int × mm_T)) (a0 : Nat) (v1 : Int) (v2 : Int) (v4 : Int) (hkx114 : ∀ (v3_e : Int) (M : mm_T), V_ l w q_M_run 3 ex_I 114 [(0, xA a0), (1, xI v1), (2, xI v2), (3, xI v3_e), (4, xI v4)] [] M (kx114 v3_e M)) : ∀ (f : Nat) (v3 : Int) (v5 : Int) (M : mm_T), V_ l w q_M_run 3 ex_I 46 [(0, xA a0), (1, xI v1), (2, xI v2), (3, xI v3), (4, xI v4), (5, xI v5)] [] M (lp_M_run_46 kx114 a0 v1 v2 v4 f v3 v5 M) := by
  intro f
  induction f with
  | zero => intros; exact V_.none
  | succ f ih =>
    intro v3 v5 M
    unfold lp_M_run_46
    refine v_iconst d_M_run_46 (by decide) ?_
    refine v_iload d_M_run_47 5 rfl ?_
    refine v_imul d_M_run_49 (fun x49 => ?_)
    refine v_aloadn d_M_run_50 rfl 0 rfl ?_
    refine v_gI d_M_run_51 fl_M_184 rfl (fun x51 => ?_)
    refine v_iload d_M_run_54 4 rfl ?_
    refine v_isub d_M_run_56 (fun x56 => ?_)
    refine v_icgt d_M_run_57 ?_ ?_
    · refine v_sub (ls' := [(0, xA a0), (1, xI v1), (2, xI v2), (3, xI v3), (4, xI v4)]) [0, 1, 2, 3, 4] rfl ?_
      exact hkx114 v3 M
    · refine v_aloadn d_M_run_60 rfl 0 rfl ?_
      refine v_iload d_M_run_61 4 rfl ?_
      refine v_iload d_M_run_63 5 rfl ?_
      refine v_cVi d_M_run_65 ml_M_248 (q := (RX11, TX11, 32)) rfl (c_M_runAt l hfl a0 v4 v5 M) (fun _ => rfl) (by decide) (by decide) (as := [xI v4, xI v5]) (st1 := []) rfl rfl (Nat.le_of_ble_eq_true rfl) (fun c65 M => ?_)
      refine v_istore (lz := fun z => [(6, xI z), (0, xA a0), (1, xI v1), (2, xI v2), (3, xI v3), (4, xI v4), (5, xI v5)]) d_M_run_68 (Nat.le_of_ble_eq_true rfl) (fun _ => rfl) (fun v6_68 => ?_)
      refine v_iload d_M_run_70 0 rfl ?_
      refine v_join1 (pj := 108) (lj := fun v3_108 => [(0, xA a0), (1, xI v1), (2, xI v2), (3, xI v3_108), (4, xI v4), (5, xI v5)]) (sj := fun v3_108 => []) (fun v3_108 M => ?_) (fun j108 hj108 => ?_)
      · refine v_iinc (lz := fun z => [(5, xI z), (0, xA a0), (1, xI v1), (2, xI v2), (3, xI v3_108), (4, xI v4)]) d_M_run_108 5 rfl (Nat.le_of_ble_eq_true rfl) (fun _ => rfl) (fun v5_108 => ?_)
        refine v_goto d_M_run_111 ?_
        refine v_sub (ls' := [(0, xA a0), (1, xI v1), (2, xI v2), (3, xI v3_108), (4, xI v4), (5, xI v5_108)]) [1, 2, 3, 4, 5, 0] rfl ?_
        exact ih v3_108 v5_108 M
      refine v_ifne d_M_run_72 ?_ ?_
      · refine v_iloadn d_M_run_78 rfl 4 rfl ?_
        refine v_iloadn d_M_run_79 rfl 2 rfl ?_
        refine v_icne d_M_run_80 ?_ ?_
        · refine v_iinc (lz := fun z => [(3, xI z), (6, xI v6_68), (0, xA a0), (1, xI v1), (2, xI v2), (4, xI v4), (5, xI v5)]) d_M_run_105 4 rfl (Nat.le_of_ble_eq_true rfl) (fun _ => rfl) (fun v3_105 => ?_)
          refine v_sub (ls' := [(0, xA a0), (1, xI v1), (2, xI v2), (3, xI v3_105), (4, xI v4), (5, xI v5)]) [2, 3, 4, 0, 5, 6] rfl ?_
          exact hj108 v3_105 M
        · refine v_iloadn d_M_run_83 rfl 3 rfl ?_
          refine v_ifne d_M_run_84 ?_ ?_
          · refine v_iloadn d_M_run_92 rfl 3 rfl ?_
            refine v_iconst d_M_run_93 (by decide) ?_
            refine v_icne d_M_run_94 ?_ ?_
            · refine v_iload d_M_run_102 6 rfl ?_
              exact v_ret d_M_run_104 rfl
            · refine v_iload d_M_run_97 0 rfl ?_
              refine v_goto d_M_run_99 ?_
              exact v_ret d_M_run_104 rfl
          · refine v_iload d_M_run_87 5 rfl ?_
            refine v_goto d_M_run_89 ?_
            exact v_ret d_M_run_104 rfl
      · refine v_goto d_M_run_75 ?_
        refine v_sub (ls' := [(0, xA a0), (1, xI v1), (2, xI v2), (3, xI v3), (4, xI v4), (5, xI v5)]) [1, 2, 3, 4, 5, 6] rfl ?_
        exact hj108 v3 M
set_option maxHeartbeats 4000000 in
set_option maxRecDepth 100000 in
theorem V_lp_M_run_34 {l : Launch} {w : vm_W} (hfl : l.stackTraces = false) (kx120 : Int → mm_T → Option (Int × mm_T)) (a0 : Nat) (v1 : Int) (v2 : Int) (hkx120 : ∀ (v3_e : Int) (M : mm_T), V_ l w q_M_run 3 ex_I 120 [(1, xI v1), (3, xI v3_e)] [] M (kx120 v3_e M)) : ∀ (f : Nat) (v3 : Int) (v4 : Int) (M : mm_T), V_ l w q_M_run 3 ex_I 34 [(0, xA a0), (1, xI v1), (2, xI v2), (3, xI v3), (4, xI v4)] [] M (lp_M_run_34 kx120 a0 v1 v2 f v3 v4 M) := by
  intro f
  induction f with
  | zero => intros; exact V_.none
  | succ f ih =>
    intro v3 v4 M
    unfold lp_M_run_34
    refine v_iload d_M_run_34 4 rfl ?_
    refine v_aloadn d_M_run_36 rfl 0 rfl ?_
    refine v_gI d_M_run_37 fl_M_184 rfl (fun x37 => ?_)
    refine v_icge d_M_run_40 ?_ ?_
    · refine v_sub (ls' := [(1, xI v1), (3, xI v3)]) [1, 3] rfl ?_
      exact hkx120 v3 M
    · refine v_iconst d_M_run_43 (by decide) ?_
      refine v_istore (lz := fun z => [(5, xI z), (0, xA a0), (1, xI v1), (2, xI v2), (3, xI v3), (4, xI v4)]) d_M_run_44 (Nat.le_of_ble_eq_true rfl) (fun _ => rfl) (fun v5_44 => ?_)
      refine v_sub (ls' := [(0, xA a0), (1, xI v1), (2, xI v2), (3, xI v3), (4, xI v4), (5, xI v5_44)]) [1, 2, 3, 4, 5, 0] rfl ?_
      refine V_lp_M_run_46 hfl _ _ _ _ _ (fun v3_114 M => ?_) _ _ _ _
      · refine v_iinc (lz := fun z => [(4, xI z), (0, xA a0), (1, xI v1), (2, xI v2), (3, xI v3_114)]) d_M_run_114 4 rfl (Nat.le_of_ble_eq_true rfl) (fun _ => rfl) (fun v4_114 => ?_)
        refine v_goto d_M_run_117 ?_
        refine v_sub (ls' := [(0, xA a0), (1, xI v1), (2, xI v2), (3, xI v3_114), (4, xI v4_114)]) [1, 2, 3, 4, 0] rfl ?_
        exact ih v3_114 v4_114 M
set_option maxHeartbeats 4000000 in
set_option maxRecDepth 100000 in
theorem c_M_run (l : Launch) (hfl : l.stackTraces = false) (a0 : Nat) (v1 : Int) (v2 : Int) (M : mm_T) : vm_Con l yX11_run (.code yX11_run cX11_run 7 (some .int)) 3 ex_I [xA a0, xI v1, xI v2] M (k_M_run a0 v1 v2 M) := by
  refine vm_con (y := q_M_run) hfl (by decide +kernel) rfl (fun h => by cases h) (Nat.le_of_ble_eq_true rfl) rfl (fun _ _ _ => rfl) (fun r E h => by cases h) (fun w => ?_)
  show V_ l w q_M_run 3 ex_I 0 [(0, xA a0), (1, xI v1), (2, xI v2)] [] M (k_M_run a0 v1 v2 M)
  unfold k_M_run
  refine v_aloadn d_M_run_0 rfl 0 rfl ?_
  refine v_iconst d_M_run_1 (by decide) ?_
  refine v_pI d_M_run_2 fl_M_3 (Or.inl rfl) rfl rfl (fun M => ?_)
  refine v_aloadn d_M_run_5 rfl 0 rfl ?_
  refine v_iloadn d_M_run_6 rfl 2 rfl ?_
  refine v_iconst d_M_run_7 (by decide) ?_
  refine v_iconst d_M_run_8 (by decide) ?_
  refine v_cSi d_M_run_9 ml_M_65 (c_M_in l hfl v2 0 2 M) (fun _ => rfl) (by decide) (by decide) (as := [xI v2, xI 0, xI 2]) (st1 := [xA a0]) rfl rfl (Nat.le_of_ble_eq_true rfl) (fun c9 M => ?_)
  refine v_join2 (pj := 20) (lj := fun sa0_20 s1_20 => [(0, xA a0), (1, xI v1), (2, xI v2)]) (sj := fun sa0_20 s1_20 => [xI s1_20, xA sa0_20]) (fun sa0_20 s1_20 M => ?_) (fun j20 hj20 => ?_)
  · refine v_iconst d_M_run_20 (by decide) ?_
    refine v_cVi d_M_run_21 ml_M_180 (q := (RX11, TX11, 32)) rfl (c_M_throwsIf l hfl sa0_20 s1_20 1 M) (fun _ => rfl) (by decide) (by decide) (as := [xI s1_20, xI 1]) (st1 := []) rfl rfl (Nat.le_of_ble_eq_true rfl) (fun c21 M => ?_)
    refine v_ifeq d_M_run_24 ?_ ?_
    · refine v_iconst d_M_run_29 (by decide) ?_
      refine v_istoren (lz := fun z => [(3, xI z), (0, xA a0), (1, xI v1), (2, xI v2)]) d_M_run_30 rfl (Nat.le_of_ble_eq_true rfl) (fun _ => rfl) (fun v3_30 => ?_)
      refine v_iconst d_M_run_31 (by decide) ?_
      refine v_istore (lz := fun z => [(4, xI z), (3, xI v3_30), (0, xA a0), (1, xI v1), (2, xI v2)]) d_M_run_32 (Nat.le_of_ble_eq_true rfl) (fun _ => rfl) (fun v4_32 => ?_)
      refine v_sub (ls' := [(0, xA a0), (1, xI v1), (2, xI v2), (3, xI v3_30), (4, xI v4_32)]) [2, 3, 4, 1, 0] rfl ?_
      refine V_lp_M_run_34 hfl _ _ _ _ (fun v3_120 M => ?_) _ _ _ _
      · refine v_iloadn d_M_run_120 rfl 0 rfl ?_
        refine v_iconst d_M_run_121 (by decide) ?_
        refine v_icne d_M_run_122 ?_ ?_
        · refine v_iconst d_M_run_129 (by decide) ?_
          exact v_ret d_M_run_130 rfl
        · refine v_iloadn d_M_run_125 rfl 1 rfl ?_
          refine v_goto d_M_run_126 ?_
          exact v_ret d_M_run_130 rfl
    · refine v_iconst d_M_run_27 (by decide) ?_
      exact v_ret d_M_run_28 rfl
  refine v_ifne d_M_run_12 ?_ ?_
  · refine v_iconst d_M_run_19 (by decide) ?_
    exact hj20 a0 0 M
  · refine v_iconst d_M_run_15 (by decide) ?_
    refine v_goto d_M_run_16 ?_
    exact hj20 a0 1 M
set_option maxHeartbeats 4000000 in
set_option maxRecDepth 100000 in
theorem V_lp_M_areAlike_3 {l : Launch} {w : vm_W} (hfl : l.stackTraces = false) (kx38 : mm_T → Option (Int × mm_T)) (a0 : Nat) (v1 : Int) (v2 : Int) (v3 : Int) (hkx38 : ∀ (M : mm_T), V_ l w q_M_areAlike 1 ex_Z 38 [] [] M (kx38 M)) : ∀ (f : Nat) (v4 : Int) (M : mm_T), V_ l w q_M_areAlike 1 ex_Z 3 [(0, xA a0), (1, xI v1), (2, xI v2), (3, xI v3), (4, xI v4)] [] M (lp_M_areAlike_3 kx38 a0 v1 v2 v3 f v4 M) := by
  intro f
  induction f with
  | zero => intros; exact V_.none
  | succ f ih =>
    intro v4 M
    unfold lp_M_areAlike_3
    refine v_iload d_M_areAlike_3 4 rfl ?_
    refine v_iloadn d_M_areAlike_5 rfl 3 rfl ?_
    refine v_icge d_M_areAlike_6 ?_ ?_
    · refine v_sub (ls' := []) [] rfl ?_
      exact hkx38 M
    · refine v_aloadn d_M_areAlike_9 rfl 0 rfl ?_
      refine v_gR d_M_areAlike_10 fl_M_83 rfl (fun r10 => ?_)
      refine v_iloadn d_M_areAlike_13 rfl 1 rfl ?_
      refine v_iload d_M_areAlike_14 4 rfl ?_
      refine v_iadd d_M_areAlike_16 (fun x16 => ?_)
      refine v_iald d_M_areAlike_17 (fun x17 => ?_)
      refine v_aloadn d_M_areAlike_18 rfl 0 rfl ?_
      refine v_gR d_M_areAlike_19 fl_M_83 rfl (fun r19 => ?_)
      refine v_iloadn d_M_areAlike_22 rfl 2 rfl ?_
      refine v_iload d_M_areAlike_23 4 rfl ?_
      refine v_iadd d_M_areAlike_25 (fun x25 => ?_)
      refine v_iald d_M_areAlike_26 (fun x26 => ?_)
      refine v_iceq d_M_areAlike_27 ?_ ?_
      · refine v_iinc (lz := fun z => [(4, xI z), (0, xA a0), (1, xI v1), (2, xI v2), (3, xI v3)]) d_M_areAlike_32 4 rfl (Nat.le_of_ble_eq_true rfl) (fun _ => rfl) (fun v4_32 => ?_)
        refine v_goto d_M_areAlike_35 ?_
        refine v_sub (ls' := [(0, xA a0), (1, xI v1), (2, xI v2), (3, xI v3), (4, xI v4_32)]) [1, 2, 3, 4, 0] rfl ?_
        exact ih v4_32 M
      · refine v_iconst d_M_areAlike_30 (by decide) ?_
        exact v_zret d_M_areAlike_31 rfl
set_option maxHeartbeats 4000000 in
set_option maxRecDepth 100000 in
theorem c_M_areAlike (l : Launch) (hfl : l.stackTraces = false) (a0 : Nat) (v1 : Int) (v2 : Int) (v3 : Int) (M : mm_T) : vm_Con l yX11_areAlike (.code yX11_areAlike cX11_areAlike 5 (some .boolean)) 1 ex_Z [xA a0, xI v1, xI v2, xI v3] M (k_M_areAlike a0 v1 v2 v3 M) := by
  refine vm_con (y := q_M_areAlike) hfl (by decide +kernel) rfl (fun h => by cases h) (Nat.le_of_ble_eq_true rfl) rfl (fun _ _ _ => rfl) (fun r E h => by cases h) (fun w => ?_)
  show V_ l w q_M_areAlike 1 ex_Z 0 [(0, xA a0), (1, xI v1), (2, xI v2), (3, xI v3)] [] M (k_M_areAlike a0 v1 v2 v3 M)
  unfold k_M_areAlike
  refine v_iconst d_M_areAlike_0 (by decide) ?_
  refine v_istore (lz := fun z => [(4, xI z), (0, xA a0), (1, xI v1), (2, xI v2), (3, xI v3)]) d_M_areAlike_1 (Nat.le_of_ble_eq_true rfl) (fun _ => rfl) (fun v4_1 => ?_)
  refine v_sub (ls' := [(0, xA a0), (1, xI v1), (2, xI v2), (3, xI v3), (4, xI v4_1)]) [1, 2, 3, 4, 0] rfl ?_
  refine V_lp_M_areAlike_3 hfl _ _ _ _ _ (fun M => ?_) _ _ _
  · refine v_iconst d_M_areAlike_38 (by decide) ?_
    exact v_zret d_M_areAlike_39 rfl
set_option maxHeartbeats 4000000 in
set_option maxRecDepth 100000 in
theorem V_lp_M_factors_50 {l : Launch} {w : vm_W} (hfl : l.stackTraces = false) (kx85 : Int → mm_T → Option (Int × mm_T)) (a0 : Nat) (v1 : Int) (v3 : Int) {v2 : Int} (hkx85 : ∀ (v4_e : Int) (M : mm_T), V_ l w q_M_factors 2 ex_I 85 [(0, xA a0), (1, xI v1), (2, xI v2), (3, xI v3), (4, xI v4_e)] [] M (kx85 v4_e M)) : ∀ (f : Nat) (v4 : Int) (v5 : Int) (M : mm_T), V_ l w q_M_factors 2 ex_I 50 [(0, xA a0), (1, xI v1), (2, xI v2), (3, xI v3), (4, xI v4), (5, xI v5)] [] M (lp_M_factors_50 kx85 a0 v1 v3 f v4 v5 M) := by
  intro f
  induction f with
  | zero => intros; exact V_.none
  | succ f ih =>
    intro v4 v5 M
    unfold lp_M_factors_50
    refine v_iload d_M_factors_50 5 rfl ?_
    refine v_iloadn d_M_factors_52 rfl 3 rfl ?_
    refine v_icge d_M_factors_53 ?_ ?_
    · refine v_sub (ls' := [(0, xA a0), (1, xI v1), (2, xI v2), (3, xI v3), (4, xI v4)]) [0, 1, 2, 3, 4] rfl ?_
      exact hkx85 v4 M
    · refine v_iload d_M_factors_56 4 rfl ?_
      refine v_join1 (pj := 77) (lj := fun s0_77 => [(0, xA a0), (1, xI v1), (2, xI v2), (3, xI v3), (5, xI v5)]) (sj := fun s0_77 => [xI s0_77]) (fun s0_77 M => ?_) (fun j77 hj77 => ?_)
      · refine v_istore (lz := fun z => [(4, xI z), (0, xA a0), (1, xI v1), (2, xI v2), (3, xI v3), (5, xI v5)]) d_M_factors_77 (Nat.le_of_ble_eq_true rfl) (fun _ => rfl) (fun v4_77 => ?_)
        refine v_iinc (lz := fun z => [(5, xI z), (4, xI v4_77), (0, xA a0), (1, xI v1), (2, xI v2), (3, xI v3)]) d_M_factors_79 5 rfl (Nat.le_of_ble_eq_true rfl) (fun _ => rfl) (fun v5_79 => ?_)
        refine v_goto d_M_factors_82 ?_
        refine v_sub (ls' := [(0, xA a0), (1, xI v1), (2, xI v2), (3, xI v3), (4, xI v4_77), (5, xI v5_79)]) [2, 3, 4, 5, 1, 0] rfl ?_
        exact ih v4_77 v5_79 M
      refine v_join0 (pj := 72) (lj := [(0, xA a0), (1, xI v1), (2, xI v2), (3, xI v3), (5, xI v5)]) (sj := []) (fun M => ?_) (fun j72 hj72 => ?_)
      · refine v_iconst d_M_factors_72 (by decide) ?_
        refine v_goto d_M_factors_73 ?_
        exact hj77 1 M
      refine v_ifne d_M_factors_58 ?_ ?_
      · refine v_sub (ls' := [(0, xA a0), (1, xI v1), (2, xI v2), (3, xI v3), (5, xI v5)]) [0, 1, 2, 3, 5] rfl ?_
        exact hj72 M
      · refine v_aloadn d_M_factors_61 rfl 0 rfl ?_
        refine v_iloadn d_M_factors_62 rfl 3 rfl ?_
        refine v_iload d_M_factors_63 5 rfl ?_
        refine v_iloadn d_M_factors_65 rfl 1 rfl ?_
        refine v_cVi d_M_factors_66 ml_M_251 (q := (RX11, TX11, 32)) rfl (c_M_areAlike l hfl a0 v3 v5 v1 M) (fun _ => rfl) (by decide) (by decide) (as := [xI v3, xI v5, xI v1]) (st1 := []) rfl rfl (Nat.le_of_ble_eq_true rfl) (fun c66 M => ?_)
        refine v_ifeq d_M_factors_69 ?_ ?_
        · refine v_iconst d_M_factors_76 (by decide) ?_
          refine v_sub (ls' := [(0, xA a0), (1, xI v1), (2, xI v2), (3, xI v3), (5, xI v5)]) [0, 1, 2, 3, 5] rfl ?_
          exact hj77 0 M
        · refine v_sub (ls' := [(0, xA a0), (1, xI v1), (2, xI v2), (3, xI v3), (5, xI v5)]) [0, 1, 2, 3, 5] rfl ?_
          exact hj72 M
set_option maxHeartbeats 4000000 in
set_option maxRecDepth 100000 in
theorem V_lp_M_factors_34 {l : Launch} {w : vm_W} (hfl : l.stackTraces = false) (kx104 : Int → mm_T → Option (Int × mm_T)) (a0 : Nat) (v1 : Int) (hkx104 : ∀ (v2_e : Int) (M : mm_T), V_ l w q_M_factors 2 ex_I 104 [(2, xI v2_e)] [] M (kx104 v2_e M)) : ∀ (f : Nat) (v2 : Int) (v3 : Int) (M : mm_T), V_ l w q_M_factors 2 ex_I 34 [(0, xA a0), (1, xI v1), (2, xI v2), (3, xI v3)] [] M (lp_M_factors_34 kx104 a0 v1 f v2 v3 M) := by
  intro f
  induction f with
  | zero => intros; exact V_.none
  | succ f ih =>
    intro v2 v3 M
    unfold lp_M_factors_34
    refine v_iloadn d_M_factors_34 rfl 3 rfl ?_
    refine v_iloadn d_M_factors_35 rfl 1 rfl ?_
    refine v_iadd d_M_factors_36 (fun x36 => ?_)
    refine v_aloadn d_M_factors_37 rfl 0 rfl ?_
    refine v_gI d_M_factors_38 fl_M_184 rfl (fun x38 => ?_)
    refine v_icgt d_M_factors_41 ?_ ?_
    · refine v_sub (ls' := [(2, xI v2)]) [2] rfl ?_
      exact hkx104 v2 M
    · refine v_iconst d_M_factors_44 (by decide) ?_
      refine v_istore (lz := fun z => [(4, xI z), (0, xA a0), (1, xI v1), (2, xI v2), (3, xI v3)]) d_M_factors_45 (Nat.le_of_ble_eq_true rfl) (fun _ => rfl) (fun v4_45 => ?_)
      refine v_iconst d_M_factors_47 (by decide) ?_
      refine v_istore (lz := fun z => [(5, xI z), (4, xI v4_45), (0, xA a0), (1, xI v1), (2, xI v2), (3, xI v3)]) d_M_factors_48 (Nat.le_of_ble_eq_true rfl) (fun _ => rfl) (fun v5_48 => ?_)
      refine v_sub (ls' := [(0, xA a0), (1, xI v1), (2, xI v2), (3, xI v3), (4, xI v4_45), (5, xI v5_48)]) [2, 3, 4, 5, 1, 0] rfl ?_
      refine V_lp_M_factors_50 hfl _ _ _ _ (fun v4_85 M => ?_) _ _ _ _
      · refine v_iloadn d_M_factors_85 rfl 2 rfl ?_
        refine v_iload d_M_factors_86 4 rfl ?_
        refine v_join2 (pj := 96) (lj := fun s0_96 s1_96 => [(0, xA a0), (1, xI v1), (3, xI v3)]) (sj := fun s0_96 s1_96 => [xI s1_96, xI s0_96]) (fun s0_96 s1_96 M => ?_) (fun j96 hj96 => ?_)
        · refine v_iadd d_M_factors_96 (fun x96 => ?_)
          refine v_istoren (lz := fun z => [(2, xI z), (0, xA a0), (1, xI v1), (3, xI v3)]) d_M_factors_97 rfl (Nat.le_of_ble_eq_true rfl) (fun _ => rfl) (fun v2_97 => ?_)
          refine v_iinc (lz := fun z => [(3, xI z), (2, xI v2_97), (0, xA a0), (1, xI v1)]) d_M_factors_98 3 rfl (Nat.le_of_ble_eq_true rfl) (fun _ => rfl) (fun v3_98 => ?_)
          refine v_goto d_M_factors_101 ?_
          refine v_sub (ls' := [(0, xA a0), (1, xI v1), (2, xI v2_97), (3, xI v3_98)]) [2, 3, 1, 0] rfl ?_
          exact ih v2_97 v3_98 M
        refine v_ifeq d_M_factors_88 ?_ ?_
        · refine v_iconst d_M_factors_95 (by decide) ?_
          refine v_sub (ls' := [(0, xA a0), (1, xI v1), (3, xI v3)]) [0, 1, 3] rfl ?_
          exact hj96 v2 1 M
        · refine v_iconst d_M_factors_91 (by decide) ?_
          refine v_goto d_M_factors_92 ?_
          refine v_sub (ls' := [(0, xA a0), (1, xI v1), (3, xI v3)]) [0, 1, 3] rfl ?_
          exact hj96 v2 0 M
set_option maxHeartbeats 4000000 in
set_option maxRecDepth 100000 in
theorem c_M_factors (l : Launch) (hfl : l.stackTraces = false) (a0 : Nat) (v1 : Int) (M : mm_T) : vm_Con l yX11_factors (.code yX11_factors cX11_factors 6 (some .int)) 2 ex_I [xA a0, xI v1] M (k_M_factors a0 v1 M) := by
  refine vm_con (y := q_M_factors) hfl (by decide +kernel) rfl (fun h => by cases h) (Nat.le_of_ble_eq_true rfl) rfl (fun _ _ _ => rfl) (fun r E h => by cases h) (fun w => ?_)
  show V_ l w q_M_factors 2 ex_I 0 [(0, xA a0), (1, xI v1)] [] M (k_M_factors a0 v1 M)
  unfold k_M_factors
  refine v_aloadn d_M_factors_0 rfl 0 rfl ?_
  refine v_iconst d_M_factors_1 (by decide) ?_
  refine v_pI d_M_factors_2 fl_M_3 (Or.inl rfl) rfl rfl (fun M => ?_)
  refine v_aloadn d_M_factors_5 rfl 0 rfl ?_
  refine v_iloadn d_M_factors_6 rfl 1 rfl ?_
  refine v_iconst d_M_factors_7 (by decide) ?_
  refine v_bipush d_M_factors_8 (by decide) ?_
  refine v_cSi d_M_factors_10 ml_M_65 (c_M_in l hfl v1 1 64 M) (fun _ => rfl) (by decide) (by decide) (as := [xI v1, xI 1, xI 64]) (st1 := [xA a0]) rfl rfl (Nat.le_of_ble_eq_true rfl) (fun c10 M => ?_)
  refine v_join2 (pj := 21) (lj := fun sa0_21 s1_21 => [(0, xA a0), (1, xI v1)]) (sj := fun sa0_21 s1_21 => [xI s1_21, xA sa0_21]) (fun sa0_21 s1_21 M => ?_) (fun j21 hj21 => ?_)
  · refine v_iconst d_M_factors_21 (by decide) ?_
    refine v_cVi d_M_factors_22 ml_M_180 (q := (RX11, TX11, 32)) rfl (c_M_throwsIf l hfl sa0_21 s1_21 1 M) (fun _ => rfl) (by decide) (by decide) (as := [xI s1_21, xI 1]) (st1 := []) rfl rfl (Nat.le_of_ble_eq_true rfl) (fun c22 M => ?_)
    refine v_ifeq d_M_factors_25 ?_ ?_
    · refine v_iconst d_M_factors_30 (by decide) ?_
      refine v_istoren (lz := fun z => [(2, xI z), (0, xA a0), (1, xI v1)]) d_M_factors_31 rfl (Nat.le_of_ble_eq_true rfl) (fun _ => rfl) (fun v2_31 => ?_)
      refine v_iconst d_M_factors_32 (by decide) ?_
      refine v_istoren (lz := fun z => [(3, xI z), (2, xI v2_31), (0, xA a0), (1, xI v1)]) d_M_factors_33 rfl (Nat.le_of_ble_eq_true rfl) (fun _ => rfl) (fun v3_33 => ?_)
      refine v_sub (ls' := [(0, xA a0), (1, xI v1), (2, xI v2_31), (3, xI v3_33)]) [2, 3, 1, 0] rfl ?_
      refine V_lp_M_factors_34 hfl _ _ _ (fun v2_104 M => ?_) _ _ _ _
      · refine v_iloadn d_M_factors_104 rfl 0 rfl ?_
        exact v_ret d_M_factors_105 rfl
    · refine v_iconst d_M_factors_28 (by decide) ?_
      exact v_ret d_M_factors_29 rfl
  refine v_ifne d_M_factors_13 ?_ ?_
  · refine v_iconst d_M_factors_20 (by decide) ?_
    exact hj21 a0 0 M
  · refine v_iconst d_M_factors_16 (by decide) ?_
    refine v_goto d_M_factors_17 ?_
    exact hj21 a0 1 M
set_option maxHeartbeats 4000000 in
set_option maxRecDepth 100000 in
theorem V_lp_M_mirror_30 {l : Launch} {w : vm_W} (hfl : l.stackTraces = false) (kx68 : Int → mm_T → Option (Int × mm_T)) (a0 : Nat) (v2 : Int) (v3 : Int) {v1 : Int} (hkx68 : ∀ (v4_e : Int) (M : mm_T), V_ l w q_M_mirror 1 ex_I 68 [(0, xA a0), (1, xI v1), (2, xI v2), (3, xI v3), (4, xI v4_e)] [] M (kx68 v4_e M)) : ∀ (f : Nat) (v4 : Int) (M : mm_T), V_ l w q_M_mirror 1 ex_I 30 [(0, xA a0), (1, xI v1), (2, xI v2), (3, xI v3), (4, xI v4)] [] M (lp_M_mirror_30 kx68 a0 v2 v3 f v4 M) := by
  intro f
  induction f with
  | zero => intros; exact V_.none
  | succ f ih =>
    intro v4 M
    unfold lp_M_mirror_30
    refine v_iloadn d_M_mirror_30 rfl 2 rfl ?_
    refine v_iload d_M_mirror_31 4 rfl ?_
    refine v_iadd d_M_mirror_33 (fun x33 => ?_)
    refine v_iloadn d_M_mirror_34 rfl 3 rfl ?_
    refine v_iload d_M_mirror_35 4 rfl ?_
    refine v_isub d_M_mirror_37 (fun x37 => ?_)
    refine v_icge d_M_mirror_38 ?_ ?_
    · exact hkx68 v4 M
    · refine v_aloadn d_M_mirror_41 rfl 0 rfl ?_
      refine v_gR d_M_mirror_42 fl_M_83 rfl (fun r42 => ?_)
      refine v_iloadn d_M_mirror_45 rfl 2 rfl ?_
      refine v_iload d_M_mirror_46 4 rfl ?_
      refine v_iadd d_M_mirror_48 (fun x48 => ?_)
      refine v_iald d_M_mirror_49 (fun x49 => ?_)
      refine v_aloadn d_M_mirror_50 rfl 0 rfl ?_
      refine v_gR d_M_mirror_51 fl_M_83 rfl (fun r51 => ?_)
      refine v_iloadn d_M_mirror_54 rfl 3 rfl ?_
      refine v_iload d_M_mirror_55 4 rfl ?_
      refine v_isub d_M_mirror_57 (fun x57 => ?_)
      refine v_iald d_M_mirror_58 (fun x58 => ?_)
      refine v_icne d_M_mirror_59 ?_ ?_
      · exact hkx68 v4 M
      · refine v_iinc (lz := fun z => [(4, xI z), (0, xA a0), (1, xI v1), (2, xI v2), (3, xI v3)]) d_M_mirror_62 4 rfl (Nat.le_of_ble_eq_true rfl) (fun _ => rfl) (fun v4_62 => ?_)
        refine v_goto d_M_mirror_65 ?_
        refine v_sub (ls' := [(0, xA a0), (1, xI v1), (2, xI v2), (3, xI v3), (4, xI v4_62)]) [1, 2, 3, 4, 0] rfl ?_
        exact ih v4_62 M
set_option maxHeartbeats 4000000 in
set_option maxRecDepth 100000 in
theorem V_lp_M_mirror_19 {l : Launch} {w : vm_W} (hfl : l.stackTraces = false) (kx95 : Int → mm_T → Option (Int × mm_T)) (a0 : Nat) (v2 : Int) (hkx95 : ∀ (v1_e : Int) (M : mm_T), V_ l w q_M_mirror 1 ex_I 95 [(0, xA a0), (1, xI v1_e), (2, xI v2)] [] M (kx95 v1_e M)) : ∀ (f : Nat) (v1 : Int) (v3 : Int) (M : mm_T), V_ l w q_M_mirror 1 ex_I 19 [(0, xA a0), (1, xI v1), (2, xI v2), (3, xI v3)] [] M (lp_M_mirror_19 kx95 a0 v2 f v1 v3 M) := by
  intro f
  induction f with
  | zero => intros; exact V_.none
  | succ f ih =>
    intro v1 v3 M
    unfold lp_M_mirror_19
    refine v_iloadn d_M_mirror_19 rfl 3 rfl ?_
    refine v_aloadn d_M_mirror_20 rfl 0 rfl ?_
    refine v_gI d_M_mirror_21 fl_M_184 rfl (fun x21 => ?_)
    refine v_icge d_M_mirror_24 ?_ ?_
    · refine v_sub (ls' := [(0, xA a0), (1, xI v1), (2, xI v2)]) [0, 1, 2] rfl ?_
      exact hkx95 v1 M
    · refine v_iconst d_M_mirror_27 (by decide) ?_
      refine v_istore (lz := fun z => [(4, xI z), (0, xA a0), (1, xI v1), (2, xI v2), (3, xI v3)]) d_M_mirror_28 (Nat.le_of_ble_eq_true rfl) (fun _ => rfl) (fun v4_28 => ?_)
      refine v_sub (ls' := [(0, xA a0), (1, xI v1), (2, xI v2), (3, xI v3), (4, xI v4_28)]) [1, 2, 3, 4, 0] rfl ?_
      refine V_lp_M_mirror_30 hfl _ _ _ _ (fun v4_68 M => ?_) _ _ _
      · refine v_iloadn d_M_mirror_68 rfl 2 rfl ?_
        refine v_iload d_M_mirror_69 4 rfl ?_
        refine v_iadd d_M_mirror_71 (fun x71 => ?_)
        refine v_iloadn d_M_mirror_72 rfl 3 rfl ?_
        refine v_iload d_M_mirror_73 4 rfl ?_
        refine v_isub d_M_mirror_75 (fun x75 => ?_)
        refine v_join1 (pj := 89) (lj := fun v1_89 => [(0, xA a0), (1, xI v1_89), (2, xI v2), (3, xI v3)]) (sj := fun v1_89 => []) (fun v1_89 M => ?_) (fun j89 hj89 => ?_)
        · refine v_iinc (lz := fun z => [(3, xI z), (0, xA a0), (1, xI v1_89), (2, xI v2)]) d_M_mirror_89 3 rfl (Nat.le_of_ble_eq_true rfl) (fun _ => rfl) (fun v3_89 => ?_)
          refine v_goto d_M_mirror_92 ?_
          refine v_sub (ls' := [(0, xA a0), (1, xI v1_89), (2, xI v2), (3, xI v3_89)]) [1, 2, 3, 0] rfl ?_
          exact ih v1_89 v3_89 M
        refine v_iclt d_M_mirror_76 ?_ ?_
        · refine v_sub (ls' := [(0, xA a0), (1, xI v1), (2, xI v2), (3, xI v3)]) [0, 1, 2, 3] rfl ?_
          exact hj89 v1 M
        · refine v_iloadn d_M_mirror_79 rfl 1 rfl ?_
          refine v_iloadn d_M_mirror_80 rfl 3 rfl ?_
          refine v_iloadn d_M_mirror_81 rfl 2 rfl ?_
          refine v_isub d_M_mirror_82 (fun x82 => ?_)
          refine v_iconst d_M_mirror_83 (by decide) ?_
          refine v_iadd d_M_mirror_84 (fun x84 => ?_)
          refine v_mmax d_M_mirror_85 gw_1718 gw_466 gw_131 gw_467 (by first | decide | omega) (Nat.le_of_ble_eq_true rfl) ?_
          refine v_istoren (lz := fun z => [(1, xI z), (0, xA a0), (2, xI v2), (3, xI v3), (4, xI v4_68)]) d_M_mirror_88 rfl (Nat.le_of_ble_eq_true rfl) (fun _ => rfl) (fun v1_88 => ?_)
          refine v_sub (ls' := [(0, xA a0), (1, xI v1_88), (2, xI v2), (3, xI v3)]) [1, 0, 2, 3] rfl ?_
          exact hj89 v1_88 M
set_option maxHeartbeats 4000000 in
set_option maxRecDepth 100000 in
theorem V_lp_M_mirror_9 {l : Launch} {w : vm_W} (hfl : l.stackTraces = false) (kx101 : Int → mm_T → Option (Int × mm_T)) (a0 : Nat) (hkx101 : ∀ (v1_e : Int) (M : mm_T), V_ l w q_M_mirror 1 ex_I 101 [(1, xI v1_e)] [] M (kx101 v1_e M)) : ∀ (f : Nat) (v1 : Int) (v2 : Int) (M : mm_T), V_ l w q_M_mirror 1 ex_I 9 [(0, xA a0), (1, xI v1), (2, xI v2)] [] M (lp_M_mirror_9 kx101 a0 f v1 v2 M) := by
  intro f
  induction f with
  | zero => intros; exact V_.none
  | succ f ih =>
    intro v1 v2 M
    unfold lp_M_mirror_9
    refine v_iloadn d_M_mirror_9 rfl 2 rfl ?_
    refine v_aloadn d_M_mirror_10 rfl 0 rfl ?_
    refine v_gI d_M_mirror_11 fl_M_184 rfl (fun x11 => ?_)
    refine v_icge d_M_mirror_14 ?_ ?_
    · refine v_sub (ls' := [(1, xI v1)]) [1] rfl ?_
      exact hkx101 v1 M
    · refine v_iloadn d_M_mirror_17 rfl 2 rfl ?_
      refine v_istoren (lz := fun z => [(3, xI z), (0, xA a0), (1, xI v1), (2, xI v2)]) d_M_mirror_18 rfl (Nat.le_of_ble_eq_true rfl) (fun _ => rfl) (fun v3_18 => ?_)
      refine v_sub (ls' := [(0, xA a0), (1, xI v1), (2, xI v2), (3, xI v3_18)]) [1, 2, 3, 0] rfl ?_
      refine V_lp_M_mirror_19 hfl _ _ _ (fun v1_95 M => ?_) _ _ _ _
      · refine v_iinc (lz := fun z => [(2, xI z), (0, xA a0), (1, xI v1_95)]) d_M_mirror_95 2 rfl (Nat.le_of_ble_eq_true rfl) (fun _ => rfl) (fun v2_95 => ?_)
        refine v_goto d_M_mirror_98 ?_
        refine v_sub (ls' := [(0, xA a0), (1, xI v1_95), (2, xI v2_95)]) [1, 2, 0] rfl ?_
        exact ih v1_95 v2_95 M
set_option maxHeartbeats 4000000 in
set_option maxRecDepth 100000 in
theorem c_M_mirror (l : Launch) (hfl : l.stackTraces = false) (a0 : Nat) (M : mm_T) : vm_Con l yX11_mirror (.code yX11_mirror cX11_mirror 5 (some .int)) 1 ex_I [xA a0] M (k_M_mirror a0 M) := by
  refine vm_con (y := q_M_mirror) hfl (by decide +kernel) rfl (fun h => by cases h) (Nat.le_of_ble_eq_true rfl) rfl (fun _ _ _ => rfl) (fun r E h => by cases h) (fun w => ?_)
  show V_ l w q_M_mirror 1 ex_I 0 [(0, xA a0)] [] M (k_M_mirror a0 M)
  unfold k_M_mirror
  refine v_aloadn d_M_mirror_0 rfl 0 rfl ?_
  refine v_iconst d_M_mirror_1 (by decide) ?_
  refine v_pI d_M_mirror_2 fl_M_3 (Or.inl rfl) rfl rfl (fun M => ?_)
  refine v_iconst d_M_mirror_5 (by decide) ?_
  refine v_istoren (lz := fun z => [(1, xI z), (0, xA a0)]) d_M_mirror_6 rfl (Nat.le_of_ble_eq_true rfl) (fun _ => rfl) (fun v1_6 => ?_)
  refine v_iconst d_M_mirror_7 (by decide) ?_
  refine v_istoren (lz := fun z => [(2, xI z), (1, xI v1_6), (0, xA a0)]) d_M_mirror_8 rfl (Nat.le_of_ble_eq_true rfl) (fun _ => rfl) (fun v2_8 => ?_)
  refine v_sub (ls' := [(0, xA a0), (1, xI v1_6), (2, xI v2_8)]) [2, 1, 0] rfl ?_
  refine V_lp_M_mirror_9 hfl _ _ (fun v1_101 M => ?_) _ _ _ _
  · refine v_iloadn d_M_mirror_101 rfl 0 rfl ?_
    exact v_ret d_M_mirror_102 rfl
set_option maxHeartbeats 4000000 in
set_option maxRecDepth 100000 in
theorem V_lp_M_lyndon_25 {l : Launch} {w : vm_W} (hfl : l.stackTraces = false) (kx84 : Int → Int → mm_T → Option (Int × mm_T)) (a0 : Nat) (v3 : Int) {v1 : Int} {v2 : Int} (hkx84 : ∀ (v4_e : Int) (v5_e : Int) (M : mm_T), V_ l w q_M_lyndon 1 ex_I 84 [(0, xA a0), (1, xI v1), (2, xI v2), (3, xI v3), (4, xI v4_e), (5, xI v5_e)] [] M (kx84 v4_e v5_e M)) : ∀ (f : Nat) (v4 : Int) (v5 : Int) (M : mm_T), V_ l w q_M_lyndon 1 ex_I 25 [(0, xA a0), (1, xI v1), (2, xI v2), (3, xI v3), (4, xI v4), (5, xI v5)] [] M (lp_M_lyndon_25 kx84 a0 v3 f v4 v5 M) := by
  intro f
  induction f with
  | zero => intros; exact V_.none
  | succ f ih =>
    intro v4 v5 M
    unfold lp_M_lyndon_25
    refine v_iload d_M_lyndon_25 5 rfl ?_
    refine v_aloadn d_M_lyndon_27 rfl 0 rfl ?_
    refine v_gI d_M_lyndon_28 fl_M_184 rfl (fun x28 => ?_)
    refine v_icge d_M_lyndon_31 ?_ ?_
    · exact hkx84 v4 v5 M
    · refine v_aloadn d_M_lyndon_34 rfl 0 rfl ?_
      refine v_gR d_M_lyndon_35 fl_M_83 rfl (fun r35 => ?_)
      refine v_iload d_M_lyndon_38 4 rfl ?_
      refine v_iald d_M_lyndon_40 (fun x40 => ?_)
      refine v_aloadn d_M_lyndon_41 rfl 0 rfl ?_
      refine v_gR d_M_lyndon_42 fl_M_83 rfl (fun r42 => ?_)
      refine v_iload d_M_lyndon_45 5 rfl ?_
      refine v_iald d_M_lyndon_47 (fun x47 => ?_)
      refine v_icgt d_M_lyndon_48 ?_ ?_
      · exact hkx84 v4 v5 M
      · refine v_aloadn d_M_lyndon_51 rfl 0 rfl ?_
        refine v_gR d_M_lyndon_52 fl_M_83 rfl (fun r52 => ?_)
        refine v_iload d_M_lyndon_55 4 rfl ?_
        refine v_iald d_M_lyndon_57 (fun x57 => ?_)
        refine v_aloadn d_M_lyndon_58 rfl 0 rfl ?_
        refine v_gR d_M_lyndon_59 fl_M_83 rfl (fun r59 => ?_)
        refine v_iload d_M_lyndon_62 5 rfl ?_
        refine v_iald d_M_lyndon_64 (fun x64 => ?_)
        refine v_join1 (pj := 76) (lj := fun s0_76 => [(0, xA a0), (1, xI v1), (2, xI v2), (3, xI v3), (5, xI v5)]) (sj := fun s0_76 => [xI s0_76]) (fun s0_76 M => ?_) (fun j76 hj76 => ?_)
        · refine v_istore (lz := fun z => [(4, xI z), (0, xA a0), (1, xI v1), (2, xI v2), (3, xI v3), (5, xI v5)]) d_M_lyndon_76 (Nat.le_of_ble_eq_true rfl) (fun _ => rfl) (fun v4_76 => ?_)
          refine v_iinc (lz := fun z => [(5, xI z), (4, xI v4_76), (0, xA a0), (1, xI v1), (2, xI v2), (3, xI v3)]) d_M_lyndon_78 5 rfl (Nat.le_of_ble_eq_true rfl) (fun _ => rfl) (fun v5_78 => ?_)
          refine v_goto d_M_lyndon_81 ?_
          refine v_sub (ls' := [(0, xA a0), (1, xI v1), (2, xI v2), (3, xI v3), (4, xI v4_76), (5, xI v5_78)]) [2, 3, 4, 5, 1, 0] rfl ?_
          exact ih v4_76 v5_78 M
        refine v_icne d_M_lyndon_65 ?_ ?_
        · refine v_iloadn d_M_lyndon_75 rfl 3 rfl ?_
          refine v_sub (ls' := [(0, xA a0), (1, xI v1), (2, xI v2), (3, xI v3), (5, xI v5)]) [0, 1, 2, 3, 5] rfl ?_
          exact hj76 v3 M
        · refine v_iload d_M_lyndon_68 4 rfl ?_
          refine v_iconst d_M_lyndon_70 (by decide) ?_
          refine v_iadd d_M_lyndon_71 (fun x71 => ?_)
          refine v_goto d_M_lyndon_72 ?_
          refine v_sub (ls' := [(0, xA a0), (1, xI v1), (2, xI v2), (3, xI v3), (5, xI v5)]) [0, 1, 2, 3, 5] rfl ?_
          exact hj76 x71 M
set_option maxHeartbeats 4000000 in
set_option maxRecDepth 100000 in
theorem V_lp_M_lyndon_91 {l : Launch} {w : vm_W} (hfl : l.stackTraces = false) (kx116 : Int → Int → mm_T → Option (Int × mm_T)) (v1 : Int) (v4 : Int) (v6 : Int) {a0 : Nat} (hkx116 : ∀ (v2_e : Int) (v3_e : Int) (M : mm_T), V_ l w q_M_lyndon 1 ex_I 116 [(0, xA a0), (1, xI v1), (2, xI v2_e), (3, xI v3_e)] [] M (kx116 v2_e v3_e M)) : ∀ (f : Nat) (v2 : Int) (v3 : Int) (M : mm_T), V_ l w q_M_lyndon 1 ex_I 91 [(0, xA a0), (1, xI v1), (2, xI v2), (3, xI v3), (4, xI v4), (6, xI v6)] [] M (lp_M_lyndon_91 kx116 v1 v4 v6 f v2 v3 M) := by
  intro f
  induction f with
  | zero => intros; exact V_.none
  | succ f ih =>
    intro v2 v3 M
    unfold lp_M_lyndon_91
    refine v_iloadn d_M_lyndon_91 rfl 3 rfl ?_
    refine v_iload d_M_lyndon_92 4 rfl ?_
    refine v_icgt d_M_lyndon_94 ?_ ?_
    · refine v_sub (ls' := [(0, xA a0), (1, xI v1), (2, xI v2), (3, xI v3)]) [0, 1, 2, 3] rfl ?_
      exact hkx116 v2 v3 M
    · refine v_iloadn d_M_lyndon_97 rfl 2 rfl ?_
      refine v_iloadn d_M_lyndon_98 rfl 1 rfl ?_
      refine v_icne d_M_lyndon_99 ?_ ?_
      · refine v_iinc (lz := fun z => [(2, xI z), (0, xA a0), (1, xI v1), (3, xI v3), (4, xI v4), (6, xI v6)]) d_M_lyndon_105 2 rfl (Nat.le_of_ble_eq_true rfl) (fun _ => rfl) (fun v2_105 => ?_)
        refine v_iloadn d_M_lyndon_108 rfl 3 rfl ?_
        refine v_iload d_M_lyndon_109 5 rfl ?_
        refine v_iadd d_M_lyndon_111 (fun x111 => ?_)
        refine v_istoren (lz := fun z => [(3, xI z), (2, xI v2_105), (0, xA a0), (1, xI v1), (4, xI v4), (6, xI v6)]) d_M_lyndon_112 rfl (Nat.le_of_ble_eq_true rfl) (fun _ => rfl) (fun v3_112 => ?_)
        refine v_goto d_M_lyndon_113 ?_
        refine v_sub (ls' := [(0, xA a0), (1, xI v1), (2, xI v2_105), (3, xI v3_112), (4, xI v4), (6, xI v6)]) [2, 3, 1, 0, 4, 5] rfl ?_
        exact ih v2_105 v3_112 M
      · refine v_iload d_M_lyndon_102 5 rfl ?_
        exact v_ret d_M_lyndon_104 rfl
set_option maxHeartbeats 4000000 in
set_option maxRecDepth 100000 in
theorem V_lp_M_lyndon_9 {l : Launch} {w : vm_W} (hfl : l.stackTraces = false) (kx119 : Int → mm_T → Option (Int × mm_T)) (a0 : Nat) (v1 : Int) (hkx119 : ∀ (v2_e : Int) (M : mm_T), V_ l w q_M_lyndon 1 ex_I 119 [(1, xI v1), (2, xI v2_e)] [] M (kx119 v2_e M)) : ∀ (f : Nat) (v2 : Int) (v3 : Int) (M : mm_T), V_ l w q_M_lyndon 1 ex_I 9 [(0, xA a0), (1, xI v1), (2, xI v2), (3, xI v3)] [] M (lp_M_lyndon_9 kx119 a0 v1 f v2 v3 M) := by
  intro f
  induction f with
  | zero => intros; exact V_.none
  | succ f ih =>
    intro v2 v3 M
    unfold lp_M_lyndon_9
    refine v_iloadn d_M_lyndon_9 rfl 3 rfl ?_
    refine v_aloadn d_M_lyndon_10 rfl 0 rfl ?_
    refine v_gI d_M_lyndon_11 fl_M_184 rfl (fun x11 => ?_)
    refine v_icge d_M_lyndon_14 ?_ ?_
    · refine v_sub (ls' := [(1, xI v1), (2, xI v2)]) [1, 2] rfl ?_
      exact hkx119 v2 M
    · refine v_iloadn d_M_lyndon_17 rfl 3 rfl ?_
      refine v_istore (lz := fun z => [(4, xI z), (0, xA a0), (1, xI v1), (2, xI v2), (3, xI v3)]) d_M_lyndon_18 (Nat.le_of_ble_eq_true rfl) (fun _ => rfl) (fun v4_18 => ?_)
      refine v_iloadn d_M_lyndon_20 rfl 4 rfl ?_
      refine v_iconst d_M_lyndon_21 (by decide) ?_
      refine v_iadd d_M_lyndon_22 (fun x22 => ?_)
      refine v_istore (lz := fun z => [(5, xI z), (4, xI v4_18), (0, xA a0), (1, xI v1), (2, xI v2), (3, xI v3)]) d_M_lyndon_23 (Nat.le_of_ble_eq_true rfl) (fun _ => rfl) (fun v5_23 => ?_)
      refine v_sub (ls' := [(0, xA a0), (1, xI v1), (2, xI v2), (3, xI v3), (4, xI v4_18), (5, xI v5_23)]) [2, 3, 4, 5, 1, 0] rfl ?_
      refine V_lp_M_lyndon_25 hfl _ _ _ (fun v4_84 v5_84 M => ?_) _ _ _ _
      · refine v_iload d_M_lyndon_84 5 rfl ?_
        refine v_iload d_M_lyndon_86 4 rfl ?_
        refine v_isub d_M_lyndon_88 (fun x88 => ?_)
        refine v_istore (lz := fun z => [(6, xI z), (0, xA a0), (1, xI v1), (2, xI v2), (3, xI v3), (4, xI v4_84), (5, xI v5_84)]) d_M_lyndon_89 (Nat.le_of_ble_eq_true rfl) (fun _ => rfl) (fun v6_89 => ?_)
        refine v_sub (ls' := [(0, xA a0), (1, xI v1), (2, xI v2), (3, xI v3), (4, xI v4_84), (6, xI v6_89)]) [1, 2, 3, 4, 5, 0] rfl ?_
        refine V_lp_M_lyndon_91 hfl _ _ _ _ (fun v2_116 v3_116 M => ?_) _ _ _ _
        · refine v_goto d_M_lyndon_116 ?_
          exact ih v2_116 v3_116 M
set_option maxHeartbeats 4000000 in
set_option maxRecDepth 100000 in
theorem c_M_lyndon (l : Launch) (hfl : l.stackTraces = false) (a0 : Nat) (v1 : Int) (M : mm_T) : vm_Con l yX11_lyndon (.code yX11_lyndon cX11_lyndon 7 (some .int)) 1 ex_I [xA a0, xI v1] M (k_M_lyndon a0 v1 M) := by
  refine vm_con (y := q_M_lyndon) hfl (by decide +kernel) rfl (fun h => by cases h) (Nat.le_of_ble_eq_true rfl) rfl (fun _ _ _ => rfl) (fun r E h => by cases h) (fun w => ?_)
  show V_ l w q_M_lyndon 1 ex_I 0 [(0, xA a0), (1, xI v1)] [] M (k_M_lyndon a0 v1 M)
  unfold k_M_lyndon
  refine v_aloadn d_M_lyndon_0 rfl 0 rfl ?_
  refine v_iconst d_M_lyndon_1 (by decide) ?_
  refine v_pI d_M_lyndon_2 fl_M_3 (Or.inl rfl) rfl rfl (fun M => ?_)
  refine v_iconst d_M_lyndon_5 (by decide) ?_
  refine v_istoren (lz := fun z => [(2, xI z), (0, xA a0), (1, xI v1)]) d_M_lyndon_6 rfl (Nat.le_of_ble_eq_true rfl) (fun _ => rfl) (fun v2_6 => ?_)
  refine v_iconst d_M_lyndon_7 (by decide) ?_
  refine v_istoren (lz := fun z => [(3, xI z), (2, xI v2_6), (0, xA a0), (1, xI v1)]) d_M_lyndon_8 rfl (Nat.le_of_ble_eq_true rfl) (fun _ => rfl) (fun v3_8 => ?_)
  refine v_sub (ls' := [(0, xA a0), (1, xI v1), (2, xI v2_6), (3, xI v3_8)]) [2, 3, 1, 0] rfl ?_
  refine V_lp_M_lyndon_9 hfl _ _ _ (fun v2_119 M => ?_) _ _ _ _
  · refine v_iloadn d_M_lyndon_119 rfl 0 rfl ?_
    refine v_iconst d_M_lyndon_120 (by decide) ?_
    refine v_icne d_M_lyndon_121 ?_ ?_
    · refine v_iconst d_M_lyndon_128 (by decide) ?_
      exact v_ret d_M_lyndon_129 rfl
    · refine v_iloadn d_M_lyndon_124 rfl 1 rfl ?_
      refine v_goto d_M_lyndon_125 ?_
      exact v_ret d_M_lyndon_129 rfl
set_option maxHeartbeats 4000000 in
set_option maxRecDepth 100000 in
theorem V_lp_M_turned_30 {l : Launch} {w : vm_W} (hfl : l.stackTraces = false) (kx73 : Int → mm_T → Option (Int × mm_T)) (a0 : Nat) (v1 : Int) (v2 : Int) (hkx73 : ∀ (v3_e : Int) (M : mm_T), V_ l w q_M_turned 1 ex_I 73 [(0, xA a0), (1, xI v1), (2, xI v2), (3, xI v3_e)] [] M (kx73 v3_e M)) : ∀ (f : Nat) (v3 : Int) (M : mm_T), V_ l w q_M_turned 1 ex_I 30 [(0, xA a0), (1, xI v1), (2, xI v2), (3, xI v3)] [] M (lp_M_turned_30 kx73 a0 v1 v2 f v3 M) := by
  intro f
  induction f with
  | zero => intros; exact V_.none
  | succ f ih =>
    intro v3 M
    unfold lp_M_turned_30
    refine v_iloadn d_M_turned_30 rfl 3 rfl ?_
    refine v_aloadn d_M_turned_31 rfl 0 rfl ?_
    refine v_gI d_M_turned_32 fl_M_184 rfl (fun x32 => ?_)
    refine v_icge d_M_turned_35 ?_ ?_
    · exact hkx73 v3 M
    · refine v_aloadn d_M_turned_38 rfl 0 rfl ?_
      refine v_gR d_M_turned_39 fl_M_83 rfl (fun r39 => ?_)
      refine v_iloadn d_M_turned_42 rfl 2 rfl ?_
      refine v_iloadn d_M_turned_43 rfl 3 rfl ?_
      refine v_iadd d_M_turned_44 (fun x44 => ?_)
      refine v_aloadn d_M_turned_45 rfl 0 rfl ?_
      refine v_gI d_M_turned_46 fl_M_184 rfl (fun x46 => ?_)
      refine v_irem d_M_turned_49 (fun x49 => ?_)
      refine v_iald d_M_turned_50 (fun x50 => ?_)
      refine v_aloadn d_M_turned_51 rfl 0 rfl ?_
      refine v_gR d_M_turned_52 fl_M_83 rfl (fun r52 => ?_)
      refine v_iloadn d_M_turned_55 rfl 1 rfl ?_
      refine v_iloadn d_M_turned_56 rfl 3 rfl ?_
      refine v_iadd d_M_turned_57 (fun x57 => ?_)
      refine v_aloadn d_M_turned_58 rfl 0 rfl ?_
      refine v_gI d_M_turned_59 fl_M_184 rfl (fun x59 => ?_)
      refine v_irem d_M_turned_62 (fun x62 => ?_)
      refine v_iald d_M_turned_63 (fun x63 => ?_)
      refine v_icne d_M_turned_64 ?_ ?_
      · exact hkx73 v3 M
      · refine v_iinc (lz := fun z => [(3, xI z), (0, xA a0), (1, xI v1), (2, xI v2)]) d_M_turned_67 3 rfl (Nat.le_of_ble_eq_true rfl) (fun _ => rfl) (fun v3_67 => ?_)
        refine v_goto d_M_turned_70 ?_
        refine v_sub (ls' := [(0, xA a0), (1, xI v1), (2, xI v2), (3, xI v3_67)]) [1, 2, 3, 0] rfl ?_
        exact ih v3_67 M
set_option maxHeartbeats 4000000 in
set_option maxRecDepth 100000 in
theorem V_lp_M_turned_20 {l : Launch} {w : vm_W} (hfl : l.stackTraces = false) (kx118 : Int → mm_T → Option (Int × mm_T)) (a0 : Nat) (hkx118 : ∀ (v1_e : Int) (M : mm_T), V_ l w q_M_turned 1 ex_I 118 [(1, xI v1_e)] [] M (kx118 v1_e M)) : ∀ (f : Nat) (v1 : Int) (v2 : Int) (M : mm_T), V_ l w q_M_turned 1 ex_I 20 [(0, xA a0), (1, xI v1), (2, xI v2)] [] M (lp_M_turned_20 kx118 a0 f v1 v2 M) := by
  intro f
  induction f with
  | zero => intros; exact V_.none
  | succ f ih =>
    intro v1 v2 M
    unfold lp_M_turned_20
    refine v_iloadn d_M_turned_20 rfl 2 rfl ?_
    refine v_aloadn d_M_turned_21 rfl 0 rfl ?_
    refine v_gI d_M_turned_22 fl_M_184 rfl (fun x22 => ?_)
    refine v_icge d_M_turned_25 ?_ ?_
    · refine v_sub (ls' := [(1, xI v1)]) [1] rfl ?_
      exact hkx118 v1 M
    · refine v_iconst d_M_turned_28 (by decide) ?_
      refine v_istoren (lz := fun z => [(3, xI z), (0, xA a0), (1, xI v1), (2, xI v2)]) d_M_turned_29 rfl (Nat.le_of_ble_eq_true rfl) (fun _ => rfl) (fun v3_29 => ?_)
      refine v_sub (ls' := [(0, xA a0), (1, xI v1), (2, xI v2), (3, xI v3_29)]) [1, 2, 3, 0] rfl ?_
      refine V_lp_M_turned_30 hfl _ _ _ _ (fun v3_73 M => ?_) _ _ _
      · refine v_iloadn d_M_turned_73 rfl 3 rfl ?_
        refine v_aloadn d_M_turned_74 rfl 0 rfl ?_
        refine v_gI d_M_turned_75 fl_M_184 rfl (fun x75 => ?_)
        refine v_join1 (pj := 112) (lj := fun v1_112 => [(0, xA a0), (1, xI v1_112), (2, xI v2)]) (sj := fun v1_112 => []) (fun v1_112 M => ?_) (fun j112 hj112 => ?_)
        · refine v_iinc (lz := fun z => [(2, xI z), (0, xA a0), (1, xI v1_112)]) d_M_turned_112 2 rfl (Nat.le_of_ble_eq_true rfl) (fun _ => rfl) (fun v2_112 => ?_)
          refine v_goto d_M_turned_115 ?_
          refine v_sub (ls' := [(0, xA a0), (1, xI v1_112), (2, xI v2_112)]) [1, 2, 0] rfl ?_
          exact ih v1_112 v2_112 M
        refine v_icge d_M_turned_78 ?_ ?_
        · refine v_sub (ls' := [(0, xA a0), (1, xI v1), (2, xI v2)]) [0, 1, 2] rfl ?_
          exact hj112 v1 M
        · refine v_aloadn d_M_turned_81 rfl 0 rfl ?_
          refine v_gR d_M_turned_82 fl_M_83 rfl (fun r82 => ?_)
          refine v_iloadn d_M_turned_85 rfl 2 rfl ?_
          refine v_iloadn d_M_turned_86 rfl 3 rfl ?_
          refine v_iadd d_M_turned_87 (fun x87 => ?_)
          refine v_aloadn d_M_turned_88 rfl 0 rfl ?_
          refine v_gI d_M_turned_89 fl_M_184 rfl (fun x89 => ?_)
          refine v_irem d_M_turned_92 (fun x92 => ?_)
          refine v_iald d_M_turned_93 (fun x93 => ?_)
          refine v_aloadn d_M_turned_94 rfl 0 rfl ?_
          refine v_gR d_M_turned_95 fl_M_83 rfl (fun r95 => ?_)
          refine v_iloadn d_M_turned_98 rfl 1 rfl ?_
          refine v_iloadn d_M_turned_99 rfl 3 rfl ?_
          refine v_iadd d_M_turned_100 (fun x100 => ?_)
          refine v_aloadn d_M_turned_101 rfl 0 rfl ?_
          refine v_gI d_M_turned_102 fl_M_184 rfl (fun x102 => ?_)
          refine v_irem d_M_turned_105 (fun x105 => ?_)
          refine v_iald d_M_turned_106 (fun x106 => ?_)
          refine v_icge d_M_turned_107 ?_ ?_
          · refine v_sub (ls' := [(0, xA a0), (1, xI v1), (2, xI v2)]) [0, 1, 2] rfl ?_
            exact hj112 v1 M
          · refine v_iloadn d_M_turned_110 rfl 2 rfl ?_
            refine v_istoren (lz := fun z => [(1, xI z), (0, xA a0), (2, xI v2), (3, xI v3_73)]) d_M_turned_111 rfl (Nat.le_of_ble_eq_true rfl) (fun _ => rfl) (fun v1_111 => ?_)
            refine v_sub (ls' := [(0, xA a0), (1, xI v1_111), (2, xI v2)]) [1, 0, 2] rfl ?_
            exact hj112 v1_111 M
set_option maxHeartbeats 4000000 in
set_option maxRecDepth 100000 in
theorem c_M_turned (l : Launch) (hfl : l.stackTraces = false) (a0 : Nat) (M : mm_T) : vm_Con l yX11_turned (.code yX11_turned cX11_turned 4 (some .int)) 1 ex_I [xA a0] M (k_M_turned a0 M) := by
  refine vm_con (y := q_M_turned) hfl (by decide +kernel) rfl (fun h => by cases h) (Nat.le_of_ble_eq_true rfl) rfl (fun _ _ _ => rfl) (fun r E h => by cases h) (fun w => ?_)
  show V_ l w q_M_turned 1 ex_I 0 [(0, xA a0)] [] M (k_M_turned a0 M)
  unfold k_M_turned
  refine v_aloadn d_M_turned_0 rfl 0 rfl ?_
  refine v_iconst d_M_turned_1 (by decide) ?_
  refine v_pI d_M_turned_2 fl_M_3 (Or.inl rfl) rfl rfl (fun M => ?_)
  refine v_aloadn d_M_turned_5 rfl 0 rfl ?_
  refine v_gI d_M_turned_6 fl_M_184 rfl (fun x6 => ?_)
  refine v_join1 (pj := 17) (lj := fun s0_17 => [(0, xA a0)]) (sj := fun s0_17 => [xI s0_17]) (fun s0_17 M => ?_) (fun j17 hj17 => ?_)
  · refine v_istoren (lz := fun z => [(1, xI z), (0, xA a0)]) d_M_turned_17 rfl (Nat.le_of_ble_eq_true rfl) (fun _ => rfl) (fun v1_17 => ?_)
    refine v_iconst d_M_turned_18 (by decide) ?_
    refine v_istoren (lz := fun z => [(2, xI z), (1, xI v1_17), (0, xA a0)]) d_M_turned_19 rfl (Nat.le_of_ble_eq_true rfl) (fun _ => rfl) (fun v2_19 => ?_)
    refine v_sub (ls' := [(0, xA a0), (1, xI v1_17), (2, xI v2_19)]) [2, 1, 0] rfl ?_
    refine V_lp_M_turned_20 hfl _ _ (fun v1_118 M => ?_) _ _ _ _
    · refine v_iloadn d_M_turned_118 rfl 0 rfl ?_
      exact v_ret d_M_turned_119 rfl
  refine v_ifne d_M_turned_9 ?_ ?_
  · refine v_iconst d_M_turned_16 (by decide) ?_
    exact hj17 0 M
  · refine v_iconst d_M_turned_12 (by decide) ?_
    refine v_goto d_M_turned_13 ?_
    exact hj17 (-1) M
set_option maxHeartbeats 4000000 in
set_option maxRecDepth 100000 in
theorem V_lp_M_local_56 {l : Launch} {w : vm_W} (hfl : l.stackTraces = false) (kx108 : Int → mm_T → Option (Int × mm_T)) (a0 : Nat) (v1 : Int) (v2 : Int) (hkx108 : ∀ (v3_e : Int) (M : mm_T), V_ l w q_M_local 2 ex_I 108 [(0, xA a0), (1, xI v1), (2, xI v2), (3, xI v3_e)] [] M (kx108 v3_e M)) : ∀ (f : Nat) (v3 : Int) (v4 : Int) (M : mm_T), V_ l w q_M_local 2 ex_I 56 [(0, xA a0), (1, xI v1), (2, xI v2), (3, xI v3), (4, xI v4)] [] M (lp_M_local_56 kx108 a0 v1 v2 f v3 v4 M) := by
  intro f
  induction f with
  | zero => intros; exact V_.none
  | succ f ih =>
    intro v3 v4 M
    unfold lp_M_local_56
    refine v_iload d_M_local_56 4 rfl ?_
    refine v_iloadn d_M_local_58 rfl 1 rfl ?_
    refine v_icge d_M_local_59 ?_ ?_
    · refine v_sub (ls' := [(0, xA a0), (1, xI v1), (2, xI v2), (3, xI v3)]) [0, 1, 2, 3] rfl ?_
      exact hkx108 v3 M
    · refine v_iload d_M_local_62 4 rfl ?_
      refine v_iloadn d_M_local_64 rfl 2 rfl ?_
      refine v_iadd d_M_local_65 (fun x65 => ?_)
      refine v_aloadn d_M_local_66 rfl 0 rfl ?_
      refine v_gI d_M_local_67 fl_M_184 rfl (fun x67 => ?_)
      refine v_icge d_M_local_70 ?_ ?_
      · refine v_sub (ls' := [(0, xA a0), (1, xI v1), (2, xI v2), (3, xI v3)]) [0, 1, 2, 3] rfl ?_
        exact hkx108 v3 M
      · refine v_iloadn d_M_local_73 rfl 3 rfl ?_
        refine v_join1 (pj := 101) (lj := fun s0_101 => [(0, xA a0), (1, xI v1), (2, xI v2), (4, xI v4)]) (sj := fun s0_101 => [xI s0_101]) (fun s0_101 M => ?_) (fun j101 hj101 => ?_)
        · refine v_istoren (lz := fun z => [(3, xI z), (0, xA a0), (1, xI v1), (2, xI v2), (4, xI v4)]) d_M_local_101 rfl (Nat.le_of_ble_eq_true rfl) (fun _ => rfl) (fun v3_101 => ?_)
          refine v_iinc (lz := fun z => [(4, xI z), (3, xI v3_101), (0, xA a0), (1, xI v1), (2, xI v2)]) d_M_local_102 4 rfl (Nat.le_of_ble_eq_true rfl) (fun _ => rfl) (fun v4_102 => ?_)
          refine v_goto d_M_local_105 ?_
          refine v_sub (ls' := [(0, xA a0), (1, xI v1), (2, xI v2), (3, xI v3_101), (4, xI v4_102)]) [2, 3, 4, 1, 0] rfl ?_
          exact ih v3_101 v4_102 M
        refine v_join0 (pj := 100) (lj := [(0, xA a0), (1, xI v1), (2, xI v2), (4, xI v4)]) (sj := []) (fun M => ?_) (fun j100 hj100 => ?_)
        · refine v_iconst d_M_local_100 (by decide) ?_
          exact hj101 0 M
        refine v_ifeq d_M_local_74 ?_ ?_
        · refine v_sub (ls' := [(0, xA a0), (1, xI v1), (2, xI v2), (4, xI v4)]) [0, 1, 2, 4] rfl ?_
          exact hj100 M
        · refine v_aloadn d_M_local_77 rfl 0 rfl ?_
          refine v_gR d_M_local_78 fl_M_83 rfl (fun r78 => ?_)
          refine v_iload d_M_local_81 4 rfl ?_
          refine v_iald d_M_local_83 (fun x83 => ?_)
          refine v_aloadn d_M_local_84 rfl 0 rfl ?_
          refine v_gR d_M_local_85 fl_M_83 rfl (fun r85 => ?_)
          refine v_iload d_M_local_88 4 rfl ?_
          refine v_iloadn d_M_local_90 rfl 2 rfl ?_
          refine v_iadd d_M_local_91 (fun x91 => ?_)
          refine v_iald d_M_local_92 (fun x92 => ?_)
          refine v_icne d_M_local_93 ?_ ?_
          · refine v_sub (ls' := [(0, xA a0), (1, xI v1), (2, xI v2), (4, xI v4)]) [0, 1, 2, 4] rfl ?_
            exact hj100 M
          · refine v_iconst d_M_local_96 (by decide) ?_
            refine v_goto d_M_local_97 ?_
            refine v_sub (ls' := [(0, xA a0), (1, xI v1), (2, xI v2), (4, xI v4)]) [0, 1, 2, 4] rfl ?_
            exact hj101 1 M
set_option maxHeartbeats 4000000 in
set_option maxRecDepth 100000 in
theorem V_lp_M_local_38 {l : Launch} {w : vm_W} (hfl : l.stackTraces = false) (kx111 : Int → mm_T → Option (Int × mm_T)) (a0 : Nat) (v1 : Int) (hkx111 : ∀ (v2_e : Int) (M : mm_T), V_ l w q_M_local 2 ex_I 111 [(2, xI v2_e)] [] M (kx111 v2_e M)) : ∀ (f : Nat) (v2 : Int) (v3 : Int) (M : mm_T), V_ l w q_M_local 2 ex_I 38 [(0, xA a0), (1, xI v1), (2, xI v2), (3, xI v3)] [] M (lp_M_local_38 kx111 a0 v1 f v2 v3 M) := by
  intro f
  induction f with
  | zero => intros; exact V_.none
  | succ f ih =>
    intro v2 v3 M
    unfold lp_M_local_38
    refine v_iloadn d_M_local_38 rfl 3 rfl ?_
    refine v_ifne d_M_local_39 ?_ ?_
    · refine v_sub (ls' := [(2, xI v2)]) [2] rfl ?_
      exact hkx111 v2 M
    · refine v_iinc (lz := fun z => [(2, xI z), (0, xA a0), (1, xI v1), (3, xI v3)]) d_M_local_42 2 rfl (Nat.le_of_ble_eq_true rfl) (fun _ => rfl) (fun v2_42 => ?_)
      refine v_iconst d_M_local_45 (by decide) ?_
      refine v_istoren (lz := fun z => [(3, xI z), (2, xI v2_42), (0, xA a0), (1, xI v1)]) d_M_local_46 rfl (Nat.le_of_ble_eq_true rfl) (fun _ => rfl) (fun v3_46 => ?_)
      refine v_iconst d_M_local_47 (by decide) ?_
      refine v_iloadn d_M_local_48 rfl 3 rfl ?_
      refine v_iloadn d_M_local_49 rfl 1 rfl ?_
      refine v_isub d_M_local_50 (fun x50 => ?_)
      refine v_mmax d_M_local_51 gw_1718 gw_466 gw_131 gw_467 (by first | decide | omega) (Nat.le_of_ble_eq_true rfl) ?_
      refine v_istore (lz := fun z => [(4, xI z), (3, xI v3_46), (2, xI v2_42), (0, xA a0), (1, xI v1)]) d_M_local_54 (Nat.le_of_ble_eq_true rfl) (fun _ => rfl) (fun v4_54 => ?_)
      refine v_sub (ls' := [(0, xA a0), (1, xI v1), (2, xI v2_42), (3, xI v3_46), (4, xI v4_54)]) [3, 4, 2, 1, 0] rfl ?_
      refine V_lp_M_local_56 hfl _ _ _ _ (fun v3_108 M => ?_) _ _ _ _
      · refine v_goto d_M_local_108 ?_
        exact ih v2_42 v3_108 M
set_option maxHeartbeats 4000000 in
set_option maxRecDepth 100000 in
theorem c_M_local (l : Launch) (hfl : l.stackTraces = false) (a0 : Nat) (v1 : Int) (M : mm_T) : vm_Con l yX11_local (.code yX11_local cX11_local 5 (some .int)) 2 ex_I [xA a0, xI v1] M (k_M_local a0 v1 M) := by
  refine vm_con (y := q_M_local) hfl (by decide +kernel) rfl (fun h => by cases h) (Nat.le_of_ble_eq_true rfl) rfl (fun _ _ _ => rfl) (fun r E h => by cases h) (fun w => ?_)
  show V_ l w q_M_local 2 ex_I 0 [(0, xA a0), (1, xI v1)] [] M (k_M_local a0 v1 M)
  unfold k_M_local
  refine v_aloadn d_M_local_0 rfl 0 rfl ?_
  refine v_iconst d_M_local_1 (by decide) ?_
  refine v_pI d_M_local_2 fl_M_3 (Or.inl rfl) rfl rfl (fun M => ?_)
  refine v_aloadn d_M_local_5 rfl 0 rfl ?_
  refine v_iloadn d_M_local_6 rfl 1 rfl ?_
  refine v_iconst d_M_local_7 (by decide) ?_
  refine v_aloadn d_M_local_8 rfl 0 rfl ?_
  refine v_gI d_M_local_9 fl_M_184 rfl (fun x9 => ?_)
  refine v_iconst d_M_local_12 (by decide) ?_
  refine v_isub d_M_local_13 (fun x13 => ?_)
  refine v_cSi d_M_local_14 ml_M_65 (c_M_in l hfl v1 1 x13 M) (fun _ => rfl) (by decide) (by decide) (as := [xI v1, xI 1, xI x13]) (st1 := [xA a0]) rfl rfl (Nat.le_of_ble_eq_true rfl) (fun c14 M => ?_)
  refine v_join2 (pj := 25) (lj := fun sa0_25 s1_25 => [(0, xA a0), (1, xI v1)]) (sj := fun sa0_25 s1_25 => [xI s1_25, xA sa0_25]) (fun sa0_25 s1_25 M => ?_) (fun j25 hj25 => ?_)
  · refine v_iconst d_M_local_25 (by decide) ?_
    refine v_cVi d_M_local_26 ml_M_180 (q := (RX11, TX11, 32)) rfl (c_M_throwsIf l hfl sa0_25 s1_25 1 M) (fun _ => rfl) (by decide) (by decide) (as := [xI s1_25, xI 1]) (st1 := []) rfl rfl (Nat.le_of_ble_eq_true rfl) (fun c26 M => ?_)
    refine v_ifeq d_M_local_29 ?_ ?_
    · refine v_iconst d_M_local_34 (by decide) ?_
      refine v_istoren (lz := fun z => [(2, xI z), (0, xA a0), (1, xI v1)]) d_M_local_35 rfl (Nat.le_of_ble_eq_true rfl) (fun _ => rfl) (fun v2_35 => ?_)
      refine v_iconst d_M_local_36 (by decide) ?_
      refine v_istoren (lz := fun z => [(3, xI z), (2, xI v2_35), (0, xA a0), (1, xI v1)]) d_M_local_37 rfl (Nat.le_of_ble_eq_true rfl) (fun _ => rfl) (fun v3_37 => ?_)
      refine v_sub (ls' := [(0, xA a0), (1, xI v1), (2, xI v2_35), (3, xI v3_37)]) [2, 3, 1, 0] rfl ?_
      refine V_lp_M_local_38 hfl _ _ _ (fun v2_111 M => ?_) _ _ _ _
      · refine v_iloadn d_M_local_111 rfl 0 rfl ?_
        exact v_ret d_M_local_112 rfl
    · refine v_iconst d_M_local_32 (by decide) ?_
      exact v_ret d_M_local_33 rfl
  refine v_ifne d_M_local_17 ?_ ?_
  · refine v_iconst d_M_local_24 (by decide) ?_
    exact hj25 a0 0 M
  · refine v_iconst d_M_local_20 (by decide) ?_
    refine v_goto d_M_local_21 ?_
    exact hj25 a0 1 M
set_option maxHeartbeats 4000000 in
set_option maxRecDepth 100000 in
theorem c_M_imageOf (l : Launch) (hfl : l.stackTraces = false) (a0 : Nat) (v1 : Int) (v2 : Int) (v3 : Int) (M : mm_T) : vm_Con l yX11_imageOf (.code yX11_imageOf cX11_imageOf 4 (some .int)) 1 ex_I [xA a0, xI v1, xI v2, xI v3] M (k_M_imageOf a0 v1 v2 v3 M) := by
  refine vm_con (y := q_M_imageOf) hfl (by decide +kernel) rfl (fun h => by cases h) (Nat.le_of_ble_eq_true rfl) rfl (fun _ _ _ => rfl) (fun r E h => by cases h) (fun w => ?_)
  show V_ l w q_M_imageOf 1 ex_I 0 [(0, xA a0), (1, xI v1), (2, xI v2), (3, xI v3)] [] M (k_M_imageOf a0 v1 v2 v3 M)
  unfold k_M_imageOf
  refine v_aloadn d_M_imageOf_0 rfl 0 rfl ?_
  refine v_gR d_M_imageOf_1 fl_M_77 rfl (fun r1 => ?_)
  refine v_bipush d_M_imageOf_4 (by decide) ?_
  refine v_bipush d_M_imageOf_6 (by decide) ?_
  refine v_iconst d_M_imageOf_8 (by decide) ?_
  refine v_iloadn d_M_imageOf_9 rfl 1 rfl ?_
  refine v_imul d_M_imageOf_10 (fun x10 => ?_)
  refine v_iloadn d_M_imageOf_11 rfl 2 rfl ?_
  refine v_iadd d_M_imageOf_12 (fun x12 => ?_)
  refine v_imul d_M_imageOf_13 (fun x13 => ?_)
  refine v_iadd d_M_imageOf_14 (fun x14 => ?_)
  refine v_iloadn d_M_imageOf_15 rfl 3 rfl ?_
  refine v_iadd d_M_imageOf_16 (fun x16 => ?_)
  refine v_iald d_M_imageOf_17 (fun x17 => ?_)
  exact v_ret d_M_imageOf_18 rfl
set_option maxHeartbeats 4000000 in
set_option maxRecDepth 100000 in
theorem c_M_longOf (l : Launch) (hfl : l.stackTraces = false) (a0 : Nat) (v1 : Int) (v2 : Int) (M : mm_T) : vm_Con l yX11_longOf (.code yX11_longOf cX11_longOf 3 (some .int)) 1 ex_I [xA a0, xI v1, xI v2] M (k_M_longOf a0 v1 v2 M) := by
  refine vm_con (y := q_M_longOf) hfl (by decide +kernel) rfl (fun h => by cases h) (Nat.le_of_ble_eq_true rfl) rfl (fun _ _ _ => rfl) (fun r E h => by cases h) (fun w => ?_)
  show V_ l w q_M_longOf 1 ex_I 0 [(0, xA a0), (1, xI v1), (2, xI v2)] [] M (k_M_longOf a0 v1 v2 M)
  unfold k_M_longOf
  refine v_aloadn d_M_longOf_0 rfl 0 rfl ?_
  refine v_gR d_M_longOf_1 fl_M_77 rfl (fun r1 => ?_)
  refine v_bipush d_M_longOf_4 (by decide) ?_
  refine v_iconst d_M_longOf_6 (by decide) ?_
  refine v_iloadn d_M_longOf_7 rfl 1 rfl ?_
  refine v_imul d_M_longOf_8 (fun x8 => ?_)
  refine v_iadd d_M_longOf_9 (fun x9 => ?_)
  refine v_iloadn d_M_longOf_10 rfl 2 rfl ?_
  refine v_iadd d_M_longOf_11 (fun x11 => ?_)
  refine v_iald d_M_longOf_12 (fun x12 => ?_)
  exact v_ret d_M_longOf_13 rfl
set_option maxHeartbeats 4000000 in
set_option maxRecDepth 100000 in
theorem V_lp_M_images_15 {l : Launch} {w : vm_W} (hfl : l.stackTraces = false) (kx56 : Int → mm_T → Option (Int × mm_T)) (a0 : Nat) (a1 : Nat) (v3 : Int) (v5 : Int) {v2 : Int} (hkx56 : ∀ (v4_e : Int) (M : mm_T), V_ l w q_M_images 2 ex_I 56 [(0, xA a0), (1, xA a1), (2, xI v2), (3, xI v3), (4, xI v4_e), (5, xI v5)] [] M (kx56 v4_e M)) : ∀ (f : Nat) (v4 : Int) (v6 : Int) (M : mm_T), V_ l w q_M_images 2 ex_I 15 [(0, xA a0), (1, xA a1), (2, xI v2), (3, xI v3), (4, xI v4), (5, xI v5), (6, xI v6)] [] M (lp_M_images_15 kx56 a0 a1 v3 v5 f v4 v6 M) := by
  intro f
  induction f with
  | zero => intros; exact V_.none
  | succ f ih =>
    intro v4 v6 M
    unfold lp_M_images_15
    refine v_iload d_M_images_15 6 rfl ?_
    refine v_aloadn d_M_images_17 rfl 0 rfl ?_
    refine v_iloadn d_M_images_18 rfl 3 rfl ?_
    refine v_aloadn d_M_images_19 rfl 1 rfl ?_
    refine v_iload d_M_images_20 5 rfl ?_
    refine v_iald d_M_images_22 (fun x22 => ?_)
    refine v_cVi d_M_images_23 ml_M_305 (q := (RX11, TX11, 32)) rfl (c_M_longOf l hfl a0 v3 x22 M) (fun _ => rfl) (by decide) (by decide) (as := [xI v3, xI x22]) (st1 := [xI v6]) rfl rfl (Nat.le_of_ble_eq_true rfl) (fun c23 M => ?_)
    refine v_icge d_M_images_26 ?_ ?_
    · refine v_sub (ls' := [(0, xA a0), (1, xA a1), (2, xI v2), (3, xI v3), (4, xI v4), (5, xI v5)]) [0, 1, 2, 3, 4, 5] rfl ?_
      exact hkx56 v4 M
    · refine v_aloadn d_M_images_29 rfl 0 rfl ?_
      refine v_gR d_M_images_30 fl_M_101 rfl (fun r30 => ?_)
      refine v_iload d_M_images_33 4 rfl ?_
      refine v_aloadn d_M_images_35 rfl 0 rfl ?_
      refine v_iloadn d_M_images_36 rfl 3 rfl ?_
      refine v_aloadn d_M_images_37 rfl 1 rfl ?_
      refine v_iload d_M_images_38 5 rfl ?_
      refine v_iald d_M_images_40 (fun x40 => ?_)
      refine v_iload d_M_images_41 6 rfl ?_
      refine v_cVi d_M_images_43 ml_M_308 (q := (RX11, TX11, 32)) rfl (c_M_imageOf l hfl a0 v3 x40 v6 M) (fun _ => rfl) (by decide) (by decide) (as := [xI v3, xI x40, xI v6]) (st1 := [xI v4, xA r30]) rfl rfl (Nat.le_of_ble_eq_true rfl) (fun c43 M => ?_)
      refine v_iast d_M_images_46 (fun M => ?_)
      refine v_iinc (lz := fun z => [(4, xI z), (0, xA a0), (1, xA a1), (2, xI v2), (3, xI v3), (5, xI v5), (6, xI v6)]) d_M_images_47 4 rfl (Nat.le_of_ble_eq_true rfl) (fun _ => rfl) (fun v4_47 => ?_)
      refine v_iinc (lz := fun z => [(6, xI z), (4, xI v4_47), (0, xA a0), (1, xA a1), (2, xI v2), (3, xI v3), (5, xI v5)]) d_M_images_50 6 rfl (Nat.le_of_ble_eq_true rfl) (fun _ => rfl) (fun v6_50 => ?_)
      refine v_goto d_M_images_53 ?_
      refine v_sub (ls' := [(0, xA a0), (1, xA a1), (2, xI v2), (3, xI v3), (4, xI v4_47), (5, xI v5), (6, xI v6_50)]) [2, 3, 4, 5, 1, 6, 0] rfl ?_
      exact ih v4_47 v6_50 M
set_option maxHeartbeats 4000000 in
set_option maxRecDepth 100000 in
theorem V_lp_M_images_6 {l : Launch} {w : vm_W} (hfl : l.stackTraces = false) (kx62 : Int → mm_T → Option (Int × mm_T)) (a0 : Nat) (a1 : Nat) (v2 : Int) (v3 : Int) (hkx62 : ∀ (v4_e : Int) (M : mm_T), V_ l w q_M_images 2 ex_I 62 [(4, xI v4_e)] [] M (kx62 v4_e M)) : ∀ (f : Nat) (v4 : Int) (v5 : Int) (M : mm_T), V_ l w q_M_images 2 ex_I 6 [(0, xA a0), (1, xA a1), (2, xI v2), (3, xI v3), (4, xI v4), (5, xI v5)] [] M (lp_M_images_6 kx62 a0 a1 v2 v3 f v4 v5 M) := by
  intro f
  induction f with
  | zero => intros; exact V_.none
  | succ f ih =>
    intro v4 v5 M
    unfold lp_M_images_6
    refine v_iload d_M_images_6 5 rfl ?_
    refine v_iloadn d_M_images_8 rfl 2 rfl ?_
    refine v_icge d_M_images_9 ?_ ?_
    · refine v_sub (ls' := [(4, xI v4)]) [4] rfl ?_
      exact hkx62 v4 M
    · refine v_iconst d_M_images_12 (by decide) ?_
      refine v_istore (lz := fun z => [(6, xI z), (0, xA a0), (1, xA a1), (2, xI v2), (3, xI v3), (4, xI v4), (5, xI v5)]) d_M_images_13 (Nat.le_of_ble_eq_true rfl) (fun _ => rfl) (fun v6_13 => ?_)
      refine v_sub (ls' := [(0, xA a0), (1, xA a1), (2, xI v2), (3, xI v3), (4, xI v4), (5, xI v5), (6, xI v6_13)]) [1, 2, 3, 4, 5, 6, 0] rfl ?_
      refine V_lp_M_images_15 hfl _ _ _ _ _ (fun v4_56 M => ?_) _ _ _ _
      · refine v_iinc (lz := fun z => [(5, xI z), (0, xA a0), (1, xA a1), (2, xI v2), (3, xI v3), (4, xI v4_56)]) d_M_images_56 5 rfl (Nat.le_of_ble_eq_true rfl) (fun _ => rfl) (fun v5_56 => ?_)
        refine v_goto d_M_images_59 ?_
        refine v_sub (ls' := [(0, xA a0), (1, xA a1), (2, xI v2), (3, xI v3), (4, xI v4_56), (5, xI v5_56)]) [1, 2, 3, 4, 5, 0] rfl ?_
        exact ih v4_56 v5_56 M
set_option maxHeartbeats 4000000 in
set_option maxRecDepth 100000 in
theorem c_M_images (l : Launch) (hfl : l.stackTraces = false) (a0 : Nat) (a1 : Nat) (v2 : Int) (v3 : Int) (M : mm_T) : vm_Con l yX11_images (.code yX11_images cX11_images 7 (some .int)) 2 ex_I [xA a0, xA a1, xI v2, xI v3] M (k_M_images a0 a1 v2 v3 M) := by
  refine vm_con (y := q_M_images) hfl (by decide +kernel) rfl (fun h => by cases h) (Nat.le_of_ble_eq_true rfl) rfl (fun _ _ _ => rfl) (fun r E h => by cases h) (fun w => ?_)
  show V_ l w q_M_images 2 ex_I 0 [(0, xA a0), (1, xA a1), (2, xI v2), (3, xI v3)] [] M (k_M_images a0 a1 v2 v3 M)
  unfold k_M_images
  refine v_iconst d_M_images_0 (by decide) ?_
  refine v_istore (lz := fun z => [(4, xI z), (0, xA a0), (1, xA a1), (2, xI v2), (3, xI v3)]) d_M_images_1 (Nat.le_of_ble_eq_true rfl) (fun _ => rfl) (fun v4_1 => ?_)
  refine v_iconst d_M_images_3 (by decide) ?_
  refine v_istore (lz := fun z => [(5, xI z), (4, xI v4_1), (0, xA a0), (1, xA a1), (2, xI v2), (3, xI v3)]) d_M_images_4 (Nat.le_of_ble_eq_true rfl) (fun _ => rfl) (fun v5_4 => ?_)
  refine v_sub (ls' := [(0, xA a0), (1, xA a1), (2, xI v2), (3, xI v3), (4, xI v4_1), (5, xI v5_4)]) [2, 3, 4, 5, 1, 0] rfl ?_
  refine V_lp_M_images_6 hfl _ _ _ _ _ (fun v4_62 M => ?_) _ _ _ _
  · refine v_iload d_M_images_62 0 rfl ?_
    exact v_ret d_M_images_64 rfl
set_option maxHeartbeats 4000000 in
set_option maxRecDepth 100000 in
theorem c_M_doesBreak (l : Launch) (hfl : l.stackTraces = false) (a0 : Nat) (v1 : Int) (M : mm_T) : vm_Con l yX11_doesBreak (.code yX11_doesBreak cX11_doesBreak 3 (some .boolean)) 7 ex_Z [xA a0, xI v1] M (k_M_doesBreak a0 v1 M) := by
  refine vm_con (y := q_M_doesBreak) hfl (by decide +kernel) rfl (fun h => by cases h) (Nat.le_of_ble_eq_true rfl) rfl (fun _ _ _ => rfl) (fun r E h => by cases h) (fun w => ?_)
  show V_ l w q_M_doesBreak 7 ex_Z 0 [(0, xA a0), (1, xI v1)] [] M (k_M_doesBreak a0 v1 M)
  unfold k_M_doesBreak
  refine v_aloadn d_M_doesBreak_0 rfl 0 rfl ?_
  refine v_aloadn d_M_doesBreak_1 rfl 0 rfl ?_
  refine v_gR d_M_doesBreak_2 fl_M_98 rfl (fun r2 => ?_)
  refine v_iloadn d_M_doesBreak_5 rfl 1 rfl ?_
  refine v_aloadn d_M_doesBreak_6 rfl 0 rfl ?_
  refine v_gI d_M_doesBreak_7 fl_M_312 rfl (fun x7 => ?_)
  refine v_cVi d_M_doesBreak_10 ml_M_315 (q := (RX11, TX11, 32)) rfl (c_M_images l hfl a0 r2 v1 x7 M) (fun _ => rfl) (by decide) (by decide) (as := [xA r2, xI v1, xI x7]) (st1 := []) rfl rfl (Nat.le_of_ble_eq_true rfl) (fun c10 M => ?_)
  refine v_istoren (lz := fun z => [(2, xI z), (0, xA a0), (1, xI v1)]) d_M_doesBreak_13 rfl (Nat.le_of_ble_eq_true rfl) (fun _ => rfl) (fun v2_13 => ?_)
  refine v_aloadn d_M_doesBreak_14 rfl 1 rfl ?_
  refine v_aloadn d_M_doesBreak_15 rfl 1 rfl ?_
  refine v_gR d_M_doesBreak_16 fl_M_101 rfl (fun r16 => ?_)
  refine v_iloadn d_M_doesBreak_19 rfl 0 rfl ?_
  refine v_cVi d_M_doesBreak_20 ml_M_232 (q := (RX11, TX11, 32)) rfl (c_M_freeOf l hfl a0 r16 v2_13 M) (fun _ => rfl) (by decide) (by decide) (as := [xA r16, xI v2_13]) (st1 := []) rfl rfl (Nat.le_of_ble_eq_true rfl) (fun c20 M => ?_)
  refine v_iloadn d_M_doesBreak_23 rfl 0 rfl ?_
  refine v_icge d_M_doesBreak_24 ?_ ?_
  · refine v_iconst d_M_doesBreak_31 (by decide) ?_
    exact v_zret d_M_doesBreak_32 rfl
  · refine v_iconst d_M_doesBreak_27 (by decide) ?_
    refine v_goto d_M_doesBreak_28 ?_
    exact v_zret d_M_doesBreak_32 rfl
set_option maxHeartbeats 4000000 in
set_option maxRecDepth 100000 in
theorem V_lp_M_isAheadOf_2 {l : Launch} {w : vm_W} (hfl : l.stackTraces = false) (kx28 : Int → mm_T → Option (Int × mm_T)) (a0 : Nat) (v1 : Int) (hkx28 : ∀ (v2_e : Int) (M : mm_T), V_ l w q_M_isAheadOf 1 ex_Z 28 [(0, xA a0), (1, xI v1), (2, xI v2_e)] [] M (kx28 v2_e M)) : ∀ (f : Nat) (v2 : Int) (M : mm_T), V_ l w q_M_isAheadOf 1 ex_Z 2 [(0, xA a0), (1, xI v1), (2, xI v2)] [] M (lp_M_isAheadOf_2 kx28 a0 v1 f v2 M) := by
  intro f
  induction f with
  | zero => intros; exact V_.none
  | succ f ih =>
    intro v2 M
    unfold lp_M_isAheadOf_2
    refine v_iloadn d_M_isAheadOf_2 rfl 2 rfl ?_
    refine v_iloadn d_M_isAheadOf_3 rfl 1 rfl ?_
    refine v_icge d_M_isAheadOf_4 ?_ ?_
    · exact hkx28 v2 M
    · refine v_aloadn d_M_isAheadOf_7 rfl 0 rfl ?_
      refine v_gR d_M_isAheadOf_8 fl_M_98 rfl (fun r8 => ?_)
      refine v_iloadn d_M_isAheadOf_11 rfl 2 rfl ?_
      refine v_iald d_M_isAheadOf_12 (fun x12 => ?_)
      refine v_aloadn d_M_isAheadOf_13 rfl 0 rfl ?_
      refine v_gR d_M_isAheadOf_14 fl_M_83 rfl (fun r14 => ?_)
      refine v_iloadn d_M_isAheadOf_17 rfl 2 rfl ?_
      refine v_iald d_M_isAheadOf_18 (fun x18 => ?_)
      refine v_icne d_M_isAheadOf_19 ?_ ?_
      · exact hkx28 v2 M
      · refine v_iinc (lz := fun z => [(2, xI z), (0, xA a0), (1, xI v1)]) d_M_isAheadOf_22 2 rfl (Nat.le_of_ble_eq_true rfl) (fun _ => rfl) (fun v2_22 => ?_)
        refine v_goto d_M_isAheadOf_25 ?_
        refine v_sub (ls' := [(0, xA a0), (1, xI v1), (2, xI v2_22)]) [1, 2, 0] rfl ?_
        exact ih v2_22 M
set_option maxHeartbeats 4000000 in
set_option maxRecDepth 100000 in
theorem c_M_isAheadOf (l : Launch) (hfl : l.stackTraces = false) (a0 : Nat) (v1 : Int) (M : mm_T) : vm_Con l yX11_isAheadOf (.code yX11_isAheadOf cX11_isAheadOf 3 (some .boolean)) 1 ex_Z [xA a0, xI v1] M (k_M_isAheadOf a0 v1 M) := by
  refine vm_con (y := q_M_isAheadOf) hfl (by decide +kernel) rfl (fun h => by cases h) (Nat.le_of_ble_eq_true rfl) rfl (fun _ _ _ => rfl) (fun r E h => by cases h) (fun w => ?_)
  show V_ l w q_M_isAheadOf 1 ex_Z 0 [(0, xA a0), (1, xI v1)] [] M (k_M_isAheadOf a0 v1 M)
  unfold k_M_isAheadOf
  refine v_iconst d_M_isAheadOf_0 (by decide) ?_
  refine v_istoren (lz := fun z => [(2, xI z), (0, xA a0), (1, xI v1)]) d_M_isAheadOf_1 rfl (Nat.le_of_ble_eq_true rfl) (fun _ => rfl) (fun v2_1 => ?_)
  refine v_sub (ls' := [(0, xA a0), (1, xI v1), (2, xI v2_1)]) [1, 2, 0] rfl ?_
  refine V_lp_M_isAheadOf_2 hfl _ _ _ (fun v2_28 M => ?_) _ _ _
  · refine v_iloadn d_M_isAheadOf_28 rfl 2 rfl ?_
    refine v_iloadn d_M_isAheadOf_29 rfl 1 rfl ?_
    refine v_join0 (pj := 52) (lj := []) (sj := []) (fun M => ?_) (fun j52 hj52 => ?_)
    · refine v_iconst d_M_isAheadOf_52 (by decide) ?_
      exact v_zret d_M_isAheadOf_53 rfl
    refine v_icge d_M_isAheadOf_30 ?_ ?_
    · refine v_sub (ls' := []) [] rfl ?_
      exact hj52 M
    · refine v_aloadn d_M_isAheadOf_33 rfl 0 rfl ?_
      refine v_gR d_M_isAheadOf_34 fl_M_98 rfl (fun r34 => ?_)
      refine v_iloadn d_M_isAheadOf_37 rfl 2 rfl ?_
      refine v_iald d_M_isAheadOf_38 (fun x38 => ?_)
      refine v_aloadn d_M_isAheadOf_39 rfl 0 rfl ?_
      refine v_gR d_M_isAheadOf_40 fl_M_83 rfl (fun r40 => ?_)
      refine v_iloadn d_M_isAheadOf_43 rfl 2 rfl ?_
      refine v_iald d_M_isAheadOf_44 (fun x44 => ?_)
      refine v_icge d_M_isAheadOf_45 ?_ ?_
      · refine v_sub (ls' := []) [] rfl ?_
        exact hj52 M
      · refine v_iconst d_M_isAheadOf_48 (by decide) ?_
        refine v_goto d_M_isAheadOf_49 ?_
        exact v_zret d_M_isAheadOf_53 rfl
set_option maxHeartbeats 4000000 in
set_option maxRecDepth 100000 in
theorem V_lp_M_isStuck_2 {l : Launch} {w : vm_W} (hfl : l.stackTraces = false) (kx41 : mm_T → Option (Int × mm_T)) (a0 : Nat) (v1 : Int) (hkx41 : ∀ (M : mm_T), V_ l w q_M_isStuck 6 ex_Z 41 [] [] M (kx41 M)) : ∀ (f : Nat) (v2 : Int) (M : mm_T), V_ l w q_M_isStuck 6 ex_Z 2 [(0, xA a0), (1, xI v1), (2, xI v2)] [] M (lp_M_isStuck_2 kx41 a0 v1 f v2 M) := by
  intro f
  induction f with
  | zero => intros; exact V_.none
  | succ f ih =>
    intro v2 M
    unfold lp_M_isStuck_2
    refine v_iloadn d_M_isStuck_2 rfl 2 rfl ?_
    refine v_aloadn d_M_isStuck_3 rfl 0 rfl ?_
    refine v_gR d_M_isStuck_4 fl_M_77 rfl (fun r4 => ?_)
    refine v_iconst d_M_isStuck_7 (by decide) ?_
    refine v_iald d_M_isStuck_8 (fun x8 => ?_)
    refine v_icge d_M_isStuck_9 ?_ ?_
    · refine v_sub (ls' := []) [] rfl ?_
      exact hkx41 M
    · refine v_aloadn d_M_isStuck_12 rfl 0 rfl ?_
      refine v_gR d_M_isStuck_13 fl_M_98 rfl (fun r13 => ?_)
      refine v_iloadn d_M_isStuck_16 rfl 1 rfl ?_
      refine v_iloadn d_M_isStuck_17 rfl 2 rfl ?_
      refine v_iast d_M_isStuck_18 (fun M => ?_)
      refine v_aloadn d_M_isStuck_19 rfl 0 rfl ?_
      refine v_aloadn d_M_isStuck_20 rfl 0 rfl ?_
      refine v_gR d_M_isStuck_21 fl_M_98 rfl (fun r21 => ?_)
      refine v_iloadn d_M_isStuck_24 rfl 1 rfl ?_
      refine v_iconst d_M_isStuck_25 (by decide) ?_
      refine v_iadd d_M_isStuck_26 (fun x26 => ?_)
      refine v_cVi d_M_isStuck_27 ml_M_229 (q := (RX11, TX11, 32)) rfl (c_M_goesOn l hfl a0 r21 x26 M) (fun _ => rfl) (by decide) (by decide) (as := [xA r21, xI x26]) (st1 := []) rfl rfl (Nat.le_of_ble_eq_true rfl) (fun c27 M => ?_)
      refine v_ifeq d_M_isStuck_30 ?_ ?_
      · refine v_iinc (lz := fun z => [(2, xI z), (0, xA a0), (1, xI v1)]) d_M_isStuck_35 2 rfl (Nat.le_of_ble_eq_true rfl) (fun _ => rfl) (fun v2_35 => ?_)
        refine v_goto d_M_isStuck_38 ?_
        refine v_sub (ls' := [(0, xA a0), (1, xI v1), (2, xI v2_35)]) [1, 2, 0] rfl ?_
        exact ih v2_35 M
      · refine v_iconst d_M_isStuck_33 (by decide) ?_
        exact v_zret d_M_isStuck_34 rfl
set_option maxHeartbeats 4000000 in
set_option maxRecDepth 100000 in
theorem c_M_isStuck (l : Launch) (hfl : l.stackTraces = false) (a0 : Nat) (v1 : Int) (M : mm_T) : vm_Con l yX11_isStuck (.code yX11_isStuck cX11_isStuck 3 (some .boolean)) 6 ex_Z [xA a0, xI v1] M (k_M_isStuck a0 v1 M) := by
  refine vm_con (y := q_M_isStuck) hfl (by decide +kernel) rfl (fun h => by cases h) (Nat.le_of_ble_eq_true rfl) rfl (fun _ _ _ => rfl) (fun r E h => by cases h) (fun w => ?_)
  show V_ l w q_M_isStuck 6 ex_Z 0 [(0, xA a0), (1, xI v1)] [] M (k_M_isStuck a0 v1 M)
  unfold k_M_isStuck
  refine v_iconst d_M_isStuck_0 (by decide) ?_
  refine v_istoren (lz := fun z => [(2, xI z), (0, xA a0), (1, xI v1)]) d_M_isStuck_1 rfl (Nat.le_of_ble_eq_true rfl) (fun _ => rfl) (fun v2_1 => ?_)
  refine v_sub (ls' := [(0, xA a0), (1, xI v1), (2, xI v2_1)]) [1, 2, 0] rfl ?_
  refine V_lp_M_isStuck_2 hfl _ _ _ (fun M => ?_) _ _ _
  · refine v_iconst d_M_isStuck_41 (by decide) ?_
    exact v_zret d_M_isStuck_42 rfl
set_option maxHeartbeats 4000000 in
set_option maxRecDepth 100000 in
theorem c_M_meets (l : Launch) (hfl : l.stackTraces = false) (a0 : Nat) (v1 : Int) (v2 : Int) (M : mm_T) : vm_Con l yX11_meets (.code yX11_meets cX11_meets 3 (some .boolean)) 8 ex_Z [xA a0, xI v1, xI v2] M (k_M_meets a0 v1 v2 M) := by
  refine vm_con (y := q_M_meets) hfl (by decide +kernel) rfl (fun h => by cases h) (Nat.le_of_ble_eq_true rfl) rfl (fun _ _ _ => rfl) (fun r E h => by cases h) (fun w => ?_)
  show V_ l w q_M_meets 8 ex_Z 0 [(0, xA a0), (1, xI v1), (2, xI v2)] [] M (k_M_meets a0 v1 v2 M)
  unfold k_M_meets
  refine v_iloadn d_M_meets_0 rfl 2 rfl ?_
  refine v_sw (n := 5) (tg := fun i => ([36, 43, 55, 79, 101] : List Nat).getD i 0) (dt := 144) d_M_meets_1 rfl rfl d_M_meets_1_o (fun i hi => ?_) ?_
  · match i, hi with
    | 0, _ =>
      show V_ l w q_M_meets 8 ex_Z 36 [(0, xA a0), (1, xI v1), (2, xI v2)] [] M _
      refine v_aloadn d_M_meets_36 rfl 0 rfl ?_
      refine v_iconst d_M_meets_37 (by decide) ?_
      refine v_pZ d_M_meets_38 fl_M_271 (Or.inl rfl) rfl rfl (fun M => ?_)
      refine v_iconst d_M_meets_41 (by decide) ?_
      exact v_zret d_M_meets_42 rfl
    | 1, _ =>
      show V_ l w q_M_meets 8 ex_Z 43 [(0, xA a0), (1, xI v1), (2, xI v2)] [] M _
      refine v_aloadn d_M_meets_43 rfl 0 rfl ?_
      refine v_dup d_M_meets_44 rfl ?_
      refine v_gI d_M_meets_45 fl_M_274 rfl (fun x45 => ?_)
      refine v_iconst d_M_meets_48 (by decide) ?_
      refine v_iadd d_M_meets_49 (fun x49 => ?_)
      refine v_pI d_M_meets_50 fl_M_274 (Or.inl rfl) rfl rfl (fun M => ?_)
      refine v_iconst d_M_meets_53 (by decide) ?_
      exact v_zret d_M_meets_54 rfl
    | 2, _ =>
      show V_ l w q_M_meets 8 ex_Z 55 [(0, xA a0), (1, xI v1), (2, xI v2)] [] M _
      refine v_aloadn d_M_meets_55 rfl 0 rfl ?_
      refine v_dup d_M_meets_56 rfl ?_
      refine v_gI d_M_meets_57 fl_M_274 rfl (fun x57 => ?_)
      refine v_aloadn d_M_meets_60 rfl 0 rfl ?_
      refine v_iloadn d_M_meets_61 rfl 1 rfl ?_
      refine v_cVi d_M_meets_62 ml_M_277 (q := (RX11, TX11, 32)) rfl (c_M_isStuck l hfl a0 v1 M) (fun _ => rfl) (by decide) (by decide) (as := [xI v1]) (st1 := [xI x57, xA a0]) rfl rfl (Nat.le_of_ble_eq_true rfl) (fun c62 M => ?_)
      refine v_join3 (pj := 73) (lj := fun sa0_73 s1_73 s2_73 => []) (sj := fun sa0_73 s1_73 s2_73 => [xI s2_73, xI s1_73, xA sa0_73]) (fun sa0_73 s1_73 s2_73 M => ?_) (fun j73 hj73 => ?_)
      · refine v_iadd d_M_meets_73 (fun x73 => ?_)
        refine v_pI d_M_meets_74 fl_M_274 (Or.inl rfl) rfl rfl (fun M => ?_)
        refine v_iconst d_M_meets_77 (by decide) ?_
        exact v_zret d_M_meets_78 rfl
      refine v_ifeq d_M_meets_65 ?_ ?_
      · refine v_iconst d_M_meets_72 (by decide) ?_
        refine v_sub (ls' := []) [] rfl ?_
        exact hj73 a0 x57 0 M
      · refine v_iconst d_M_meets_68 (by decide) ?_
        refine v_goto d_M_meets_69 ?_
        refine v_sub (ls' := []) [] rfl ?_
        exact hj73 a0 x57 1 M
    | 3, _ =>
      show V_ l w q_M_meets 8 ex_Z 79 [(0, xA a0), (1, xI v1), (2, xI v2)] [] M _
      refine v_aloadn d_M_meets_79 rfl 0 rfl ?_
      refine v_iloadn d_M_meets_80 rfl 1 rfl ?_
      refine v_cVi d_M_meets_81 ml_M_281 (q := (RX11, TX11, 32)) rfl (c_M_isAheadOf l hfl a0 v1 M) (fun _ => rfl) (by decide) (by decide) (as := [xI v1]) (st1 := []) rfl rfl (Nat.le_of_ble_eq_true rfl) (fun c81 M => ?_)
      refine v_ifne d_M_meets_84 ?_ ?_
      · refine v_aloadn d_M_meets_89 rfl 0 rfl ?_
        refine v_dup d_M_meets_90 rfl ?_
        refine v_gI d_M_meets_91 fl_M_274 rfl (fun x91 => ?_)
        refine v_iconst d_M_meets_94 (by decide) ?_
        refine v_iadd d_M_meets_95 (fun x95 => ?_)
        refine v_pI d_M_meets_96 fl_M_274 (Or.inl rfl) rfl rfl (fun M => ?_)
        refine v_iconst d_M_meets_99 (by decide) ?_
        exact v_zret d_M_meets_100 rfl
      · refine v_iconst d_M_meets_87 (by decide) ?_
        exact v_zret d_M_meets_88 rfl
    | 4, _ =>
      show V_ l w q_M_meets 8 ex_Z 101 [(0, xA a0), (1, xI v1), (2, xI v2)] [] M _
      refine v_aloadn d_M_meets_101 rfl 0 rfl ?_
      refine v_aloadn d_M_meets_102 rfl 0 rfl ?_
      refine v_gI d_M_meets_103 fl_M_274 rfl (fun x103 => ?_)
      refine v_aloadn d_M_meets_106 rfl 0 rfl ?_
      refine v_gI d_M_meets_107 fl_M_284 rfl (fun x107 => ?_)
      refine v_join2 (pj := 118) (lj := fun sa0_118 s1_118 => [(0, xA a0)]) (sj := fun sa0_118 s1_118 => [xI s1_118, xA sa0_118]) (fun sa0_118 s1_118 M => ?_) (fun j118 hj118 => ?_)
      · refine v_pZ d_M_meets_118 fl_M_271 (Or.inl rfl) rfl rfl (fun M => ?_)
        refine v_aloadn d_M_meets_121 rfl 0 rfl ?_
        refine v_dup d_M_meets_122 rfl ?_
        refine v_gI d_M_meets_123 fl_M_274 rfl (fun x123 => ?_)
        refine v_iconst d_M_meets_126 (by decide) ?_
        refine v_iadd d_M_meets_127 (fun x127 => ?_)
        refine v_pI d_M_meets_128 fl_M_274 (Or.inl rfl) rfl rfl (fun M => ?_)
        refine v_aloadn d_M_meets_131 rfl 0 rfl ?_
        refine v_gI d_M_meets_132 fl_M_271 rfl (fun x132 => ?_)
        refine v_ifne d_M_meets_135 ?_ ?_
        · refine v_iconst d_M_meets_142 (by decide) ?_
          exact v_zret d_M_meets_143 rfl
        · refine v_iconst d_M_meets_138 (by decide) ?_
          refine v_goto d_M_meets_139 ?_
          exact v_zret d_M_meets_143 rfl
      refine v_icne d_M_meets_110 ?_ ?_
      · refine v_iconst d_M_meets_117 (by decide) ?_
        refine v_sub (ls' := [(0, xA a0)]) [0] rfl ?_
        exact hj118 a0 0 M
      · refine v_iconst d_M_meets_113 (by decide) ?_
        refine v_goto d_M_meets_114 ?_
        refine v_sub (ls' := [(0, xA a0)]) [0] rfl ?_
        exact hj118 a0 1 M
    | i + 5, hi => exact absurd hi (by omega)
  · refine v_aloadn d_M_meets_144 rfl 0 rfl ?_
    refine v_aloadn d_M_meets_145 rfl 0 rfl ?_
    refine v_iloadn d_M_meets_146 rfl 1 rfl ?_
    refine v_cVi d_M_meets_147 ml_M_287 (q := (RX11, TX11, 32)) rfl (c_M_doesBreak l hfl a0 v1 M) (fun _ => rfl) (by decide) (by decide) (as := [xI v1]) (st1 := [xA a0]) rfl rfl (Nat.le_of_ble_eq_true rfl) (fun c147 M => ?_)
    refine v_pZ d_M_meets_150 fl_M_271 (Or.inl rfl) rfl rfl (fun M => ?_)
    refine v_aloadn d_M_meets_153 rfl 0 rfl ?_
    refine v_gI d_M_meets_154 fl_M_271 rfl (fun x154 => ?_)
    refine v_ifne d_M_meets_157 ?_ ?_
    · refine v_iconst d_M_meets_164 (by decide) ?_
      exact v_zret d_M_meets_165 rfl
    · refine v_iconst d_M_meets_160 (by decide) ?_
      refine v_goto d_M_meets_161 ?_
      exact v_zret d_M_meets_165 rfl
set_option maxHeartbeats 4000000 in
set_option maxRecDepth 100000 in
theorem V_lp_M_searches_15 {l : Launch} {w : vm_W} (hfl : l.stackTraces = false) {d : Nat} (kx95 : mm_T → Option (Int × mm_T)) (rec : Nat → Int → Int → Int → mm_T → Option (Int × mm_T)) (a0 : Nat) (v1 : Int) (v2 : Int) (v3 : Int) (hkx95 : ∀ (M : mm_T), V_ l w q_M_searches (9 + d) ex_Z 95 [] [] M (kx95 M)) (hrec : ∀ (a0 : Nat) (v1 : Int) (v2 : Int) (v3 : Int) (M : mm_T), vm_Con l yX11_searches (.code yX11_searches cX11_searches 5 (some .boolean)) (9 + d - 1) ex_Z [xA a0, xI v1, xI v2, xI v3] M (rec a0 v1 v2 v3 M)) (hd0 : 1 ≤ d) : ∀ (f : Nat) (v4 : Int) (M : mm_T), V_ l w q_M_searches (9 + d) ex_Z 15 [(0, xA a0), (1, xI v1), (2, xI v2), (3, xI v3), (4, xI v4)] [] M (lp_M_searches_15 kx95 rec a0 v1 v2 v3 f v4 M) := by
  intro f
  induction f with
  | zero => intros; exact V_.none
  | succ f ih =>
    intro v4 M
    unfold lp_M_searches_15
    refine v_iload d_M_searches_15 4 rfl ?_
    refine v_aloadn d_M_searches_17 rfl 0 rfl ?_
    refine v_gR d_M_searches_18 fl_M_77 rfl (fun r18 => ?_)
    refine v_iconst d_M_searches_21 (by decide) ?_
    refine v_iald d_M_searches_22 (fun x22 => ?_)
    refine v_icge d_M_searches_23 ?_ ?_
    · refine v_sub (ls' := []) [] rfl ?_
      exact hkx95 M
    · refine v_aloadn d_M_searches_26 rfl 0 rfl ?_
      refine v_gI d_M_searches_27 fl_M_262 rfl (fun x27 => ?_)
      refine v_sipush d_M_searches_30 (by decide) ?_
      refine v_icne d_M_searches_33 ?_ ?_
      · refine v_aloadn d_M_searches_43 rfl 0 rfl ?_
        refine v_dup d_M_searches_44 rfl ?_
        refine v_gI d_M_searches_45 fl_M_262 rfl (fun x45 => ?_)
        refine v_iconst d_M_searches_48 (by decide) ?_
        refine v_iadd d_M_searches_49 (fun x49 => ?_)
        refine v_pI d_M_searches_50 fl_M_262 (Or.inl rfl) rfl rfl (fun M => ?_)
        refine v_aloadn d_M_searches_53 rfl 0 rfl ?_
        refine v_gR d_M_searches_54 fl_M_98 rfl (fun r54 => ?_)
        refine v_iloadn d_M_searches_57 rfl 1 rfl ?_
        refine v_iload d_M_searches_58 4 rfl ?_
        refine v_iast d_M_searches_60 (fun M => ?_)
        refine v_aloadn d_M_searches_61 rfl 0 rfl ?_
        refine v_aloadn d_M_searches_62 rfl 0 rfl ?_
        refine v_gR d_M_searches_63 fl_M_98 rfl (fun r63 => ?_)
        refine v_iloadn d_M_searches_66 rfl 1 rfl ?_
        refine v_iconst d_M_searches_67 (by decide) ?_
        refine v_iadd d_M_searches_68 (fun x68 => ?_)
        refine v_cVi d_M_searches_69 ml_M_229 (q := (RX11, TX11, 32)) rfl (c_M_goesOn l hfl a0 r63 x68 M) (fun _ => rfl) (by omega) (by decide) (as := [xA r63, xI x68]) (st1 := []) rfl rfl (Nat.le_of_ble_eq_true rfl) (fun c69 M => ?_)
        refine v_join0 (pj := 89) (lj := [(0, xA a0), (1, xI v1), (2, xI v2), (3, xI v3), (4, xI v4)]) (sj := []) (fun M => ?_) (fun j89 hj89 => ?_)
        · refine v_iinc (lz := fun z => [(4, xI z), (0, xA a0), (1, xI v1), (2, xI v2), (3, xI v3)]) d_M_searches_89 4 rfl (Nat.le_of_ble_eq_true rfl) (fun _ => rfl) (fun v4_89 => ?_)
          refine v_goto d_M_searches_92 ?_
          refine v_sub (ls' := [(0, xA a0), (1, xI v1), (2, xI v2), (3, xI v3), (4, xI v4_89)]) [1, 2, 3, 4, 0] rfl ?_
          exact ih v4_89 M
        refine v_ifeq d_M_searches_72 ?_ ?_
        · exact hj89 M
        · refine v_aloadn d_M_searches_75 rfl 0 rfl ?_
          refine v_iloadn d_M_searches_76 rfl 1 rfl ?_
          refine v_iconst d_M_searches_77 (by decide) ?_
          refine v_iadd d_M_searches_78 (fun x78 => ?_)
          refine v_iloadn d_M_searches_79 rfl 2 rfl ?_
          refine v_iloadn d_M_searches_80 rfl 3 rfl ?_
          refine v_cVi d_M_searches_81 ml_M_268 (q := (RX11, TX11, 32)) rfl (hrec a0 x78 v2 v3 M) (fun _ => rfl) (by omega) (by decide) (as := [xI x78, xI v2, xI v3]) (st1 := []) rfl rfl (Nat.le_of_ble_eq_true rfl) (fun c81 M => ?_)
          refine v_ifne d_M_searches_84 ?_ ?_
          · exact hj89 M
          · refine v_iconst d_M_searches_87 (by decide) ?_
            exact v_zret d_M_searches_88 rfl
      · refine v_aloadn d_M_searches_36 rfl 0 rfl ?_
        refine v_iconst d_M_searches_37 (by decide) ?_
        refine v_pZ d_M_searches_38 fl_M_265 (Or.inl rfl) rfl rfl (fun M => ?_)
        refine v_iconst d_M_searches_41 (by decide) ?_
        exact v_zret d_M_searches_42 rfl
set_option maxHeartbeats 4000000 in
set_option maxRecDepth 100000 in
theorem c_M_searches (l : Launch) (hfl : l.stackTraces = false) : ∀ (d : Nat) (a0 : Nat) (v1 : Int) (v2 : Int) (v3 : Int) (M : mm_T), vm_Con l yX11_searches (.code yX11_searches cX11_searches 5 (some .boolean)) (9 + d) ex_Z [xA a0, xI v1, xI v2, xI v3] M (k_M_searches d a0 v1 v2 v3 M) := by
  intro d
  induction d with
  | zero => intro a0 v1 v2 v3 M w r M' hk; cases hk
  | succ d ih =>
  intro a0 v1 v2 v3 M
  refine vm_con (y := q_M_searches) hfl (by decide +kernel) rfl (fun h => by cases h) (Nat.le_of_ble_eq_true rfl) rfl (fun _ _ _ => rfl) (fun r E h => by cases h) (fun w => ?_)
  show V_ l w q_M_searches (9 + (d + 1)) ex_Z 0 [(0, xA a0), (1, xI v1), (2, xI v2), (3, xI v3)] [] M (k_M_searches (d + 1) a0 v1 v2 v3 M)
  unfold k_M_searches
  have hrec : ∀ (a0 : Nat) (v1 : Int) (v2 : Int) (v3 : Int) (M : mm_T), vm_Con l yX11_searches (.code yX11_searches cX11_searches 5 (some .boolean)) (9 + (d + 1) - 1) ex_Z [xA a0, xI v1, xI v2, xI v3] M (k_M_searches d a0 v1 v2 v3 M) := ih
  have hd0 : 1 ≤ d + 1 := by omega
  refine v_iloadn d_M_searches_0 rfl 1 rfl ?_
  refine v_iloadn d_M_searches_1 rfl 2 rfl ?_
  refine v_icne d_M_searches_2 ?_ ?_
  · refine v_iconst d_M_searches_12 (by decide) ?_
    refine v_istore (lz := fun z => [(4, xI z), (0, xA a0), (1, xI v1), (2, xI v2), (3, xI v3)]) d_M_searches_13 (Nat.le_of_ble_eq_true rfl) (fun _ => rfl) (fun v4_13 => ?_)
    refine v_sub (ls' := [(0, xA a0), (1, xI v1), (2, xI v2), (3, xI v3), (4, xI v4_13)]) [1, 2, 3, 4, 0] rfl ?_
    refine V_lp_M_searches_15 hfl _ _ _ _ _ _ (fun M => ?_) (by exact hrec) (by omega) _ _ _
    · refine v_iconst d_M_searches_95 (by decide) ?_
      exact v_zret d_M_searches_96 rfl
  · refine v_aloadn d_M_searches_5 rfl 0 rfl ?_
    refine v_iloadn d_M_searches_6 rfl 2 rfl ?_
    refine v_iloadn d_M_searches_7 rfl 3 rfl ?_
    refine v_cVi d_M_searches_8 ml_M_259 (q := (RX11, TX11, 32)) rfl (c_M_meets l hfl a0 v2 v3 M) (fun _ => rfl) (by omega) (by decide) (as := [xI v2, xI v3]) (st1 := []) rfl rfl (Nat.le_of_ble_eq_true rfl) (fun c8 M => ?_)
    exact v_zret d_M_searches_11 rfl
set_option maxHeartbeats 4000000 in
set_option maxRecDepth 100000 in
theorem c_M_startsSearch (l : Launch) (hfl : l.stackTraces = false) (a0 : Nat) (M : mm_T) : vm_Con l yX11_startsSearch (.code yX11_startsSearch cX11_startsSearch 1 none) 1 ex_V [xA a0] M (k_M_startsSearch a0 M) := by
  refine vm_con (y := q_M_startsSearch) hfl (by decide +kernel) rfl (fun h => by cases h) (Nat.le_of_ble_eq_true rfl) rfl (fun _ _ _ => rfl) (fun r E h => by cases h) (fun w => ?_)
  show V_ l w q_M_startsSearch 1 ex_V 0 [(0, xA a0)] [] M (k_M_startsSearch a0 M)
  unfold k_M_startsSearch
  refine v_aloadn d_M_startsSearch_0 rfl 0 rfl ?_
  refine v_iconst d_M_startsSearch_1 (by decide) ?_
  refine v_pI d_M_startsSearch_2 fl_M_262 (Or.inl rfl) rfl rfl (fun M => ?_)
  refine v_aloadn d_M_startsSearch_5 rfl 0 rfl ?_
  refine v_iconst d_M_startsSearch_6 (by decide) ?_
  refine v_pI d_M_startsSearch_7 fl_M_274 (Or.inl rfl) rfl rfl (fun M => ?_)
  refine v_aloadn d_M_startsSearch_10 rfl 0 rfl ?_
  refine v_iconst d_M_startsSearch_11 (by decide) ?_
  refine v_pZ d_M_startsSearch_12 fl_M_265 (Or.inl rfl) rfl rfl (fun M => ?_)
  refine v_aloadn d_M_startsSearch_15 rfl 0 rfl ?_
  refine v_iconst d_M_startsSearch_16 (by decide) ?_
  refine v_pZ d_M_startsSearch_17 fl_M_271 (Or.inl rfl) rfl rfl (fun M => ?_)
  exact v_vret d_M_startsSearch_20 rfl
set_option maxHeartbeats 4000000 in
set_option maxRecDepth 100000 in
theorem V_lp_M_takes_2 {l : Launch} {w : vm_W} (hfl : l.stackTraces = false) (kx28 : mm_T → Option (Unit × mm_T)) (a0 : Nat) (hkx28 : ∀ (M : mm_T), V_ l w q_M_takes 1 ex_V 28 [] [] M (kx28 M)) : ∀ (f : Nat) (v1 : Int) (M : mm_T), V_ l w q_M_takes 1 ex_V 2 [(0, xA a0), (1, xI v1)] [] M (lp_M_takes_2 kx28 a0 f v1 M) := by
  intro f
  induction f with
  | zero => intros; exact V_.none
  | succ f ih =>
    intro v1 M
    unfold lp_M_takes_2
    refine v_iloadn d_M_takes_2 rfl 1 rfl ?_
    refine v_aloadn d_M_takes_3 rfl 0 rfl ?_
    refine v_gI d_M_takes_4 fl_M_184 rfl (fun x4 => ?_)
    refine v_icge d_M_takes_7 ?_ ?_
    · refine v_sub (ls' := []) [] rfl ?_
      exact hkx28 M
    · refine v_aloadn d_M_takes_10 rfl 0 rfl ?_
      refine v_gR d_M_takes_11 fl_M_98 rfl (fun r11 => ?_)
      refine v_iloadn d_M_takes_14 rfl 1 rfl ?_
      refine v_aloadn d_M_takes_15 rfl 0 rfl ?_
      refine v_gR d_M_takes_16 fl_M_83 rfl (fun r16 => ?_)
      refine v_iloadn d_M_takes_19 rfl 1 rfl ?_
      refine v_iald d_M_takes_20 (fun x20 => ?_)
      refine v_iast d_M_takes_21 (fun M => ?_)
      refine v_iinc (lz := fun z => [(1, xI z), (0, xA a0)]) d_M_takes_22 1 rfl (Nat.le_of_ble_eq_true rfl) (fun _ => rfl) (fun v1_22 => ?_)
      refine v_goto d_M_takes_25 ?_
      refine v_sub (ls' := [(0, xA a0), (1, xI v1_22)]) [1, 0] rfl ?_
      exact ih v1_22 M
set_option maxHeartbeats 4000000 in
set_option maxRecDepth 100000 in
theorem c_M_takes (l : Launch) (hfl : l.stackTraces = false) (a0 : Nat) (M : mm_T) : vm_Con l yX11_takes (.code yX11_takes cX11_takes 2 none) 1 ex_V [xA a0] M (k_M_takes a0 M) := by
  refine vm_con (y := q_M_takes) hfl (by decide +kernel) rfl (fun h => by cases h) (Nat.le_of_ble_eq_true rfl) rfl (fun _ _ _ => rfl) (fun r E h => by cases h) (fun w => ?_)
  show V_ l w q_M_takes 1 ex_V 0 [(0, xA a0)] [] M (k_M_takes a0 M)
  unfold k_M_takes
  refine v_iconst d_M_takes_0 (by decide) ?_
  refine v_istoren (lz := fun z => [(1, xI z), (0, xA a0)]) d_M_takes_1 rfl (Nat.le_of_ble_eq_true rfl) (fun _ => rfl) (fun v1_1 => ?_)
  refine v_sub (ls' := [(0, xA a0), (1, xI v1_1)]) [1, 0] rfl ?_
  refine V_lp_M_takes_2 hfl _ _ (fun M => ?_) _ _ _
  · exact v_vret d_M_takes_28 rfl
set_option maxHeartbeats 4000000 in
set_option maxRecDepth 100000 in
theorem V_lp_M_becomesFound_2 {l : Launch} {w : vm_W} (hfl : l.stackTraces = false) (kx25 : mm_T → Option (Unit × mm_T)) (a0 : Nat) (v1 : Int) (hkx25 : ∀ (M : mm_T), V_ l w q_M_becomesFound 3 ex_V 25 [(0, xA a0), (1, xI v1)] [] M (kx25 M)) : ∀ (f : Nat) (v2 : Int) (M : mm_T), V_ l w q_M_becomesFound 3 ex_V 2 [(0, xA a0), (1, xI v1), (2, xI v2)] [] M (lp_M_becomesFound_2 kx25 a0 v1 f v2 M) := by
  intro f
  induction f with
  | zero => intros; exact V_.none
  | succ f ih =>
    intro v2 M
    unfold lp_M_becomesFound_2
    refine v_iloadn d_M_becomesFound_2 rfl 2 rfl ?_
    refine v_iloadn d_M_becomesFound_3 rfl 1 rfl ?_
    refine v_icge d_M_becomesFound_4 ?_ ?_
    · refine v_sub (ls' := [(0, xA a0), (1, xI v1)]) [0, 1] rfl ?_
      exact hkx25 M
    · refine v_aloadn d_M_becomesFound_7 rfl 0 rfl ?_
      refine v_gR d_M_becomesFound_8 fl_M_86 rfl (fun r8 => ?_)
      refine v_iloadn d_M_becomesFound_11 rfl 2 rfl ?_
      refine v_aloadn d_M_becomesFound_12 rfl 0 rfl ?_
      refine v_gR d_M_becomesFound_13 fl_M_98 rfl (fun r13 => ?_)
      refine v_iloadn d_M_becomesFound_16 rfl 2 rfl ?_
      refine v_iald d_M_becomesFound_17 (fun x17 => ?_)
      refine v_iast d_M_becomesFound_18 (fun M => ?_)
      refine v_iinc (lz := fun z => [(2, xI z), (0, xA a0), (1, xI v1)]) d_M_becomesFound_19 2 rfl (Nat.le_of_ble_eq_true rfl) (fun _ => rfl) (fun v2_19 => ?_)
      refine v_goto d_M_becomesFound_22 ?_
      refine v_sub (ls' := [(0, xA a0), (1, xI v1), (2, xI v2_19)]) [1, 2, 0] rfl ?_
      exact ih v2_19 M
set_option maxHeartbeats 4000000 in
set_option maxRecDepth 100000 in
theorem c_M_becomesFound (l : Launch) (hfl : l.stackTraces = false) (a0 : Nat) (v1 : Int) (M : mm_T) : vm_Con l yX11_becomesFound (.code yX11_becomesFound cX11_becomesFound 3 none) 3 ex_V [xA a0, xI v1] M (k_M_becomesFound a0 v1 M) := by
  refine vm_con (y := q_M_becomesFound) hfl (by decide +kernel) rfl (fun h => by cases h) (Nat.le_of_ble_eq_true rfl) rfl (fun _ _ _ => rfl) (fun r E h => by cases h) (fun w => ?_)
  show V_ l w q_M_becomesFound 3 ex_V 0 [(0, xA a0), (1, xI v1)] [] M (k_M_becomesFound a0 v1 M)
  unfold k_M_becomesFound
  refine v_iconst d_M_becomesFound_0 (by decide) ?_
  refine v_istoren (lz := fun z => [(2, xI z), (0, xA a0), (1, xI v1)]) d_M_becomesFound_1 rfl (Nat.le_of_ble_eq_true rfl) (fun _ => rfl) (fun v2_1 => ?_)
  refine v_sub (ls' := [(0, xA a0), (1, xI v1), (2, xI v2_1)]) [1, 2, 0] rfl ?_
  refine V_lp_M_becomesFound_2 hfl _ _ _ (fun M => ?_) _ _ _
  · refine v_aloadn d_M_becomesFound_25 rfl 0 rfl ?_
    refine v_iloadn d_M_becomesFound_26 rfl 1 rfl ?_
    refine v_cVv d_M_becomesFound_27 ml_M_193 (q := (RX11, TX11, 32)) rfl (c_M_becomes l hfl a0 v1 M) (fun _ => rfl) (by decide) (by decide) (as := [xI v1]) (st1 := []) rfl rfl (Nat.le_of_ble_eq_true rfl) (fun _ M => ?_)
    exact v_vret d_M_becomesFound_30 rfl
set_option maxHeartbeats 4000000 in
set_option maxRecDepth 100000 in
theorem c_M_first (l : Launch) (hfl : l.stackTraces = false) (a0 : Nat) (v1 : Int) (M : mm_T) : vm_Con l yX11_first (.code yX11_first cX11_first 3 (some .int)) 60 ex_I [xA a0, xI v1] M (k_M_first a0 v1 M) := by
  refine vm_con (y := q_M_first) hfl (by decide +kernel) rfl (fun h => by cases h) (Nat.le_of_ble_eq_true rfl) rfl (fun _ _ _ => rfl) (fun r E h => by cases h) (fun w => ?_)
  show V_ l w q_M_first 60 ex_I 0 [(0, xA a0), (1, xI v1)] [] M (k_M_first a0 v1 M)
  unfold k_M_first
  refine v_aloadn d_M_first_0 rfl 0 rfl ?_
  refine v_iconst d_M_first_1 (by decide) ?_
  refine v_pI d_M_first_2 fl_M_3 (Or.inl rfl) rfl rfl (fun M => ?_)
  refine v_aloadn d_M_first_5 rfl 0 rfl ?_
  refine v_iloadn d_M_first_6 rfl 1 rfl ?_
  refine v_iconst d_M_first_7 (by decide) ?_
  refine v_bipush d_M_first_8 (by decide) ?_
  refine v_cSi d_M_first_10 ml_M_65 (c_M_in l hfl v1 1 40 M) (fun _ => rfl) (by decide) (by decide) (as := [xI v1, xI 1, xI 40]) (st1 := [xA a0]) rfl rfl (Nat.le_of_ble_eq_true rfl) (fun c10 M => ?_)
  refine v_join2 (pj := 21) (lj := fun sa0_21 s1_21 => [(0, xA a0), (1, xI v1)]) (sj := fun sa0_21 s1_21 => [xI s1_21, xA sa0_21]) (fun sa0_21 s1_21 M => ?_) (fun j21 hj21 => ?_)
  · refine v_iconst d_M_first_21 (by decide) ?_
    refine v_cVi d_M_first_22 ml_M_180 (q := (RX11, TX11, 32)) rfl (c_M_throwsIf l hfl sa0_21 s1_21 1 M) (fun _ => rfl) (by decide) (by decide) (as := [xI s1_21, xI 1]) (st1 := []) rfl rfl (Nat.le_of_ble_eq_true rfl) (fun c22 M => ?_)
    refine v_ifeq d_M_first_25 ?_ ?_
    · refine v_aloadn d_M_first_30 rfl 0 rfl ?_
      refine v_cVv d_M_first_31 ml_M_290 (q := (RX11, TX11, 32)) rfl (c_M_startsSearch l hfl a0 M) (fun _ => rfl) (by decide) (by decide) (as := []) (st1 := []) rfl rfl (Nat.le_of_ble_eq_true rfl) (fun _ M => ?_)
      refine v_aloadn d_M_first_34 rfl 0 rfl ?_
      refine v_iconst d_M_first_35 (by decide) ?_
      refine v_iloadn d_M_first_36 rfl 1 rfl ?_
      refine v_iconst d_M_first_37 (by decide) ?_
      refine v_cVi d_M_first_38 ml_M_268 (q := (RX11, TX11, 32)) rfl (c_M_searches l hfl 50 a0 0 v1 0 M) (fun _ => rfl) (by decide) (by decide) (as := [xI 0, xI v1, xI 0]) (st1 := []) rfl rfl (Nat.le_of_ble_eq_true rfl) (fun c38 M => ?_)
      refine v_istoren (lz := fun z => [(2, xI z), (0, xA a0), (1, xI v1)]) d_M_first_41 rfl (Nat.le_of_ble_eq_true rfl) (fun _ => rfl) (fun v2_41 => ?_)
      refine v_aloadn d_M_first_42 rfl 1 rfl ?_
      refine v_gI d_M_first_43 fl_M_265 rfl (fun x43 => ?_)
      refine v_ifeq d_M_first_46 ?_ ?_
      · refine v_aloadn d_M_first_52 rfl 1 rfl ?_
        refine v_gI d_M_first_53 fl_M_271 rfl (fun x53 => ?_)
        refine v_ifne d_M_first_56 ?_ ?_
        · refine v_aloadn d_M_first_61 rfl 1 rfl ?_
          refine v_iloadn d_M_first_62 rfl 2 rfl ?_
          refine v_cVv d_M_first_63 ml_M_293 (q := (RX11, TX11, 32)) rfl (c_M_becomesFound l hfl a0 v1 M) (fun _ => rfl) (by decide) (by decide) (as := [xI v1]) (st1 := []) rfl rfl (Nat.le_of_ble_eq_true rfl) (fun _ M => ?_)
          refine v_aloadn d_M_first_66 rfl 1 rfl ?_
          refine v_gI d_M_first_67 fl_M_262 rfl (fun x67 => ?_)
          exact v_ret d_M_first_70 rfl
        · refine v_iconst d_M_first_59 (by decide) ?_
          exact v_ret d_M_first_60 rfl
      · refine v_bipush d_M_first_49 (by decide) ?_
        exact v_ret d_M_first_51 rfl
    · refine v_iconst d_M_first_28 (by decide) ?_
      exact v_ret d_M_first_29 rfl
  refine v_ifne d_M_first_13 ?_ ?_
  · refine v_iconst d_M_first_20 (by decide) ?_
    exact hj21 a0 0 M
  · refine v_iconst d_M_first_16 (by decide) ?_
    refine v_goto d_M_first_17 ?_
    exact hj21 a0 1 M
set_option maxHeartbeats 4000000 in
set_option maxRecDepth 100000 in
theorem V_lp_M_next_74 {l : Launch} {w : vm_W} (hfl : l.stackTraces = false) (kx191 : mm_T → Option (Int × mm_T)) (a0 : Nat) (v1 : Int) (v2 : Int) (hkx191 : ∀ (M : mm_T), V_ l w q_M_next 60 ex_I 191 [(0, xA a0), (1, xI v1), (2, xI v2)] [] M (kx191 M)) : ∀ (f : Nat) (v3 : Int) (M : mm_T), V_ l w q_M_next 60 ex_I 74 [(0, xA a0), (1, xI v1), (2, xI v2), (3, xI v3)] [] M (lp_M_next_74 kx191 a0 v1 v2 f v3 M) := by
  intro f
  induction f with
  | zero => intros; exact V_.none
  | succ f ih =>
    intro v3 M
    unfold lp_M_next_74
    refine v_iloadn d_M_next_74 rfl 3 rfl ?_
    refine v_aloadn d_M_next_75 rfl 0 rfl ?_
    refine v_gR d_M_next_76 fl_M_77 rfl (fun r76 => ?_)
    refine v_iconst d_M_next_79 (by decide) ?_
    refine v_iald d_M_next_80 (fun x80 => ?_)
    refine v_icge d_M_next_81 ?_ ?_
    · refine v_sub (ls' := [(0, xA a0), (1, xI v1), (2, xI v2)]) [0, 1, 2] rfl ?_
      exact hkx191 M
    · refine v_iloadn d_M_next_84 rfl 2 rfl ?_
      refine v_iloadn d_M_next_85 rfl 1 rfl ?_
      refine v_icgt d_M_next_86 ?_ ?_
      · refine v_sub (ls' := [(0, xA a0), (1, xI v1), (2, xI v2)]) [0, 1, 2] rfl ?_
        exact hkx191 M
      · refine v_aloadn d_M_next_89 rfl 0 rfl ?_
        refine v_gI d_M_next_90 fl_M_262 rfl (fun x90 => ?_)
        refine v_sipush d_M_next_93 (by decide) ?_
        refine v_icne d_M_next_96 ?_ ?_
        · refine v_aloadn d_M_next_102 rfl 0 rfl ?_
          refine v_dup d_M_next_103 rfl ?_
          refine v_gI d_M_next_104 fl_M_262 rfl (fun x104 => ?_)
          refine v_iconst d_M_next_107 (by decide) ?_
          refine v_iadd d_M_next_108 (fun x108 => ?_)
          refine v_pI d_M_next_109 fl_M_262 (Or.inl rfl) rfl rfl (fun M => ?_)
          refine v_aloadn d_M_next_112 rfl 0 rfl ?_
          refine v_gR d_M_next_113 fl_M_98 rfl (fun r113 => ?_)
          refine v_iloadn d_M_next_116 rfl 2 rfl ?_
          refine v_iloadn d_M_next_117 rfl 3 rfl ?_
          refine v_iast d_M_next_118 (fun M => ?_)
          refine v_aloadn d_M_next_119 rfl 0 rfl ?_
          refine v_aloadn d_M_next_120 rfl 0 rfl ?_
          refine v_gR d_M_next_121 fl_M_98 rfl (fun r121 => ?_)
          refine v_iloadn d_M_next_124 rfl 2 rfl ?_
          refine v_iconst d_M_next_125 (by decide) ?_
          refine v_iadd d_M_next_126 (fun x126 => ?_)
          refine v_cVi d_M_next_127 ml_M_229 (q := (RX11, TX11, 32)) rfl (c_M_goesOn l hfl a0 r121 x126 M) (fun _ => rfl) (by decide) (by decide) (as := [xA r121, xI x126]) (st1 := []) rfl rfl (Nat.le_of_ble_eq_true rfl) (fun c127 M => ?_)
          refine v_join1 (pj := 153) (lj := fun s0_153 => [(0, xA a0), (1, xI v1), (2, xI v2), (3, xI v3)]) (sj := fun s0_153 => [xI s0_153]) (fun s0_153 M => ?_) (fun j153 hj153 => ?_)
          · refine v_istore (lz := fun z => [(4, xI z), (0, xA a0), (1, xI v1), (2, xI v2), (3, xI v3)]) d_M_next_153 (Nat.le_of_ble_eq_true rfl) (fun _ => rfl) (fun v4_153 => ?_)
            refine v_aloadn d_M_next_155 rfl 1 rfl ?_
            refine v_gI d_M_next_156 fl_M_265 rfl (fun x156 => ?_)
            refine v_ifeq d_M_next_159 ?_ ?_
            · refine v_aloadn d_M_next_165 rfl 1 rfl ?_
              refine v_gI d_M_next_166 fl_M_271 rfl (fun x166 => ?_)
              refine v_ifne d_M_next_169 ?_ ?_
              · refine v_aloadn d_M_next_175 rfl 1 rfl ?_
                refine v_aloadn d_M_next_176 rfl 1 rfl ?_
                refine v_gI d_M_next_177 fl_M_184 rfl (fun x177 => ?_)
                refine v_cVv d_M_next_180 ml_M_293 (q := (RX11, TX11, 32)) rfl (c_M_becomesFound l hfl a0 x177 M) (fun _ => rfl) (by decide) (by decide) (as := [xI x177]) (st1 := []) rfl rfl (Nat.le_of_ble_eq_true rfl) (fun _ M => ?_)
                refine v_iloadn d_M_next_183 rfl 3 rfl ?_
                exact v_ret d_M_next_184 rfl
              · refine v_goto d_M_next_172 ?_
                refine v_iinc (lz := fun z => [(3, xI z), (4, xI v4_153), (0, xA a0), (1, xI v1), (2, xI v2)]) d_M_next_185 4 rfl (Nat.le_of_ble_eq_true rfl) (fun _ => rfl) (fun v3_185 => ?_)
                refine v_goto d_M_next_188 ?_
                refine v_sub (ls' := [(0, xA a0), (1, xI v1), (2, xI v2), (3, xI v3_185)]) [2, 3, 4, 0] rfl ?_
                exact ih v3_185 M
            · refine v_bipush d_M_next_162 (by decide) ?_
              exact v_ret d_M_next_164 rfl
          refine v_join0 (pj := 148) (lj := [(0, xA a0), (1, xI v1), (2, xI v2), (3, xI v3)]) (sj := []) (fun M => ?_) (fun j148 hj148 => ?_)
          · refine v_iconst d_M_next_148 (by decide) ?_
            refine v_goto d_M_next_149 ?_
            exact hj153 1 M
          refine v_ifeq d_M_next_130 ?_ ?_
          · exact hj148 M
          · refine v_aloadn d_M_next_133 rfl 0 rfl ?_
            refine v_iloadn d_M_next_134 rfl 2 rfl ?_
            refine v_iconst d_M_next_135 (by decide) ?_
            refine v_iadd d_M_next_136 (fun x136 => ?_)
            refine v_aloadn d_M_next_137 rfl 0 rfl ?_
            refine v_gI d_M_next_138 fl_M_184 rfl (fun x138 => ?_)
            refine v_iconst d_M_next_141 (by decide) ?_
            refine v_cVi d_M_next_142 ml_M_268 (q := (RX11, TX11, 32)) rfl (c_M_searches l hfl 50 a0 x136 x138 0 M) (fun _ => rfl) (by decide) (by decide) (as := [xI x136, xI x138, xI 0]) (st1 := []) rfl rfl (Nat.le_of_ble_eq_true rfl) (fun c142 M => ?_)
            refine v_ifeq d_M_next_145 ?_ ?_
            · refine v_iconst d_M_next_152 (by decide) ?_
              exact hj153 0 M
            · exact hj148 M
        · refine v_bipush d_M_next_99 (by decide) ?_
          exact v_ret d_M_next_101 rfl
set_option maxHeartbeats 4000000 in
set_option maxRecDepth 100000 in
theorem V_lp_M_next_57 {l : Launch} {w : vm_W} (hfl : l.stackTraces = false) (kx197 : mm_T → Option (Int × mm_T)) (a0 : Nat) (v1 : Int) (hkx197 : ∀ (M : mm_T), V_ l w q_M_next 60 ex_I 197 [] [] M (kx197 M)) : ∀ (f : Nat) (v2 : Int) (M : mm_T), V_ l w q_M_next 60 ex_I 57 [(0, xA a0), (1, xI v1), (2, xI v2)] [] M (lp_M_next_57 kx197 a0 v1 f v2 M) := by
  intro f
  induction f with
  | zero => intros; exact V_.none
  | succ f ih =>
    intro v2 M
    unfold lp_M_next_57
    refine v_iloadn d_M_next_57 rfl 2 rfl ?_
    refine v_iflt d_M_next_58 ?_ ?_
    · refine v_sub (ls' := []) [] rfl ?_
      exact hkx197 M
    · refine v_aloadn d_M_next_61 rfl 0 rfl ?_
      refine v_cVv d_M_next_62 ml_M_296 (q := (RX11, TX11, 32)) rfl (c_M_takes l hfl a0 M) (fun _ => rfl) (by decide) (by decide) (as := []) (st1 := []) rfl rfl (Nat.le_of_ble_eq_true rfl) (fun _ M => ?_)
      refine v_aloadn d_M_next_65 rfl 0 rfl ?_
      refine v_gR d_M_next_66 fl_M_83 rfl (fun r66 => ?_)
      refine v_iloadn d_M_next_69 rfl 2 rfl ?_
      refine v_iald d_M_next_70 (fun x70 => ?_)
      refine v_iconst d_M_next_71 (by decide) ?_
      refine v_iadd d_M_next_72 (fun x72 => ?_)
      refine v_istoren (lz := fun z => [(3, xI z), (0, xA a0), (1, xI v1), (2, xI v2)]) d_M_next_73 rfl (Nat.le_of_ble_eq_true rfl) (fun _ => rfl) (fun v3_73 => ?_)
      refine v_sub (ls' := [(0, xA a0), (1, xI v1), (2, xI v2), (3, xI v3_73)]) [1, 2, 3, 0] rfl ?_
      refine V_lp_M_next_74 hfl _ _ _ _ (fun M => ?_) _ _ _
      · refine v_iinc (lz := fun z => [(2, xI z), (0, xA a0), (1, xI v1)]) d_M_next_191 2 rfl (Nat.le_of_ble_eq_true rfl) (fun _ => rfl) (fun v2_191 => ?_)
        refine v_goto d_M_next_194 ?_
        refine v_sub (ls' := [(0, xA a0), (1, xI v1), (2, xI v2_191)]) [1, 2, 0] rfl ?_
        exact ih v2_191 M
set_option maxHeartbeats 4000000 in
set_option maxRecDepth 100000 in
theorem c_M_next (l : Launch) (hfl : l.stackTraces = false) (a0 : Nat) (M : mm_T) : vm_Con l yX11_next (.code yX11_next cX11_next 5 (some .int)) 60 ex_I [xA a0] M (k_M_next a0 M) := by
  refine vm_con (y := q_M_next) hfl (by decide +kernel) rfl (fun h => by cases h) (Nat.le_of_ble_eq_true rfl) rfl (fun _ _ _ => rfl) (fun r E h => by cases h) (fun w => ?_)
  show V_ l w q_M_next 60 ex_I 0 [(0, xA a0)] [] M (k_M_next a0 M)
  unfold k_M_next
  refine v_aloadn d_M_next_0 rfl 0 rfl ?_
  refine v_iconst d_M_next_1 (by decide) ?_
  refine v_pI d_M_next_2 fl_M_3 (Or.inl rfl) rfl rfl (fun M => ?_)
  refine v_aloadn d_M_next_5 rfl 0 rfl ?_
  refine v_aloadn d_M_next_6 rfl 0 rfl ?_
  refine v_gI d_M_next_7 fl_M_184 rfl (fun x7 => ?_)
  refine v_bipush d_M_next_10 (by decide) ?_
  refine v_join2 (pj := 20) (lj := fun sa0_20 s1_20 => [(0, xA a0)]) (sj := fun sa0_20 s1_20 => [xI s1_20, xA sa0_20]) (fun sa0_20 s1_20 M => ?_) (fun j20 hj20 => ?_)
  · refine v_iconst d_M_next_20 (by decide) ?_
    refine v_cVi d_M_next_21 ml_M_180 (q := (RX11, TX11, 32)) rfl (c_M_throwsIf l hfl sa0_20 s1_20 1 M) (fun _ => rfl) (by decide) (by decide) (as := [xI s1_20, xI 1]) (st1 := []) rfl rfl (Nat.le_of_ble_eq_true rfl) (fun c21 M => ?_)
    refine v_ifeq d_M_next_24 ?_ ?_
    · refine v_aloadn d_M_next_29 rfl 0 rfl ?_
      refine v_cVv d_M_next_30 ml_M_290 (q := (RX11, TX11, 32)) rfl (c_M_startsSearch l hfl a0 M) (fun _ => rfl) (by decide) (by decide) (as := []) (st1 := []) rfl rfl (Nat.le_of_ble_eq_true rfl) (fun _ M => ?_)
      refine v_aloadn d_M_next_33 rfl 0 rfl ?_
      refine v_cVv d_M_next_34 ml_M_296 (q := (RX11, TX11, 32)) rfl (c_M_takes l hfl a0 M) (fun _ => rfl) (by decide) (by decide) (as := []) (st1 := []) rfl rfl (Nat.le_of_ble_eq_true rfl) (fun _ M => ?_)
      refine v_aloadn d_M_next_37 rfl 0 rfl ?_
      refine v_aloadn d_M_next_38 rfl 0 rfl ?_
      refine v_gR d_M_next_39 fl_M_83 rfl (fun r39 => ?_)
      refine v_aloadn d_M_next_42 rfl 0 rfl ?_
      refine v_gI d_M_next_43 fl_M_184 rfl (fun x43 => ?_)
      refine v_cVi d_M_next_46 ml_M_232 (q := (RX11, TX11, 32)) rfl (c_M_freeOf l hfl a0 r39 x43 M) (fun _ => rfl) (by decide) (by decide) (as := [xA r39, xI x43]) (st1 := []) rfl rfl (Nat.le_of_ble_eq_true rfl) (fun c46 M => ?_)
      refine v_istoren (lz := fun z => [(1, xI z), (0, xA a0)]) d_M_next_49 rfl (Nat.le_of_ble_eq_true rfl) (fun _ => rfl) (fun v1_49 => ?_)
      refine v_aloadn d_M_next_50 rfl 1 rfl ?_
      refine v_gI d_M_next_51 fl_M_184 rfl (fun x51 => ?_)
      refine v_iconst d_M_next_54 (by decide) ?_
      refine v_isub d_M_next_55 (fun x55 => ?_)
      refine v_istoren (lz := fun z => [(2, xI z), (1, xI v1_49), (0, xA a0)]) d_M_next_56 rfl (Nat.le_of_ble_eq_true rfl) (fun _ => rfl) (fun v2_56 => ?_)
      refine v_sub (ls' := [(0, xA a0), (1, xI v1_49), (2, xI v2_56)]) [2, 1, 0] rfl ?_
      refine V_lp_M_next_57 hfl _ _ _ (fun M => ?_) _ _ _
      · refine v_iconst d_M_next_197 (by decide) ?_
        exact v_ret d_M_next_198 rfl
    · refine v_iconst d_M_next_27 (by decide) ?_
      exact v_ret d_M_next_28 rfl
  refine v_icle d_M_next_12 ?_ ?_
  · refine v_iconst d_M_next_19 (by decide) ?_
    exact hj20 a0 0 M
  · refine v_iconst d_M_next_15 (by decide) ?_
    refine v_goto d_M_next_16 ?_
    exact hj20 a0 1 M
set_option maxHeartbeats 4000000 in
set_option maxRecDepth 100000 in
theorem c_M_countBy (l : Launch) (hfl : l.stackTraces = false) (a0 : Nat) (v1 : Int) (v2 : Int) (M : mm_T) : vm_Con l yX11_countBy (.code yX11_countBy cX11_countBy 4 (some .int)) 60 ex_I [xA a0, xI v1, xI v2] M (k_M_countBy a0 v1 v2 M) := by
  refine vm_con (y := q_M_countBy) hfl (by decide +kernel) rfl (fun h => by cases h) (Nat.le_of_ble_eq_true rfl) rfl (fun _ _ _ => rfl) (fun r E h => by cases h) (fun w => ?_)
  show V_ l w q_M_countBy 60 ex_I 0 [(0, xA a0), (1, xI v1), (2, xI v2)] [] M (k_M_countBy a0 v1 v2 M)
  unfold k_M_countBy
  refine v_aloadn d_M_countBy_0 rfl 0 rfl ?_
  refine v_cVv d_M_countBy_1 ml_M_290 (q := (RX11, TX11, 32)) rfl (c_M_startsSearch l hfl a0 M) (fun _ => rfl) (by decide) (by decide) (as := []) (st1 := []) rfl rfl (Nat.le_of_ble_eq_true rfl) (fun _ M => ?_)
  refine v_aloadn d_M_countBy_4 rfl 0 rfl ?_
  refine v_iconst d_M_countBy_5 (by decide) ?_
  refine v_iloadn d_M_countBy_6 rfl 1 rfl ?_
  refine v_iloadn d_M_countBy_7 rfl 2 rfl ?_
  refine v_cVi d_M_countBy_8 ml_M_268 (q := (RX11, TX11, 32)) rfl (c_M_searches l hfl 50 a0 0 v1 v2 M) (fun _ => rfl) (by decide) (by decide) (as := [xI 0, xI v1, xI v2]) (st1 := []) rfl rfl (Nat.le_of_ble_eq_true rfl) (fun c8 M => ?_)
  refine v_istoren (lz := fun z => [(3, xI z), (0, xA a0), (1, xI v1), (2, xI v2)]) d_M_countBy_11 rfl (Nat.le_of_ble_eq_true rfl) (fun _ => rfl) (fun v3_11 => ?_)
  refine v_aloadn d_M_countBy_12 rfl 1 rfl ?_
  refine v_gI d_M_countBy_13 fl_M_265 rfl (fun x13 => ?_)
  refine v_ifeq d_M_countBy_16 ?_ ?_
  · refine v_aloadn d_M_countBy_24 rfl 1 rfl ?_
    refine v_gI d_M_countBy_25 fl_M_274 rfl (fun x25 => ?_)
    exact v_ret d_M_countBy_28 rfl
  · refine v_bipush d_M_countBy_19 (by decide) ?_
    refine v_goto d_M_countBy_21 ?_
    exact v_ret d_M_countBy_28 rfl
set_option maxHeartbeats 4000000 in
set_option maxRecDepth 100000 in
theorem c_M_many (l : Launch) (hfl : l.stackTraces = false) (a0 : Nat) (v1 : Int) (M : mm_T) : vm_Con l yX11_many (.code yX11_many cX11_many 2 (some .int)) 61 ex_I [xA a0, xI v1] M (k_M_many a0 v1 M) := by
  refine vm_con (y := q_M_many) hfl (by decide +kernel) rfl (fun h => by cases h) (Nat.le_of_ble_eq_true rfl) rfl (fun _ _ _ => rfl) (fun r E h => by cases h) (fun w => ?_)
  show V_ l w q_M_many 61 ex_I 0 [(0, xA a0), (1, xI v1)] [] M (k_M_many a0 v1 M)
  unfold k_M_many
  refine v_aloadn d_M_many_0 rfl 0 rfl ?_
  refine v_iconst d_M_many_1 (by decide) ?_
  refine v_pI d_M_many_2 fl_M_3 (Or.inl rfl) rfl rfl (fun M => ?_)
  refine v_aloadn d_M_many_5 rfl 0 rfl ?_
  refine v_iloadn d_M_many_6 rfl 1 rfl ?_
  refine v_iconst d_M_many_7 (by decide) ?_
  refine v_bipush d_M_many_8 (by decide) ?_
  refine v_cSi d_M_many_10 ml_M_65 (c_M_in l hfl v1 0 40 M) (fun _ => rfl) (by decide) (by decide) (as := [xI v1, xI 0, xI 40]) (st1 := [xA a0]) rfl rfl (Nat.le_of_ble_eq_true rfl) (fun c10 M => ?_)
  refine v_join2 (pj := 21) (lj := fun sa0_21 s1_21 => [(0, xA a0), (1, xI v1)]) (sj := fun sa0_21 s1_21 => [xI s1_21, xA sa0_21]) (fun sa0_21 s1_21 M => ?_) (fun j21 hj21 => ?_)
  · refine v_iconst d_M_many_21 (by decide) ?_
    refine v_cVi d_M_many_22 ml_M_180 (q := (RX11, TX11, 32)) rfl (c_M_throwsIf l hfl sa0_21 s1_21 1 M) (fun _ => rfl) (by decide) (by decide) (as := [xI s1_21, xI 1]) (st1 := []) rfl rfl (Nat.le_of_ble_eq_true rfl) (fun c22 M => ?_)
    refine v_ifeq d_M_many_25 ?_ ?_
    · refine v_aloadn d_M_many_30 rfl 0 rfl ?_
      refine v_iloadn d_M_many_31 rfl 1 rfl ?_
      refine v_iconst d_M_many_32 (by decide) ?_
      refine v_cVi d_M_many_33 ml_M_299 (q := (RX11, TX11, 32)) rfl (c_M_countBy l hfl a0 v1 1 M) (fun _ => rfl) (by decide) (by decide) (as := [xI v1, xI 1]) (st1 := []) rfl rfl (Nat.le_of_ble_eq_true rfl) (fun c33 M => ?_)
      exact v_ret d_M_many_36 rfl
    · refine v_iconst d_M_many_28 (by decide) ?_
      exact v_ret d_M_many_29 rfl
  refine v_ifne d_M_many_13 ?_ ?_
  · refine v_iconst d_M_many_20 (by decide) ?_
    exact hj21 a0 0 M
  · refine v_iconst d_M_many_16 (by decide) ?_
    refine v_goto d_M_many_17 ?_
    exact hj21 a0 1 M
set_option maxHeartbeats 4000000 in
set_option maxRecDepth 100000 in
theorem c_M_growth (l : Launch) (hfl : l.stackTraces = false) (a0 : Nat) (v1 : Int) (M : mm_T) : vm_Con l yX11_growth (.code yX11_growth cX11_growth 4 (some .int)) 61 ex_I [xA a0, xI v1] M (k_M_growth a0 v1 M) := by
  refine vm_con (y := q_M_growth) hfl (by decide +kernel) rfl (fun h => by cases h) (Nat.le_of_ble_eq_true rfl) rfl (fun _ _ _ => rfl) (fun r E h => by cases h) (fun w => ?_)
  show V_ l w q_M_growth 61 ex_I 0 [(0, xA a0), (1, xI v1)] [] M (k_M_growth a0 v1 M)
  unfold k_M_growth
  refine v_aloadn d_M_growth_0 rfl 0 rfl ?_
  refine v_iconst d_M_growth_1 (by decide) ?_
  refine v_pI d_M_growth_2 fl_M_3 (Or.inl rfl) rfl rfl (fun M => ?_)
  refine v_aloadn d_M_growth_5 rfl 0 rfl ?_
  refine v_iloadn d_M_growth_6 rfl 1 rfl ?_
  refine v_iconst d_M_growth_7 (by decide) ?_
  refine v_bipush d_M_growth_8 (by decide) ?_
  refine v_cSi d_M_growth_10 ml_M_65 (c_M_in l hfl v1 0 39 M) (fun _ => rfl) (by decide) (by decide) (as := [xI v1, xI 0, xI 39]) (st1 := [xA a0]) rfl rfl (Nat.le_of_ble_eq_true rfl) (fun c10 M => ?_)
  refine v_join2 (pj := 21) (lj := fun sa0_21 s1_21 => [(0, xA a0), (1, xI v1)]) (sj := fun sa0_21 s1_21 => [xI s1_21, xA sa0_21]) (fun sa0_21 s1_21 M => ?_) (fun j21 hj21 => ?_)
  · refine v_iconst d_M_growth_21 (by decide) ?_
    refine v_cVi d_M_growth_22 ml_M_180 (q := (RX11, TX11, 32)) rfl (c_M_throwsIf l hfl sa0_21 s1_21 1 M) (fun _ => rfl) (by decide) (by decide) (as := [xI s1_21, xI 1]) (st1 := []) rfl rfl (Nat.le_of_ble_eq_true rfl) (fun c22 M => ?_)
    refine v_ifeq d_M_growth_25 ?_ ?_
    · refine v_aloadn d_M_growth_30 rfl 0 rfl ?_
      refine v_iloadn d_M_growth_31 rfl 1 rfl ?_
      refine v_iconst d_M_growth_32 (by decide) ?_
      refine v_cVi d_M_growth_33 ml_M_299 (q := (RX11, TX11, 32)) rfl (c_M_countBy l hfl a0 v1 1 M) (fun _ => rfl) (by decide) (by decide) (as := [xI v1, xI 1]) (st1 := []) rfl rfl (Nat.le_of_ble_eq_true rfl) (fun c33 M => ?_)
      refine v_istoren (lz := fun z => [(2, xI z), (0, xA a0), (1, xI v1)]) d_M_growth_36 rfl (Nat.le_of_ble_eq_true rfl) (fun _ => rfl) (fun v2_36 => ?_)
      refine v_iloadn d_M_growth_37 rfl 0 rfl ?_
      refine v_bipush d_M_growth_38 (by decide) ?_
      refine v_join0 (pj := 47) (lj := [(2, xI v2_36)]) (sj := []) (fun M => ?_) (fun j47 hj47 => ?_)
      · refine v_iloadn d_M_growth_47 rfl 0 rfl ?_
        refine v_bipush d_M_growth_48 (by decide) ?_
        refine v_icne d_M_growth_50 ?_ ?_
        · refine v_iconst d_M_growth_58 (by decide) ?_
          exact v_ret d_M_growth_59 rfl
        · refine v_bipush d_M_growth_53 (by decide) ?_
          refine v_goto d_M_growth_55 ?_
          exact v_ret d_M_growth_59 rfl
      refine v_iceq d_M_growth_40 ?_ ?_
      · refine v_sub (ls' := [(2, xI v2_36)]) [0] rfl ?_
        exact hj47 M
      · refine v_iloadn d_M_growth_43 rfl 0 rfl ?_
        refine v_ifne d_M_growth_44 ?_ ?_
        · refine v_aloadn d_M_growth_60 rfl 1 rfl ?_
          refine v_iloadn d_M_growth_61 rfl 2 rfl ?_
          refine v_iconst d_M_growth_62 (by decide) ?_
          refine v_iadd d_M_growth_63 (fun x63 => ?_)
          refine v_iconst d_M_growth_64 (by decide) ?_
          refine v_cVi d_M_growth_65 ml_M_299 (q := (RX11, TX11, 32)) rfl (c_M_countBy l hfl a0 x63 1 M) (fun _ => rfl) (by decide) (by decide) (as := [xI x63, xI 1]) (st1 := []) rfl rfl (Nat.le_of_ble_eq_true rfl) (fun c65 M => ?_)
          refine v_istoren (lz := fun z => [(3, xI z), (2, xI v2_36), (0, xA a0), (1, xI v1)]) d_M_growth_68 rfl (Nat.le_of_ble_eq_true rfl) (fun _ => rfl) (fun v3_68 => ?_)
          refine v_iloadn d_M_growth_69 rfl 0 rfl ?_
          refine v_bipush d_M_growth_70 (by decide) ?_
          refine v_icne d_M_growth_72 ?_ ?_
          · refine v_sipush d_M_growth_80 (by decide) ?_
            refine v_iloadn d_M_growth_83 rfl 0 rfl ?_
            refine v_imul d_M_growth_84 (fun x84 => ?_)
            refine v_iloadn d_M_growth_85 rfl 1 rfl ?_
            refine v_idiv d_M_growth_86 (fun x86 => ?_)
            exact v_ret d_M_growth_87 rfl
          · refine v_bipush d_M_growth_75 (by decide) ?_
            refine v_goto d_M_growth_77 ?_
            exact v_ret d_M_growth_87 rfl
        · refine v_sub (ls' := [(2, xI v2_36)]) [0] rfl ?_
          exact hj47 M
    · refine v_iconst d_M_growth_28 (by decide) ?_
      exact v_ret d_M_growth_29 rfl
  refine v_ifne d_M_growth_13 ?_ ?_
  · refine v_iconst d_M_growth_20 (by decide) ?_
    exact hj21 a0 0 M
  · refine v_iconst d_M_growth_16 (by decide) ?_
    refine v_goto d_M_growth_17 ?_
    exact hj21 a0 1 M
set_option maxHeartbeats 4000000 in
set_option maxRecDepth 100000 in
theorem V_lp_M_longest_7 {l : Launch} {w : vm_W} (hfl : l.stackTraces = false) (kx52 : mm_T → Option (Int × mm_T)) (a0 : Nat) (hkx52 : ∀ (M : mm_T), V_ l w q_M_longest 60 ex_I 52 [] [] M (kx52 M)) : ∀ (f : Nat) (v1 : Int) (M : mm_T), V_ l w q_M_longest 60 ex_I 7 [(0, xA a0), (1, xI v1)] [] M (lp_M_longest_7 kx52 a0 f v1 M) := by
  intro f
  induction f with
  | zero => intros; exact V_.none
  | succ f ih =>
    intro v1 M
    unfold lp_M_longest_7
    refine v_iloadn d_M_longest_7 rfl 1 rfl ?_
    refine v_bipush d_M_longest_8 (by decide) ?_
    refine v_icgt d_M_longest_10 ?_ ?_
    · refine v_sub (ls' := []) [] rfl ?_
      exact hkx52 M
    · refine v_aloadn d_M_longest_13 rfl 0 rfl ?_
      refine v_cVv d_M_longest_14 ml_M_290 (q := (RX11, TX11, 32)) rfl (c_M_startsSearch l hfl a0 M) (fun _ => rfl) (by decide) (by decide) (as := []) (st1 := []) rfl rfl (Nat.le_of_ble_eq_true rfl) (fun _ M => ?_)
      refine v_aloadn d_M_longest_17 rfl 0 rfl ?_
      refine v_iconst d_M_longest_18 (by decide) ?_
      refine v_iloadn d_M_longest_19 rfl 1 rfl ?_
      refine v_iconst d_M_longest_20 (by decide) ?_
      refine v_cVi d_M_longest_21 ml_M_268 (q := (RX11, TX11, 32)) rfl (c_M_searches l hfl 50 a0 0 v1 0 M) (fun _ => rfl) (by decide) (by decide) (as := [xI 0, xI v1, xI 0]) (st1 := []) rfl rfl (Nat.le_of_ble_eq_true rfl) (fun c21 M => ?_)
      refine v_istoren (lz := fun z => [(2, xI z), (0, xA a0), (1, xI v1)]) d_M_longest_24 rfl (Nat.le_of_ble_eq_true rfl) (fun _ => rfl) (fun v2_24 => ?_)
      refine v_aloadn d_M_longest_25 rfl 1 rfl ?_
      refine v_gI d_M_longest_26 fl_M_265 rfl (fun x26 => ?_)
      refine v_ifeq d_M_longest_29 ?_ ?_
      · refine v_aloadn d_M_longest_35 rfl 1 rfl ?_
        refine v_gI d_M_longest_36 fl_M_271 rfl (fun x36 => ?_)
        refine v_ifne d_M_longest_39 ?_ ?_
        · refine v_iinc (lz := fun z => [(1, xI z), (2, xI v2_24), (0, xA a0)]) d_M_longest_46 2 rfl (Nat.le_of_ble_eq_true rfl) (fun _ => rfl) (fun v1_46 => ?_)
          refine v_goto d_M_longest_49 ?_
          refine v_sub (ls' := [(0, xA a0), (1, xI v1_46)]) [2, 0] rfl ?_
          exact ih v1_46 M
        · refine v_iloadn d_M_longest_42 rfl 2 rfl ?_
          refine v_iconst d_M_longest_43 (by decide) ?_
          refine v_isub d_M_longest_44 (fun x44 => ?_)
          exact v_ret d_M_longest_45 rfl
      · refine v_bipush d_M_longest_32 (by decide) ?_
        exact v_ret d_M_longest_34 rfl
set_option maxHeartbeats 4000000 in
set_option maxRecDepth 100000 in
theorem c_M_longest (l : Launch) (hfl : l.stackTraces = false) (a0 : Nat) (M : mm_T) : vm_Con l yX11_longest (.code yX11_longest cX11_longest 3 (some .int)) 60 ex_I [xA a0] M (k_M_longest a0 M) := by
  refine vm_con (y := q_M_longest) hfl (by decide +kernel) rfl (fun h => by cases h) (Nat.le_of_ble_eq_true rfl) rfl (fun _ _ _ => rfl) (fun r E h => by cases h) (fun w => ?_)
  show V_ l w q_M_longest 60 ex_I 0 [(0, xA a0)] [] M (k_M_longest a0 M)
  unfold k_M_longest
  refine v_aloadn d_M_longest_0 rfl 0 rfl ?_
  refine v_iconst d_M_longest_1 (by decide) ?_
  refine v_pI d_M_longest_2 fl_M_3 (Or.inl rfl) rfl rfl (fun M => ?_)
  refine v_iconst d_M_longest_5 (by decide) ?_
  refine v_istoren (lz := fun z => [(1, xI z), (0, xA a0)]) d_M_longest_6 rfl (Nat.le_of_ble_eq_true rfl) (fun _ => rfl) (fun v1_6 => ?_)
  refine v_sub (ls' := [(0, xA a0), (1, xI v1_6)]) [1, 0] rfl ?_
  refine V_lp_M_longest_7 hfl _ _ (fun M => ?_) _ _ _
  · refine v_bipush d_M_longest_52 (by decide) ?_
    exact v_ret d_M_longest_54 rfl
set_option maxHeartbeats 4000000 in
set_option maxRecDepth 100000 in
theorem V_lp_M_further_29 {l : Launch} {w : vm_W} (hfl : l.stackTraces = false) (kx85 : mm_T → Option (Int × mm_T)) (a0 : Nat) (v1 : Int) (hkx85 : ∀ (M : mm_T), V_ l w q_M_further 60 ex_I 85 [(1, xI v1)] [] M (kx85 M)) : ∀ (f : Nat) (v2 : Int) (M : mm_T), V_ l w q_M_further 60 ex_I 29 [(0, xA a0), (1, xI v1), (2, xI v2)] [] M (lp_M_further_29 kx85 a0 v1 f v2 M) := by
  intro f
  induction f with
  | zero => intros; exact V_.none
  | succ f ih =>
    intro v2 M
    unfold lp_M_further_29
    refine v_iloadn d_M_further_29 rfl 2 rfl ?_
    refine v_iloadn d_M_further_30 rfl 1 rfl ?_
    refine v_icgt d_M_further_31 ?_ ?_
    · refine v_sub (ls' := [(1, xI v1)]) [1] rfl ?_
      exact hkx85 M
    · refine v_aloadn d_M_further_34 rfl 0 rfl ?_
      refine v_cVv d_M_further_35 ml_M_290 (q := (RX11, TX11, 32)) rfl (c_M_startsSearch l hfl a0 M) (fun _ => rfl) (by decide) (by decide) (as := []) (st1 := []) rfl rfl (Nat.le_of_ble_eq_true rfl) (fun _ M => ?_)
      refine v_aloadn d_M_further_38 rfl 0 rfl ?_
      refine v_cVv d_M_further_39 ml_M_296 (q := (RX11, TX11, 32)) rfl (c_M_takes l hfl a0 M) (fun _ => rfl) (by decide) (by decide) (as := []) (st1 := []) rfl rfl (Nat.le_of_ble_eq_true rfl) (fun _ M => ?_)
      refine v_aloadn d_M_further_42 rfl 0 rfl ?_
      refine v_aloadn d_M_further_43 rfl 0 rfl ?_
      refine v_gI d_M_further_44 fl_M_184 rfl (fun x44 => ?_)
      refine v_aloadn d_M_further_47 rfl 0 rfl ?_
      refine v_gI d_M_further_48 fl_M_184 rfl (fun x48 => ?_)
      refine v_iloadn d_M_further_51 rfl 2 rfl ?_
      refine v_iadd d_M_further_52 (fun x52 => ?_)
      refine v_iconst d_M_further_53 (by decide) ?_
      refine v_cVi d_M_further_54 ml_M_268 (q := (RX11, TX11, 32)) rfl (c_M_searches l hfl 50 a0 x44 x52 0 M) (fun _ => rfl) (by decide) (by decide) (as := [xI x44, xI x52, xI 0]) (st1 := []) rfl rfl (Nat.le_of_ble_eq_true rfl) (fun c54 M => ?_)
      refine v_istoren (lz := fun z => [(3, xI z), (0, xA a0), (1, xI v1), (2, xI v2)]) d_M_further_57 rfl (Nat.le_of_ble_eq_true rfl) (fun _ => rfl) (fun v3_57 => ?_)
      refine v_aloadn d_M_further_58 rfl 1 rfl ?_
      refine v_gI d_M_further_59 fl_M_265 rfl (fun x59 => ?_)
      refine v_ifeq d_M_further_62 ?_ ?_
      · refine v_aloadn d_M_further_68 rfl 1 rfl ?_
        refine v_gI d_M_further_69 fl_M_271 rfl (fun x69 => ?_)
        refine v_ifne d_M_further_72 ?_ ?_
        · refine v_iinc (lz := fun z => [(2, xI z), (3, xI v3_57), (0, xA a0), (1, xI v1)]) d_M_further_79 3 rfl (Nat.le_of_ble_eq_true rfl) (fun _ => rfl) (fun v2_79 => ?_)
          refine v_goto d_M_further_82 ?_
          refine v_sub (ls' := [(0, xA a0), (1, xI v1), (2, xI v2_79)]) [2, 3, 0] rfl ?_
          exact ih v2_79 M
        · refine v_iloadn d_M_further_75 rfl 3 rfl ?_
          refine v_iconst d_M_further_76 (by decide) ?_
          refine v_isub d_M_further_77 (fun x77 => ?_)
          exact v_ret d_M_further_78 rfl
      · refine v_bipush d_M_further_65 (by decide) ?_
        exact v_ret d_M_further_67 rfl
set_option maxHeartbeats 4000000 in
set_option maxRecDepth 100000 in
theorem c_M_further (l : Launch) (hfl : l.stackTraces = false) (a0 : Nat) (M : mm_T) : vm_Con l yX11_further (.code yX11_further cX11_further 4 (some .int)) 60 ex_I [xA a0] M (k_M_further a0 M) := by
  refine vm_con (y := q_M_further) hfl (by decide +kernel) rfl (fun h => by cases h) (Nat.le_of_ble_eq_true rfl) rfl (fun _ _ _ => rfl) (fun r E h => by cases h) (fun w => ?_)
  show V_ l w q_M_further 60 ex_I 0 [(0, xA a0)] [] M (k_M_further a0 M)
  unfold k_M_further
  refine v_aloadn d_M_further_0 rfl 0 rfl ?_
  refine v_iconst d_M_further_1 (by decide) ?_
  refine v_pI d_M_further_2 fl_M_3 (Or.inl rfl) rfl rfl (fun M => ?_)
  refine v_aloadn d_M_further_5 rfl 0 rfl ?_
  refine v_cVi d_M_further_6 ml_M_236 (q := (RX11, TX11, 32)) rfl (c_M_isFree l hfl a0 M) (fun _ => rfl) (by decide) (by decide) (as := []) (st1 := []) rfl rfl (Nat.le_of_ble_eq_true rfl) (fun c6 M => ?_)
  refine v_ifne d_M_further_9 ?_ ?_
  · refine v_bipush d_M_further_14 (by decide) ?_
    refine v_bipush d_M_further_16 (by decide) ?_
    refine v_aloadn d_M_further_18 rfl 0 rfl ?_
    refine v_gI d_M_further_19 fl_M_184 rfl (fun x19 => ?_)
    refine v_isub d_M_further_22 (fun x22 => ?_)
    refine v_mmin d_M_further_23 gw_1803 gw_588 gw_131 gw_589 (by first | decide | omega) (Nat.le_of_ble_eq_true rfl) ?_
    refine v_istoren (lz := fun z => [(1, xI z), (0, xA a0)]) d_M_further_26 rfl (Nat.le_of_ble_eq_true rfl) (fun _ => rfl) (fun v1_26 => ?_)
    refine v_iconst d_M_further_27 (by decide) ?_
    refine v_istoren (lz := fun z => [(2, xI z), (1, xI v1_26), (0, xA a0)]) d_M_further_28 rfl (Nat.le_of_ble_eq_true rfl) (fun _ => rfl) (fun v2_28 => ?_)
    refine v_sub (ls' := [(0, xA a0), (1, xI v1_26), (2, xI v2_28)]) [2, 1, 0] rfl ?_
    refine V_lp_M_further_29 hfl _ _ _ (fun M => ?_) _ _ _
    · refine v_iloadn d_M_further_85 rfl 0 rfl ?_
      exact v_ret d_M_further_86 rfl
  · refine v_iconst d_M_further_12 (by decide) ?_
    exact v_ret d_M_further_13 rfl
set_option maxHeartbeats 4000000 in
set_option maxRecDepth 100000 in
theorem c_M_stuck (l : Launch) (hfl : l.stackTraces = false) (a0 : Nat) (v1 : Int) (M : mm_T) : vm_Con l yX11_stuck (.code yX11_stuck cX11_stuck 2 (some .int)) 61 ex_I [xA a0, xI v1] M (k_M_stuck a0 v1 M) := by
  refine vm_con (y := q_M_stuck) hfl (by decide +kernel) rfl (fun h => by cases h) (Nat.le_of_ble_eq_true rfl) rfl (fun _ _ _ => rfl) (fun r E h => by cases h) (fun w => ?_)
  show V_ l w q_M_stuck 61 ex_I 0 [(0, xA a0), (1, xI v1)] [] M (k_M_stuck a0 v1 M)
  unfold k_M_stuck
  refine v_aloadn d_M_stuck_0 rfl 0 rfl ?_
  refine v_iconst d_M_stuck_1 (by decide) ?_
  refine v_pI d_M_stuck_2 fl_M_3 (Or.inl rfl) rfl rfl (fun M => ?_)
  refine v_aloadn d_M_stuck_5 rfl 0 rfl ?_
  refine v_iloadn d_M_stuck_6 rfl 1 rfl ?_
  refine v_iconst d_M_stuck_7 (by decide) ?_
  refine v_bipush d_M_stuck_8 (by decide) ?_
  refine v_cSi d_M_stuck_10 ml_M_65 (c_M_in l hfl v1 0 40 M) (fun _ => rfl) (by decide) (by decide) (as := [xI v1, xI 0, xI 40]) (st1 := [xA a0]) rfl rfl (Nat.le_of_ble_eq_true rfl) (fun c10 M => ?_)
  refine v_join2 (pj := 21) (lj := fun sa0_21 s1_21 => [(0, xA a0), (1, xI v1)]) (sj := fun sa0_21 s1_21 => [xI s1_21, xA sa0_21]) (fun sa0_21 s1_21 M => ?_) (fun j21 hj21 => ?_)
  · refine v_iconst d_M_stuck_21 (by decide) ?_
    refine v_cVi d_M_stuck_22 ml_M_180 (q := (RX11, TX11, 32)) rfl (c_M_throwsIf l hfl sa0_21 s1_21 1 M) (fun _ => rfl) (by decide) (by decide) (as := [xI s1_21, xI 1]) (st1 := []) rfl rfl (Nat.le_of_ble_eq_true rfl) (fun c22 M => ?_)
    refine v_ifeq d_M_stuck_25 ?_ ?_
    · refine v_aloadn d_M_stuck_30 rfl 0 rfl ?_
      refine v_iloadn d_M_stuck_31 rfl 1 rfl ?_
      refine v_iconst d_M_stuck_32 (by decide) ?_
      refine v_cVi d_M_stuck_33 ml_M_299 (q := (RX11, TX11, 32)) rfl (c_M_countBy l hfl a0 v1 2 M) (fun _ => rfl) (by decide) (by decide) (as := [xI v1, xI 2]) (st1 := []) rfl rfl (Nat.le_of_ble_eq_true rfl) (fun c33 M => ?_)
      exact v_ret d_M_stuck_36 rfl
    · refine v_iconst d_M_stuck_28 (by decide) ?_
      exact v_ret d_M_stuck_29 rfl
  refine v_ifne d_M_stuck_13 ?_ ?_
  · refine v_iconst d_M_stuck_20 (by decide) ?_
    exact hj21 a0 0 M
  · refine v_iconst d_M_stuck_16 (by decide) ?_
    refine v_goto d_M_stuck_17 ?_
    exact hj21 a0 1 M
set_option maxHeartbeats 4000000 in
set_option maxRecDepth 100000 in
theorem c_M_rank (l : Launch) (hfl : l.stackTraces = false) (a0 : Nat) (M : mm_T) : vm_Con l yX11_rank (.code yX11_rank cX11_rank 1 (some .int)) 61 ex_I [xA a0] M (k_M_rank a0 M) := by
  refine vm_con (y := q_M_rank) hfl (by decide +kernel) rfl (fun h => by cases h) (Nat.le_of_ble_eq_true rfl) rfl (fun _ _ _ => rfl) (fun r E h => by cases h) (fun w => ?_)
  show V_ l w q_M_rank 61 ex_I 0 [(0, xA a0)] [] M (k_M_rank a0 M)
  unfold k_M_rank
  refine v_aloadn d_M_rank_0 rfl 0 rfl ?_
  refine v_iconst d_M_rank_1 (by decide) ?_
  refine v_pI d_M_rank_2 fl_M_3 (Or.inl rfl) rfl rfl (fun M => ?_)
  refine v_aloadn d_M_rank_5 rfl 0 rfl ?_
  refine v_aloadn d_M_rank_6 rfl 0 rfl ?_
  refine v_gI d_M_rank_7 fl_M_184 rfl (fun x7 => ?_)
  refine v_bipush d_M_rank_10 (by decide) ?_
  refine v_join2 (pj := 20) (lj := fun sa0_20 s1_20 => [(0, xA a0)]) (sj := fun sa0_20 s1_20 => [xI s1_20, xA sa0_20]) (fun sa0_20 s1_20 M => ?_) (fun j20 hj20 => ?_)
  · refine v_iconst d_M_rank_20 (by decide) ?_
    refine v_cVi d_M_rank_21 ml_M_180 (q := (RX11, TX11, 32)) rfl (c_M_throwsIf l hfl sa0_20 s1_20 1 M) (fun _ => rfl) (by decide) (by decide) (as := [xI s1_20, xI 1]) (st1 := []) rfl rfl (Nat.le_of_ble_eq_true rfl) (fun c21 M => ?_)
    refine v_ifeq d_M_rank_24 ?_ ?_
    · refine v_aloadn d_M_rank_29 rfl 0 rfl ?_
      refine v_aloadn d_M_rank_30 rfl 0 rfl ?_
      refine v_gI d_M_rank_31 fl_M_184 rfl (fun x31 => ?_)
      refine v_iconst d_M_rank_34 (by decide) ?_
      refine v_cVi d_M_rank_35 ml_M_299 (q := (RX11, TX11, 32)) rfl (c_M_countBy l hfl a0 x31 3 M) (fun _ => rfl) (by decide) (by decide) (as := [xI x31, xI 3]) (st1 := []) rfl rfl (Nat.le_of_ble_eq_true rfl) (fun c35 M => ?_)
      exact v_ret d_M_rank_38 rfl
    · refine v_iconst d_M_rank_27 (by decide) ?_
      exact v_ret d_M_rank_28 rfl
  refine v_icle d_M_rank_12 ?_ ?_
  · refine v_iconst d_M_rank_19 (by decide) ?_
    exact hj20 a0 0 M
  · refine v_iconst d_M_rank_15 (by decide) ?_
    refine v_goto d_M_rank_16 ?_
    exact hj20 a0 1 M
set_option maxHeartbeats 4000000 in
set_option maxRecDepth 100000 in
theorem c_M_nth (l : Launch) (hfl : l.stackTraces = false) (a0 : Nat) (v1 : Int) (v2 : Int) (M : mm_T) : vm_Con l yX11_nth (.code yX11_nth cX11_nth 4 (some .int)) 60 ex_I [xA a0, xI v1, xI v2] M (k_M_nth a0 v1 v2 M) := by
  refine vm_con (y := q_M_nth) hfl (by decide +kernel) rfl (fun h => by cases h) (Nat.le_of_ble_eq_true rfl) rfl (fun _ _ _ => rfl) (fun r E h => by cases h) (fun w => ?_)
  show V_ l w q_M_nth 60 ex_I 0 [(0, xA a0), (1, xI v1), (2, xI v2)] [] M (k_M_nth a0 v1 v2 M)
  unfold k_M_nth
  refine v_aloadn d_M_nth_0 rfl 0 rfl ?_
  refine v_iconst d_M_nth_1 (by decide) ?_
  refine v_pI d_M_nth_2 fl_M_3 (Or.inl rfl) rfl rfl (fun M => ?_)
  refine v_aloadn d_M_nth_5 rfl 0 rfl ?_
  refine v_iloadn d_M_nth_6 rfl 1 rfl ?_
  refine v_iconst d_M_nth_7 (by decide) ?_
  refine v_bipush d_M_nth_8 (by decide) ?_
  refine v_cSi d_M_nth_10 ml_M_65 (c_M_in l hfl v1 1 40 M) (fun _ => rfl) (by decide) (by decide) (as := [xI v1, xI 1, xI 40]) (st1 := [xA a0]) rfl rfl (Nat.le_of_ble_eq_true rfl) (fun c10 M => ?_)
  refine v_join2 (pj := 25) (lj := fun sa0_25 s1_25 => [(0, xA a0), (1, xI v1), (2, xI v2)]) (sj := fun sa0_25 s1_25 => [xI s1_25, xA sa0_25]) (fun sa0_25 s1_25 M => ?_) (fun j25 hj25 => ?_)
  · refine v_iconst d_M_nth_25 (by decide) ?_
    refine v_cVi d_M_nth_26 ml_M_180 (q := (RX11, TX11, 32)) rfl (c_M_throwsIf l hfl sa0_25 s1_25 1 M) (fun _ => rfl) (by decide) (by decide) (as := [xI s1_25, xI 1]) (st1 := []) rfl rfl (Nat.le_of_ble_eq_true rfl) (fun c26 M => ?_)
    refine v_ifeq d_M_nth_29 ?_ ?_
    · refine v_aloadn d_M_nth_34 rfl 0 rfl ?_
      refine v_cVv d_M_nth_35 ml_M_290 (q := (RX11, TX11, 32)) rfl (c_M_startsSearch l hfl a0 M) (fun _ => rfl) (by decide) (by decide) (as := []) (st1 := []) rfl rfl (Nat.le_of_ble_eq_true rfl) (fun _ M => ?_)
      refine v_aloadn d_M_nth_38 rfl 0 rfl ?_
      refine v_iloadn d_M_nth_39 rfl 2 rfl ?_
      refine v_pI d_M_nth_40 fl_M_284 (Or.inl rfl) rfl rfl (fun M => ?_)
      refine v_aloadn d_M_nth_43 rfl 0 rfl ?_
      refine v_iconst d_M_nth_44 (by decide) ?_
      refine v_iloadn d_M_nth_45 rfl 1 rfl ?_
      refine v_iconst d_M_nth_46 (by decide) ?_
      refine v_cVi d_M_nth_47 ml_M_268 (q := (RX11, TX11, 32)) rfl (c_M_searches l hfl 50 a0 0 v1 4 M) (fun _ => rfl) (by decide) (by decide) (as := [xI 0, xI v1, xI 4]) (st1 := []) rfl rfl (Nat.le_of_ble_eq_true rfl) (fun c47 M => ?_)
      refine v_istoren (lz := fun z => [(3, xI z), (0, xA a0), (1, xI v1), (2, xI v2)]) d_M_nth_50 rfl (Nat.le_of_ble_eq_true rfl) (fun _ => rfl) (fun v3_50 => ?_)
      refine v_aloadn d_M_nth_51 rfl 1 rfl ?_
      refine v_gI d_M_nth_52 fl_M_265 rfl (fun x52 => ?_)
      refine v_ifeq d_M_nth_55 ?_ ?_
      · refine v_aloadn d_M_nth_61 rfl 1 rfl ?_
        refine v_gI d_M_nth_62 fl_M_271 rfl (fun x62 => ?_)
        refine v_ifne d_M_nth_65 ?_ ?_
        · refine v_aloadn d_M_nth_70 rfl 1 rfl ?_
          refine v_iloadn d_M_nth_71 rfl 2 rfl ?_
          refine v_cVv d_M_nth_72 ml_M_293 (q := (RX11, TX11, 32)) rfl (c_M_becomesFound l hfl a0 v1 M) (fun _ => rfl) (by decide) (by decide) (as := [xI v1]) (st1 := []) rfl rfl (Nat.le_of_ble_eq_true rfl) (fun _ M => ?_)
          refine v_aloadn d_M_nth_75 rfl 1 rfl ?_
          refine v_gI d_M_nth_76 fl_M_262 rfl (fun x76 => ?_)
          exact v_ret d_M_nth_79 rfl
        · refine v_iconst d_M_nth_68 (by decide) ?_
          exact v_ret d_M_nth_69 rfl
      · refine v_bipush d_M_nth_58 (by decide) ?_
        exact v_ret d_M_nth_60 rfl
    · refine v_iconst d_M_nth_32 (by decide) ?_
      exact v_ret d_M_nth_33 rfl
  refine v_join1 (pj := 20) (lj := fun sa0_20 => [(0, xA a0), (1, xI v1), (2, xI v2)]) (sj := fun sa0_20 => [xA sa0_20]) (fun sa0_20 M => ?_) (fun j20 hj20 => ?_)
  · refine v_iconst d_M_nth_20 (by decide) ?_
    refine v_goto d_M_nth_21 ?_
    exact hj25 sa0_20 1 M
  refine v_ifeq d_M_nth_13 ?_ ?_
  · exact hj20 a0 M
  · refine v_iloadn d_M_nth_16 rfl 2 rfl ?_
    refine v_ifge d_M_nth_17 ?_ ?_
    · refine v_iconst d_M_nth_24 (by decide) ?_
      exact hj25 a0 0 M
    · exact hj20 a0 M
set_option maxHeartbeats 4000000 in
set_option maxRecDepth 100000 in
theorem c_M_noMap (l : Launch) (hfl : l.stackTraces = false) (a0 : Nat) (v1 : Int) (M : mm_T) : vm_Con l yX11_noMap (.code yX11_noMap cX11_noMap 2 (some .boolean)) 2 ex_Z [xA a0, xI v1] M (k_M_noMap a0 v1 M) := by
  refine vm_con (y := q_M_noMap) hfl (by decide +kernel) rfl (fun h => by cases h) (Nat.le_of_ble_eq_true rfl) rfl (fun _ _ _ => rfl) (fun r E h => by cases h) (fun w => ?_)
  show V_ l w q_M_noMap 2 ex_Z 0 [(0, xA a0), (1, xI v1)] [] M (k_M_noMap a0 v1 M)
  unfold k_M_noMap
  refine v_aloadn d_M_noMap_0 rfl 0 rfl ?_
  refine v_iloadn d_M_noMap_1 rfl 1 rfl ?_
  refine v_iconst d_M_noMap_2 (by decide) ?_
  refine v_aloadn d_M_noMap_3 rfl 0 rfl ?_
  refine v_gR d_M_noMap_4 fl_M_77 rfl (fun r4 => ?_)
  refine v_iconst d_M_noMap_7 (by decide) ?_
  refine v_iald d_M_noMap_8 (fun x8 => ?_)
  refine v_iconst d_M_noMap_9 (by decide) ?_
  refine v_isub d_M_noMap_10 (fun x10 => ?_)
  refine v_cSi d_M_noMap_11 ml_M_65 (c_M_in l hfl v1 0 x10 M) (fun _ => rfl) (by decide) (by decide) (as := [xI v1, xI 0, xI x10]) (st1 := [xA a0]) rfl rfl (Nat.le_of_ble_eq_true rfl) (fun c11 M => ?_)
  refine v_join2 (pj := 22) (lj := fun sa0_22 s1_22 => []) (sj := fun sa0_22 s1_22 => [xI s1_22, xA sa0_22]) (fun sa0_22 s1_22 M => ?_) (fun j22 hj22 => ?_)
  · refine v_iconst d_M_noMap_22 (by decide) ?_
    refine v_cVi d_M_noMap_23 ml_M_180 (q := (RX11, TX11, 32)) rfl (c_M_throwsIf l hfl sa0_22 s1_22 1 M) (fun _ => rfl) (by decide) (by decide) (as := [xI s1_22, xI 1]) (st1 := []) rfl rfl (Nat.le_of_ble_eq_true rfl) (fun c23 M => ?_)
    exact v_zret d_M_noMap_26 rfl
  refine v_ifne d_M_noMap_14 ?_ ?_
  · refine v_iconst d_M_noMap_21 (by decide) ?_
    refine v_sub (ls' := []) [] rfl ?_
    exact hj22 a0 0 M
  · refine v_iconst d_M_noMap_17 (by decide) ?_
    refine v_goto d_M_noMap_18 ?_
    refine v_sub (ls' := []) [] rfl ?_
    exact hj22 a0 1 M
set_option maxHeartbeats 4000000 in
set_option maxRecDepth 100000 in
theorem V_lp_M_image_52 {l : Launch} {w : vm_W} (hfl : l.stackTraces = false) (kx75 : mm_T → Option (Int × mm_T)) (a0 : Nat) (v2 : Int) (hkx75 : ∀ (M : mm_T), V_ l w q_M_image 3 ex_I 75 [(0, xA a0), (2, xI v2)] [] M (kx75 M)) : ∀ (f : Nat) (v3 : Int) (M : mm_T), V_ l w q_M_image 3 ex_I 52 [(0, xA a0), (2, xI v2), (3, xI v3)] [] M (lp_M_image_52 kx75 a0 v2 f v3 M) := by
  intro f
  induction f with
  | zero => intros; exact V_.none
  | succ f ih =>
    intro v3 M
    unfold lp_M_image_52
    refine v_iloadn d_M_image_52 rfl 2 rfl ?_
    refine v_iloadn d_M_image_53 rfl 1 rfl ?_
    refine v_icge d_M_image_54 ?_ ?_
    · refine v_sub (ls' := [(0, xA a0), (2, xI v2)]) [0, 1] rfl ?_
      exact hkx75 M
    · refine v_aloadn d_M_image_57 rfl 0 rfl ?_
      refine v_gR d_M_image_58 fl_M_86 rfl (fun r58 => ?_)
      refine v_iloadn d_M_image_61 rfl 2 rfl ?_
      refine v_aloadn d_M_image_62 rfl 0 rfl ?_
      refine v_gR d_M_image_63 fl_M_101 rfl (fun r63 => ?_)
      refine v_iloadn d_M_image_66 rfl 2 rfl ?_
      refine v_iald d_M_image_67 (fun x67 => ?_)
      refine v_iast d_M_image_68 (fun M => ?_)
      refine v_iinc (lz := fun z => [(3, xI z), (0, xA a0), (2, xI v2)]) d_M_image_69 2 rfl (Nat.le_of_ble_eq_true rfl) (fun _ => rfl) (fun v3_69 => ?_)
      refine v_goto d_M_image_72 ?_
      refine v_sub (ls' := [(0, xA a0), (2, xI v2), (3, xI v3_69)]) [1, 2, 0] rfl ?_
      exact ih v3_69 M
set_option maxHeartbeats 4000000 in
set_option maxRecDepth 100000 in
theorem c_M_image (l : Launch) (hfl : l.stackTraces = false) (a0 : Nat) (v1 : Int) (M : mm_T) : vm_Con l yX11_image (.code yX11_image cX11_image 4 (some .int)) 3 ex_I [xA a0, xI v1] M (k_M_image a0 v1 M) := by
  refine vm_con (y := q_M_image) hfl (by decide +kernel) rfl (fun h => by cases h) (Nat.le_of_ble_eq_true rfl) rfl (fun _ _ _ => rfl) (fun r E h => by cases h) (fun w => ?_)
  show V_ l w q_M_image 3 ex_I 0 [(0, xA a0), (1, xI v1)] [] M (k_M_image a0 v1 M)
  unfold k_M_image
  refine v_aloadn d_M_image_0 rfl 0 rfl ?_
  refine v_iconst d_M_image_1 (by decide) ?_
  refine v_pI d_M_image_2 fl_M_3 (Or.inl rfl) rfl rfl (fun M => ?_)
  refine v_aloadn d_M_image_5 rfl 0 rfl ?_
  refine v_iloadn d_M_image_6 rfl 1 rfl ?_
  refine v_cVi d_M_image_7 ml_M_319 (q := (RX11, TX11, 32)) rfl (c_M_noMap l hfl a0 v1 M) (fun _ => rfl) (by decide) (by decide) (as := [xI v1]) (st1 := []) rfl rfl (Nat.le_of_ble_eq_true rfl) (fun c7 M => ?_)
  refine v_ifeq d_M_image_10 ?_ ?_
  · refine v_aloadn d_M_image_15 rfl 0 rfl ?_
    refine v_aloadn d_M_image_16 rfl 0 rfl ?_
    refine v_gR d_M_image_17 fl_M_83 rfl (fun r17 => ?_)
    refine v_aloadn d_M_image_20 rfl 0 rfl ?_
    refine v_gI d_M_image_21 fl_M_184 rfl (fun x21 => ?_)
    refine v_iloadn d_M_image_24 rfl 1 rfl ?_
    refine v_cVi d_M_image_25 ml_M_315 (q := (RX11, TX11, 32)) rfl (c_M_images l hfl a0 r17 x21 v1 M) (fun _ => rfl) (by decide) (by decide) (as := [xA r17, xI x21, xI v1]) (st1 := []) rfl rfl (Nat.le_of_ble_eq_true rfl) (fun c25 M => ?_)
    refine v_istoren (lz := fun z => [(2, xI z), (0, xA a0), (1, xI v1)]) d_M_image_28 rfl (Nat.le_of_ble_eq_true rfl) (fun _ => rfl) (fun v2_28 => ?_)
    refine v_aloadn d_M_image_29 rfl 1 rfl ?_
    refine v_iloadn d_M_image_30 rfl 0 rfl ?_
    refine v_bipush d_M_image_31 (by decide) ?_
    refine v_join2 (pj := 41) (lj := fun sa0_41 s1_41 => [(0, xA a0), (2, xI v2_28)]) (sj := fun sa0_41 s1_41 => [xI s1_41, xA sa0_41]) (fun sa0_41 s1_41 M => ?_) (fun j41 hj41 => ?_)
    · refine v_iconst d_M_image_41 (by decide) ?_
      refine v_cVi d_M_image_42 ml_M_180 (q := (RX11, TX11, 32)) rfl (c_M_throwsIf l hfl sa0_41 s1_41 2 M) (fun _ => rfl) (by decide) (by decide) (as := [xI s1_41, xI 2]) (st1 := []) rfl rfl (Nat.le_of_ble_eq_true rfl) (fun c42 M => ?_)
      refine v_ifeq d_M_image_45 ?_ ?_
      · refine v_iconst d_M_image_50 (by decide) ?_
        refine v_istoren (lz := fun z => [(3, xI z), (0, xA a0), (2, xI v2_28)]) d_M_image_51 rfl (Nat.le_of_ble_eq_true rfl) (fun _ => rfl) (fun v3_51 => ?_)
        refine v_sub (ls' := [(0, xA a0), (2, xI v2_28), (3, xI v3_51)]) [1, 2, 0] rfl ?_
        refine V_lp_M_image_52 hfl _ _ _ (fun M => ?_) _ _ _
        · refine v_aloadn d_M_image_75 rfl 0 rfl ?_
          refine v_iloadn d_M_image_76 rfl 1 rfl ?_
          refine v_cVv d_M_image_77 ml_M_193 (q := (RX11, TX11, 32)) rfl (c_M_becomes l hfl a0 v2_28 M) (fun _ => rfl) (by decide) (by decide) (as := [xI v2_28]) (st1 := []) rfl rfl (Nat.le_of_ble_eq_true rfl) (fun _ M => ?_)
          refine v_aloadn d_M_image_80 rfl 0 rfl ?_
          refine v_gI d_M_image_81 fl_M_184 rfl (fun x81 => ?_)
          exact v_ret d_M_image_84 rfl
      · refine v_iconst d_M_image_48 (by decide) ?_
        exact v_ret d_M_image_49 rfl
    refine v_icle d_M_image_33 ?_ ?_
    · refine v_iconst d_M_image_40 (by decide) ?_
      refine v_sub (ls' := [(0, xA a0), (2, xI v2_28)]) [1, 0] rfl ?_
      exact hj41 a0 0 M
    · refine v_iconst d_M_image_36 (by decide) ?_
      refine v_goto d_M_image_37 ?_
      refine v_sub (ls' := [(0, xA a0), (2, xI v2_28)]) [1, 0] rfl ?_
      exact hj41 a0 1 M
  · refine v_iconst d_M_image_13 (by decide) ?_
    exact v_ret d_M_image_14 rfl
set_option maxHeartbeats 4000000 in
set_option maxRecDepth 100000 in
theorem c_M_imaged (l : Launch) (hfl : l.stackTraces = false) (a0 : Nat) (v1 : Int) (v2 : Int) (v3 : Int) (M : mm_T) : vm_Con l yX11_imaged (.code yX11_imaged cX11_imaged 4 (some .int)) 3 ex_I [xA a0, xI v1, xI v2, xI v3] M (k_M_imaged a0 v1 v2 v3 M) := by
  refine vm_con (y := q_M_imaged) hfl (by decide +kernel) rfl (fun h => by cases h) (Nat.le_of_ble_eq_true rfl) rfl (fun _ _ _ => rfl) (fun r E h => by cases h) (fun w => ?_)
  show V_ l w q_M_imaged 3 ex_I 0 [(0, xA a0), (1, xI v1), (2, xI v2), (3, xI v3)] [] M (k_M_imaged a0 v1 v2 v3 M)
  unfold k_M_imaged
  refine v_aloadn d_M_imaged_0 rfl 0 rfl ?_
  refine v_iconst d_M_imaged_1 (by decide) ?_
  refine v_pI d_M_imaged_2 fl_M_3 (Or.inl rfl) rfl rfl (fun M => ?_)
  refine v_aloadn d_M_imaged_5 rfl 0 rfl ?_
  refine v_iloadn d_M_imaged_6 rfl 1 rfl ?_
  refine v_cVi d_M_imaged_7 ml_M_319 (q := (RX11, TX11, 32)) rfl (c_M_noMap l hfl a0 v1 M) (fun _ => rfl) (by decide) (by decide) (as := [xI v1]) (st1 := []) rfl rfl (Nat.le_of_ble_eq_true rfl) (fun c7 M => ?_)
  refine v_ifne d_M_imaged_10 ?_ ?_
  · refine v_iconst d_M_imaged_22 (by decide) ?_
    exact v_ret d_M_imaged_23 rfl
  · refine v_aloadn d_M_imaged_13 rfl 0 rfl ?_
    refine v_iloadn d_M_imaged_14 rfl 2 rfl ?_
    refine v_iconst d_M_imaged_15 (by decide) ?_
    refine v_cVi d_M_imaged_16 ml_M_196 (q := (RX11, TX11, 32)) rfl (c_M_noLetter l hfl a0 v2 2 M) (fun _ => rfl) (by decide) (by decide) (as := [xI v2, xI 2]) (st1 := []) rfl rfl (Nat.le_of_ble_eq_true rfl) (fun c16 M => ?_)
    refine v_ifeq d_M_imaged_19 ?_ ?_
    · refine v_iloadn d_M_imaged_24 rfl 3 rfl ?_
      refine v_iconst d_M_imaged_25 (by decide) ?_
      refine v_icne d_M_imaged_26 ?_ ?_
      · refine v_iloadn d_M_imaged_38 rfl 3 rfl ?_
        refine v_iconst d_M_imaged_39 (by decide) ?_
        refine v_aloadn d_M_imaged_40 rfl 0 rfl ?_
        refine v_iloadn d_M_imaged_41 rfl 1 rfl ?_
        refine v_iloadn d_M_imaged_42 rfl 2 rfl ?_
        refine v_cVi d_M_imaged_43 ml_M_305 (q := (RX11, TX11, 32)) rfl (c_M_longOf l hfl a0 v1 v2 M) (fun _ => rfl) (by decide) (by decide) (as := [xI v1, xI v2]) (st1 := [xI 0, xI v3]) rfl rfl (Nat.le_of_ble_eq_true rfl) (fun c43 M => ?_)
        refine v_iconst d_M_imaged_46 (by decide) ?_
        refine v_isub d_M_imaged_47 (fun x47 => ?_)
        refine v_cSi d_M_imaged_48 ml_M_65 (c_M_in l hfl v3 0 x47 M) (fun _ => rfl) (by decide) (by decide) (as := [xI v3, xI 0, xI x47]) (st1 := []) rfl rfl (Nat.le_of_ble_eq_true rfl) (fun c48 M => ?_)
        refine v_ifeq d_M_imaged_51 ?_ ?_
        · refine v_iconst d_M_imaged_64 (by decide) ?_
          exact v_ret d_M_imaged_65 rfl
        · refine v_aloadn d_M_imaged_54 rfl 0 rfl ?_
          refine v_iloadn d_M_imaged_55 rfl 1 rfl ?_
          refine v_iloadn d_M_imaged_56 rfl 2 rfl ?_
          refine v_iloadn d_M_imaged_57 rfl 3 rfl ?_
          refine v_cVi d_M_imaged_58 ml_M_308 (q := (RX11, TX11, 32)) rfl (c_M_imageOf l hfl a0 v1 v2 v3 M) (fun _ => rfl) (by decide) (by decide) (as := [xI v1, xI v2, xI v3]) (st1 := []) rfl rfl (Nat.le_of_ble_eq_true rfl) (fun c58 M => ?_)
          refine v_goto d_M_imaged_61 ?_
          exact v_ret d_M_imaged_65 rfl
      · refine v_aloadn d_M_imaged_29 rfl 0 rfl ?_
        refine v_iloadn d_M_imaged_30 rfl 1 rfl ?_
        refine v_iloadn d_M_imaged_31 rfl 2 rfl ?_
        refine v_cVi d_M_imaged_32 ml_M_305 (q := (RX11, TX11, 32)) rfl (c_M_longOf l hfl a0 v1 v2 M) (fun _ => rfl) (by decide) (by decide) (as := [xI v1, xI v2]) (st1 := []) rfl rfl (Nat.le_of_ble_eq_true rfl) (fun c32 M => ?_)
        refine v_goto d_M_imaged_35 ?_
        exact v_ret d_M_imaged_65 rfl
    · refine v_iconst d_M_imaged_22 (by decide) ?_
      exact v_ret d_M_imaged_23 rfl
set_option maxHeartbeats 4000000 in
set_option maxRecDepth 100000 in
theorem c_M_at (l : Launch) (hfl : l.stackTraces = false) (v0 : Int) (v1 : Int) (v2 : Int) (M : mm_T) : vm_Con l yX11_at (.code yX11_at cX11_at 3 (some .int)) 1 ex_I [xI v0, xI v1, xI v2] M (k_M_at v0 v1 v2 M) := by
  refine vm_con (y := q_M_at) hfl (by decide +kernel) rfl (fun h => by cases h) (Nat.le_of_ble_eq_true rfl) rfl (fun _ _ _ => rfl) (fun r E h => by cases h) (fun w => ?_)
  show V_ l w q_M_at 1 ex_I 0 [(0, xI v0), (1, xI v1), (2, xI v2)] [] M (k_M_at v0 v1 v2 M)
  unfold k_M_at
  refine v_iconst d_M_at_0 (by decide) ?_
  refine v_iconst d_M_at_1 (by decide) ?_
  refine v_iloadn d_M_at_2 rfl 0 rfl ?_
  refine v_imul d_M_at_3 (fun x3 => ?_)
  refine v_iloadn d_M_at_4 rfl 1 rfl ?_
  refine v_iadd d_M_at_5 (fun x5 => ?_)
  refine v_imul d_M_at_6 (fun x6 => ?_)
  refine v_iloadn d_M_at_7 rfl 2 rfl ?_
  refine v_iadd d_M_at_8 (fun x8 => ?_)
  exact v_ret d_M_at_9 rfl
set_option maxHeartbeats 4000000 in
set_option maxRecDepth 100000 in
theorem V_lp_M_laysCounts_10 {l : Launch} {w : vm_W} (hfl : l.stackTraces = false) (kx45 : mm_T → Option (Unit × mm_T)) (a0 : Nat) (v3 : Int) {v1 : Int} {v2 : Int} (hkx45 : ∀ (M : mm_T), V_ l w q_M_laysCounts 2 ex_V 45 [(0, xA a0), (1, xI v1), (2, xI v2), (3, xI v3)] [] M (kx45 M)) : ∀ (f : Nat) (v4 : Int) (M : mm_T), V_ l w q_M_laysCounts 2 ex_V 10 [(0, xA a0), (1, xI v1), (2, xI v2), (3, xI v3), (4, xI v4)] [] M (lp_M_laysCounts_10 kx45 a0 v3 f v4 M) := by
  intro f
  induction f with
  | zero => intros; exact V_.none
  | succ f ih =>
    intro v4 M
    unfold lp_M_laysCounts_10
    refine v_iload d_M_laysCounts_10 4 rfl ?_
    refine v_iconst d_M_laysCounts_12 (by decide) ?_
    refine v_icge d_M_laysCounts_13 ?_ ?_
    · refine v_sub (ls' := [(0, xA a0), (1, xI v1), (2, xI v2), (3, xI v3)]) [0, 1, 2, 3] rfl ?_
      exact hkx45 M
    · refine v_aloadn d_M_laysCounts_16 rfl 0 rfl ?_
      refine v_gR d_M_laysCounts_17 fl_M_104 rfl (fun r17 => ?_)
      refine v_iconst d_M_laysCounts_20 (by decide) ?_
      refine v_iloadn d_M_laysCounts_21 rfl 3 rfl ?_
      refine v_iload d_M_laysCounts_22 4 rfl ?_
      refine v_cSi d_M_laysCounts_24 ml_M_322 (c_M_at l hfl 0 v3 v4 M) (fun _ => rfl) (by decide) (by decide) (as := [xI 0, xI v3, xI v4]) (st1 := [xA r17]) rfl rfl (Nat.le_of_ble_eq_true rfl) (fun c24 M => ?_)
      refine v_iloadn d_M_laysCounts_27 rfl 3 rfl ?_
      refine v_iload d_M_laysCounts_28 4 rfl ?_
      refine v_join3 (pj := 38) (lj := fun sa0_38 s1_38 sw2_38 => [(0, xA a0), (1, xI v1), (2, xI v2), (3, xI v3), (4, xI v4)]) (sj := fun sa0_38 s1_38 sw2_38 => [xJ sw2_38, xI s1_38, xA sa0_38]) (fun sa0_38 s1_38 sw2_38 M => ?_) (fun j38 hj38 => ?_)
      · refine v_last d_M_laysCounts_38 (fun M => ?_)
        refine v_iinc (lz := fun z => [(4, xI z), (0, xA a0), (1, xI v1), (2, xI v2), (3, xI v3)]) d_M_laysCounts_39 4 rfl (Nat.le_of_ble_eq_true rfl) (fun _ => rfl) (fun v4_39 => ?_)
        refine v_goto d_M_laysCounts_42 ?_
        refine v_sub (ls' := [(0, xA a0), (1, xI v1), (2, xI v2), (3, xI v3), (4, xI v4_39)]) [1, 2, 3, 4, 0] rfl ?_
        exact ih v4_39 M
      refine v_icne d_M_laysCounts_30 ?_ ?_
      · refine v_lconst d_M_laysCounts_37 (v := 0) rfl ?_
        exact hj38 r17 c24 0 M
      · refine v_lconst d_M_laysCounts_33 (v := 1) rfl ?_
        refine v_goto d_M_laysCounts_34 ?_
        exact hj38 r17 c24 1 M
set_option maxHeartbeats 4000000 in
set_option maxRecDepth 100000 in
theorem V_lp_M_laysCounts_2 {l : Launch} {w : vm_W} (hfl : l.stackTraces = false) (kx51 : mm_T → Option (Unit × mm_T)) (a0 : Nat) {v1 : Int} {v2 : Int} (hkx51 : ∀ (M : mm_T), V_ l w q_M_laysCounts 2 ex_V 51 [(0, xA a0), (1, xI v1), (2, xI v2)] [] M (kx51 M)) : ∀ (f : Nat) (v3 : Int) (M : mm_T), V_ l w q_M_laysCounts 2 ex_V 2 [(0, xA a0), (1, xI v1), (2, xI v2), (3, xI v3)] [] M (lp_M_laysCounts_2 kx51 a0 f v3 M) := by
  intro f
  induction f with
  | zero => intros; exact V_.none
  | succ f ih =>
    intro v3 M
    unfold lp_M_laysCounts_2
    refine v_iloadn d_M_laysCounts_2 rfl 3 rfl ?_
    refine v_iconst d_M_laysCounts_3 (by decide) ?_
    refine v_icge d_M_laysCounts_4 ?_ ?_
    · refine v_sub (ls' := [(0, xA a0), (1, xI v1), (2, xI v2)]) [0, 1, 2] rfl ?_
      exact hkx51 M
    · refine v_iconst d_M_laysCounts_7 (by decide) ?_
      refine v_istore (lz := fun z => [(4, xI z), (0, xA a0), (1, xI v1), (2, xI v2), (3, xI v3)]) d_M_laysCounts_8 (Nat.le_of_ble_eq_true rfl) (fun _ => rfl) (fun v4_8 => ?_)
      refine v_sub (ls' := [(0, xA a0), (1, xI v1), (2, xI v2), (3, xI v3), (4, xI v4_8)]) [1, 2, 3, 4, 0] rfl ?_
      refine V_lp_M_laysCounts_10 hfl _ _ _ (fun M => ?_) _ _ _
      · refine v_iinc (lz := fun z => [(3, xI z), (0, xA a0), (1, xI v1), (2, xI v2)]) d_M_laysCounts_45 3 rfl (Nat.le_of_ble_eq_true rfl) (fun _ => rfl) (fun v3_45 => ?_)
        refine v_goto d_M_laysCounts_48 ?_
        refine v_sub (ls' := [(0, xA a0), (1, xI v1), (2, xI v2), (3, xI v3_45)]) [1, 2, 3, 0] rfl ?_
        exact ih v3_45 M
set_option maxHeartbeats 4000000 in
set_option maxRecDepth 100000 in
theorem V_lp_M_laysCounts_98 {l : Launch} {w : vm_W} (hfl : l.stackTraces = false) (kx154 : mm_T → Option (Unit × mm_T)) (a0 : Nat) (v1 : Int) (v3 : Int) (v4 : Int) (v5 : Int) {v2 : Int} (hkx154 : ∀ (M : mm_T), V_ l w q_M_laysCounts 2 ex_V 154 [(0, xA a0), (1, xI v1), (2, xI v2), (3, xI v3), (4, xI v4), (5, xI v5)] [] M (kx154 M)) : ∀ (f : Nat) (v6 : Int) (M : mm_T), V_ l w q_M_laysCounts 2 ex_V 98 [(0, xA a0), (1, xI v1), (2, xI v2), (3, xI v3), (4, xI v4), (5, xI v5), (6, xI v6)] [] M (lp_M_laysCounts_98 kx154 a0 v1 v3 v4 v5 f v6 M) := by
  intro f
  induction f with
  | zero => intros; exact V_.none
  | succ f ih =>
    intro v6 M
    unfold lp_M_laysCounts_98
    refine v_iload d_M_laysCounts_98 6 rfl ?_
    refine v_aloadn d_M_laysCounts_100 rfl 0 rfl ?_
    refine v_iloadn d_M_laysCounts_101 rfl 1 rfl ?_
    refine v_iload d_M_laysCounts_102 4 rfl ?_
    refine v_cVi d_M_laysCounts_104 ml_M_305 (q := (RX11, TX11, 32)) rfl (c_M_longOf l hfl a0 v1 v4 M) (fun _ => rfl) (by decide) (by decide) (as := [xI v1, xI v4]) (st1 := [xI v6]) rfl rfl (Nat.le_of_ble_eq_true rfl) (fun c104 M => ?_)
    refine v_icge d_M_laysCounts_107 ?_ ?_
    · refine v_sub (ls' := [(0, xA a0), (1, xI v1), (2, xI v2), (3, xI v3), (4, xI v4), (5, xI v5)]) [0, 1, 2, 3, 4, 5] rfl ?_
      exact hkx154 M
    · refine v_aloadn d_M_laysCounts_110 rfl 0 rfl ?_
      refine v_gR d_M_laysCounts_111 fl_M_104 rfl (fun r111 => ?_)
      refine v_iloadn d_M_laysCounts_114 rfl 3 rfl ?_
      refine v_iload d_M_laysCounts_115 4 rfl ?_
      refine v_iload d_M_laysCounts_117 5 rfl ?_
      refine v_cSi d_M_laysCounts_119 ml_M_322 (c_M_at l hfl v3 v4 v5 M) (fun _ => rfl) (by decide) (by decide) (as := [xI v3, xI v4, xI v5]) (st1 := [xA r111]) rfl rfl (Nat.le_of_ble_eq_true rfl) (fun c119 M => ?_)
      refine v_dup2 d_M_laysCounts_122 rfl rfl ?_
      refine v_lald d_M_laysCounts_123 (fun x123 => ?_)
      refine v_aloadn d_M_laysCounts_124 rfl 0 rfl ?_
      refine v_gR d_M_laysCounts_125 fl_M_104 rfl (fun r125 => ?_)
      refine v_iloadn d_M_laysCounts_128 rfl 3 rfl ?_
      refine v_iconst d_M_laysCounts_129 (by decide) ?_
      refine v_isub d_M_laysCounts_130 (fun x130 => ?_)
      refine v_aloadn d_M_laysCounts_131 rfl 0 rfl ?_
      refine v_iloadn d_M_laysCounts_132 rfl 1 rfl ?_
      refine v_iload d_M_laysCounts_133 4 rfl ?_
      refine v_iload d_M_laysCounts_135 6 rfl ?_
      refine v_cVi d_M_laysCounts_137 ml_M_308 (q := (RX11, TX11, 32)) rfl (c_M_imageOf l hfl a0 v1 v4 v6 M) (fun _ => rfl) (by decide) (by decide) (as := [xI v1, xI v4, xI v6]) (st1 := [xI x130, xA r125, xJ x123, xI c119, xA r111]) rfl rfl (Nat.le_of_ble_eq_true rfl) (fun c137 M => ?_)
      refine v_iload d_M_laysCounts_140 5 rfl ?_
      refine v_cSi d_M_laysCounts_142 ml_M_322 (c_M_at l hfl x130 c137 v5 M) (fun _ => rfl) (by decide) (by decide) (as := [xI x130, xI c137, xI v5]) (st1 := [xA r125, xJ x123, xI c119, xA r111]) rfl rfl (Nat.le_of_ble_eq_true rfl) (fun c142 M => ?_)
      refine v_lald d_M_laysCounts_145 (fun x145 => ?_)
      refine v_ladd d_M_laysCounts_146 ?_
      refine v_last d_M_laysCounts_147 (fun M => ?_)
      refine v_iinc (lz := fun z => [(6, xI z), (0, xA a0), (1, xI v1), (2, xI v2), (3, xI v3), (4, xI v4), (5, xI v5)]) d_M_laysCounts_148 6 rfl (Nat.le_of_ble_eq_true rfl) (fun _ => rfl) (fun v6_148 => ?_)
      refine v_goto d_M_laysCounts_151 ?_
      refine v_sub (ls' := [(0, xA a0), (1, xI v1), (2, xI v2), (3, xI v3), (4, xI v4), (5, xI v5), (6, xI v6_148)]) [1, 2, 3, 4, 5, 6, 0] rfl ?_
      exact ih v6_148 M
set_option maxHeartbeats 4000000 in
set_option maxRecDepth 100000 in
theorem V_lp_M_laysCounts_75 {l : Launch} {w : vm_W} (hfl : l.stackTraces = false) (kx160 : mm_T → Option (Unit × mm_T)) (a0 : Nat) (v1 : Int) (v3 : Int) (v4 : Int) {v2 : Int} (hkx160 : ∀ (M : mm_T), V_ l w q_M_laysCounts 2 ex_V 160 [(0, xA a0), (1, xI v1), (2, xI v2), (3, xI v3), (4, xI v4)] [] M (kx160 M)) : ∀ (f : Nat) (v5 : Int) (M : mm_T), V_ l w q_M_laysCounts 2 ex_V 75 [(0, xA a0), (1, xI v1), (2, xI v2), (3, xI v3), (4, xI v4), (5, xI v5)] [] M (lp_M_laysCounts_75 kx160 a0 v1 v3 v4 f v5 M) := by
  intro f
  induction f with
  | zero => intros; exact V_.none
  | succ f ih =>
    intro v5 M
    unfold lp_M_laysCounts_75
    refine v_iload d_M_laysCounts_75 5 rfl ?_
    refine v_iconst d_M_laysCounts_77 (by decide) ?_
    refine v_icge d_M_laysCounts_78 ?_ ?_
    · refine v_sub (ls' := [(0, xA a0), (1, xI v1), (2, xI v2), (3, xI v3), (4, xI v4)]) [0, 1, 2, 3, 4] rfl ?_
      exact hkx160 M
    · refine v_aloadn d_M_laysCounts_81 rfl 0 rfl ?_
      refine v_gR d_M_laysCounts_82 fl_M_104 rfl (fun r82 => ?_)
      refine v_iloadn d_M_laysCounts_85 rfl 3 rfl ?_
      refine v_iload d_M_laysCounts_86 4 rfl ?_
      refine v_iload d_M_laysCounts_88 5 rfl ?_
      refine v_cSi d_M_laysCounts_90 ml_M_322 (c_M_at l hfl v3 v4 v5 M) (fun _ => rfl) (by decide) (by decide) (as := [xI v3, xI v4, xI v5]) (st1 := [xA r82]) rfl rfl (Nat.le_of_ble_eq_true rfl) (fun c90 M => ?_)
      refine v_lconst d_M_laysCounts_93 (v := 0) rfl ?_
      refine v_last d_M_laysCounts_94 (fun M => ?_)
      refine v_iconst d_M_laysCounts_95 (by decide) ?_
      refine v_istore (lz := fun z => [(6, xI z), (0, xA a0), (1, xI v1), (2, xI v2), (3, xI v3), (4, xI v4), (5, xI v5)]) d_M_laysCounts_96 (Nat.le_of_ble_eq_true rfl) (fun _ => rfl) (fun v6_96 => ?_)
      refine v_sub (ls' := [(0, xA a0), (1, xI v1), (2, xI v2), (3, xI v3), (4, xI v4), (5, xI v5), (6, xI v6_96)]) [1, 2, 3, 4, 5, 6, 0] rfl ?_
      refine V_lp_M_laysCounts_98 hfl _ _ _ _ _ _ (fun M => ?_) _ _ _
      · refine v_iinc (lz := fun z => [(5, xI z), (0, xA a0), (1, xI v1), (2, xI v2), (3, xI v3), (4, xI v4)]) d_M_laysCounts_154 5 rfl (Nat.le_of_ble_eq_true rfl) (fun _ => rfl) (fun v5_154 => ?_)
        refine v_goto d_M_laysCounts_157 ?_
        refine v_sub (ls' := [(0, xA a0), (1, xI v1), (2, xI v2), (3, xI v3), (4, xI v4), (5, xI v5_154)]) [1, 2, 3, 4, 5, 0] rfl ?_
        exact ih v5_154 M
set_option maxHeartbeats 4000000 in
set_option maxRecDepth 100000 in
theorem V_lp_M_laysCounts_61 {l : Launch} {w : vm_W} (hfl : l.stackTraces = false) (kx166 : mm_T → Option (Unit × mm_T)) (a0 : Nat) (v1 : Int) (v3 : Int) {v2 : Int} (hkx166 : ∀ (M : mm_T), V_ l w q_M_laysCounts 2 ex_V 166 [(0, xA a0), (1, xI v1), (2, xI v2), (3, xI v3)] [] M (kx166 M)) : ∀ (f : Nat) (v4 : Int) (M : mm_T), V_ l w q_M_laysCounts 2 ex_V 61 [(0, xA a0), (1, xI v1), (2, xI v2), (3, xI v3), (4, xI v4)] [] M (lp_M_laysCounts_61 kx166 a0 v1 v3 f v4 M) := by
  intro f
  induction f with
  | zero => intros; exact V_.none
  | succ f ih =>
    intro v4 M
    unfold lp_M_laysCounts_61
    refine v_iload d_M_laysCounts_61 4 rfl ?_
    refine v_aloadn d_M_laysCounts_63 rfl 0 rfl ?_
    refine v_gR d_M_laysCounts_64 fl_M_77 rfl (fun r64 => ?_)
    refine v_iconst d_M_laysCounts_67 (by decide) ?_
    refine v_iald d_M_laysCounts_68 (fun x68 => ?_)
    refine v_icge d_M_laysCounts_69 ?_ ?_
    · refine v_sub (ls' := [(0, xA a0), (1, xI v1), (2, xI v2), (3, xI v3)]) [0, 1, 2, 3] rfl ?_
      exact hkx166 M
    · refine v_iconst d_M_laysCounts_72 (by decide) ?_
      refine v_istore (lz := fun z => [(5, xI z), (0, xA a0), (1, xI v1), (2, xI v2), (3, xI v3), (4, xI v4)]) d_M_laysCounts_73 (Nat.le_of_ble_eq_true rfl) (fun _ => rfl) (fun v5_73 => ?_)
      refine v_sub (ls' := [(0, xA a0), (1, xI v1), (2, xI v2), (3, xI v3), (4, xI v4), (5, xI v5_73)]) [1, 2, 3, 4, 5, 0] rfl ?_
      refine V_lp_M_laysCounts_75 hfl _ _ _ _ _ (fun M => ?_) _ _ _
      · refine v_iinc (lz := fun z => [(4, xI z), (0, xA a0), (1, xI v1), (2, xI v2), (3, xI v3)]) d_M_laysCounts_160 4 rfl (Nat.le_of_ble_eq_true rfl) (fun _ => rfl) (fun v4_160 => ?_)
        refine v_goto d_M_laysCounts_163 ?_
        refine v_sub (ls' := [(0, xA a0), (1, xI v1), (2, xI v2), (3, xI v3), (4, xI v4_160)]) [1, 2, 3, 4, 0] rfl ?_
        exact ih v4_160 M
set_option maxHeartbeats 4000000 in
set_option maxRecDepth 100000 in
theorem V_lp_M_laysCounts_53 {l : Launch} {w : vm_W} (hfl : l.stackTraces = false) (kx172 : mm_T → Option (Unit × mm_T)) (a0 : Nat) (v1 : Int) (v2 : Int) (hkx172 : ∀ (M : mm_T), V_ l w q_M_laysCounts 2 ex_V 172 [] [] M (kx172 M)) : ∀ (f : Nat) (v3 : Int) (M : mm_T), V_ l w q_M_laysCounts 2 ex_V 53 [(0, xA a0), (1, xI v1), (2, xI v2), (3, xI v3)] [] M (lp_M_laysCounts_53 kx172 a0 v1 v2 f v3 M) := by
  intro f
  induction f with
  | zero => intros; exact V_.none
  | succ f ih =>
    intro v3 M
    unfold lp_M_laysCounts_53
    refine v_iloadn d_M_laysCounts_53 rfl 3 rfl ?_
    refine v_iloadn d_M_laysCounts_54 rfl 2 rfl ?_
    refine v_icgt d_M_laysCounts_55 ?_ ?_
    · refine v_sub (ls' := []) [] rfl ?_
      exact hkx172 M
    · refine v_iconst d_M_laysCounts_58 (by decide) ?_
      refine v_istore (lz := fun z => [(4, xI z), (0, xA a0), (1, xI v1), (2, xI v2), (3, xI v3)]) d_M_laysCounts_59 (Nat.le_of_ble_eq_true rfl) (fun _ => rfl) (fun v4_59 => ?_)
      refine v_sub (ls' := [(0, xA a0), (1, xI v1), (2, xI v2), (3, xI v3), (4, xI v4_59)]) [1, 2, 3, 4, 0] rfl ?_
      refine V_lp_M_laysCounts_61 hfl _ _ _ _ (fun M => ?_) _ _ _
      · refine v_iinc (lz := fun z => [(3, xI z), (0, xA a0), (1, xI v1), (2, xI v2)]) d_M_laysCounts_166 3 rfl (Nat.le_of_ble_eq_true rfl) (fun _ => rfl) (fun v3_166 => ?_)
        refine v_goto d_M_laysCounts_169 ?_
        refine v_sub (ls' := [(0, xA a0), (1, xI v1), (2, xI v2), (3, xI v3_166)]) [1, 2, 3, 0] rfl ?_
        exact ih v3_166 M
set_option maxHeartbeats 4000000 in
set_option maxRecDepth 100000 in
theorem c_M_laysCounts (l : Launch) (hfl : l.stackTraces = false) (a0 : Nat) (v1 : Int) (v2 : Int) (M : mm_T) : vm_Con l yX11_laysCounts (.code yX11_laysCounts cX11_laysCounts 7 none) 2 ex_V [xA a0, xI v1, xI v2] M (k_M_laysCounts a0 v1 v2 M) := by
  refine vm_con (y := q_M_laysCounts) hfl (by decide +kernel) rfl (fun h => by cases h) (Nat.le_of_ble_eq_true rfl) rfl (fun _ _ _ => rfl) (fun r E h => by cases h) (fun w => ?_)
  show V_ l w q_M_laysCounts 2 ex_V 0 [(0, xA a0), (1, xI v1), (2, xI v2)] [] M (k_M_laysCounts a0 v1 v2 M)
  unfold k_M_laysCounts
  refine v_iconst d_M_laysCounts_0 (by decide) ?_
  refine v_istoren (lz := fun z => [(3, xI z), (0, xA a0), (1, xI v1), (2, xI v2)]) d_M_laysCounts_1 rfl (Nat.le_of_ble_eq_true rfl) (fun _ => rfl) (fun v3_1 => ?_)
  refine v_sub (ls' := [(0, xA a0), (1, xI v1), (2, xI v2), (3, xI v3_1)]) [1, 2, 3, 0] rfl ?_
  refine V_lp_M_laysCounts_2 hfl _ _ (fun M => ?_) _ _ _
  · refine v_iconst d_M_laysCounts_51 (by decide) ?_
    refine v_istoren (lz := fun z => [(3, xI z), (0, xA a0), (1, xI v1), (2, xI v2)]) d_M_laysCounts_52 rfl (Nat.le_of_ble_eq_true rfl) (fun _ => rfl) (fun v3_52 => ?_)
    refine v_sub (ls' := [(0, xA a0), (1, xI v1), (2, xI v2), (3, xI v3_52)]) [1, 2, 3, 0] rfl ?_
    refine V_lp_M_laysCounts_53 hfl _ _ _ _ (fun M => ?_) _ _ _
    · exact v_vret d_M_laysCounts_172 rfl
set_option maxHeartbeats 4000000 in
set_option maxRecDepth 100000 in
theorem V_lp_M_lengthOf_5 {l : Launch} {w : vm_W} (hfl : l.stackTraces = false) (kx32 : Int64 → mm_T → Option (Int64 × mm_T)) (a0 : Nat) (v1 : Int) (v2 : Int) (hkx32 : ∀ (w3_e : Int64) (M : mm_T), V_ l w q_M_lengthOf 2 ex_J 32 [(3, xJ w3_e)] [] M (kx32 w3_e M)) : ∀ (f : Nat) (w3 : Int64) (v5 : Int) (M : mm_T), V_ l w q_M_lengthOf 2 ex_J 5 [(0, xA a0), (1, xI v1), (2, xI v2), (3, xJ w3), (5, xI v5)] [] M (lp_M_lengthOf_5 kx32 a0 v1 v2 f w3 v5 M) := by
  intro f
  induction f with
  | zero => intros; exact V_.none
  | succ f ih =>
    intro w3 v5 M
    unfold lp_M_lengthOf_5
    refine v_iload d_M_lengthOf_5 4 rfl ?_
    refine v_iconst d_M_lengthOf_7 (by decide) ?_
    refine v_icge d_M_lengthOf_8 ?_ ?_
    · refine v_sub (ls' := [(3, xJ w3)]) [3] rfl ?_
      exact hkx32 w3 M
    · refine v_lloadn d_M_lengthOf_11 rfl 3 rfl ?_
      refine v_aloadn d_M_lengthOf_12 rfl 0 rfl ?_
      refine v_gR d_M_lengthOf_13 fl_M_104 rfl (fun r13 => ?_)
      refine v_iloadn d_M_lengthOf_16 rfl 1 rfl ?_
      refine v_iloadn d_M_lengthOf_17 rfl 2 rfl ?_
      refine v_iload d_M_lengthOf_18 4 rfl ?_
      refine v_cSi d_M_lengthOf_20 ml_M_322 (c_M_at l hfl v1 v2 v5 M) (fun _ => rfl) (by decide) (by decide) (as := [xI v1, xI v2, xI v5]) (st1 := [xA r13, xJ w3]) rfl rfl (Nat.le_of_ble_eq_true rfl) (fun c20 M => ?_)
      refine v_lald d_M_lengthOf_23 (fun x23 => ?_)
      refine v_ladd d_M_lengthOf_24 ?_
      refine v_lstoren (lz := fun z => [(3, xJ z), (0, xA a0), (1, xI v1), (2, xI v2), (5, xI v5)]) d_M_lengthOf_25 rfl (Nat.le_of_ble_eq_true rfl) (fun _ => rfl) (fun w3_25 => ?_)
      refine v_iinc (lz := fun z => [(5, xI z), (3, xJ w3_25), (0, xA a0), (1, xI v1), (2, xI v2)]) d_M_lengthOf_26 4 rfl (Nat.le_of_ble_eq_true rfl) (fun _ => rfl) (fun v5_26 => ?_)
      refine v_goto d_M_lengthOf_29 ?_
      refine v_sub (ls' := [(0, xA a0), (1, xI v1), (2, xI v2), (3, xJ w3_25), (5, xI v5_26)]) [2, 3, 4, 1, 0] rfl ?_
      exact ih w3_25 v5_26 M
set_option maxHeartbeats 4000000 in
set_option maxRecDepth 100000 in
theorem c_M_lengthOf (l : Launch) (hfl : l.stackTraces = false) (a0 : Nat) (v1 : Int) (v2 : Int) (M : mm_T) : vm_Con l yX11_lengthOf (.code yX11_lengthOf cX11_lengthOf 6 (some .long)) 2 ex_J [xA a0, xI v1, xI v2] M (k_M_lengthOf a0 v1 v2 M) := by
  refine vm_con (y := q_M_lengthOf) hfl (by decide +kernel) rfl (fun h => by cases h) (Nat.le_of_ble_eq_true rfl) rfl (fun _ _ _ => rfl) (fun r E h => by cases h) (fun w => ?_)
  show V_ l w q_M_lengthOf 2 ex_J 0 [(0, xA a0), (1, xI v1), (2, xI v2)] [] M (k_M_lengthOf a0 v1 v2 M)
  unfold k_M_lengthOf
  refine v_lconst d_M_lengthOf_0 (v := 0) rfl ?_
  refine v_lstoren (lz := fun z => [(3, xJ z), (0, xA a0), (1, xI v1), (2, xI v2)]) d_M_lengthOf_1 rfl (Nat.le_of_ble_eq_true rfl) (fun _ => rfl) (fun w3_1 => ?_)
  refine v_iconst d_M_lengthOf_2 (by decide) ?_
  refine v_istore (lz := fun z => [(5, xI z), (3, xJ w3_1), (0, xA a0), (1, xI v1), (2, xI v2)]) d_M_lengthOf_3 (Nat.le_of_ble_eq_true rfl) (fun _ => rfl) (fun v5_3 => ?_)
  refine v_sub (ls' := [(0, xA a0), (1, xI v1), (2, xI v2), (3, xJ w3_1), (5, xI v5_3)]) [2, 3, 4, 1, 0] rfl ?_
  refine V_lp_M_lengthOf_5 hfl _ _ _ _ (fun w3_32 M => ?_) _ _ _ _
  · refine v_lloadn d_M_lengthOf_32 rfl 0 rfl ?_
    exact v_ret d_M_lengthOf_33 rfl
set_option maxHeartbeats 4000000 in
set_option maxRecDepth 100000 in
theorem c_M_noPower (l : Launch) (hfl : l.stackTraces = false) (a0 : Nat) (v1 : Int) (v2 : Int) (v3 : Int) (M : mm_T) : vm_Con l yX11_noPower (.code yX11_noPower cX11_noPower 4 (some .boolean)) 3 ex_Z [xA a0, xI v1, xI v2, xI v3] M (k_M_noPower a0 v1 v2 v3 M) := by
  refine vm_con (y := q_M_noPower) hfl (by decide +kernel) rfl (fun h => by cases h) (Nat.le_of_ble_eq_true rfl) rfl (fun _ _ _ => rfl) (fun r E h => by cases h) (fun w => ?_)
  show V_ l w q_M_noPower 3 ex_Z 0 [(0, xA a0), (1, xI v1), (2, xI v2), (3, xI v3)] [] M (k_M_noPower a0 v1 v2 v3 M)
  unfold k_M_noPower
  refine v_aloadn d_M_noPower_0 rfl 0 rfl ?_
  refine v_iloadn d_M_noPower_1 rfl 1 rfl ?_
  refine v_cVi d_M_noPower_2 ml_M_319 (q := (RX11, TX11, 32)) rfl (c_M_noMap l hfl a0 v1 M) (fun _ => rfl) (by decide) (by decide) (as := [xI v1]) (st1 := []) rfl rfl (Nat.le_of_ble_eq_true rfl) (fun c2 M => ?_)
  refine v_join0 (pj := 40) (lj := []) (sj := []) (fun M => ?_) (fun j40 hj40 => ?_)
  · refine v_iconst d_M_noPower_40 (by decide) ?_
    refine v_goto d_M_noPower_41 ?_
    exact v_zret d_M_noPower_45 rfl
  refine v_ifne d_M_noPower_5 ?_ ?_
  · refine v_sub (ls' := []) [] rfl ?_
    exact hj40 M
  · refine v_aloadn d_M_noPower_8 rfl 0 rfl ?_
    refine v_iloadn d_M_noPower_9 rfl 2 rfl ?_
    refine v_iconst d_M_noPower_10 (by decide) ?_
    refine v_cVi d_M_noPower_11 ml_M_196 (q := (RX11, TX11, 32)) rfl (c_M_noLetter l hfl a0 v2 2 M) (fun _ => rfl) (by decide) (by decide) (as := [xI v2, xI 2]) (st1 := []) rfl rfl (Nat.le_of_ble_eq_true rfl) (fun c11 M => ?_)
    refine v_ifne d_M_noPower_14 ?_ ?_
    · refine v_sub (ls' := []) [] rfl ?_
      exact hj40 M
    · refine v_aloadn d_M_noPower_17 rfl 0 rfl ?_
      refine v_iloadn d_M_noPower_18 rfl 3 rfl ?_
      refine v_iconst d_M_noPower_19 (by decide) ?_
      refine v_bipush d_M_noPower_20 (by decide) ?_
      refine v_cSi d_M_noPower_22 ml_M_65 (c_M_in l hfl v3 0 12 M) (fun _ => rfl) (by decide) (by decide) (as := [xI v3, xI 0, xI 12]) (st1 := [xA a0]) rfl rfl (Nat.le_of_ble_eq_true rfl) (fun c22 M => ?_)
      refine v_join2 (pj := 33) (lj := fun sa0_33 s1_33 => []) (sj := fun sa0_33 s1_33 => [xI s1_33, xA sa0_33]) (fun sa0_33 s1_33 M => ?_) (fun j33 hj33 => ?_)
      · refine v_iconst d_M_noPower_33 (by decide) ?_
        refine v_cVi d_M_noPower_34 ml_M_180 (q := (RX11, TX11, 32)) rfl (c_M_throwsIf l hfl sa0_33 s1_33 2 M) (fun _ => rfl) (by decide) (by decide) (as := [xI s1_33, xI 2]) (st1 := []) rfl rfl (Nat.le_of_ble_eq_true rfl) (fun c34 M => ?_)
        refine v_ifeq d_M_noPower_37 ?_ ?_
        · refine v_iconst d_M_noPower_44 (by decide) ?_
          exact v_zret d_M_noPower_45 rfl
        · exact hj40 M
      refine v_ifne d_M_noPower_25 ?_ ?_
      · refine v_iconst d_M_noPower_32 (by decide) ?_
        refine v_sub (ls' := []) [] rfl ?_
        exact hj33 a0 0 M
      · refine v_iconst d_M_noPower_28 (by decide) ?_
        refine v_goto d_M_noPower_29 ?_
        refine v_sub (ls' := []) [] rfl ?_
        exact hj33 a0 1 M
set_option maxHeartbeats 4000000 in
set_option maxRecDepth 100000 in
theorem c_M_length (l : Launch) (hfl : l.stackTraces = false) (a0 : Nat) (v1 : Int) (v2 : Int) (v3 : Int) (M : mm_T) : vm_Con l yX11_length (.code yX11_length cX11_length 4 (some .long)) 4 ex_J [xA a0, xI v1, xI v2, xI v3] M (k_M_length a0 v1 v2 v3 M) := by
  refine vm_con (y := q_M_length) hfl (by decide +kernel) rfl (fun h => by cases h) (Nat.le_of_ble_eq_true rfl) rfl (fun _ _ _ => rfl) (fun r E h => by cases h) (fun w => ?_)
  show V_ l w q_M_length 4 ex_J 0 [(0, xA a0), (1, xI v1), (2, xI v2), (3, xI v3)] [] M (k_M_length a0 v1 v2 v3 M)
  unfold k_M_length
  refine v_aloadn d_M_length_0 rfl 0 rfl ?_
  refine v_iconst d_M_length_1 (by decide) ?_
  refine v_pI d_M_length_2 fl_M_3 (Or.inl rfl) rfl rfl (fun M => ?_)
  refine v_aloadn d_M_length_5 rfl 0 rfl ?_
  refine v_iloadn d_M_length_6 rfl 1 rfl ?_
  refine v_iloadn d_M_length_7 rfl 2 rfl ?_
  refine v_iloadn d_M_length_8 rfl 3 rfl ?_
  refine v_cVi d_M_length_9 ml_M_325 (q := (RX11, TX11, 32)) rfl (c_M_noPower l hfl a0 v1 v2 v3 M) (fun _ => rfl) (by decide) (by decide) (as := [xI v1, xI v2, xI v3]) (st1 := []) rfl rfl (Nat.le_of_ble_eq_true rfl) (fun c9 M => ?_)
  refine v_ifeq d_M_length_12 ?_ ?_
  · refine v_aloadn d_M_length_17 rfl 0 rfl ?_
    refine v_iloadn d_M_length_18 rfl 1 rfl ?_
    refine v_iloadn d_M_length_19 rfl 3 rfl ?_
    refine v_cVv d_M_length_20 ml_M_328 (q := (RX11, TX11, 32)) rfl (c_M_laysCounts l hfl a0 v1 v3 M) (fun _ => rfl) (by decide) (by decide) (as := [xI v1, xI v3]) (st1 := []) rfl rfl (Nat.le_of_ble_eq_true rfl) (fun _ M => ?_)
    refine v_aloadn d_M_length_23 rfl 0 rfl ?_
    refine v_iloadn d_M_length_24 rfl 3 rfl ?_
    refine v_iloadn d_M_length_25 rfl 2 rfl ?_
    refine v_cVl d_M_length_26 ml_M_332 (q := (RX11, TX11, 32)) rfl (c_M_lengthOf l hfl a0 v3 v2 M) (fun _ => rfl) (by decide) (by decide) (as := [xI v3, xI v2]) (st1 := []) rfl rfl (Nat.le_of_ble_eq_true rfl) (fun c26 M => ?_)
    exact v_ret d_M_length_29 rfl
  · refine v_lconst d_M_length_15 (v := 0) rfl ?_
    exact v_ret d_M_length_16 rfl
set_option maxHeartbeats 4000000 in
set_option maxRecDepth 100000 in
theorem V_lp_M_placed_18 {l : Launch} {w : vm_W} (hfl : l.stackTraces = false) (kx69 : Int64 → Int → mm_T → Option (Int × mm_T)) (a0 : Nat) (v1 : Int) (v6 : Int) (v9 : Int) (hkx69 : ∀ (w7_e : Int64) (v10_e : Int) (M : mm_T), V_ l w q_M_placed 3 ex_I 69 [(0, xA a0), (1, xI v1), (6, xI v6), (7, xJ w7_e), (9, xI v9), (10, xI v10_e)] [] M (kx69 w7_e v10_e M)) : ∀ (f : Nat) (w7 : Int64) (v10 : Int) (M : mm_T), V_ l w q_M_placed 3 ex_I 18 [(0, xA a0), (1, xI v1), (6, xI v6), (7, xJ w7), (9, xI v9), (10, xI v10)] [] M (lp_M_placed_18 kx69 a0 v1 v6 v9 f w7 v10 M) := by
  intro f
  induction f with
  | zero => intros; exact V_.none
  | succ f ih =>
    intro w7 v10 M
    unfold lp_M_placed_18
    refine v_lload d_M_placed_18 3 rfl ?_
    refine v_aloadn d_M_placed_20 rfl 0 rfl ?_
    refine v_iload d_M_placed_21 4 rfl ?_
    refine v_iconst d_M_placed_23 (by decide) ?_
    refine v_isub d_M_placed_24 (fun x24 => ?_)
    refine v_aloadn d_M_placed_25 rfl 0 rfl ?_
    refine v_iloadn d_M_placed_26 rfl 1 rfl ?_
    refine v_iload d_M_placed_27 2 rfl ?_
    refine v_iload d_M_placed_29 5 rfl ?_
    refine v_cVi d_M_placed_31 ml_M_308 (q := (RX11, TX11, 32)) rfl (c_M_imageOf l hfl a0 v1 v6 v10 M) (fun _ => rfl) (by decide) (by decide) (as := [xI v1, xI v6, xI v10]) (st1 := [xI x24, xA a0, xJ w7]) rfl rfl (Nat.le_of_ble_eq_true rfl) (fun c31 M => ?_)
    refine v_cVl d_M_placed_34 ml_M_332 (q := (RX11, TX11, 32)) rfl (c_M_lengthOf l hfl a0 x24 c31 M) (fun _ => rfl) (by decide) (by decide) (as := [xI x24, xI c31]) (st1 := [xJ w7]) rfl rfl (Nat.le_of_ble_eq_true rfl) (fun c34 M => ?_)
    refine v_lcmp d_M_placed_37 ?_
    refine v_iflt d_M_placed_38 ?_ ?_
    · exact hkx69 w7 v10 M
    · refine v_lload d_M_placed_41 3 rfl ?_
      refine v_aloadn d_M_placed_43 rfl 0 rfl ?_
      refine v_iload d_M_placed_44 4 rfl ?_
      refine v_iconst d_M_placed_46 (by decide) ?_
      refine v_isub d_M_placed_47 (fun x47 => ?_)
      refine v_aloadn d_M_placed_48 rfl 0 rfl ?_
      refine v_iloadn d_M_placed_49 rfl 1 rfl ?_
      refine v_iload d_M_placed_50 2 rfl ?_
      refine v_iload d_M_placed_52 5 rfl ?_
      refine v_cVi d_M_placed_54 ml_M_308 (q := (RX11, TX11, 32)) rfl (c_M_imageOf l hfl a0 v1 v6 v10 M) (fun _ => rfl) (by decide) (by decide) (as := [xI v1, xI v6, xI v10]) (st1 := [xI x47, xA a0, xJ w7]) rfl rfl (Nat.le_of_ble_eq_true rfl) (fun c54 M => ?_)
      refine v_cVl d_M_placed_57 ml_M_332 (q := (RX11, TX11, 32)) rfl (c_M_lengthOf l hfl a0 x47 c54 M) (fun _ => rfl) (by decide) (by decide) (as := [xI x47, xI c54]) (st1 := [xJ w7]) rfl rfl (Nat.le_of_ble_eq_true rfl) (fun c57 M => ?_)
      refine v_lsub d_M_placed_60 ?_
      refine v_lstore (lz := fun z => [(7, xJ z), (0, xA a0), (1, xI v1), (6, xI v6), (9, xI v9), (10, xI v10)]) d_M_placed_61 (Nat.le_of_ble_eq_true rfl) (fun _ => rfl) (fun w7_61 => ?_)
      refine v_iinc (lz := fun z => [(10, xI z), (7, xJ w7_61), (0, xA a0), (1, xI v1), (6, xI v6), (9, xI v9)]) d_M_placed_63 5 rfl (Nat.le_of_ble_eq_true rfl) (fun _ => rfl) (fun v10_63 => ?_)
      refine v_goto d_M_placed_66 ?_
      refine v_sub (ls' := [(0, xA a0), (1, xI v1), (6, xI v6), (7, xJ w7_61), (9, xI v9), (10, xI v10_63)]) [2, 3, 4, 1, 5, 0] rfl ?_
      exact ih w7_61 v10_63 M
set_option maxHeartbeats 4000000 in
set_option maxRecDepth 100000 in
theorem V_lp_M_placed_10 {l : Launch} {w : vm_W} (hfl : l.stackTraces = false) (kx86 : Int → mm_T → Option (Int × mm_T)) (a0 : Nat) (v1 : Int) (hkx86 : ∀ (v6_e : Int) (M : mm_T), V_ l w q_M_placed 3 ex_I 86 [(6, xI v6_e)] [] M (kx86 v6_e M)) : ∀ (f : Nat) (v6 : Int) (w7 : Int64) (v9 : Int) (M : mm_T), V_ l w q_M_placed 3 ex_I 10 [(0, xA a0), (1, xI v1), (6, xI v6), (7, xJ w7), (9, xI v9)] [] M (lp_M_placed_10 kx86 a0 v1 f v6 w7 v9 M) := by
  intro f
  induction f with
  | zero => intros; exact V_.none
  | succ f ih =>
    intro v6 w7 v9 M
    unfold lp_M_placed_10
    refine v_iload d_M_placed_10 4 rfl ?_
    refine v_ifle d_M_placed_12 ?_ ?_
    · refine v_sub (ls' := [(6, xI v6)]) [2] rfl ?_
      exact hkx86 v6 M
    · refine v_iconst d_M_placed_15 (by decide) ?_
      refine v_istore (lz := fun z => [(10, xI z), (0, xA a0), (1, xI v1), (6, xI v6), (7, xJ w7), (9, xI v9)]) d_M_placed_16 (Nat.le_of_ble_eq_true rfl) (fun _ => rfl) (fun v10_16 => ?_)
      refine v_sub (ls' := [(0, xA a0), (1, xI v1), (6, xI v6), (7, xJ w7), (9, xI v9), (10, xI v10_16)]) [1, 2, 3, 4, 5, 0] rfl ?_
      refine V_lp_M_placed_18 hfl _ _ _ _ _ (fun w7_69 v10_69 M => ?_) _ _ _ _
      · refine v_aloadn d_M_placed_69 rfl 0 rfl ?_
        refine v_iloadn d_M_placed_70 rfl 1 rfl ?_
        refine v_iload d_M_placed_71 2 rfl ?_
        refine v_iload d_M_placed_73 5 rfl ?_
        refine v_cVi d_M_placed_75 ml_M_308 (q := (RX11, TX11, 32)) rfl (c_M_imageOf l hfl a0 v1 v6 v10_69 M) (fun _ => rfl) (by decide) (by decide) (as := [xI v1, xI v6, xI v10_69]) (st1 := []) rfl rfl (Nat.le_of_ble_eq_true rfl) (fun c75 M => ?_)
        refine v_istore (lz := fun z => [(6, xI z), (0, xA a0), (1, xI v1), (7, xJ w7_69), (9, xI v9), (10, xI v10_69)]) d_M_placed_78 (Nat.le_of_ble_eq_true rfl) (fun _ => rfl) (fun v6_78 => ?_)
        refine v_iinc (lz := fun z => [(9, xI z), (6, xI v6_78), (0, xA a0), (1, xI v1), (7, xJ w7_69), (10, xI v10_69)]) d_M_placed_80 4 rfl (Nat.le_of_ble_eq_true rfl) (fun _ => rfl) (fun v9_80 => ?_)
        refine v_goto d_M_placed_83 ?_
        refine v_sub (ls' := [(0, xA a0), (1, xI v1), (6, xI v6_78), (7, xJ w7_69), (9, xI v9_80)]) [2, 3, 1, 4, 0] rfl ?_
        exact ih v6_78 w7_69 v9_80 M
set_option maxHeartbeats 4000000 in
set_option maxRecDepth 100000 in
theorem c_M_placed (l : Launch) (hfl : l.stackTraces = false) (a0 : Nat) (v1 : Int) (v2 : Int) (v3 : Int) (w4 : Int64) (M : mm_T) : vm_Con l yX11_placed (.code yX11_placed cX11_placed 11 (some .int)) 3 ex_I [xA a0, xI v1, xI v2, xI v3, xJ w4] M (k_M_placed a0 v1 v2 v3 w4 M) := by
  refine vm_con (y := q_M_placed) hfl (by decide +kernel) rfl (fun h => by cases h) (Nat.le_of_ble_eq_true rfl) rfl (fun _ _ _ => rfl) (fun r E h => by cases h) (fun w => ?_)
  show V_ l w q_M_placed 3 ex_I 0 [(0, xA a0), (1, xI v1), (2, xI v2), (3, xI v3), (4, xJ w4)] [] M (k_M_placed a0 v1 v2 v3 w4 M)
  unfold k_M_placed
  refine v_iloadn d_M_placed_0 rfl 2 rfl ?_
  refine v_istore (lz := fun z => [(6, xI z), (0, xA a0), (1, xI v1), (2, xI v2), (3, xI v3), (4, xJ w4)]) d_M_placed_1 (Nat.le_of_ble_eq_true rfl) (fun _ => rfl) (fun v6_1 => ?_)
  refine v_lload d_M_placed_3 5 rfl ?_
  refine v_lstore (lz := fun z => [(7, xJ z), (6, xI v6_1), (0, xA a0), (1, xI v1), (2, xI v2), (3, xI v3), (4, xJ w4)]) d_M_placed_5 (Nat.le_of_ble_eq_true rfl) (fun _ => rfl) (fun w7_5 => ?_)
  refine v_iloadn d_M_placed_7 rfl 5 rfl ?_
  refine v_istore (lz := fun z => [(9, xI z), (7, xJ w7_5), (6, xI v6_1), (0, xA a0), (1, xI v1), (2, xI v2), (3, xI v3), (4, xJ w4)]) d_M_placed_8 (Nat.le_of_ble_eq_true rfl) (fun _ => rfl) (fun v9_8 => ?_)
  refine v_sub (ls' := [(0, xA a0), (1, xI v1), (6, xI v6_1), (7, xJ w7_5), (9, xI v9_8)]) [3, 4, 2, 1, 0] rfl ?_
  refine V_lp_M_placed_10 hfl _ _ _ (fun v6_86 M => ?_) _ _ _ _ _
  · refine v_iload d_M_placed_86 0 rfl ?_
    exact v_ret d_M_placed_88 rfl
set_option maxHeartbeats 4000000 in
set_option maxRecDepth 100000 in
theorem c_M_power (l : Launch) (hfl : l.stackTraces = false) (a0 : Nat) (v1 : Int) (v2 : Int) (v3 : Int) (w4 : Int64) (M : mm_T) : vm_Con l yX11_power (.code yX11_power cX11_power 6 (some .int)) 4 ex_I [xA a0, xI v1, xI v2, xI v3, xJ w4] M (k_M_power a0 v1 v2 v3 w4 M) := by
  refine vm_con (y := q_M_power) hfl (by decide +kernel) rfl (fun h => by cases h) (Nat.le_of_ble_eq_true rfl) rfl (fun _ _ _ => rfl) (fun r E h => by cases h) (fun w => ?_)
  show V_ l w q_M_power 4 ex_I 0 [(0, xA a0), (1, xI v1), (2, xI v2), (3, xI v3), (4, xJ w4)] [] M (k_M_power a0 v1 v2 v3 w4 M)
  unfold k_M_power
  refine v_aloadn d_M_power_0 rfl 0 rfl ?_
  refine v_iconst d_M_power_1 (by decide) ?_
  refine v_pI d_M_power_2 fl_M_3 (Or.inl rfl) rfl rfl (fun M => ?_)
  refine v_aloadn d_M_power_5 rfl 0 rfl ?_
  refine v_iloadn d_M_power_6 rfl 1 rfl ?_
  refine v_iloadn d_M_power_7 rfl 2 rfl ?_
  refine v_iloadn d_M_power_8 rfl 3 rfl ?_
  refine v_cVi d_M_power_9 ml_M_325 (q := (RX11, TX11, 32)) rfl (c_M_noPower l hfl a0 v1 v2 v3 M) (fun _ => rfl) (by decide) (by decide) (as := [xI v1, xI v2, xI v3]) (st1 := []) rfl rfl (Nat.le_of_ble_eq_true rfl) (fun c9 M => ?_)
  refine v_ifeq d_M_power_12 ?_ ?_
  · refine v_aloadn d_M_power_17 rfl 0 rfl ?_
    refine v_iloadn d_M_power_18 rfl 1 rfl ?_
    refine v_iloadn d_M_power_19 rfl 3 rfl ?_
    refine v_cVv d_M_power_20 ml_M_328 (q := (RX11, TX11, 32)) rfl (c_M_laysCounts l hfl a0 v1 v3 M) (fun _ => rfl) (by decide) (by decide) (as := [xI v1, xI v3]) (st1 := []) rfl rfl (Nat.le_of_ble_eq_true rfl) (fun _ M => ?_)
    refine v_lload d_M_power_23 4 rfl ?_
    refine v_lconst d_M_power_25 (v := 0) rfl ?_
    refine v_lcmp d_M_power_26 ?_
    refine v_iflt d_M_power_27 ?_ ?_
    · refine v_iconst d_M_power_42 (by decide) ?_
      exact v_ret d_M_power_43 rfl
    · refine v_lload d_M_power_30 4 rfl ?_
      refine v_aloadn d_M_power_32 rfl 0 rfl ?_
      refine v_iloadn d_M_power_33 rfl 3 rfl ?_
      refine v_iloadn d_M_power_34 rfl 2 rfl ?_
      refine v_cVl d_M_power_35 ml_M_332 (q := (RX11, TX11, 32)) rfl (c_M_lengthOf l hfl a0 v3 v2 M) (fun _ => rfl) (by decide) (by decide) (as := [xI v3, xI v2]) (st1 := [xJ w4]) rfl rfl (Nat.le_of_ble_eq_true rfl) (fun c35 M => ?_)
      refine v_lcmp d_M_power_38 ?_
      refine v_iflt d_M_power_39 ?_ ?_
      · refine v_aloadn d_M_power_44 rfl 0 rfl ?_
        refine v_iloadn d_M_power_45 rfl 1 rfl ?_
        refine v_iloadn d_M_power_46 rfl 2 rfl ?_
        refine v_iloadn d_M_power_47 rfl 3 rfl ?_
        refine v_lload d_M_power_48 4 rfl ?_
        refine v_cVi d_M_power_50 ml_M_336 (q := (RX11, TX11, 32)) rfl (c_M_placed l hfl a0 v1 v2 v3 w4 M) (fun _ => rfl) (by decide) (by decide) (as := [xI v1, xI v2, xI v3, xJ w4]) (st1 := []) rfl rfl (Nat.le_of_ble_eq_true rfl) (fun c50 M => ?_)
        exact v_ret d_M_power_53 rfl
      · refine v_iconst d_M_power_42 (by decide) ?_
        exact v_ret d_M_power_43 rfl
  · refine v_iconst d_M_power_15 (by decide) ?_
    exact v_ret d_M_power_16 rfl
set_option maxHeartbeats 4000000 in
set_option maxRecDepth 100000 in
theorem c_M_often (l : Launch) (hfl : l.stackTraces = false) (a0 : Nat) (v1 : Int) (v2 : Int) (v3 : Int) (v4 : Int) (M : mm_T) : vm_Con l yX11_often (.code yX11_often cX11_often 5 (some .long)) 4 ex_J [xA a0, xI v1, xI v2, xI v3, xI v4] M (k_M_often a0 v1 v2 v3 v4 M) := by
  refine vm_con (y := q_M_often) hfl (by decide +kernel) rfl (fun h => by cases h) (Nat.le_of_ble_eq_true rfl) rfl (fun _ _ _ => rfl) (fun r E h => by cases h) (fun w => ?_)
  show V_ l w q_M_often 4 ex_J 0 [(0, xA a0), (1, xI v1), (2, xI v2), (3, xI v3), (4, xI v4)] [] M (k_M_often a0 v1 v2 v3 v4 M)
  unfold k_M_often
  refine v_aloadn d_M_often_0 rfl 0 rfl ?_
  refine v_iconst d_M_often_1 (by decide) ?_
  refine v_pI d_M_often_2 fl_M_3 (Or.inl rfl) rfl rfl (fun M => ?_)
  refine v_aloadn d_M_often_5 rfl 0 rfl ?_
  refine v_iloadn d_M_often_6 rfl 1 rfl ?_
  refine v_iloadn d_M_often_7 rfl 2 rfl ?_
  refine v_iloadn d_M_often_8 rfl 3 rfl ?_
  refine v_cVi d_M_often_9 ml_M_325 (q := (RX11, TX11, 32)) rfl (c_M_noPower l hfl a0 v1 v2 v3 M) (fun _ => rfl) (by decide) (by decide) (as := [xI v1, xI v2, xI v3]) (st1 := []) rfl rfl (Nat.le_of_ble_eq_true rfl) (fun c9 M => ?_)
  refine v_join0 (pj := 25) (lj := []) (sj := []) (fun M => ?_) (fun j25 hj25 => ?_)
  · refine v_lconst d_M_often_25 (v := 0) rfl ?_
    exact v_ret d_M_often_26 rfl
  refine v_ifne d_M_often_12 ?_ ?_
  · refine v_sub (ls' := []) [] rfl ?_
    exact hj25 M
  · refine v_aloadn d_M_often_15 rfl 0 rfl ?_
    refine v_iload d_M_often_16 4 rfl ?_
    refine v_iconst d_M_often_18 (by decide) ?_
    refine v_cVi d_M_often_19 ml_M_196 (q := (RX11, TX11, 32)) rfl (c_M_noLetter l hfl a0 v4 2 M) (fun _ => rfl) (by decide) (by decide) (as := [xI v4, xI 2]) (st1 := []) rfl rfl (Nat.le_of_ble_eq_true rfl) (fun c19 M => ?_)
    refine v_ifeq d_M_often_22 ?_ ?_
    · refine v_aloadn d_M_often_27 rfl 0 rfl ?_
      refine v_iloadn d_M_often_28 rfl 1 rfl ?_
      refine v_iloadn d_M_often_29 rfl 3 rfl ?_
      refine v_cVv d_M_often_30 ml_M_328 (q := (RX11, TX11, 32)) rfl (c_M_laysCounts l hfl a0 v1 v3 M) (fun _ => rfl) (by decide) (by decide) (as := [xI v1, xI v3]) (st1 := []) rfl rfl (Nat.le_of_ble_eq_true rfl) (fun _ M => ?_)
      refine v_aloadn d_M_often_33 rfl 0 rfl ?_
      refine v_gR d_M_often_34 fl_M_104 rfl (fun r34 => ?_)
      refine v_iloadn d_M_often_37 rfl 3 rfl ?_
      refine v_iloadn d_M_often_38 rfl 2 rfl ?_
      refine v_iload d_M_often_39 4 rfl ?_
      refine v_cSi d_M_often_41 ml_M_322 (c_M_at l hfl v3 v2 v4 M) (fun _ => rfl) (by decide) (by decide) (as := [xI v3, xI v2, xI v4]) (st1 := [xA r34]) rfl rfl (Nat.le_of_ble_eq_true rfl) (fun c41 M => ?_)
      refine v_lald d_M_often_44 (fun x44 => ?_)
      exact v_ret d_M_often_45 rfl
    · refine v_sub (ls' := []) [] rfl ?_
      exact hj25 M
set_option maxHeartbeats 4000000 in
set_option maxRecDepth 100000 in
theorem V_lp_M_laysBreak_16 {l : Launch} {w : vm_W} (hfl : l.stackTraces = false) (kx55 : mm_T → Option (Unit × mm_T)) (a0 : Nat) (v2 : Int) (hkx55 : ∀ (M : mm_T), V_ l w q_M_laysBreak 60 ex_V 55 [] [] M (kx55 M)) : ∀ (f : Nat) (v3 : Int) (M : mm_T), V_ l w q_M_laysBreak 60 ex_V 16 [(0, xA a0), (2, xI v2), (3, xI v3)] [] M (lp_M_laysBreak_16 kx55 a0 v2 f v3 M) := by
  intro f
  induction f with
  | zero => intros; exact V_.none
  | succ f ih =>
    intro v3 M
    unfold lp_M_laysBreak_16
    refine v_iloadn d_M_laysBreak_16 rfl 2 rfl ?_
    refine v_iloadn d_M_laysBreak_17 rfl 1 rfl ?_
    refine v_icgt d_M_laysBreak_18 ?_ ?_
    · refine v_sub (ls' := []) [] rfl ?_
      exact hkx55 M
    · refine v_aloadn d_M_laysBreak_21 rfl 0 rfl ?_
      refine v_gI d_M_laysBreak_22 fl_M_265 rfl (fun x22 => ?_)
      refine v_ifne d_M_laysBreak_25 ?_ ?_
      · refine v_sub (ls' := []) [] rfl ?_
        exact hkx55 M
      · refine v_aloadn d_M_laysBreak_28 rfl 0 rfl ?_
        refine v_gI d_M_laysBreak_29 fl_M_271 rfl (fun x29 => ?_)
        refine v_ifne d_M_laysBreak_32 ?_ ?_
        · refine v_sub (ls' := []) [] rfl ?_
          exact hkx55 M
        · refine v_aloadn d_M_laysBreak_35 rfl 0 rfl ?_
          refine v_iconst d_M_laysBreak_36 (by decide) ?_
          refine v_iloadn d_M_laysBreak_37 rfl 2 rfl ?_
          refine v_iconst d_M_laysBreak_38 (by decide) ?_
          refine v_cVi d_M_laysBreak_39 ml_M_268 (q := (RX11, TX11, 32)) rfl (c_M_searches l hfl 50 a0 0 v3 5 M) (fun _ => rfl) (by decide) (by decide) (as := [xI 0, xI v3, xI 5]) (st1 := []) rfl rfl (Nat.le_of_ble_eq_true rfl) (fun c39 M => ?_)
          refine v_istore (lz := fun z => [(4, xI z), (0, xA a0), (2, xI v2), (3, xI v3)]) d_M_laysBreak_42 (Nat.le_of_ble_eq_true rfl) (fun _ => rfl) (fun v4_42 => ?_)
          refine v_aloadn d_M_laysBreak_44 rfl 1 rfl ?_
          refine v_iloadn d_M_laysBreak_45 rfl 3 rfl ?_
          refine v_pI d_M_laysBreak_46 fl_M_284 (Or.inl rfl) rfl rfl (fun M => ?_)
          refine v_iinc (lz := fun z => [(3, xI z), (4, xI v4_42), (0, xA a0), (2, xI v2)]) d_M_laysBreak_49 3 rfl (Nat.le_of_ble_eq_true rfl) (fun _ => rfl) (fun v3_49 => ?_)
          refine v_goto d_M_laysBreak_52 ?_
          refine v_sub (ls' := [(0, xA a0), (2, xI v2), (3, xI v3_49)]) [2, 3, 0] rfl ?_
          exact ih v3_49 M
set_option maxHeartbeats 4000000 in
set_option maxRecDepth 100000 in
theorem c_M_laysBreak (l : Launch) (hfl : l.stackTraces = false) (a0 : Nat) (v1 : Int) (v2 : Int) (M : mm_T) : vm_Con l yX11_laysBreak (.code yX11_laysBreak cX11_laysBreak 5 none) 60 ex_V [xA a0, xI v1, xI v2] M (k_M_laysBreak a0 v1 v2 M) := by
  refine vm_con (y := q_M_laysBreak) hfl (by decide +kernel) rfl (fun h => by cases h) (Nat.le_of_ble_eq_true rfl) rfl (fun _ _ _ => rfl) (fun r E h => by cases h) (fun w => ?_)
  show V_ l w q_M_laysBreak 60 ex_V 0 [(0, xA a0), (1, xI v1), (2, xI v2)] [] M (k_M_laysBreak a0 v1 v2 M)
  unfold k_M_laysBreak
  refine v_aloadn d_M_laysBreak_0 rfl 0 rfl ?_
  refine v_cVv d_M_laysBreak_1 ml_M_290 (q := (RX11, TX11, 32)) rfl (c_M_startsSearch l hfl a0 M) (fun _ => rfl) (by decide) (by decide) (as := []) (st1 := []) rfl rfl (Nat.le_of_ble_eq_true rfl) (fun _ M => ?_)
  refine v_aloadn d_M_laysBreak_4 rfl 0 rfl ?_
  refine v_iloadn d_M_laysBreak_5 rfl 1 rfl ?_
  refine v_pI d_M_laysBreak_6 fl_M_312 (Or.inl rfl) rfl rfl (fun M => ?_)
  refine v_aloadn d_M_laysBreak_9 rfl 0 rfl ?_
  refine v_iconst d_M_laysBreak_10 (by decide) ?_
  refine v_pI d_M_laysBreak_11 fl_M_284 (Or.inl rfl) rfl rfl (fun M => ?_)
  refine v_iconst d_M_laysBreak_14 (by decide) ?_
  refine v_istoren (lz := fun z => [(3, xI z), (0, xA a0), (1, xI v1), (2, xI v2)]) d_M_laysBreak_15 rfl (Nat.le_of_ble_eq_true rfl) (fun _ => rfl) (fun v3_15 => ?_)
  refine v_sub (ls' := [(0, xA a0), (2, xI v2), (3, xI v3_15)]) [1, 3, 0] rfl ?_
  refine V_lp_M_laysBreak_16 hfl _ _ _ (fun M => ?_) _ _ _
  · exact v_vret d_M_laysBreak_55 rfl
set_option maxHeartbeats 4000000 in
set_option maxRecDepth 100000 in
theorem c_M_keeps (l : Launch) (hfl : l.stackTraces = false) (a0 : Nat) (v1 : Int) (v2 : Int) (M : mm_T) : vm_Con l yX11_keeps (.code yX11_keeps cX11_keeps 3 (some .int)) 61 ex_I [xA a0, xI v1, xI v2] M (k_M_keeps a0 v1 v2 M) := by
  refine vm_con (y := q_M_keeps) hfl (by decide +kernel) rfl (fun h => by cases h) (Nat.le_of_ble_eq_true rfl) rfl (fun _ _ _ => rfl) (fun r E h => by cases h) (fun w => ?_)
  show V_ l w q_M_keeps 61 ex_I 0 [(0, xA a0), (1, xI v1), (2, xI v2)] [] M (k_M_keeps a0 v1 v2 M)
  unfold k_M_keeps
  refine v_aloadn d_M_keeps_0 rfl 0 rfl ?_
  refine v_iconst d_M_keeps_1 (by decide) ?_
  refine v_pI d_M_keeps_2 fl_M_3 (Or.inl rfl) rfl rfl (fun M => ?_)
  refine v_aloadn d_M_keeps_5 rfl 0 rfl ?_
  refine v_iloadn d_M_keeps_6 rfl 1 rfl ?_
  refine v_cVi d_M_keeps_7 ml_M_319 (q := (RX11, TX11, 32)) rfl (c_M_noMap l hfl a0 v1 M) (fun _ => rfl) (by decide) (by decide) (as := [xI v1]) (st1 := []) rfl rfl (Nat.le_of_ble_eq_true rfl) (fun c7 M => ?_)
  refine v_ifne d_M_keeps_10 ?_ ?_
  · refine v_iconst d_M_keeps_36 (by decide) ?_
    exact v_ret d_M_keeps_37 rfl
  · refine v_aloadn d_M_keeps_13 rfl 0 rfl ?_
    refine v_iloadn d_M_keeps_14 rfl 2 rfl ?_
    refine v_iconst d_M_keeps_15 (by decide) ?_
    refine v_bipush d_M_keeps_16 (by decide) ?_
    refine v_cSi d_M_keeps_18 ml_M_65 (c_M_in l hfl v2 1 6 M) (fun _ => rfl) (by decide) (by decide) (as := [xI v2, xI 1, xI 6]) (st1 := [xA a0]) rfl rfl (Nat.le_of_ble_eq_true rfl) (fun c18 M => ?_)
    refine v_join2 (pj := 29) (lj := fun sa0_29 s1_29 => [(0, xA a0), (1, xI v1), (2, xI v2)]) (sj := fun sa0_29 s1_29 => [xI s1_29, xA sa0_29]) (fun sa0_29 s1_29 M => ?_) (fun j29 hj29 => ?_)
    · refine v_iconst d_M_keeps_29 (by decide) ?_
      refine v_cVi d_M_keeps_30 ml_M_180 (q := (RX11, TX11, 32)) rfl (c_M_throwsIf l hfl sa0_29 s1_29 2 M) (fun _ => rfl) (by decide) (by decide) (as := [xI s1_29, xI 2]) (st1 := []) rfl rfl (Nat.le_of_ble_eq_true rfl) (fun c30 M => ?_)
      refine v_ifeq d_M_keeps_33 ?_ ?_
      · refine v_aloadn d_M_keeps_38 rfl 0 rfl ?_
        refine v_iloadn d_M_keeps_39 rfl 1 rfl ?_
        refine v_iloadn d_M_keeps_40 rfl 2 rfl ?_
        refine v_cVv d_M_keeps_41 ml_M_340 (q := (RX11, TX11, 32)) rfl (c_M_laysBreak l hfl a0 v1 v2 M) (fun _ => rfl) (by decide) (by decide) (as := [xI v1, xI v2]) (st1 := []) rfl rfl (Nat.le_of_ble_eq_true rfl) (fun _ M => ?_)
        refine v_aloadn d_M_keeps_44 rfl 0 rfl ?_
        refine v_gI d_M_keeps_45 fl_M_265 rfl (fun x45 => ?_)
        refine v_ifeq d_M_keeps_48 ?_ ?_
        · refine v_aloadn d_M_keeps_56 rfl 0 rfl ?_
          refine v_gI d_M_keeps_57 fl_M_271 rfl (fun x57 => ?_)
          refine v_ifeq d_M_keeps_60 ?_ ?_
          · refine v_iconst d_M_keeps_67 (by decide) ?_
            exact v_ret d_M_keeps_68 rfl
          · refine v_iconst d_M_keeps_63 (by decide) ?_
            refine v_goto d_M_keeps_64 ?_
            exact v_ret d_M_keeps_68 rfl
        · refine v_bipush d_M_keeps_51 (by decide) ?_
          refine v_goto d_M_keeps_53 ?_
          exact v_ret d_M_keeps_68 rfl
      · refine v_iconst d_M_keeps_36 (by decide) ?_
        exact v_ret d_M_keeps_37 rfl
    refine v_ifne d_M_keeps_21 ?_ ?_
    · refine v_iconst d_M_keeps_28 (by decide) ?_
      exact hj29 a0 0 M
    · refine v_iconst d_M_keeps_24 (by decide) ?_
      refine v_goto d_M_keeps_25 ?_
      exact hj29 a0 1 M
set_option maxHeartbeats 4000000 in
set_option maxRecDepth 100000 in
theorem V_lp_M_breaks_77 {l : Launch} {w : vm_W} (hfl : l.stackTraces = false) (kx107 : Int → mm_T → Option (Int × mm_T)) (a0 : Nat) (hkx107 : ∀ (v3_e : Int) (M : mm_T), V_ l w q_M_breaks 61 ex_I 107 [(3, xI v3_e)] [] M (kx107 v3_e M)) : ∀ (f : Nat) (v3 : Int) (v4 : Int) (M : mm_T), V_ l w q_M_breaks 61 ex_I 77 [(0, xA a0), (3, xI v3), (4, xI v4)] [] M (lp_M_breaks_77 kx107 a0 f v3 v4 M) := by
  intro f
  induction f with
  | zero => intros; exact V_.none
  | succ f ih =>
    intro v3 v4 M
    unfold lp_M_breaks_77
    refine v_iload d_M_breaks_77 2 rfl ?_
    refine v_aloadn d_M_breaks_79 rfl 0 rfl ?_
    refine v_gI d_M_breaks_80 fl_M_284 rfl (fun x80 => ?_)
    refine v_icge d_M_breaks_83 ?_ ?_
    · refine v_sub (ls' := [(3, xI v3)]) [1] rfl ?_
      exact hkx107 v3 M
    · refine v_bipush d_M_breaks_86 (by decide) ?_
      refine v_iloadn d_M_breaks_88 rfl 1 rfl ?_
      refine v_imul d_M_breaks_89 (fun x89 => ?_)
      refine v_aloadn d_M_breaks_90 rfl 0 rfl ?_
      refine v_gR d_M_breaks_91 fl_M_98 rfl (fun r91 => ?_)
      refine v_iload d_M_breaks_94 2 rfl ?_
      refine v_iald d_M_breaks_96 (fun x96 => ?_)
      refine v_iadd d_M_breaks_97 (fun x97 => ?_)
      refine v_iconst d_M_breaks_98 (by decide) ?_
      refine v_iadd d_M_breaks_99 (fun x99 => ?_)
      refine v_istoren (lz := fun z => [(3, xI z), (0, xA a0), (4, xI v4)]) d_M_breaks_100 rfl (Nat.le_of_ble_eq_true rfl) (fun _ => rfl) (fun v3_100 => ?_)
      refine v_iinc (lz := fun z => [(4, xI z), (3, xI v3_100), (0, xA a0)]) d_M_breaks_101 2 rfl (Nat.le_of_ble_eq_true rfl) (fun _ => rfl) (fun v4_101 => ?_)
      refine v_goto d_M_breaks_104 ?_
      refine v_sub (ls' := [(0, xA a0), (3, xI v3_100), (4, xI v4_101)]) [2, 1, 0] rfl ?_
      exact ih v3_100 v4_101 M
set_option maxHeartbeats 4000000 in
set_option maxRecDepth 100000 in
theorem c_M_breaks (l : Launch) (hfl : l.stackTraces = false) (a0 : Nat) (v1 : Int) (v2 : Int) (M : mm_T) : vm_Con l yX11_breaks (.code yX11_breaks cX11_breaks 5 (some .int)) 61 ex_I [xA a0, xI v1, xI v2] M (k_M_breaks a0 v1 v2 M) := by
  refine vm_con (y := q_M_breaks) hfl (by decide +kernel) rfl (fun h => by cases h) (Nat.le_of_ble_eq_true rfl) rfl (fun _ _ _ => rfl) (fun r E h => by cases h) (fun w => ?_)
  show V_ l w q_M_breaks 61 ex_I 0 [(0, xA a0), (1, xI v1), (2, xI v2)] [] M (k_M_breaks a0 v1 v2 M)
  unfold k_M_breaks
  refine v_aloadn d_M_breaks_0 rfl 0 rfl ?_
  refine v_iconst d_M_breaks_1 (by decide) ?_
  refine v_pI d_M_breaks_2 fl_M_3 (Or.inl rfl) rfl rfl (fun M => ?_)
  refine v_aloadn d_M_breaks_5 rfl 0 rfl ?_
  refine v_iloadn d_M_breaks_6 rfl 1 rfl ?_
  refine v_cVi d_M_breaks_7 ml_M_319 (q := (RX11, TX11, 32)) rfl (c_M_noMap l hfl a0 v1 M) (fun _ => rfl) (by decide) (by decide) (as := [xI v1]) (st1 := []) rfl rfl (Nat.le_of_ble_eq_true rfl) (fun c7 M => ?_)
  refine v_ifne d_M_breaks_10 ?_ ?_
  · refine v_iconst d_M_breaks_36 (by decide) ?_
    exact v_ret d_M_breaks_37 rfl
  · refine v_aloadn d_M_breaks_13 rfl 0 rfl ?_
    refine v_iloadn d_M_breaks_14 rfl 2 rfl ?_
    refine v_iconst d_M_breaks_15 (by decide) ?_
    refine v_bipush d_M_breaks_16 (by decide) ?_
    refine v_cSi d_M_breaks_18 ml_M_65 (c_M_in l hfl v2 1 6 M) (fun _ => rfl) (by decide) (by decide) (as := [xI v2, xI 1, xI 6]) (st1 := [xA a0]) rfl rfl (Nat.le_of_ble_eq_true rfl) (fun c18 M => ?_)
    refine v_join2 (pj := 29) (lj := fun sa0_29 s1_29 => [(0, xA a0), (1, xI v1), (2, xI v2)]) (sj := fun sa0_29 s1_29 => [xI s1_29, xA sa0_29]) (fun sa0_29 s1_29 M => ?_) (fun j29 hj29 => ?_)
    · refine v_iconst d_M_breaks_29 (by decide) ?_
      refine v_cVi d_M_breaks_30 ml_M_180 (q := (RX11, TX11, 32)) rfl (c_M_throwsIf l hfl sa0_29 s1_29 2 M) (fun _ => rfl) (by decide) (by decide) (as := [xI s1_29, xI 2]) (st1 := []) rfl rfl (Nat.le_of_ble_eq_true rfl) (fun c30 M => ?_)
      refine v_ifeq d_M_breaks_33 ?_ ?_
      · refine v_aloadn d_M_breaks_38 rfl 0 rfl ?_
        refine v_iloadn d_M_breaks_39 rfl 1 rfl ?_
        refine v_iloadn d_M_breaks_40 rfl 2 rfl ?_
        refine v_cVv d_M_breaks_41 ml_M_340 (q := (RX11, TX11, 32)) rfl (c_M_laysBreak l hfl a0 v1 v2 M) (fun _ => rfl) (by decide) (by decide) (as := [xI v1, xI v2]) (st1 := []) rfl rfl (Nat.le_of_ble_eq_true rfl) (fun _ M => ?_)
        refine v_aloadn d_M_breaks_44 rfl 0 rfl ?_
        refine v_gI d_M_breaks_45 fl_M_265 rfl (fun x45 => ?_)
        refine v_join0 (pj := 58) (lj := [(0, xA a0)]) (sj := []) (fun M => ?_) (fun j58 hj58 => ?_)
        · refine v_aloadn d_M_breaks_58 rfl 0 rfl ?_
          refine v_gI d_M_breaks_59 fl_M_265 rfl (fun x59 => ?_)
          refine v_ifeq d_M_breaks_62 ?_ ?_
          · refine v_iconst d_M_breaks_70 (by decide) ?_
            exact v_ret d_M_breaks_71 rfl
          · refine v_bipush d_M_breaks_65 (by decide) ?_
            refine v_goto d_M_breaks_67 ?_
            exact v_ret d_M_breaks_71 rfl
        refine v_ifne d_M_breaks_48 ?_ ?_
        · refine v_sub (ls' := [(0, xA a0)]) [0] rfl ?_
          exact hj58 M
        · refine v_aloadn d_M_breaks_51 rfl 0 rfl ?_
          refine v_gI d_M_breaks_52 fl_M_271 rfl (fun x52 => ?_)
          refine v_ifne d_M_breaks_55 ?_ ?_
          · refine v_iconst d_M_breaks_72 (by decide) ?_
            refine v_istoren (lz := fun z => [(3, xI z), (0, xA a0), (1, xI v1), (2, xI v2)]) d_M_breaks_73 rfl (Nat.le_of_ble_eq_true rfl) (fun _ => rfl) (fun v3_73 => ?_)
            refine v_iconst d_M_breaks_74 (by decide) ?_
            refine v_istore (lz := fun z => [(4, xI z), (3, xI v3_73), (0, xA a0), (1, xI v1), (2, xI v2)]) d_M_breaks_75 (Nat.le_of_ble_eq_true rfl) (fun _ => rfl) (fun v4_75 => ?_)
            refine v_sub (ls' := [(0, xA a0), (3, xI v3_73), (4, xI v4_75)]) [2, 1, 0] rfl ?_
            refine V_lp_M_breaks_77 hfl _ _ (fun v3_107 M => ?_) _ _ _ _
            · refine v_iloadn d_M_breaks_107 rfl 0 rfl ?_
              exact v_ret d_M_breaks_108 rfl
          · refine v_sub (ls' := [(0, xA a0)]) [0] rfl ?_
            exact hj58 M
      · refine v_iconst d_M_breaks_36 (by decide) ?_
        exact v_ret d_M_breaks_37 rfl
    refine v_ifne d_M_breaks_21 ?_ ?_
    · refine v_iconst d_M_breaks_28 (by decide) ?_
      exact hj29 a0 0 M
    · refine v_iconst d_M_breaks_24 (by decide) ?_
      refine v_goto d_M_breaks_25 ?_
      exact hj29 a0 1 M
set_option maxHeartbeats 4000000 in
set_option maxRecDepth 100000 in
theorem c_M_doesGrow (l : Launch) (hfl : l.stackTraces = false) (a0 : Nat) (v1 : Int) (v2 : Int) (M : mm_T) : vm_Con l yX11_doesGrow (.code yX11_doesGrow cX11_doesGrow 3 (some .boolean)) 2 ex_Z [xA a0, xI v1, xI v2] M (k_M_doesGrow a0 v1 v2 M) := by
  refine vm_con (y := q_M_doesGrow) hfl (by decide +kernel) rfl (fun h => by cases h) (Nat.le_of_ble_eq_true rfl) rfl (fun _ _ _ => rfl) (fun r E h => by cases h) (fun w => ?_)
  show V_ l w q_M_doesGrow 2 ex_Z 0 [(0, xA a0), (1, xI v1), (2, xI v2)] [] M (k_M_doesGrow a0 v1 v2 M)
  unfold k_M_doesGrow
  refine v_aloadn d_M_doesGrow_0 rfl 0 rfl ?_
  refine v_iloadn d_M_doesGrow_1 rfl 1 rfl ?_
  refine v_iloadn d_M_doesGrow_2 rfl 2 rfl ?_
  refine v_cVi d_M_doesGrow_3 ml_M_305 (q := (RX11, TX11, 32)) rfl (c_M_longOf l hfl a0 v1 v2 M) (fun _ => rfl) (by decide) (by decide) (as := [xI v1, xI v2]) (st1 := []) rfl rfl (Nat.le_of_ble_eq_true rfl) (fun c3 M => ?_)
  refine v_iconst d_M_doesGrow_6 (by decide) ?_
  refine v_join0 (pj := 25) (lj := []) (sj := []) (fun M => ?_) (fun j25 hj25 => ?_)
  · refine v_iconst d_M_doesGrow_25 (by decide) ?_
    exact v_zret d_M_doesGrow_26 rfl
  refine v_icle d_M_doesGrow_7 ?_ ?_
  · refine v_sub (ls' := []) [] rfl ?_
    exact hj25 M
  · refine v_aloadn d_M_doesGrow_10 rfl 0 rfl ?_
    refine v_iloadn d_M_doesGrow_11 rfl 1 rfl ?_
    refine v_iloadn d_M_doesGrow_12 rfl 2 rfl ?_
    refine v_iconst d_M_doesGrow_13 (by decide) ?_
    refine v_cVi d_M_doesGrow_14 ml_M_308 (q := (RX11, TX11, 32)) rfl (c_M_imageOf l hfl a0 v1 v2 0 M) (fun _ => rfl) (by decide) (by decide) (as := [xI v1, xI v2, xI 0]) (st1 := []) rfl rfl (Nat.le_of_ble_eq_true rfl) (fun c14 M => ?_)
    refine v_iloadn d_M_doesGrow_17 rfl 2 rfl ?_
    refine v_icne d_M_doesGrow_18 ?_ ?_
    · refine v_sub (ls' := []) [] rfl ?_
      exact hj25 M
    · refine v_iconst d_M_doesGrow_21 (by decide) ?_
      refine v_goto d_M_doesGrow_22 ?_
      exact v_zret d_M_doesGrow_26 rfl
set_option maxHeartbeats 4000000 in
set_option maxRecDepth 100000 in
theorem V_lp_M_grows_19 {l : Launch} {w : vm_W} (hfl : l.stackTraces = false) (kx54 : Int → mm_T → Option (Int × mm_T)) (a0 : Nat) (v1 : Int) (hkx54 : ∀ (v2_e : Int) (M : mm_T), V_ l w q_M_grows 3 ex_I 54 [(2, xI v2_e)] [] M (kx54 v2_e M)) : ∀ (f : Nat) (v2 : Int) (v3 : Int) (M : mm_T), V_ l w q_M_grows 3 ex_I 19 [(0, xA a0), (1, xI v1), (2, xI v2), (3, xI v3)] [] M (lp_M_grows_19 kx54 a0 v1 f v2 v3 M) := by
  intro f
  induction f with
  | zero => intros; exact V_.none
  | succ f ih =>
    intro v2 v3 M
    unfold lp_M_grows_19
    refine v_iloadn d_M_grows_19 rfl 3 rfl ?_
    refine v_aloadn d_M_grows_20 rfl 0 rfl ?_
    refine v_gR d_M_grows_21 fl_M_77 rfl (fun r21 => ?_)
    refine v_iconst d_M_grows_24 (by decide) ?_
    refine v_iald d_M_grows_25 (fun x25 => ?_)
    refine v_icge d_M_grows_26 ?_ ?_
    · refine v_sub (ls' := [(2, xI v2)]) [2] rfl ?_
      exact hkx54 v2 M
    · refine v_iloadn d_M_grows_29 rfl 2 rfl ?_
      refine v_aloadn d_M_grows_30 rfl 0 rfl ?_
      refine v_iloadn d_M_grows_31 rfl 1 rfl ?_
      refine v_iloadn d_M_grows_32 rfl 3 rfl ?_
      refine v_cVi d_M_grows_33 ml_M_343 (q := (RX11, TX11, 32)) rfl (c_M_doesGrow l hfl a0 v1 v3 M) (fun _ => rfl) (by decide) (by decide) (as := [xI v1, xI v3]) (st1 := [xI v2]) rfl rfl (Nat.le_of_ble_eq_true rfl) (fun c33 M => ?_)
      refine v_join2 (pj := 46) (lj := fun s0_46 s1_46 => [(0, xA a0), (1, xI v1), (3, xI v3)]) (sj := fun s0_46 s1_46 => [xI s1_46, xI s0_46]) (fun s0_46 s1_46 M => ?_) (fun j46 hj46 => ?_)
      · refine v_ior d_M_grows_46 ?_
        refine v_istoren (lz := fun z => [(2, xI z), (0, xA a0), (1, xI v1), (3, xI v3)]) d_M_grows_47 rfl (Nat.le_of_ble_eq_true rfl) (fun _ => rfl) (fun v2_47 => ?_)
        refine v_iinc (lz := fun z => [(3, xI z), (2, xI v2_47), (0, xA a0), (1, xI v1)]) d_M_grows_48 3 rfl (Nat.le_of_ble_eq_true rfl) (fun _ => rfl) (fun v3_48 => ?_)
        refine v_goto d_M_grows_51 ?_
        refine v_sub (ls' := [(0, xA a0), (1, xI v1), (2, xI v2_47), (3, xI v3_48)]) [2, 3, 1, 0] rfl ?_
        exact ih v2_47 v3_48 M
      refine v_ifeq d_M_grows_36 ?_ ?_
      · refine v_iconst d_M_grows_45 (by decide) ?_
        refine v_sub (ls' := [(0, xA a0), (1, xI v1), (3, xI v3)]) [0, 1, 3] rfl ?_
        exact hj46 v2 0 M
      · refine v_iconst d_M_grows_39 (by decide) ?_
        refine v_iloadn d_M_grows_40 rfl 3 rfl ?_
        refine v_ishl d_M_grows_41 ?_
        refine v_goto d_M_grows_42 ?_
        refine v_sub (ls' := [(0, xA a0), (1, xI v1), (3, xI v3)]) [0, 1, 3] rfl ?_
        exact hj46 v2 (shl_ 1 v3) M
set_option maxHeartbeats 4000000 in
set_option maxRecDepth 100000 in
theorem c_M_grows (l : Launch) (hfl : l.stackTraces = false) (a0 : Nat) (v1 : Int) (M : mm_T) : vm_Con l yX11_grows (.code yX11_grows cX11_grows 4 (some .int)) 3 ex_I [xA a0, xI v1] M (k_M_grows a0 v1 M) := by
  refine vm_con (y := q_M_grows) hfl (by decide +kernel) rfl (fun h => by cases h) (Nat.le_of_ble_eq_true rfl) rfl (fun _ _ _ => rfl) (fun r E h => by cases h) (fun w => ?_)
  show V_ l w q_M_grows 3 ex_I 0 [(0, xA a0), (1, xI v1)] [] M (k_M_grows a0 v1 M)
  unfold k_M_grows
  refine v_aloadn d_M_grows_0 rfl 0 rfl ?_
  refine v_iconst d_M_grows_1 (by decide) ?_
  refine v_pI d_M_grows_2 fl_M_3 (Or.inl rfl) rfl rfl (fun M => ?_)
  refine v_aloadn d_M_grows_5 rfl 0 rfl ?_
  refine v_iloadn d_M_grows_6 rfl 1 rfl ?_
  refine v_cVi d_M_grows_7 ml_M_319 (q := (RX11, TX11, 32)) rfl (c_M_noMap l hfl a0 v1 M) (fun _ => rfl) (by decide) (by decide) (as := [xI v1]) (st1 := []) rfl rfl (Nat.le_of_ble_eq_true rfl) (fun c7 M => ?_)
  refine v_ifeq d_M_grows_10 ?_ ?_
  · refine v_iconst d_M_grows_15 (by decide) ?_
    refine v_istoren (lz := fun z => [(2, xI z), (0, xA a0), (1, xI v1)]) d_M_grows_16 rfl (Nat.le_of_ble_eq_true rfl) (fun _ => rfl) (fun v2_16 => ?_)
    refine v_iconst d_M_grows_17 (by decide) ?_
    refine v_istoren (lz := fun z => [(3, xI z), (2, xI v2_16), (0, xA a0), (1, xI v1)]) d_M_grows_18 rfl (Nat.le_of_ble_eq_true rfl) (fun _ => rfl) (fun v3_18 => ?_)
    refine v_sub (ls' := [(0, xA a0), (1, xI v1), (2, xI v2_16), (3, xI v3_18)]) [2, 3, 1, 0] rfl ?_
    refine V_lp_M_grows_19 hfl _ _ _ (fun v2_54 M => ?_) _ _ _ _
    · refine v_iloadn d_M_grows_54 rfl 0 rfl ?_
      exact v_ret d_M_grows_55 rfl
  · refine v_iconst d_M_grows_13 (by decide) ?_
    exact v_ret d_M_grows_14 rfl
set_option maxHeartbeats 4000000 in
set_option maxRecDepth 100000 in
theorem V_lp_M_uniform_17 {l : Launch} {w : vm_W} (hfl : l.stackTraces = false) (kx50 : mm_T → Option (Int × mm_T)) (a0 : Nat) (v1 : Int) (hkx50 : ∀ (M : mm_T), V_ l w q_M_uniform 3 ex_I 50 [(0, xA a0), (1, xI v1)] [] M (kx50 M)) : ∀ (f : Nat) (v2 : Int) (M : mm_T), V_ l w q_M_uniform 3 ex_I 17 [(0, xA a0), (1, xI v1), (2, xI v2)] [] M (lp_M_uniform_17 kx50 a0 v1 f v2 M) := by
  intro f
  induction f with
  | zero => intros; exact V_.none
  | succ f ih =>
    intro v2 M
    unfold lp_M_uniform_17
    refine v_iloadn d_M_uniform_17 rfl 2 rfl ?_
    refine v_aloadn d_M_uniform_18 rfl 0 rfl ?_
    refine v_gR d_M_uniform_19 fl_M_77 rfl (fun r19 => ?_)
    refine v_iconst d_M_uniform_22 (by decide) ?_
    refine v_iald d_M_uniform_23 (fun x23 => ?_)
    refine v_icge d_M_uniform_24 ?_ ?_
    · refine v_sub (ls' := [(0, xA a0), (1, xI v1)]) [0, 1] rfl ?_
      exact hkx50 M
    · refine v_aloadn d_M_uniform_27 rfl 0 rfl ?_
      refine v_iloadn d_M_uniform_28 rfl 1 rfl ?_
      refine v_iloadn d_M_uniform_29 rfl 2 rfl ?_
      refine v_cVi d_M_uniform_30 ml_M_305 (q := (RX11, TX11, 32)) rfl (c_M_longOf l hfl a0 v1 v2 M) (fun _ => rfl) (by decide) (by decide) (as := [xI v1, xI v2]) (st1 := []) rfl rfl (Nat.le_of_ble_eq_true rfl) (fun c30 M => ?_)
      refine v_aloadn d_M_uniform_33 rfl 0 rfl ?_
      refine v_iloadn d_M_uniform_34 rfl 1 rfl ?_
      refine v_iconst d_M_uniform_35 (by decide) ?_
      refine v_cVi d_M_uniform_36 ml_M_305 (q := (RX11, TX11, 32)) rfl (c_M_longOf l hfl a0 v1 0 M) (fun _ => rfl) (by decide) (by decide) (as := [xI v1, xI 0]) (st1 := [xI c30]) rfl rfl (Nat.le_of_ble_eq_true rfl) (fun c36 M => ?_)
      refine v_iceq d_M_uniform_39 ?_ ?_
      · refine v_iinc (lz := fun z => [(2, xI z), (0, xA a0), (1, xI v1)]) d_M_uniform_44 2 rfl (Nat.le_of_ble_eq_true rfl) (fun _ => rfl) (fun v2_44 => ?_)
        refine v_goto d_M_uniform_47 ?_
        refine v_sub (ls' := [(0, xA a0), (1, xI v1), (2, xI v2_44)]) [1, 2, 0] rfl ?_
        exact ih v2_44 M
      · refine v_iconst d_M_uniform_42 (by decide) ?_
        exact v_ret d_M_uniform_43 rfl
set_option maxHeartbeats 4000000 in
set_option maxRecDepth 100000 in
theorem c_M_uniform (l : Launch) (hfl : l.stackTraces = false) (a0 : Nat) (v1 : Int) (M : mm_T) : vm_Con l yX11_uniform (.code yX11_uniform cX11_uniform 3 (some .int)) 3 ex_I [xA a0, xI v1] M (k_M_uniform a0 v1 M) := by
  refine vm_con (y := q_M_uniform) hfl (by decide +kernel) rfl (fun h => by cases h) (Nat.le_of_ble_eq_true rfl) rfl (fun _ _ _ => rfl) (fun r E h => by cases h) (fun w => ?_)
  show V_ l w q_M_uniform 3 ex_I 0 [(0, xA a0), (1, xI v1)] [] M (k_M_uniform a0 v1 M)
  unfold k_M_uniform
  refine v_aloadn d_M_uniform_0 rfl 0 rfl ?_
  refine v_iconst d_M_uniform_1 (by decide) ?_
  refine v_pI d_M_uniform_2 fl_M_3 (Or.inl rfl) rfl rfl (fun M => ?_)
  refine v_aloadn d_M_uniform_5 rfl 0 rfl ?_
  refine v_iloadn d_M_uniform_6 rfl 1 rfl ?_
  refine v_cVi d_M_uniform_7 ml_M_319 (q := (RX11, TX11, 32)) rfl (c_M_noMap l hfl a0 v1 M) (fun _ => rfl) (by decide) (by decide) (as := [xI v1]) (st1 := []) rfl rfl (Nat.le_of_ble_eq_true rfl) (fun c7 M => ?_)
  refine v_ifeq d_M_uniform_10 ?_ ?_
  · refine v_iconst d_M_uniform_15 (by decide) ?_
    refine v_istoren (lz := fun z => [(2, xI z), (0, xA a0), (1, xI v1)]) d_M_uniform_16 rfl (Nat.le_of_ble_eq_true rfl) (fun _ => rfl) (fun v2_16 => ?_)
    refine v_sub (ls' := [(0, xA a0), (1, xI v1), (2, xI v2_16)]) [1, 2, 0] rfl ?_
    refine V_lp_M_uniform_17 hfl _ _ _ (fun M => ?_) _ _ _
    · refine v_aloadn d_M_uniform_50 rfl 0 rfl ?_
      refine v_iloadn d_M_uniform_51 rfl 1 rfl ?_
      refine v_iconst d_M_uniform_52 (by decide) ?_
      refine v_cVi d_M_uniform_53 ml_M_305 (q := (RX11, TX11, 32)) rfl (c_M_longOf l hfl a0 v1 0 M) (fun _ => rfl) (by decide) (by decide) (as := [xI v1, xI 0]) (st1 := []) rfl rfl (Nat.le_of_ble_eq_true rfl) (fun c53 M => ?_)
      exact v_ret d_M_uniform_56 rfl
  · refine v_iconst d_M_uniform_13 (by decide) ?_
    exact v_ret d_M_uniform_14 rfl
set_option maxHeartbeats 4000000 in
set_option maxRecDepth 100000 in
theorem V_lp_M_fill_100 {l : Launch} {w : vm_W} (hfl : l.stackTraces = false) (kx153 : Int → mm_T → Option (Int × mm_T)) (a0 : Nat) (v1 : Int) (v3 : Int) (v5 : Int) (hkx153 : ∀ (v4_e : Int) (M : mm_T), V_ l w q_M_fill 8 ex_I 153 [(0, xA a0), (1, xI v1), (3, xI v3), (4, xI v4_e), (5, xI v5)] [] M (kx153 v4_e M)) : ∀ (f : Nat) (v4 : Int) (v6 : Int) (M : mm_T), V_ l w q_M_fill 8 ex_I 100 [(0, xA a0), (1, xI v1), (3, xI v3), (4, xI v4), (5, xI v5), (6, xI v6)] [] M (lp_M_fill_100 kx153 a0 v1 v3 v5 f v4 v6 M) := by
  intro f
  induction f with
  | zero => intros; exact V_.none
  | succ f ih =>
    intro v4 v6 M
    unfold lp_M_fill_100
    refine v_iload d_M_fill_100 5 rfl ?_
    refine v_aloadn d_M_fill_102 rfl 0 rfl ?_
    refine v_iloadn d_M_fill_103 rfl 1 rfl ?_
    refine v_aloadn d_M_fill_104 rfl 0 rfl ?_
    refine v_gR d_M_fill_105 fl_M_86 rfl (fun r105 => ?_)
    refine v_iload d_M_fill_108 4 rfl ?_
    refine v_iald d_M_fill_110 (fun x110 => ?_)
    refine v_cVi d_M_fill_111 ml_M_305 (q := (RX11, TX11, 32)) rfl (c_M_longOf l hfl a0 v1 x110 M) (fun _ => rfl) (by decide) (by decide) (as := [xI v1, xI x110]) (st1 := [xI v6]) rfl rfl (Nat.le_of_ble_eq_true rfl) (fun c111 M => ?_)
    refine v_icge d_M_fill_114 ?_ ?_
    · refine v_sub (ls' := [(0, xA a0), (1, xI v1), (3, xI v3), (4, xI v4), (5, xI v5)]) [0, 1, 2, 3, 4] rfl ?_
      exact hkx153 v4 M
    · refine v_iload d_M_fill_117 3 rfl ?_
      refine v_iloadn d_M_fill_119 rfl 2 rfl ?_
      refine v_icge d_M_fill_120 ?_ ?_
      · refine v_sub (ls' := [(0, xA a0), (1, xI v1), (3, xI v3), (4, xI v4), (5, xI v5)]) [0, 1, 2, 3, 4] rfl ?_
        exact hkx153 v4 M
      · refine v_aloadn d_M_fill_123 rfl 0 rfl ?_
        refine v_gR d_M_fill_124 fl_M_86 rfl (fun r124 => ?_)
        refine v_iload d_M_fill_127 3 rfl ?_
        refine v_iinc (lz := fun z => [(4, xI z), (0, xA a0), (1, xI v1), (3, xI v3), (5, xI v5), (6, xI v6)]) d_M_fill_129 3 rfl (Nat.le_of_ble_eq_true rfl) (fun _ => rfl) (fun v4_129 => ?_)
        refine v_aloadn d_M_fill_132 rfl 1 rfl ?_
        refine v_iloadn d_M_fill_133 rfl 2 rfl ?_
        refine v_aloadn d_M_fill_134 rfl 1 rfl ?_
        refine v_gR d_M_fill_135 fl_M_86 rfl (fun r135 => ?_)
        refine v_iload d_M_fill_138 4 rfl ?_
        refine v_iald d_M_fill_140 (fun x140 => ?_)
        refine v_iload d_M_fill_141 5 rfl ?_
        refine v_cVi d_M_fill_143 ml_M_308 (q := (RX11, TX11, 32)) rfl (c_M_imageOf l hfl a0 v1 x140 v6 M) (fun _ => rfl) (by decide) (by decide) (as := [xI v1, xI x140, xI v6]) (st1 := [xI v4, xA r124]) rfl rfl (Nat.le_of_ble_eq_true rfl) (fun c143 M => ?_)
        refine v_iast d_M_fill_146 (fun M => ?_)
        refine v_iinc (lz := fun z => [(6, xI z), (4, xI v4_129), (0, xA a0), (1, xI v1), (3, xI v3), (5, xI v5)]) d_M_fill_147 5 rfl (Nat.le_of_ble_eq_true rfl) (fun _ => rfl) (fun v6_147 => ?_)
        refine v_goto d_M_fill_150 ?_
        refine v_sub (ls' := [(0, xA a0), (1, xI v1), (3, xI v3), (4, xI v4_129), (5, xI v5), (6, xI v6_147)]) [2, 3, 4, 1, 5, 0] rfl ?_
        exact ih v4_129 v6_147 M
set_option maxHeartbeats 4000000 in
set_option maxRecDepth 100000 in
theorem V_lp_M_fill_82 {l : Launch} {w : vm_W} (hfl : l.stackTraces = false) (kx159 : mm_T → Option (Int × mm_T)) (a0 : Nat) (v1 : Int) (v3 : Int) (hkx159 : ∀ (M : mm_T), V_ l w q_M_fill 8 ex_I 159 [(0, xA a0), (3, xI v3)] [] M (kx159 M)) : ∀ (f : Nat) (v4 : Int) (v5 : Int) (M : mm_T), V_ l w q_M_fill 8 ex_I 82 [(0, xA a0), (1, xI v1), (3, xI v3), (4, xI v4), (5, xI v5)] [] M (lp_M_fill_82 kx159 a0 v1 v3 f v4 v5 M) := by
  intro f
  induction f with
  | zero => intros; exact V_.none
  | succ f ih =>
    intro v4 v5 M
    unfold lp_M_fill_82
    refine v_iload d_M_fill_82 3 rfl ?_
    refine v_iloadn d_M_fill_84 rfl 2 rfl ?_
    refine v_icge d_M_fill_85 ?_ ?_
    · refine v_sub (ls' := [(0, xA a0), (3, xI v3)]) [0, 2] rfl ?_
      exact hkx159 M
    · refine v_iload d_M_fill_88 4 rfl ?_
      refine v_join1 (pj := 98) (lj := fun s0_98 => [(0, xA a0), (1, xI v1), (3, xI v3), (4, xI v4), (5, xI v5)]) (sj := fun s0_98 => [xI s0_98]) (fun s0_98 M => ?_) (fun j98 hj98 => ?_)
      · refine v_istore (lz := fun z => [(6, xI z), (0, xA a0), (1, xI v1), (3, xI v3), (4, xI v4), (5, xI v5)]) d_M_fill_98 (Nat.le_of_ble_eq_true rfl) (fun _ => rfl) (fun v6_98 => ?_)
        refine v_sub (ls' := [(0, xA a0), (1, xI v1), (3, xI v3), (4, xI v4), (5, xI v5), (6, xI v6_98)]) [1, 2, 3, 4, 5, 0] rfl ?_
        refine V_lp_M_fill_100 hfl _ _ _ _ _ (fun v4_153 M => ?_) _ _ _ _
        · refine v_iinc (lz := fun z => [(5, xI z), (0, xA a0), (1, xI v1), (3, xI v3), (4, xI v4_153)]) d_M_fill_153 4 rfl (Nat.le_of_ble_eq_true rfl) (fun _ => rfl) (fun v5_153 => ?_)
          refine v_goto d_M_fill_156 ?_
          refine v_sub (ls' := [(0, xA a0), (1, xI v1), (3, xI v3), (4, xI v4_153), (5, xI v5_153)]) [1, 2, 3, 4, 0] rfl ?_
          exact ih v4_153 v5_153 M
      refine v_ifne d_M_fill_90 ?_ ?_
      · refine v_iconst d_M_fill_97 (by decide) ?_
        exact hj98 0 M
      · refine v_iconst d_M_fill_93 (by decide) ?_
        refine v_goto d_M_fill_94 ?_
        exact hj98 1 M
set_option maxHeartbeats 4000000 in
set_option maxRecDepth 100000 in
theorem c_M_fill (l : Launch) (hfl : l.stackTraces = false) (a0 : Nat) (v1 : Int) (v2 : Int) (v3 : Int) (M : mm_T) : vm_Con l yX11_fill (.code yX11_fill cX11_fill 7 (some .int)) 8 ex_I [xA a0, xI v1, xI v2, xI v3] M (k_M_fill a0 v1 v2 v3 M) := by
  refine vm_con (y := q_M_fill) hfl (by decide +kernel) rfl (fun h => by cases h) (Nat.le_of_ble_eq_true rfl) rfl (fun _ _ _ => rfl) (fun r E h => by cases h) (fun w => ?_)
  show V_ l w q_M_fill 8 ex_I 0 [(0, xA a0), (1, xI v1), (2, xI v2), (3, xI v3)] [] M (k_M_fill a0 v1 v2 v3 M)
  unfold k_M_fill
  refine v_aloadn d_M_fill_0 rfl 0 rfl ?_
  refine v_iconst d_M_fill_1 (by decide) ?_
  refine v_pI d_M_fill_2 fl_M_3 (Or.inl rfl) rfl rfl (fun M => ?_)
  refine v_aloadn d_M_fill_5 rfl 0 rfl ?_
  refine v_iloadn d_M_fill_6 rfl 1 rfl ?_
  refine v_cVi d_M_fill_7 ml_M_319 (q := (RX11, TX11, 32)) rfl (c_M_noMap l hfl a0 v1 M) (fun _ => rfl) (by decide) (by decide) (as := [xI v1]) (st1 := []) rfl rfl (Nat.le_of_ble_eq_true rfl) (fun c7 M => ?_)
  refine v_ifne d_M_fill_10 ?_ ?_
  · refine v_iconst d_M_fill_67 (by decide) ?_
    exact v_ret d_M_fill_68 rfl
  · refine v_aloadn d_M_fill_13 rfl 0 rfl ?_
    refine v_iloadn d_M_fill_14 rfl 2 rfl ?_
    refine v_iconst d_M_fill_15 (by decide) ?_
    refine v_cVi d_M_fill_16 ml_M_196 (q := (RX11, TX11, 32)) rfl (c_M_noLetter l hfl a0 v2 2 M) (fun _ => rfl) (by decide) (by decide) (as := [xI v2, xI 2]) (st1 := []) rfl rfl (Nat.le_of_ble_eq_true rfl) (fun c16 M => ?_)
    refine v_ifne d_M_fill_19 ?_ ?_
    · refine v_iconst d_M_fill_67 (by decide) ?_
      exact v_ret d_M_fill_68 rfl
    · refine v_aloadn d_M_fill_22 rfl 0 rfl ?_
      refine v_iloadn d_M_fill_23 rfl 3 rfl ?_
      refine v_iconst d_M_fill_24 (by decide) ?_
      refine v_bipush d_M_fill_25 (by decide) ?_
      refine v_cSi d_M_fill_27 ml_M_65 (c_M_in l hfl v3 1 64 M) (fun _ => rfl) (by decide) (by decide) (as := [xI v3, xI 1, xI 64]) (st1 := [xA a0]) rfl rfl (Nat.le_of_ble_eq_true rfl) (fun c27 M => ?_)
      refine v_join2 (pj := 38) (lj := fun sa0_38 s1_38 => [(0, xA a0), (1, xI v1), (2, xI v2), (3, xI v3)]) (sj := fun sa0_38 s1_38 => [xI s1_38, xA sa0_38]) (fun sa0_38 s1_38 M => ?_) (fun j38 hj38 => ?_)
      · refine v_iconst d_M_fill_38 (by decide) ?_
        refine v_cVi d_M_fill_39 ml_M_180 (q := (RX11, TX11, 32)) rfl (c_M_throwsIf l hfl sa0_38 s1_38 2 M) (fun _ => rfl) (by decide) (by decide) (as := [xI s1_38, xI 2]) (st1 := []) rfl rfl (Nat.le_of_ble_eq_true rfl) (fun c39 M => ?_)
        refine v_ifne d_M_fill_42 ?_ ?_
        · refine v_iconst d_M_fill_67 (by decide) ?_
          exact v_ret d_M_fill_68 rfl
        · refine v_aloadn d_M_fill_45 rfl 0 rfl ?_
          refine v_aloadn d_M_fill_46 rfl 0 rfl ?_
          refine v_iloadn d_M_fill_47 rfl 1 rfl ?_
          refine v_iloadn d_M_fill_48 rfl 2 rfl ?_
          refine v_cVi d_M_fill_49 ml_M_343 (q := (RX11, TX11, 32)) rfl (c_M_doesGrow l hfl a0 v1 v2 M) (fun _ => rfl) (by decide) (by decide) (as := [xI v1, xI v2]) (st1 := [xA a0]) rfl rfl (Nat.le_of_ble_eq_true rfl) (fun c49 M => ?_)
          refine v_join2 (pj := 60) (lj := fun sa0_60 s1_60 => [(0, xA a0), (1, xI v1), (2, xI v2), (3, xI v3)]) (sj := fun sa0_60 s1_60 => [xI s1_60, xA sa0_60]) (fun sa0_60 s1_60 M => ?_) (fun j60 hj60 => ?_)
          · refine v_iconst d_M_fill_60 (by decide) ?_
            refine v_cVi d_M_fill_61 ml_M_180 (q := (RX11, TX11, 32)) rfl (c_M_throwsIf l hfl sa0_60 s1_60 3 M) (fun _ => rfl) (by decide) (by decide) (as := [xI s1_60, xI 3]) (st1 := []) rfl rfl (Nat.le_of_ble_eq_true rfl) (fun c61 M => ?_)
            refine v_ifeq d_M_fill_64 ?_ ?_
            · refine v_aloadn d_M_fill_69 rfl 0 rfl ?_
              refine v_gR d_M_fill_70 fl_M_86 rfl (fun r70 => ?_)
              refine v_iconst d_M_fill_73 (by decide) ?_
              refine v_iloadn d_M_fill_74 rfl 2 rfl ?_
              refine v_iast d_M_fill_75 (fun M => ?_)
              refine v_iconst d_M_fill_76 (by decide) ?_
              refine v_istore (lz := fun z => [(4, xI z), (0, xA a0), (1, xI v1), (2, xI v2), (3, xI v3)]) d_M_fill_77 (Nat.le_of_ble_eq_true rfl) (fun _ => rfl) (fun v4_77 => ?_)
              refine v_iconst d_M_fill_79 (by decide) ?_
              refine v_istore (lz := fun z => [(5, xI z), (4, xI v4_77), (0, xA a0), (1, xI v1), (2, xI v2), (3, xI v3)]) d_M_fill_80 (Nat.le_of_ble_eq_true rfl) (fun _ => rfl) (fun v5_80 => ?_)
              refine v_sub (ls' := [(0, xA a0), (1, xI v1), (3, xI v3), (4, xI v4_77), (5, xI v5_80)]) [2, 3, 5, 1, 0] rfl ?_
              refine V_lp_M_fill_82 hfl _ _ _ _ (fun M => ?_) _ _ _ _
              · refine v_aloadn d_M_fill_159 rfl 0 rfl ?_
                refine v_iloadn d_M_fill_160 rfl 1 rfl ?_
                refine v_cVv d_M_fill_161 ml_M_193 (q := (RX11, TX11, 32)) rfl (c_M_becomes l hfl a0 v3 M) (fun _ => rfl) (by decide) (by decide) (as := [xI v3]) (st1 := []) rfl rfl (Nat.le_of_ble_eq_true rfl) (fun _ M => ?_)
                refine v_aloadn d_M_fill_164 rfl 0 rfl ?_
                refine v_cVi d_M_fill_165 ml_M_239 (q := (RX11, TX11, 32)) rfl (c_M_endsAt l hfl a0 M) (fun _ => rfl) (by decide) (by decide) (as := []) (st1 := []) rfl rfl (Nat.le_of_ble_eq_true rfl) (fun c165 M => ?_)
                exact v_ret d_M_fill_168 rfl
            · refine v_iconst d_M_fill_67 (by decide) ?_
              exact v_ret d_M_fill_68 rfl
          refine v_ifne d_M_fill_52 ?_ ?_
          · refine v_iconst d_M_fill_59 (by decide) ?_
            exact hj60 a0 0 M
          · refine v_iconst d_M_fill_55 (by decide) ?_
            refine v_goto d_M_fill_56 ?_
            exact hj60 a0 1 M
      refine v_ifne d_M_fill_30 ?_ ?_
      · refine v_iconst d_M_fill_37 (by decide) ?_
        exact hj38 a0 0 M
      · refine v_iconst d_M_fill_33 (by decide) ?_
        refine v_goto d_M_fill_34 ?_
        exact hj38 a0 1 M
set_option maxHeartbeats 4000000 in
set_option maxRecDepth 100000 in
theorem V_lp_M_sources_75 {l : Launch} {w : vm_W} (hfl : l.stackTraces = false) (kx123 : Int → mm_T → Option (Int64 × mm_T)) (a0 : Nat) (v1 : Int) (v2 : Int) (v3 : Int) (v4 : Int) (hkx123 : ∀ (v5_e : Int) (M : mm_T), V_ l w q_M_sources 3 ex_J 123 [(0, xA a0), (1, xI v1), (2, xI v2), (3, xI v3), (4, xI v4), (5, xI v5_e)] [] M (kx123 v5_e M)) : ∀ (f : Nat) (v5 : Int) (v6 : Int) (M : mm_T), V_ l w q_M_sources 3 ex_J 75 [(0, xA a0), (1, xI v1), (2, xI v2), (3, xI v3), (4, xI v4), (5, xI v5), (6, xI v6)] [] M (lp_M_sources_75 kx123 a0 v1 v2 v3 v4 f v5 v6 M) := by
  intro f
  induction f with
  | zero => intros; exact V_.none
  | succ f ih =>
    intro v5 v6 M
    unfold lp_M_sources_75
    refine v_iload d_M_sources_75 6 rfl ?_
    refine v_iload d_M_sources_77 4 rfl ?_
    refine v_icge d_M_sources_79 ?_ ?_
    · refine v_sub (ls' := [(0, xA a0), (1, xI v1), (2, xI v2), (3, xI v3), (4, xI v4), (5, xI v5)]) [0, 1, 2, 3, 4, 5] rfl ?_
      exact hkx123 v5 M
    · refine v_iload d_M_sources_82 5 rfl ?_
      refine v_ifeq d_M_sources_84 ?_ ?_
      · refine v_sub (ls' := [(0, xA a0), (1, xI v1), (2, xI v2), (3, xI v3), (4, xI v4), (5, xI v5)]) [0, 1, 2, 3, 4, 5] rfl ?_
        exact hkx123 v5 M
      · refine v_aloadn d_M_sources_87 rfl 0 rfl ?_
        refine v_gR d_M_sources_88 fl_M_83 rfl (fun r88 => ?_)
        refine v_iloadn d_M_sources_91 rfl 2 rfl ?_
        refine v_iload d_M_sources_92 4 rfl ?_
        refine v_isub d_M_sources_94 (fun x94 => ?_)
        refine v_iload d_M_sources_95 6 rfl ?_
        refine v_iadd d_M_sources_97 (fun x97 => ?_)
        refine v_iald d_M_sources_98 (fun x98 => ?_)
        refine v_aloadn d_M_sources_99 rfl 0 rfl ?_
        refine v_iloadn d_M_sources_100 rfl 1 rfl ?_
        refine v_iloadn d_M_sources_101 rfl 3 rfl ?_
        refine v_iload d_M_sources_102 6 rfl ?_
        refine v_cVi d_M_sources_104 ml_M_308 (q := (RX11, TX11, 32)) rfl (c_M_imageOf l hfl a0 v1 v3 v6 M) (fun _ => rfl) (by decide) (by decide) (as := [xI v1, xI v3, xI v6]) (st1 := [xI x98]) rfl rfl (Nat.le_of_ble_eq_true rfl) (fun c104 M => ?_)
        refine v_join1 (pj := 115) (lj := fun s0_115 => [(0, xA a0), (1, xI v1), (2, xI v2), (3, xI v3), (4, xI v4), (6, xI v6)]) (sj := fun s0_115 => [xI s0_115]) (fun s0_115 M => ?_) (fun j115 hj115 => ?_)
        · refine v_istore (lz := fun z => [(5, xI z), (0, xA a0), (1, xI v1), (2, xI v2), (3, xI v3), (4, xI v4), (6, xI v6)]) d_M_sources_115 (Nat.le_of_ble_eq_true rfl) (fun _ => rfl) (fun v5_115 => ?_)
          refine v_iinc (lz := fun z => [(6, xI z), (5, xI v5_115), (0, xA a0), (1, xI v1), (2, xI v2), (3, xI v3), (4, xI v4)]) d_M_sources_117 6 rfl (Nat.le_of_ble_eq_true rfl) (fun _ => rfl) (fun v6_117 => ?_)
          refine v_goto d_M_sources_120 ?_
          refine v_sub (ls' := [(0, xA a0), (1, xI v1), (2, xI v2), (3, xI v3), (4, xI v4), (5, xI v5_115), (6, xI v6_117)]) [2, 3, 4, 5, 6, 1, 0] rfl ?_
          exact ih v5_115 v6_117 M
        refine v_icne d_M_sources_107 ?_ ?_
        · refine v_iconst d_M_sources_114 (by decide) ?_
          refine v_sub (ls' := [(0, xA a0), (1, xI v1), (2, xI v2), (3, xI v3), (4, xI v4), (6, xI v6)]) [0, 1, 2, 3, 4, 6] rfl ?_
          exact hj115 0 M
        · refine v_iconst d_M_sources_110 (by decide) ?_
          refine v_goto d_M_sources_111 ?_
          refine v_sub (ls' := [(0, xA a0), (1, xI v1), (2, xI v2), (3, xI v3), (4, xI v4), (6, xI v6)]) [0, 1, 2, 3, 4, 6] rfl ?_
          exact hj115 1 M
set_option maxHeartbeats 4000000 in
set_option maxRecDepth 100000 in
theorem V_lp_M_sources_41 {l : Launch} {w : vm_W} (hfl : l.stackTraces = false) (kx152 : mm_T → Option (Int64 × mm_T)) (a0 : Nat) (v1 : Int) (v2 : Int) (hkx152 : ∀ (M : mm_T), V_ l w q_M_sources 3 ex_J 152 [(0, xA a0), (1, xI v1), (2, xI v2)] [] M (kx152 M)) : ∀ (f : Nat) (v3 : Int) (M : mm_T), V_ l w q_M_sources 3 ex_J 41 [(0, xA a0), (1, xI v1), (2, xI v2), (3, xI v3)] [] M (lp_M_sources_41 kx152 a0 v1 v2 f v3 M) := by
  intro f
  induction f with
  | zero => intros; exact V_.none
  | succ f ih =>
    intro v3 M
    unfold lp_M_sources_41
    refine v_iloadn d_M_sources_41 rfl 3 rfl ?_
    refine v_aloadn d_M_sources_42 rfl 0 rfl ?_
    refine v_gR d_M_sources_43 fl_M_77 rfl (fun r43 => ?_)
    refine v_iconst d_M_sources_46 (by decide) ?_
    refine v_iald d_M_sources_47 (fun x47 => ?_)
    refine v_icge d_M_sources_48 ?_ ?_
    · refine v_sub (ls' := [(0, xA a0), (1, xI v1), (2, xI v2)]) [0, 1, 2] rfl ?_
      exact hkx152 M
    · refine v_aloadn d_M_sources_51 rfl 0 rfl ?_
      refine v_iloadn d_M_sources_52 rfl 1 rfl ?_
      refine v_iloadn d_M_sources_53 rfl 3 rfl ?_
      refine v_cVi d_M_sources_54 ml_M_305 (q := (RX11, TX11, 32)) rfl (c_M_longOf l hfl a0 v1 v3 M) (fun _ => rfl) (by decide) (by decide) (as := [xI v1, xI v3]) (st1 := []) rfl rfl (Nat.le_of_ble_eq_true rfl) (fun c54 M => ?_)
      refine v_istore (lz := fun z => [(4, xI z), (0, xA a0), (1, xI v1), (2, xI v2), (3, xI v3)]) d_M_sources_57 (Nat.le_of_ble_eq_true rfl) (fun _ => rfl) (fun v4_57 => ?_)
      refine v_iload d_M_sources_59 0 rfl ?_
      refine v_iloadn d_M_sources_61 rfl 3 rfl ?_
      refine v_join1 (pj := 70) (lj := fun s0_70 => [(0, xA a0), (1, xI v1), (2, xI v2), (3, xI v3), (4, xI v4_57)]) (sj := fun s0_70 => [xI s0_70]) (fun s0_70 M => ?_) (fun j70 hj70 => ?_)
      · refine v_istore (lz := fun z => [(5, xI z), (0, xA a0), (1, xI v1), (2, xI v2), (3, xI v3), (4, xI v4_57)]) d_M_sources_70 (Nat.le_of_ble_eq_true rfl) (fun _ => rfl) (fun v5_70 => ?_)
        refine v_iconst d_M_sources_72 (by decide) ?_
        refine v_istore (lz := fun z => [(6, xI z), (5, xI v5_70), (0, xA a0), (1, xI v1), (2, xI v2), (3, xI v3), (4, xI v4_57)]) d_M_sources_73 (Nat.le_of_ble_eq_true rfl) (fun _ => rfl) (fun v6_73 => ?_)
        refine v_sub (ls' := [(0, xA a0), (1, xI v1), (2, xI v2), (3, xI v3), (4, xI v4_57), (5, xI v5_70), (6, xI v6_73)]) [2, 3, 4, 5, 6, 1, 0] rfl ?_
        refine V_lp_M_sources_75 hfl _ _ _ _ _ _ (fun v5_123 M => ?_) _ _ _ _
        · refine v_iload d_M_sources_123 5 rfl ?_
          refine v_join0 (pj := 146) (lj := [(0, xA a0), (1, xI v1), (2, xI v2), (3, xI v3)]) (sj := []) (fun M => ?_) (fun j146 hj146 => ?_)
          · refine v_iinc (lz := fun z => [(3, xI z), (0, xA a0), (1, xI v1), (2, xI v2)]) d_M_sources_146 3 rfl (Nat.le_of_ble_eq_true rfl) (fun _ => rfl) (fun v3_146 => ?_)
            refine v_goto d_M_sources_149 ?_
            refine v_sub (ls' := [(0, xA a0), (1, xI v1), (2, xI v2), (3, xI v3_146)]) [1, 2, 3, 0] rfl ?_
            exact ih v3_146 M
          refine v_ifeq d_M_sources_125 ?_ ?_
          · refine v_sub (ls' := [(0, xA a0), (1, xI v1), (2, xI v2), (3, xI v3)]) [0, 1, 2, 3] rfl ?_
            exact hj146 M
          · refine v_aloadn d_M_sources_128 rfl 0 rfl ?_
            refine v_gR d_M_sources_129 fl_M_108 rfl (fun r129 => ?_)
            refine v_iloadn d_M_sources_132 rfl 2 rfl ?_
            refine v_dup2 d_M_sources_133 rfl rfl ?_
            refine v_lald d_M_sources_134 (fun x134 => ?_)
            refine v_aloadn d_M_sources_135 rfl 0 rfl ?_
            refine v_gR d_M_sources_136 fl_M_108 rfl (fun r136 => ?_)
            refine v_iloadn d_M_sources_139 rfl 2 rfl ?_
            refine v_iload d_M_sources_140 4 rfl ?_
            refine v_isub d_M_sources_142 (fun x142 => ?_)
            refine v_lald d_M_sources_143 (fun x143 => ?_)
            refine v_ladd d_M_sources_144 ?_
            refine v_last d_M_sources_145 (fun M => ?_)
            refine v_sub (ls' := [(0, xA a0), (1, xI v1), (2, xI v2), (3, xI v3)]) [0, 1, 2, 3] rfl ?_
            exact hj146 M
      refine v_icgt d_M_sources_62 ?_ ?_
      · refine v_iconst d_M_sources_69 (by decide) ?_
        refine v_sub (ls' := [(0, xA a0), (1, xI v1), (2, xI v2), (3, xI v3), (4, xI v4_57)]) [1, 2, 3, 4, 0] rfl ?_
        exact hj70 0 M
      · refine v_iconst d_M_sources_65 (by decide) ?_
        refine v_goto d_M_sources_66 ?_
        refine v_sub (ls' := [(0, xA a0), (1, xI v1), (2, xI v2), (3, xI v3), (4, xI v4_57)]) [1, 2, 3, 4, 0] rfl ?_
        exact hj70 1 M
set_option maxHeartbeats 4000000 in
set_option maxRecDepth 100000 in
theorem V_lp_M_sources_24 {l : Launch} {w : vm_W} (hfl : l.stackTraces = false) (kx158 : mm_T → Option (Int64 × mm_T)) (a0 : Nat) (v1 : Int) (hkx158 : ∀ (M : mm_T), V_ l w q_M_sources 3 ex_J 158 [(0, xA a0)] [] M (kx158 M)) : ∀ (f : Nat) (v2 : Int) (M : mm_T), V_ l w q_M_sources 3 ex_J 24 [(0, xA a0), (1, xI v1), (2, xI v2)] [] M (lp_M_sources_24 kx158 a0 v1 f v2 M) := by
  intro f
  induction f with
  | zero => intros; exact V_.none
  | succ f ih =>
    intro v2 M
    unfold lp_M_sources_24
    refine v_iloadn d_M_sources_24 rfl 2 rfl ?_
    refine v_aloadn d_M_sources_25 rfl 0 rfl ?_
    refine v_gI d_M_sources_26 fl_M_184 rfl (fun x26 => ?_)
    refine v_icgt d_M_sources_29 ?_ ?_
    · refine v_sub (ls' := [(0, xA a0)]) [0] rfl ?_
      exact hkx158 M
    · refine v_aloadn d_M_sources_32 rfl 0 rfl ?_
      refine v_gR d_M_sources_33 fl_M_108 rfl (fun r33 => ?_)
      refine v_iloadn d_M_sources_36 rfl 2 rfl ?_
      refine v_lconst d_M_sources_37 (v := 0) rfl ?_
      refine v_last d_M_sources_38 (fun M => ?_)
      refine v_iconst d_M_sources_39 (by decide) ?_
      refine v_istoren (lz := fun z => [(3, xI z), (0, xA a0), (1, xI v1), (2, xI v2)]) d_M_sources_40 rfl (Nat.le_of_ble_eq_true rfl) (fun _ => rfl) (fun v3_40 => ?_)
      refine v_sub (ls' := [(0, xA a0), (1, xI v1), (2, xI v2), (3, xI v3_40)]) [1, 2, 3, 0] rfl ?_
      refine V_lp_M_sources_41 hfl _ _ _ _ (fun M => ?_) _ _ _
      · refine v_iinc (lz := fun z => [(2, xI z), (0, xA a0), (1, xI v1)]) d_M_sources_152 2 rfl (Nat.le_of_ble_eq_true rfl) (fun _ => rfl) (fun v2_152 => ?_)
        refine v_goto d_M_sources_155 ?_
        refine v_sub (ls' := [(0, xA a0), (1, xI v1), (2, xI v2_152)]) [1, 2, 0] rfl ?_
        exact ih v2_152 M
set_option maxHeartbeats 4000000 in
set_option maxRecDepth 100000 in
theorem c_M_sources (l : Launch) (hfl : l.stackTraces = false) (a0 : Nat) (v1 : Int) (M : mm_T) : vm_Con l yX11_sources (.code yX11_sources cX11_sources 7 (some .long)) 3 ex_J [xA a0, xI v1] M (k_M_sources a0 v1 M) := by
  refine vm_con (y := q_M_sources) hfl (by decide +kernel) rfl (fun h => by cases h) (Nat.le_of_ble_eq_true rfl) rfl (fun _ _ _ => rfl) (fun r E h => by cases h) (fun w => ?_)
  show V_ l w q_M_sources 3 ex_J 0 [(0, xA a0), (1, xI v1)] [] M (k_M_sources a0 v1 M)
  unfold k_M_sources
  refine v_aloadn d_M_sources_0 rfl 0 rfl ?_
  refine v_iconst d_M_sources_1 (by decide) ?_
  refine v_pI d_M_sources_2 fl_M_3 (Or.inl rfl) rfl rfl (fun M => ?_)
  refine v_aloadn d_M_sources_5 rfl 0 rfl ?_
  refine v_iloadn d_M_sources_6 rfl 1 rfl ?_
  refine v_cVi d_M_sources_7 ml_M_319 (q := (RX11, TX11, 32)) rfl (c_M_noMap l hfl a0 v1 M) (fun _ => rfl) (by decide) (by decide) (as := [xI v1]) (st1 := []) rfl rfl (Nat.le_of_ble_eq_true rfl) (fun c7 M => ?_)
  refine v_ifeq d_M_sources_10 ?_ ?_
  · refine v_aloadn d_M_sources_15 rfl 0 rfl ?_
    refine v_gR d_M_sources_16 fl_M_108 rfl (fun r16 => ?_)
    refine v_iconst d_M_sources_19 (by decide) ?_
    refine v_lconst d_M_sources_20 (v := 1) rfl ?_
    refine v_last d_M_sources_21 (fun M => ?_)
    refine v_iconst d_M_sources_22 (by decide) ?_
    refine v_istoren (lz := fun z => [(2, xI z), (0, xA a0), (1, xI v1)]) d_M_sources_23 rfl (Nat.le_of_ble_eq_true rfl) (fun _ => rfl) (fun v2_23 => ?_)
    refine v_sub (ls' := [(0, xA a0), (1, xI v1), (2, xI v2_23)]) [1, 2, 0] rfl ?_
    refine V_lp_M_sources_24 hfl _ _ _ (fun M => ?_) _ _ _
    · refine v_aloadn d_M_sources_158 rfl 0 rfl ?_
      refine v_gR d_M_sources_159 fl_M_108 rfl (fun r159 => ?_)
      refine v_aloadn d_M_sources_162 rfl 0 rfl ?_
      refine v_gI d_M_sources_163 fl_M_184 rfl (fun x163 => ?_)
      refine v_lald d_M_sources_166 (fun x166 => ?_)
      exact v_ret d_M_sources_167 rfl
  · refine v_lconst d_M_sources_13 (v := 0) rfl ?_
    exact v_ret d_M_sources_14 rfl
set_option maxHeartbeats 4000000 in
set_option maxRecDepth 100000 in
theorem V_lp_M_against_27 {l : Launch} {w : vm_W} (hfl : l.stackTraces = false) (kx64 : mm_T → Option (Int × mm_T)) (a0 : Nat) (v1 : Int) (v2 : Int) (v3 : Int) (v4 : Int) (v6 : Int) {v5 : Int} (hkx64 : ∀ (M : mm_T), V_ l w q_M_against 2 ex_Z 64 [(0, xA a0), (1, xI v1), (2, xI v2), (3, xI v3), (4, xI v4), (5, xI v5), (6, xI v6)] [] M (kx64 M)) : ∀ (f : Nat) (v7 : Int) (M : mm_T), V_ l w q_M_against 2 ex_Z 27 [(0, xA a0), (1, xI v1), (2, xI v2), (3, xI v3), (4, xI v4), (5, xI v5), (6, xI v6), (7, xI v7)] [] M (lp_M_against_27 kx64 a0 v1 v2 v3 v4 v6 f v7 M) := by
  intro f
  induction f with
  | zero => intros; exact V_.none
  | succ f ih =>
    intro v7 M
    unfold lp_M_against_27
    refine v_iload d_M_against_27 7 rfl ?_
    refine v_iload d_M_against_29 6 rfl ?_
    refine v_icge d_M_against_31 ?_ ?_
    · refine v_sub (ls' := [(0, xA a0), (1, xI v1), (2, xI v2), (3, xI v3), (4, xI v4), (5, xI v5), (6, xI v6)]) [0, 1, 2, 3, 4, 5, 6] rfl ?_
      exact hkx64 M
    · refine v_aloadn d_M_against_34 rfl 0 rfl ?_
      refine v_iloadn d_M_against_35 rfl 1 rfl ?_
      refine v_iloadn d_M_against_36 rfl 2 rfl ?_
      refine v_iloadn d_M_against_37 rfl 3 rfl ?_
      refine v_iload d_M_against_38 7 rfl ?_
      refine v_iadd d_M_against_40 (fun x40 => ?_)
      refine v_cVi d_M_against_41 ml_M_308 (q := (RX11, TX11, 32)) rfl (c_M_imageOf l hfl a0 v1 v2 x40 M) (fun _ => rfl) (by decide) (by decide) (as := [xI v1, xI v2, xI x40]) (st1 := []) rfl rfl (Nat.le_of_ble_eq_true rfl) (fun c41 M => ?_)
      refine v_aloadn d_M_against_44 rfl 0 rfl ?_
      refine v_iloadn d_M_against_45 rfl 1 rfl ?_
      refine v_iload d_M_against_46 4 rfl ?_
      refine v_iload d_M_against_48 7 rfl ?_
      refine v_cVi d_M_against_50 ml_M_308 (q := (RX11, TX11, 32)) rfl (c_M_imageOf l hfl a0 v1 v4 v7 M) (fun _ => rfl) (by decide) (by decide) (as := [xI v1, xI v4, xI v7]) (st1 := [xI c41]) rfl rfl (Nat.le_of_ble_eq_true rfl) (fun c50 M => ?_)
      refine v_iceq d_M_against_53 ?_ ?_
      · refine v_iinc (lz := fun z => [(7, xI z), (0, xA a0), (1, xI v1), (2, xI v2), (3, xI v3), (4, xI v4), (5, xI v5), (6, xI v6)]) d_M_against_58 7 rfl (Nat.le_of_ble_eq_true rfl) (fun _ => rfl) (fun v7_58 => ?_)
        refine v_goto d_M_against_61 ?_
        refine v_sub (ls' := [(0, xA a0), (1, xI v1), (2, xI v2), (3, xI v3), (4, xI v4), (5, xI v5), (6, xI v6), (7, xI v7_58)]) [1, 2, 3, 4, 5, 6, 7, 0] rfl ?_
        exact ih v7_58 M
      · refine v_iconst d_M_against_56 (by decide) ?_
        exact v_zret d_M_against_57 rfl
set_option maxHeartbeats 4000000 in
set_option maxRecDepth 100000 in
theorem c_M_against (l : Launch) (hfl : l.stackTraces = false) (a0 : Nat) (v1 : Int) (v2 : Int) (v3 : Int) (v4 : Int) (M : mm_T) : vm_Con l yX11_against (.code yX11_against cX11_against 9 (some .boolean)) 2 ex_Z [xA a0, xI v1, xI v2, xI v3, xI v4] M (k_M_against a0 v1 v2 v3 v4 M) := by
  refine vm_con (y := q_M_against) hfl (by decide +kernel) rfl (fun h => by cases h) (Nat.le_of_ble_eq_true rfl) rfl (fun _ _ _ => rfl) (fun r E h => by cases h) (fun w => ?_)
  show V_ l w q_M_against 2 ex_Z 0 [(0, xA a0), (1, xI v1), (2, xI v2), (3, xI v3), (4, xI v4)] [] M (k_M_against a0 v1 v2 v3 v4 M)
  unfold k_M_against
  refine v_aloadn d_M_against_0 rfl 0 rfl ?_
  refine v_iloadn d_M_against_1 rfl 1 rfl ?_
  refine v_iloadn d_M_against_2 rfl 2 rfl ?_
  refine v_cVi d_M_against_3 ml_M_305 (q := (RX11, TX11, 32)) rfl (c_M_longOf l hfl a0 v1 v2 M) (fun _ => rfl) (by decide) (by decide) (as := [xI v1, xI v2]) (st1 := []) rfl rfl (Nat.le_of_ble_eq_true rfl) (fun c3 M => ?_)
  refine v_iloadn d_M_against_6 rfl 3 rfl ?_
  refine v_isub d_M_against_7 (fun x7 => ?_)
  refine v_istore (lz := fun z => [(5, xI z), (0, xA a0), (1, xI v1), (2, xI v2), (3, xI v3), (4, xI v4)]) d_M_against_8 (Nat.le_of_ble_eq_true rfl) (fun _ => rfl) (fun v5_8 => ?_)
  refine v_iload d_M_against_10 0 rfl ?_
  refine v_aloadn d_M_against_12 rfl 1 rfl ?_
  refine v_iloadn d_M_against_13 rfl 2 rfl ?_
  refine v_iload d_M_against_14 5 rfl ?_
  refine v_cVi d_M_against_16 ml_M_305 (q := (RX11, TX11, 32)) rfl (c_M_longOf l hfl a0 v1 v4 M) (fun _ => rfl) (by decide) (by decide) (as := [xI v1, xI v4]) (st1 := [xI v5_8]) rfl rfl (Nat.le_of_ble_eq_true rfl) (fun c16 M => ?_)
  refine v_mmin d_M_against_19 gw_1803 gw_588 gw_131 gw_589 (by first | decide | omega) (Nat.le_of_ble_eq_true rfl) ?_
  refine v_istore (lz := fun z => [(6, xI z), (5, xI v5_8), (0, xA a0), (1, xI v1), (2, xI v2), (3, xI v3), (4, xI v4)]) d_M_against_22 (Nat.le_of_ble_eq_true rfl) (fun _ => rfl) (fun v6_22 => ?_)
  refine v_iconst d_M_against_24 (by decide) ?_
  refine v_istore (lz := fun z => [(7, xI z), (6, xI v6_22), (5, xI v5_8), (0, xA a0), (1, xI v1), (2, xI v2), (3, xI v3), (4, xI v4)]) d_M_against_25 (Nat.le_of_ble_eq_true rfl) (fun _ => rfl) (fun v7_25 => ?_)
  refine v_sub (ls' := [(0, xA a0), (1, xI v1), (2, xI v2), (3, xI v3), (4, xI v4), (5, xI v5_8), (6, xI v6_22), (7, xI v7_25)]) [3, 4, 5, 6, 7, 2, 1, 0] rfl ?_
  refine V_lp_M_against_27 hfl _ _ _ _ _ _ _ (fun M => ?_) _ _ _
  · refine v_iload d_M_against_64 5 rfl ?_
    refine v_aloadn d_M_against_66 rfl 0 rfl ?_
    refine v_iloadn d_M_against_67 rfl 1 rfl ?_
    refine v_iload d_M_against_68 4 rfl ?_
    refine v_cVi d_M_against_70 ml_M_305 (q := (RX11, TX11, 32)) rfl (c_M_longOf l hfl a0 v1 v4 M) (fun _ => rfl) (by decide) (by decide) (as := [xI v1, xI v4]) (st1 := [xI v5_8]) rfl rfl (Nat.le_of_ble_eq_true rfl) (fun c70 M => ?_)
    refine v_icne d_M_against_73 ?_ ?_
    · refine v_iload d_M_against_83 5 rfl ?_
      refine v_iload d_M_against_85 6 rfl ?_
      refine v_join1 (pj := 110) (lj := fun s0_110 => [(0, xA a0)]) (sj := fun s0_110 => [xI s0_110]) (fun s0_110 M => ?_) (fun j110 hj110 => ?_)
      · refine v_istore (lz := fun z => [(7, xI z), (0, xA a0)]) d_M_against_110 (Nat.le_of_ble_eq_true rfl) (fun _ => rfl) (fun v7_110 => ?_)
        refine v_aloadn d_M_against_112 rfl 1 rfl ?_
        refine v_gR d_M_against_113 fl_M_111 rfl (fun r113 => ?_)
        refine v_iload d_M_against_116 0 rfl ?_
        refine v_zald d_M_against_118 (fun x118 => ?_)
        refine v_join1 (pj := 127) (lj := fun s0_127 => [(0, xA a0), (7, xI v7_110)]) (sj := fun s0_127 => [xI s0_127]) (fun s0_127 M => ?_) (fun j127 hj127 => ?_)
        · refine v_istore (lz := fun z => [(8, xI z), (0, xA a0), (7, xI v7_110)]) d_M_against_127 (Nat.le_of_ble_eq_true rfl) (fun _ => rfl) (fun v8_127 => ?_)
          refine v_aloadn d_M_against_129 rfl 1 rfl ?_
          refine v_gR d_M_against_130 fl_M_111 rfl (fun r130 => ?_)
          refine v_iload d_M_against_133 2 rfl ?_
          refine v_iconst d_M_against_135 (by decide) ?_
          refine v_zast d_M_against_136 (fun M => ?_)
          refine v_iload d_M_against_137 0 rfl ?_
          exact v_zret d_M_against_139 rfl
        refine v_ifne d_M_against_119 ?_ ?_
        · refine v_iconst d_M_against_126 (by decide) ?_
          refine v_sub (ls' := [(0, xA a0), (7, xI v7_110)]) [1, 0] rfl ?_
          exact hj127 0 M
        · refine v_iconst d_M_against_122 (by decide) ?_
          refine v_goto d_M_against_123 ?_
          refine v_sub (ls' := [(0, xA a0), (7, xI v7_110)]) [1, 0] rfl ?_
          exact hj127 1 M
      refine v_icle d_M_against_87 ?_ ?_
      · refine v_bipush d_M_against_102 (by decide) ?_
        refine v_iload d_M_against_104 4 rfl ?_
        refine v_imul d_M_against_106 (fun x106 => ?_)
        refine v_iload d_M_against_107 6 rfl ?_
        refine v_iadd d_M_against_109 (fun x109 => ?_)
        refine v_sub (ls' := [(0, xA a0)]) [0] rfl ?_
        exact hj110 x109 M
      · refine v_bipush d_M_against_90 (by decide) ?_
        refine v_iloadn d_M_against_92 rfl 2 rfl ?_
        refine v_imul d_M_against_93 (fun x93 => ?_)
        refine v_iloadn d_M_against_94 rfl 3 rfl ?_
        refine v_iadd d_M_against_95 (fun x95 => ?_)
        refine v_iload d_M_against_96 6 rfl ?_
        refine v_iadd d_M_against_98 (fun x98 => ?_)
        refine v_goto d_M_against_99 ?_
        refine v_sub (ls' := [(0, xA a0)]) [0] rfl ?_
        exact hj110 x98 M
    · refine v_aloadn d_M_against_76 rfl 0 rfl ?_
      refine v_iconst d_M_against_77 (by decide) ?_
      refine v_pZ d_M_against_78 fl_M_346 (Or.inl rfl) rfl rfl (fun M => ?_)
      refine v_iconst d_M_against_81 (by decide) ?_
      exact v_zret d_M_against_82 rfl
set_option maxHeartbeats 4000000 in
set_option maxRecDepth 100000 in
theorem V_lp_M_code_22 {l : Launch} {w : vm_W} (hfl : l.stackTraces = false) (kx44 : mm_T → Option (Int × mm_T)) (a0 : Nat) {v1 : Int} (hkx44 : ∀ (M : mm_T), V_ l w q_M_code 3 ex_Z 44 [(0, xA a0), (1, xI v1)] [] M (kx44 M)) : ∀ (f : Nat) (v2 : Int) (M : mm_T), V_ l w q_M_code 3 ex_Z 22 [(0, xA a0), (1, xI v1), (2, xI v2)] [] M (lp_M_code_22 kx44 a0 f v2 M) := by
  intro f
  induction f with
  | zero => intros; exact V_.none
  | succ f ih =>
    intro v2 M
    unfold lp_M_code_22
    refine v_iloadn d_M_code_22 rfl 2 rfl ?_
    refine v_aloadn d_M_code_23 rfl 0 rfl ?_
    refine v_gR d_M_code_24 fl_M_111 rfl (fun r24 => ?_)
    refine v_alen (t := 2) d_M_code_27 rfl (fun x27 => ?_)
    refine v_icge d_M_code_28 ?_ ?_
    · refine v_sub (ls' := [(0, xA a0), (1, xI v1)]) [0, 1] rfl ?_
      exact hkx44 M
    · refine v_aloadn d_M_code_31 rfl 0 rfl ?_
      refine v_gR d_M_code_32 fl_M_111 rfl (fun r32 => ?_)
      refine v_iloadn d_M_code_35 rfl 2 rfl ?_
      refine v_iconst d_M_code_36 (by decide) ?_
      refine v_zast d_M_code_37 (fun M => ?_)
      refine v_iinc (lz := fun z => [(2, xI z), (0, xA a0), (1, xI v1)]) d_M_code_38 2 rfl (Nat.le_of_ble_eq_true rfl) (fun _ => rfl) (fun v2_38 => ?_)
      refine v_goto d_M_code_41 ?_
      refine v_sub (ls' := [(0, xA a0), (1, xI v1), (2, xI v2_38)]) [1, 2, 0] rfl ?_
      exact ih v2_38 M
set_option maxHeartbeats 4000000 in
set_option maxRecDepth 100000 in
theorem V_lp_M_code_61 {l : Launch} {w : vm_W} (hfl : l.stackTraces = false) (kx96 : Int → mm_T → Option (Int × mm_T)) (a0 : Nat) (v1 : Int) (v3 : Int) (hkx96 : ∀ (v2_e : Int) (M : mm_T), V_ l w q_M_code 3 ex_Z 96 [(0, xA a0), (1, xI v1), (2, xI v2_e), (3, xI v3)] [] M (kx96 v2_e M)) : ∀ (f : Nat) (v2 : Int) (v4 : Int) (M : mm_T), V_ l w q_M_code 3 ex_Z 61 [(0, xA a0), (1, xI v1), (2, xI v2), (3, xI v3), (4, xI v4)] [] M (lp_M_code_61 kx96 a0 v1 v3 f v2 v4 M) := by
  intro f
  induction f with
  | zero => intros; exact V_.none
  | succ f ih =>
    intro v2 v4 M
    unfold lp_M_code_61
    refine v_iload d_M_code_61 4 rfl ?_
    refine v_aloadn d_M_code_63 rfl 0 rfl ?_
    refine v_gR d_M_code_64 fl_M_77 rfl (fun r64 => ?_)
    refine v_iconst d_M_code_67 (by decide) ?_
    refine v_iald d_M_code_68 (fun x68 => ?_)
    refine v_icge d_M_code_69 ?_ ?_
    · refine v_sub (ls' := [(0, xA a0), (1, xI v1), (2, xI v2), (3, xI v3)]) [0, 1, 2, 3] rfl ?_
      exact hkx96 v2 M
    · refine v_iloadn d_M_code_72 rfl 3 rfl ?_
      refine v_iload d_M_code_73 4 rfl ?_
      refine v_join1 (pj := 90) (lj := fun v2_90 => [(0, xA a0), (1, xI v1), (2, xI v2_90), (3, xI v3), (4, xI v4)]) (sj := fun v2_90 => []) (fun v2_90 M => ?_) (fun j90 hj90 => ?_)
      · refine v_iinc (lz := fun z => [(4, xI z), (0, xA a0), (1, xI v1), (2, xI v2_90), (3, xI v3)]) d_M_code_90 4 rfl (Nat.le_of_ble_eq_true rfl) (fun _ => rfl) (fun v4_90 => ?_)
        refine v_goto d_M_code_93 ?_
        refine v_sub (ls' := [(0, xA a0), (1, xI v1), (2, xI v2_90), (3, xI v3), (4, xI v4_90)]) [1, 2, 3, 4, 0] rfl ?_
        exact ih v2_90 v4_90 M
      refine v_iceq d_M_code_75 ?_ ?_
      · exact hj90 v2 M
      · refine v_iloadn d_M_code_78 rfl 2 rfl ?_
        refine v_aloadn d_M_code_79 rfl 0 rfl ?_
        refine v_iloadn d_M_code_80 rfl 1 rfl ?_
        refine v_iloadn d_M_code_81 rfl 3 rfl ?_
        refine v_iconst d_M_code_82 (by decide) ?_
        refine v_iload d_M_code_83 4 rfl ?_
        refine v_cVi d_M_code_85 ml_M_349 (q := (RX11, TX11, 32)) rfl (c_M_against l hfl a0 v1 v3 0 v4 M) (fun _ => rfl) (by decide) (by decide) (as := [xI v1, xI v3, xI 0, xI v4]) (st1 := [xI v2]) rfl rfl (Nat.le_of_ble_eq_true rfl) (fun c85 M => ?_)
        refine v_ior d_M_code_88 ?_
        refine v_istoren (lz := fun z => [(2, xI z), (0, xA a0), (1, xI v1), (3, xI v3), (4, xI v4)]) d_M_code_89 rfl (Nat.le_of_ble_eq_true rfl) (fun _ => rfl) (fun v2_89 => ?_)
        refine v_sub (ls' := [(0, xA a0), (1, xI v1), (2, xI v2_89), (3, xI v3), (4, xI v4)]) [1, 2, 0, 3, 4] rfl ?_
        exact hj90 v2_89 M
set_option maxHeartbeats 4000000 in
set_option maxRecDepth 100000 in
theorem V_lp_M_code_48 {l : Launch} {w : vm_W} (hfl : l.stackTraces = false) (kx102 : Int → mm_T → Option (Int × mm_T)) (a0 : Nat) (v1 : Int) (hkx102 : ∀ (v2_e : Int) (M : mm_T), V_ l w q_M_code 3 ex_Z 102 [(0, xA a0), (1, xI v1), (2, xI v2_e)] [] M (kx102 v2_e M)) : ∀ (f : Nat) (v2 : Int) (v3 : Int) (M : mm_T), V_ l w q_M_code 3 ex_Z 48 [(0, xA a0), (1, xI v1), (2, xI v2), (3, xI v3)] [] M (lp_M_code_48 kx102 a0 v1 f v2 v3 M) := by
  intro f
  induction f with
  | zero => intros; exact V_.none
  | succ f ih =>
    intro v2 v3 M
    unfold lp_M_code_48
    refine v_iloadn d_M_code_48 rfl 3 rfl ?_
    refine v_aloadn d_M_code_49 rfl 0 rfl ?_
    refine v_gR d_M_code_50 fl_M_77 rfl (fun r50 => ?_)
    refine v_iconst d_M_code_53 (by decide) ?_
    refine v_iald d_M_code_54 (fun x54 => ?_)
    refine v_icge d_M_code_55 ?_ ?_
    · refine v_sub (ls' := [(0, xA a0), (1, xI v1), (2, xI v2)]) [0, 1, 2] rfl ?_
      exact hkx102 v2 M
    · refine v_iconst d_M_code_58 (by decide) ?_
      refine v_istore (lz := fun z => [(4, xI z), (0, xA a0), (1, xI v1), (2, xI v2), (3, xI v3)]) d_M_code_59 (Nat.le_of_ble_eq_true rfl) (fun _ => rfl) (fun v4_59 => ?_)
      refine v_sub (ls' := [(0, xA a0), (1, xI v1), (2, xI v2), (3, xI v3), (4, xI v4_59)]) [1, 2, 3, 4, 0] rfl ?_
      refine V_lp_M_code_61 hfl _ _ _ _ (fun v2_96 M => ?_) _ _ _ _
      · refine v_iinc (lz := fun z => [(3, xI z), (0, xA a0), (1, xI v1), (2, xI v2_96)]) d_M_code_96 3 rfl (Nat.le_of_ble_eq_true rfl) (fun _ => rfl) (fun v3_96 => ?_)
        refine v_goto d_M_code_99 ?_
        refine v_sub (ls' := [(0, xA a0), (1, xI v1), (2, xI v2_96), (3, xI v3_96)]) [1, 2, 3, 0] rfl ?_
        exact ih v2_96 v3_96 M
set_option maxHeartbeats 4000000 in
set_option maxRecDepth 100000 in
theorem V_lp_M_code_162 {l : Launch} {w : vm_W} (hfl : l.stackTraces = false) (kx192 : Int → mm_T → Option (Int × mm_T)) (a0 : Nat) (v1 : Int) (v3 : Int) (v4 : Int) (hkx192 : ∀ (v2_e : Int) (M : mm_T), V_ l w q_M_code 3 ex_Z 192 [(0, xA a0), (1, xI v1), (2, xI v2_e), (3, xI v3), (4, xI v4)] [] M (kx192 v2_e M)) : ∀ (f : Nat) (v2 : Int) (v5 : Int) (M : mm_T), V_ l w q_M_code 3 ex_Z 162 [(0, xA a0), (1, xI v1), (2, xI v2), (3, xI v3), (4, xI v4), (5, xI v5)] [] M (lp_M_code_162 kx192 a0 v1 v3 v4 f v2 v5 M) := by
  intro f
  induction f with
  | zero => intros; exact V_.none
  | succ f ih =>
    intro v2 v5 M
    unfold lp_M_code_162
    refine v_iload d_M_code_162 5 rfl ?_
    refine v_aloadn d_M_code_164 rfl 0 rfl ?_
    refine v_gR d_M_code_165 fl_M_77 rfl (fun r165 => ?_)
    refine v_iconst d_M_code_168 (by decide) ?_
    refine v_iald d_M_code_169 (fun x169 => ?_)
    refine v_icge d_M_code_170 ?_ ?_
    · refine v_sub (ls' := [(0, xA a0), (1, xI v1), (2, xI v2), (3, xI v3), (4, xI v4)]) [0, 1, 2, 3, 4] rfl ?_
      exact hkx192 v2 M
    · refine v_iloadn d_M_code_173 rfl 2 rfl ?_
      refine v_aloadn d_M_code_174 rfl 0 rfl ?_
      refine v_iloadn d_M_code_175 rfl 1 rfl ?_
      refine v_iloadn d_M_code_176 rfl 3 rfl ?_
      refine v_iload d_M_code_177 4 rfl ?_
      refine v_iload d_M_code_179 5 rfl ?_
      refine v_cVi d_M_code_181 ml_M_349 (q := (RX11, TX11, 32)) rfl (c_M_against l hfl a0 v1 v3 v4 v5 M) (fun _ => rfl) (by decide) (by decide) (as := [xI v1, xI v3, xI v4, xI v5]) (st1 := [xI v2]) rfl rfl (Nat.le_of_ble_eq_true rfl) (fun c181 M => ?_)
      refine v_ior d_M_code_184 ?_
      refine v_istoren (lz := fun z => [(2, xI z), (0, xA a0), (1, xI v1), (3, xI v3), (4, xI v4), (5, xI v5)]) d_M_code_185 rfl (Nat.le_of_ble_eq_true rfl) (fun _ => rfl) (fun v2_185 => ?_)
      refine v_iinc (lz := fun z => [(5, xI z), (2, xI v2_185), (0, xA a0), (1, xI v1), (3, xI v3), (4, xI v4)]) d_M_code_186 5 rfl (Nat.le_of_ble_eq_true rfl) (fun _ => rfl) (fun v5_186 => ?_)
      refine v_goto d_M_code_189 ?_
      refine v_sub (ls' := [(0, xA a0), (1, xI v1), (2, xI v2_185), (3, xI v3), (4, xI v4), (5, xI v5_186)]) [2, 3, 1, 4, 5, 0] rfl ?_
      exact ih v2_185 v5_186 M
set_option maxHeartbeats 4000000 in
set_option maxRecDepth 100000 in
theorem V_lp_M_code_130 {l : Launch} {w : vm_W} (hfl : l.stackTraces = false) (kx198 : Int → mm_T → Option (Int × mm_T)) (a0 : Nat) (v1 : Int) (v3 : Int) (hkx198 : ∀ (v2_e : Int) (M : mm_T), V_ l w q_M_code 3 ex_Z 198 [(0, xA a0), (1, xI v1), (2, xI v2_e), (3, xI v3)] [] M (kx198 v2_e M)) : ∀ (f : Nat) (v2 : Int) (v4 : Int) (M : mm_T), V_ l w q_M_code 3 ex_Z 130 [(0, xA a0), (1, xI v1), (2, xI v2), (3, xI v3), (4, xI v4)] [] M (lp_M_code_130 kx198 a0 v1 v3 f v2 v4 M) := by
  intro f
  induction f with
  | zero => intros; exact V_.none
  | succ f ih =>
    intro v2 v4 M
    unfold lp_M_code_130
    refine v_iload d_M_code_130 4 rfl ?_
    refine v_aloadn d_M_code_132 rfl 0 rfl ?_
    refine v_iloadn d_M_code_133 rfl 1 rfl ?_
    refine v_iloadn d_M_code_134 rfl 3 rfl ?_
    refine v_cVi d_M_code_135 ml_M_305 (q := (RX11, TX11, 32)) rfl (c_M_longOf l hfl a0 v1 v3 M) (fun _ => rfl) (by decide) (by decide) (as := [xI v1, xI v3]) (st1 := [xI v4]) rfl rfl (Nat.le_of_ble_eq_true rfl) (fun c135 M => ?_)
    refine v_icge d_M_code_138 ?_ ?_
    · refine v_sub (ls' := [(0, xA a0), (1, xI v1), (2, xI v2), (3, xI v3)]) [0, 1, 2, 3] rfl ?_
      exact hkx198 v2 M
    · refine v_aloadn d_M_code_141 rfl 0 rfl ?_
      refine v_gR d_M_code_142 fl_M_111 rfl (fun r142 => ?_)
      refine v_bipush d_M_code_145 (by decide) ?_
      refine v_iloadn d_M_code_147 rfl 3 rfl ?_
      refine v_imul d_M_code_148 (fun x148 => ?_)
      refine v_iload d_M_code_149 4 rfl ?_
      refine v_iadd d_M_code_151 (fun x151 => ?_)
      refine v_zald d_M_code_152 (fun x152 => ?_)
      refine v_join1 (pj := 192) (lj := fun v2_192 => [(0, xA a0), (1, xI v1), (2, xI v2_192), (3, xI v3), (4, xI v4)]) (sj := fun v2_192 => []) (fun v2_192 M => ?_) (fun j192 hj192 => ?_)
      · refine v_iinc (lz := fun z => [(4, xI z), (0, xA a0), (1, xI v1), (2, xI v2_192), (3, xI v3)]) d_M_code_192 4 rfl (Nat.le_of_ble_eq_true rfl) (fun _ => rfl) (fun v4_192 => ?_)
        refine v_goto d_M_code_195 ?_
        refine v_sub (ls' := [(0, xA a0), (1, xI v1), (2, xI v2_192), (3, xI v3), (4, xI v4_192)]) [1, 2, 3, 4, 0] rfl ?_
        exact ih v2_192 v4_192 M
      refine v_ifne d_M_code_153 ?_ ?_
      · refine v_iconst d_M_code_159 (by decide) ?_
        refine v_istore (lz := fun z => [(5, xI z), (0, xA a0), (1, xI v1), (2, xI v2), (3, xI v3), (4, xI v4)]) d_M_code_160 (Nat.le_of_ble_eq_true rfl) (fun _ => rfl) (fun v5_160 => ?_)
        refine v_sub (ls' := [(0, xA a0), (1, xI v1), (2, xI v2), (3, xI v3), (4, xI v4), (5, xI v5_160)]) [1, 2, 3, 4, 5, 0] rfl ?_
        refine V_lp_M_code_162 hfl _ _ _ _ _ (fun v2_192 M => ?_) _ _ _ _
        · exact hj192 v2_192 M
      · refine v_goto d_M_code_156 ?_
        exact hj192 v2 M
set_option maxHeartbeats 4000000 in
set_option maxRecDepth 100000 in
theorem V_lp_M_code_117 {l : Launch} {w : vm_W} (hfl : l.stackTraces = false) (kx204 : Int → mm_T → Option (Int × mm_T)) (a0 : Nat) (v1 : Int) (hkx204 : ∀ (v2_e : Int) (M : mm_T), V_ l w q_M_code 3 ex_Z 204 [(0, xA a0), (1, xI v1), (2, xI v2_e)] [] M (kx204 v2_e M)) : ∀ (f : Nat) (v2 : Int) (v3 : Int) (M : mm_T), V_ l w q_M_code 3 ex_Z 117 [(0, xA a0), (1, xI v1), (2, xI v2), (3, xI v3)] [] M (lp_M_code_117 kx204 a0 v1 f v2 v3 M) := by
  intro f
  induction f with
  | zero => intros; exact V_.none
  | succ f ih =>
    intro v2 v3 M
    unfold lp_M_code_117
    refine v_iloadn d_M_code_117 rfl 3 rfl ?_
    refine v_aloadn d_M_code_118 rfl 0 rfl ?_
    refine v_gR d_M_code_119 fl_M_77 rfl (fun r119 => ?_)
    refine v_iconst d_M_code_122 (by decide) ?_
    refine v_iald d_M_code_123 (fun x123 => ?_)
    refine v_icge d_M_code_124 ?_ ?_
    · refine v_sub (ls' := [(0, xA a0), (1, xI v1), (2, xI v2)]) [0, 1, 2] rfl ?_
      exact hkx204 v2 M
    · refine v_iconst d_M_code_127 (by decide) ?_
      refine v_istore (lz := fun z => [(4, xI z), (0, xA a0), (1, xI v1), (2, xI v2), (3, xI v3)]) d_M_code_128 (Nat.le_of_ble_eq_true rfl) (fun _ => rfl) (fun v4_128 => ?_)
      refine v_sub (ls' := [(0, xA a0), (1, xI v1), (2, xI v2), (3, xI v3), (4, xI v4_128)]) [1, 2, 3, 4, 0] rfl ?_
      refine V_lp_M_code_130 hfl _ _ _ _ (fun v2_198 M => ?_) _ _ _ _
      · refine v_iinc (lz := fun z => [(3, xI z), (0, xA a0), (1, xI v1), (2, xI v2_198)]) d_M_code_198 3 rfl (Nat.le_of_ble_eq_true rfl) (fun _ => rfl) (fun v3_198 => ?_)
        refine v_goto d_M_code_201 ?_
        refine v_sub (ls' := [(0, xA a0), (1, xI v1), (2, xI v2_198), (3, xI v3_198)]) [1, 2, 3, 0] rfl ?_
        exact ih v2_198 v3_198 M
set_option maxHeartbeats 4000000 in
set_option maxRecDepth 100000 in
theorem V_lp_M_code_102 {l : Launch} {w : vm_W} (hfl : l.stackTraces = false) (kx207 : mm_T → Option (Int × mm_T)) (a0 : Nat) (v1 : Int) (hkx207 : ∀ (M : mm_T), V_ l w q_M_code 3 ex_Z 207 [(0, xA a0)] [] M (kx207 M)) : ∀ (f : Nat) (v2 : Int) (M : mm_T), V_ l w q_M_code 3 ex_Z 102 [(0, xA a0), (1, xI v1), (2, xI v2)] [] M (lp_M_code_102 kx207 a0 v1 f v2 M) := by
  intro f
  induction f with
  | zero => intros; exact V_.none
  | succ f ih =>
    intro v2 M
    unfold lp_M_code_102
    refine v_iloadn d_M_code_102 rfl 2 rfl ?_
    refine v_ifeq d_M_code_103 ?_ ?_
    · refine v_sub (ls' := [(0, xA a0)]) [0] rfl ?_
      exact hkx207 M
    · refine v_aloadn d_M_code_106 rfl 0 rfl ?_
      refine v_gI d_M_code_107 fl_M_346 rfl (fun x107 => ?_)
      refine v_ifne d_M_code_110 ?_ ?_
      · refine v_sub (ls' := [(0, xA a0)]) [0] rfl ?_
        exact hkx207 M
      · refine v_iconst d_M_code_113 (by decide) ?_
        refine v_istoren (lz := fun z => [(2, xI z), (0, xA a0), (1, xI v1)]) d_M_code_114 rfl (Nat.le_of_ble_eq_true rfl) (fun _ => rfl) (fun v2_114 => ?_)
        refine v_iconst d_M_code_115 (by decide) ?_
        refine v_istoren (lz := fun z => [(3, xI z), (2, xI v2_114), (0, xA a0), (1, xI v1)]) d_M_code_116 rfl (Nat.le_of_ble_eq_true rfl) (fun _ => rfl) (fun v3_116 => ?_)
        refine v_sub (ls' := [(0, xA a0), (1, xI v1), (2, xI v2_114), (3, xI v3_116)]) [2, 3, 1, 0] rfl ?_
        refine V_lp_M_code_117 hfl _ _ _ (fun v2_204 M => ?_) _ _ _ _
        · refine v_goto d_M_code_204 ?_
          exact ih v2_204 M
set_option maxHeartbeats 4000000 in
set_option maxRecDepth 100000 in
theorem c_M_code (l : Launch) (hfl : l.stackTraces = false) (a0 : Nat) (v1 : Int) (M : mm_T) : vm_Con l yX11_code (.code yX11_code cX11_code 6 (some .boolean)) 3 ex_Z [xA a0, xI v1] M (k_M_code a0 v1 M) := by
  refine vm_con (y := q_M_code) hfl (by decide +kernel) rfl (fun h => by cases h) (Nat.le_of_ble_eq_true rfl) rfl (fun _ _ _ => rfl) (fun r E h => by cases h) (fun w => ?_)
  show V_ l w q_M_code 3 ex_Z 0 [(0, xA a0), (1, xI v1)] [] M (k_M_code a0 v1 M)
  unfold k_M_code
  refine v_aloadn d_M_code_0 rfl 0 rfl ?_
  refine v_iconst d_M_code_1 (by decide) ?_
  refine v_pI d_M_code_2 fl_M_3 (Or.inl rfl) rfl rfl (fun M => ?_)
  refine v_aloadn d_M_code_5 rfl 0 rfl ?_
  refine v_iloadn d_M_code_6 rfl 1 rfl ?_
  refine v_cVi d_M_code_7 ml_M_319 (q := (RX11, TX11, 32)) rfl (c_M_noMap l hfl a0 v1 M) (fun _ => rfl) (by decide) (by decide) (as := [xI v1]) (st1 := []) rfl rfl (Nat.le_of_ble_eq_true rfl) (fun c7 M => ?_)
  refine v_ifeq d_M_code_10 ?_ ?_
  · refine v_aloadn d_M_code_15 rfl 0 rfl ?_
    refine v_iconst d_M_code_16 (by decide) ?_
    refine v_pZ d_M_code_17 fl_M_346 (Or.inl rfl) rfl rfl (fun M => ?_)
    refine v_iconst d_M_code_20 (by decide) ?_
    refine v_istoren (lz := fun z => [(2, xI z), (0, xA a0), (1, xI v1)]) d_M_code_21 rfl (Nat.le_of_ble_eq_true rfl) (fun _ => rfl) (fun v2_21 => ?_)
    refine v_sub (ls' := [(0, xA a0), (1, xI v1), (2, xI v2_21)]) [1, 2, 0] rfl ?_
    refine V_lp_M_code_22 hfl _ _ (fun M => ?_) _ _ _
    · refine v_iconst d_M_code_44 (by decide) ?_
      refine v_istoren (lz := fun z => [(2, xI z), (0, xA a0), (1, xI v1)]) d_M_code_45 rfl (Nat.le_of_ble_eq_true rfl) (fun _ => rfl) (fun v2_45 => ?_)
      refine v_iconst d_M_code_46 (by decide) ?_
      refine v_istoren (lz := fun z => [(3, xI z), (2, xI v2_45), (0, xA a0), (1, xI v1)]) d_M_code_47 rfl (Nat.le_of_ble_eq_true rfl) (fun _ => rfl) (fun v3_47 => ?_)
      refine v_sub (ls' := [(0, xA a0), (1, xI v1), (2, xI v2_45), (3, xI v3_47)]) [2, 3, 1, 0] rfl ?_
      refine V_lp_M_code_48 hfl _ _ _ (fun v2_102 M => ?_) _ _ _ _
      · refine V_lp_M_code_102 hfl _ _ _ (fun M => ?_) _ _ _
        · refine v_aloadn d_M_code_207 rfl 0 rfl ?_
          refine v_gI d_M_code_208 fl_M_346 rfl (fun x208 => ?_)
          refine v_ifne d_M_code_211 ?_ ?_
          · refine v_iconst d_M_code_218 (by decide) ?_
            exact v_zret d_M_code_219 rfl
          · refine v_iconst d_M_code_214 (by decide) ?_
            refine v_goto d_M_code_215 ?_
            exact v_zret d_M_code_219 rfl
  · refine v_iconst d_M_code_13 (by decide) ?_
    exact v_zret d_M_code_14 rfl
set_option maxHeartbeats 4000000 in
set_option maxRecDepth 100000 in
theorem c_M_noPattern (l : Launch) (hfl : l.stackTraces = false) (a0 : Nat) (v1 : Int) (M : mm_T) : vm_Con l yX11_noPattern (.code yX11_noPattern cX11_noPattern 2 (some .boolean)) 2 ex_Z [xA a0, xI v1] M (k_M_noPattern a0 v1 M) := by
  refine vm_con (y := q_M_noPattern) hfl (by decide +kernel) rfl (fun h => by cases h) (Nat.le_of_ble_eq_true rfl) rfl (fun _ _ _ => rfl) (fun r E h => by cases h) (fun w => ?_)
  show V_ l w q_M_noPattern 2 ex_Z 0 [(0, xA a0), (1, xI v1)] [] M (k_M_noPattern a0 v1 M)
  unfold k_M_noPattern
  refine v_aloadn d_M_noPattern_0 rfl 0 rfl ?_
  refine v_iloadn d_M_noPattern_1 rfl 1 rfl ?_
  refine v_iconst d_M_noPattern_2 (by decide) ?_
  refine v_aloadn d_M_noPattern_3 rfl 0 rfl ?_
  refine v_gR d_M_noPattern_4 fl_M_77 rfl (fun r4 => ?_)
  refine v_iconst d_M_noPattern_7 (by decide) ?_
  refine v_iald d_M_noPattern_8 (fun x8 => ?_)
  refine v_iconst d_M_noPattern_9 (by decide) ?_
  refine v_isub d_M_noPattern_10 (fun x10 => ?_)
  refine v_cSi d_M_noPattern_11 ml_M_65 (c_M_in l hfl v1 0 x10 M) (fun _ => rfl) (by decide) (by decide) (as := [xI v1, xI 0, xI x10]) (st1 := [xA a0]) rfl rfl (Nat.le_of_ble_eq_true rfl) (fun c11 M => ?_)
  refine v_join2 (pj := 22) (lj := fun sa0_22 s1_22 => []) (sj := fun sa0_22 s1_22 => [xI s1_22, xA sa0_22]) (fun sa0_22 s1_22 M => ?_) (fun j22 hj22 => ?_)
  · refine v_iconst d_M_noPattern_22 (by decide) ?_
    refine v_cVi d_M_noPattern_23 ml_M_180 (q := (RX11, TX11, 32)) rfl (c_M_throwsIf l hfl sa0_22 s1_22 1 M) (fun _ => rfl) (by decide) (by decide) (as := [xI s1_22, xI 1]) (st1 := []) rfl rfl (Nat.le_of_ble_eq_true rfl) (fun c23 M => ?_)
    exact v_zret d_M_noPattern_26 rfl
  refine v_ifne d_M_noPattern_14 ?_ ?_
  · refine v_iconst d_M_noPattern_21 (by decide) ?_
    refine v_sub (ls' := []) [] rfl ?_
    exact hj22 a0 0 M
  · refine v_iconst d_M_noPattern_17 (by decide) ?_
    refine v_goto d_M_noPattern_18 ?_
    refine v_sub (ls' := []) [] rfl ?_
    exact hj22 a0 1 M
set_option maxHeartbeats 4000000 in
set_option maxRecDepth 100000 in
theorem V_lp_M_met_60 {l : Launch} {w : vm_W} (hfl : l.stackTraces = false) (kx111 : mm_T → Option (Int × mm_T)) (a0 : Nat) (v1 : Int) (v2 : Int) (v3 : Int) (hkx111 : ∀ (M : mm_T), V_ l w q_M_met 4 ex_I 111 [(0, xA a0), (1, xI v1), (2, xI v2), (3, xI v3)] [] M (kx111 M)) : ∀ (f : Nat) (v4 : Int) (M : mm_T), V_ l w q_M_met 4 ex_I 60 [(0, xA a0), (1, xI v1), (2, xI v2), (3, xI v3), (4, xI v4)] [] M (lp_M_met_60 kx111 a0 v1 v2 v3 f v4 M) := by
  intro f
  induction f with
  | zero => intros; exact V_.none
  | succ f ih =>
    intro v4 M
    unfold lp_M_met_60
    refine v_iload d_M_met_60 4 rfl ?_
    refine v_ifeq d_M_met_62 ?_ ?_
    · refine v_sub (ls' := [(0, xA a0), (1, xI v1), (2, xI v2), (3, xI v3)]) [0, 1, 2, 3] rfl ?_
      exact hkx111 M
    · refine v_aloadn d_M_met_65 rfl 0 rfl ?_
      refine v_aloadn d_M_met_66 rfl 0 rfl ?_
      refine v_gR d_M_met_67 fl_M_83 rfl (fun r67 => ?_)
      refine v_iloadn d_M_met_70 rfl 3 rfl ?_
      refine v_iloadn d_M_met_71 rfl 1 rfl ?_
      refine v_cVi d_M_met_72 ml_M_215 (q := (RX11, TX11, 32)) rfl (c_M_fitsAt l hfl a0 r67 v3 v1 M) (fun _ => rfl) (by decide) (by decide) (as := [xA r67, xI v3, xI v1]) (st1 := []) rfl rfl (Nat.le_of_ble_eq_true rfl) (fun c72 M => ?_)
      refine v_ifeq d_M_met_75 ?_ ?_
      · refine v_aloadn d_M_met_95 rfl 0 rfl ?_
        refine v_iloadn d_M_met_96 rfl 1 rfl ?_
        refine v_aloadn d_M_met_97 rfl 0 rfl ?_
        refine v_gI d_M_met_98 fl_M_184 rfl (fun x98 => ?_)
        refine v_iloadn d_M_met_101 rfl 3 rfl ?_
        refine v_isub d_M_met_102 (fun x102 => ?_)
        refine v_cVi d_M_met_103 ml_M_219 (q := (RX11, TX11, 32)) rfl (c_M_nextSizes l hfl a0 v1 x102 M) (fun _ => rfl) (by decide) (by decide) (as := [xI v1, xI x102]) (st1 := []) rfl rfl (Nat.le_of_ble_eq_true rfl) (fun c103 M => ?_)
        refine v_istore (lz := fun z => [(4, xI z), (0, xA a0), (1, xI v1), (2, xI v2), (3, xI v3)]) d_M_met_106 (Nat.le_of_ble_eq_true rfl) (fun _ => rfl) (fun v4_106 => ?_)
        refine v_goto d_M_met_108 ?_
        refine v_sub (ls' := [(0, xA a0), (1, xI v1), (2, xI v2), (3, xI v3), (4, xI v4_106)]) [1, 2, 3, 4, 0] rfl ?_
        exact ih v4_106 M
      · refine v_iloadn d_M_met_78 rfl 2 rfl ?_
        refine v_ifne d_M_met_79 ?_ ?_
        · refine v_aloadn d_M_met_86 rfl 0 rfl ?_
          refine v_gR d_M_met_87 fl_M_92 rfl (fun r87 => ?_)
          refine v_iloadn d_M_met_90 rfl 2 rfl ?_
          refine v_iconst d_M_met_91 (by decide) ?_
          refine v_isub d_M_met_92 (fun x92 => ?_)
          refine v_iald d_M_met_93 (fun x93 => ?_)
          exact v_ret d_M_met_94 rfl
        · refine v_iloadn d_M_met_82 rfl 3 rfl ?_
          refine v_goto d_M_met_83 ?_
          exact v_ret d_M_met_94 rfl
set_option maxHeartbeats 4000000 in
set_option maxRecDepth 100000 in
theorem V_lp_M_met_39 {l : Launch} {w : vm_W} (hfl : l.stackTraces = false) (kx117 : mm_T → Option (Int × mm_T)) (a0 : Nat) (v1 : Int) (v2 : Int) (hkx117 : ∀ (M : mm_T), V_ l w q_M_met 4 ex_I 117 [] [] M (kx117 M)) : ∀ (f : Nat) (v3 : Int) (M : mm_T), V_ l w q_M_met 4 ex_I 39 [(0, xA a0), (1, xI v1), (2, xI v2), (3, xI v3)] [] M (lp_M_met_39 kx117 a0 v1 v2 f v3 M) := by
  intro f
  induction f with
  | zero => intros; exact V_.none
  | succ f ih =>
    intro v3 M
    unfold lp_M_met_39
    refine v_iloadn d_M_met_39 rfl 3 rfl ?_
    refine v_aloadn d_M_met_40 rfl 0 rfl ?_
    refine v_gI d_M_met_41 fl_M_184 rfl (fun x41 => ?_)
    refine v_icge d_M_met_44 ?_ ?_
    · refine v_sub (ls' := []) [] rfl ?_
      exact hkx117 M
    · refine v_aloadn d_M_met_47 rfl 0 rfl ?_
      refine v_iloadn d_M_met_48 rfl 1 rfl ?_
      refine v_aloadn d_M_met_49 rfl 0 rfl ?_
      refine v_gI d_M_met_50 fl_M_184 rfl (fun x50 => ?_)
      refine v_iloadn d_M_met_53 rfl 3 rfl ?_
      refine v_isub d_M_met_54 (fun x54 => ?_)
      refine v_cVi d_M_met_55 ml_M_212 (q := (RX11, TX11, 32)) rfl (c_M_firstSizes l hfl a0 v1 x54 M) (fun _ => rfl) (by decide) (by decide) (as := [xI v1, xI x54]) (st1 := []) rfl rfl (Nat.le_of_ble_eq_true rfl) (fun c55 M => ?_)
      refine v_istore (lz := fun z => [(4, xI z), (0, xA a0), (1, xI v1), (2, xI v2), (3, xI v3)]) d_M_met_58 (Nat.le_of_ble_eq_true rfl) (fun _ => rfl) (fun v4_58 => ?_)
      refine v_sub (ls' := [(0, xA a0), (1, xI v1), (2, xI v2), (3, xI v3), (4, xI v4_58)]) [1, 2, 3, 4, 0] rfl ?_
      refine V_lp_M_met_60 hfl _ _ _ _ _ (fun M => ?_) _ _ _
      · refine v_iinc (lz := fun z => [(3, xI z), (0, xA a0), (1, xI v1), (2, xI v2)]) d_M_met_111 3 rfl (Nat.le_of_ble_eq_true rfl) (fun _ => rfl) (fun v3_111 => ?_)
        refine v_goto d_M_met_114 ?_
        refine v_sub (ls' := [(0, xA a0), (1, xI v1), (2, xI v2), (3, xI v3_111)]) [1, 2, 3, 0] rfl ?_
        exact ih v3_111 M
set_option maxHeartbeats 4000000 in
set_option maxRecDepth 100000 in
theorem c_M_met (l : Launch) (hfl : l.stackTraces = false) (a0 : Nat) (v1 : Int) (v2 : Int) (M : mm_T) : vm_Con l yX11_met (.code yX11_met cX11_met 5 (some .int)) 4 ex_I [xA a0, xI v1, xI v2] M (k_M_met a0 v1 v2 M) := by
  refine vm_con (y := q_M_met) hfl (by decide +kernel) rfl (fun h => by cases h) (Nat.le_of_ble_eq_true rfl) rfl (fun _ _ _ => rfl) (fun r E h => by cases h) (fun w => ?_)
  show V_ l w q_M_met 4 ex_I 0 [(0, xA a0), (1, xI v1), (2, xI v2)] [] M (k_M_met a0 v1 v2 M)
  unfold k_M_met
  refine v_aloadn d_M_met_0 rfl 0 rfl ?_
  refine v_iconst d_M_met_1 (by decide) ?_
  refine v_pI d_M_met_2 fl_M_3 (Or.inl rfl) rfl rfl (fun M => ?_)
  refine v_aloadn d_M_met_5 rfl 0 rfl ?_
  refine v_iloadn d_M_met_6 rfl 1 rfl ?_
  refine v_cVi d_M_met_7 ml_M_353 (q := (RX11, TX11, 32)) rfl (c_M_noPattern l hfl a0 v1 M) (fun _ => rfl) (by decide) (by decide) (as := [xI v1]) (st1 := []) rfl rfl (Nat.le_of_ble_eq_true rfl) (fun c7 M => ?_)
  refine v_ifne d_M_met_10 ?_ ?_
  · refine v_iconst d_M_met_35 (by decide) ?_
    exact v_ret d_M_met_36 rfl
  · refine v_aloadn d_M_met_13 rfl 0 rfl ?_
    refine v_iloadn d_M_met_14 rfl 2 rfl ?_
    refine v_iconst d_M_met_15 (by decide) ?_
    refine v_iconst d_M_met_16 (by decide) ?_
    refine v_cSi d_M_met_17 ml_M_65 (c_M_in l hfl v2 0 3 M) (fun _ => rfl) (by decide) (by decide) (as := [xI v2, xI 0, xI 3]) (st1 := [xA a0]) rfl rfl (Nat.le_of_ble_eq_true rfl) (fun c17 M => ?_)
    refine v_join2 (pj := 28) (lj := fun sa0_28 s1_28 => [(0, xA a0), (1, xI v1), (2, xI v2)]) (sj := fun sa0_28 s1_28 => [xI s1_28, xA sa0_28]) (fun sa0_28 s1_28 M => ?_) (fun j28 hj28 => ?_)
    · refine v_iconst d_M_met_28 (by decide) ?_
      refine v_cVi d_M_met_29 ml_M_180 (q := (RX11, TX11, 32)) rfl (c_M_throwsIf l hfl sa0_28 s1_28 2 M) (fun _ => rfl) (by decide) (by decide) (as := [xI s1_28, xI 2]) (st1 := []) rfl rfl (Nat.le_of_ble_eq_true rfl) (fun c29 M => ?_)
      refine v_ifeq d_M_met_32 ?_ ?_
      · refine v_iconst d_M_met_37 (by decide) ?_
        refine v_istoren (lz := fun z => [(3, xI z), (0, xA a0), (1, xI v1), (2, xI v2)]) d_M_met_38 rfl (Nat.le_of_ble_eq_true rfl) (fun _ => rfl) (fun v3_38 => ?_)
        refine v_sub (ls' := [(0, xA a0), (1, xI v1), (2, xI v2), (3, xI v3_38)]) [1, 2, 3, 0] rfl ?_
        refine V_lp_M_met_39 hfl _ _ _ _ (fun M => ?_) _ _ _
        · refine v_iconst d_M_met_117 (by decide) ?_
          exact v_ret d_M_met_118 rfl
      · refine v_iconst d_M_met_35 (by decide) ?_
        exact v_ret d_M_met_36 rfl
    refine v_ifne d_M_met_20 ?_ ?_
    · refine v_iconst d_M_met_27 (by decide) ?_
      exact hj28 a0 0 M
    · refine v_iconst d_M_met_23 (by decide) ?_
      refine v_goto d_M_met_24 ?_
      exact hj28 a0 1 M
set_option maxHeartbeats 4000000 in
set_option maxRecDepth 100000 in
theorem V_lp_M_whole_51 {l : Launch} {w : vm_W} (hfl : l.stackTraces = false) (kx111 : Int → mm_T → Option (Int × mm_T)) (a0 : Nat) (v1 : Int) (v2 : Int) (v3 : Int) (hkx111 : ∀ (v4_e : Int) (M : mm_T), V_ l w q_M_whole 4 ex_I 111 [(2, xI v2), (4, xI v4_e)] [] M (kx111 v4_e M)) : ∀ (f : Nat) (v4 : Int) (v5 : Int) (M : mm_T), V_ l w q_M_whole 4 ex_I 51 [(0, xA a0), (1, xI v1), (2, xI v2), (3, xI v3), (4, xI v4), (5, xI v5)] [] M (lp_M_whole_51 kx111 a0 v1 v2 v3 f v4 v5 M) := by
  intro f
  induction f with
  | zero => intros; exact V_.none
  | succ f ih =>
    intro v4 v5 M
    unfold lp_M_whole_51
    refine v_iload d_M_whole_51 5 rfl ?_
    refine v_ifeq d_M_whole_53 ?_ ?_
    · refine v_sub (ls' := [(2, xI v2), (4, xI v4)]) [2, 4] rfl ?_
      exact hkx111 v4 M
    · refine v_aloadn d_M_whole_56 rfl 0 rfl ?_
      refine v_iloadn d_M_whole_57 rfl 1 rfl ?_
      refine v_cVi d_M_whole_58 ml_M_208 (q := (RX11, TX11, 32)) rfl (c_M_longBy l hfl a0 v1 M) (fun _ => rfl) (by decide) (by decide) (as := [xI v1]) (st1 := []) rfl rfl (Nat.le_of_ble_eq_true rfl) (fun c58 M => ?_)
      refine v_aloadn d_M_whole_61 rfl 0 rfl ?_
      refine v_gI d_M_whole_62 fl_M_184 rfl (fun x62 => ?_)
      refine v_join1 (pj := 97) (lj := fun v4_97 => [(0, xA a0), (1, xI v1), (2, xI v2), (3, xI v3), (4, xI v4_97)]) (sj := fun v4_97 => []) (fun v4_97 M => ?_) (fun j97 hj97 => ?_)
      · refine v_aloadn d_M_whole_97 rfl 0 rfl ?_
        refine v_iloadn d_M_whole_98 rfl 1 rfl ?_
        refine v_aloadn d_M_whole_99 rfl 0 rfl ?_
        refine v_gI d_M_whole_100 fl_M_184 rfl (fun x100 => ?_)
        refine v_cVi d_M_whole_103 ml_M_219 (q := (RX11, TX11, 32)) rfl (c_M_nextSizes l hfl a0 v1 x100 M) (fun _ => rfl) (by decide) (by decide) (as := [xI v1, xI x100]) (st1 := []) rfl rfl (Nat.le_of_ble_eq_true rfl) (fun c103 M => ?_)
        refine v_istore (lz := fun z => [(5, xI z), (0, xA a0), (1, xI v1), (2, xI v2), (3, xI v3), (4, xI v4_97)]) d_M_whole_106 (Nat.le_of_ble_eq_true rfl) (fun _ => rfl) (fun v5_106 => ?_)
        refine v_goto d_M_whole_108 ?_
        refine v_sub (ls' := [(0, xA a0), (1, xI v1), (2, xI v2), (3, xI v3), (4, xI v4_97), (5, xI v5_106)]) [1, 2, 3, 4, 5, 0] rfl ?_
        exact ih v4_97 v5_106 M
      refine v_icne d_M_whole_65 ?_ ?_
      · refine v_sub (ls' := [(0, xA a0), (1, xI v1), (2, xI v2), (3, xI v3), (4, xI v4)]) [0, 1, 2, 3, 4] rfl ?_
        exact hj97 v4 M
      · refine v_aloadn d_M_whole_68 rfl 0 rfl ?_
        refine v_aloadn d_M_whole_69 rfl 0 rfl ?_
        refine v_gR d_M_whole_70 fl_M_83 rfl (fun r70 => ?_)
        refine v_iconst d_M_whole_73 (by decide) ?_
        refine v_iloadn d_M_whole_74 rfl 1 rfl ?_
        refine v_cVi d_M_whole_75 ml_M_215 (q := (RX11, TX11, 32)) rfl (c_M_fitsAt l hfl a0 r70 0 v1 M) (fun _ => rfl) (by decide) (by decide) (as := [xA r70, xI 0, xI v1]) (st1 := []) rfl rfl (Nat.le_of_ble_eq_true rfl) (fun c75 M => ?_)
        refine v_ifeq d_M_whole_78 ?_ ?_
        · refine v_sub (ls' := [(0, xA a0), (1, xI v1), (2, xI v2), (3, xI v3), (4, xI v4)]) [0, 1, 2, 3, 4] rfl ?_
          exact hj97 v4 M
        · refine v_iload d_M_whole_81 4 rfl ?_
          refine v_iloadn d_M_whole_83 rfl 2 rfl ?_
          refine v_icne d_M_whole_84 ?_ ?_
          · refine v_iinc (lz := fun z => [(4, xI z), (0, xA a0), (1, xI v1), (2, xI v2), (3, xI v3), (5, xI v5)]) d_M_whole_94 4 rfl (Nat.le_of_ble_eq_true rfl) (fun _ => rfl) (fun v4_94 => ?_)
            refine v_sub (ls' := [(0, xA a0), (1, xI v1), (2, xI v2), (3, xI v3), (4, xI v4_94)]) [1, 2, 3, 4, 0] rfl ?_
            exact hj97 v4_94 M
          · refine v_aloadn d_M_whole_87 rfl 0 rfl ?_
            refine v_gR d_M_whole_88 fl_M_92 rfl (fun r88 => ?_)
            refine v_iloadn d_M_whole_91 rfl 3 rfl ?_
            refine v_iald d_M_whole_92 (fun x92 => ?_)
            exact v_ret d_M_whole_93 rfl
set_option maxHeartbeats 4000000 in
set_option maxRecDepth 100000 in
theorem c_M_whole (l : Launch) (hfl : l.stackTraces = false) (a0 : Nat) (v1 : Int) (v2 : Int) (v3 : Int) (M : mm_T) : vm_Con l yX11_whole (.code yX11_whole cX11_whole 6 (some .int)) 4 ex_I [xA a0, xI v1, xI v2, xI v3] M (k_M_whole a0 v1 v2 v3 M) := by
  refine vm_con (y := q_M_whole) hfl (by decide +kernel) rfl (fun h => by cases h) (Nat.le_of_ble_eq_true rfl) rfl (fun _ _ _ => rfl) (fun r E h => by cases h) (fun w => ?_)
  show V_ l w q_M_whole 4 ex_I 0 [(0, xA a0), (1, xI v1), (2, xI v2), (3, xI v3)] [] M (k_M_whole a0 v1 v2 v3 M)
  unfold k_M_whole
  refine v_aloadn d_M_whole_0 rfl 0 rfl ?_
  refine v_iconst d_M_whole_1 (by decide) ?_
  refine v_pI d_M_whole_2 fl_M_3 (Or.inl rfl) rfl rfl (fun M => ?_)
  refine v_aloadn d_M_whole_5 rfl 0 rfl ?_
  refine v_iloadn d_M_whole_6 rfl 1 rfl ?_
  refine v_cVi d_M_whole_7 ml_M_353 (q := (RX11, TX11, 32)) rfl (c_M_noPattern l hfl a0 v1 M) (fun _ => rfl) (by decide) (by decide) (as := [xI v1]) (st1 := []) rfl rfl (Nat.le_of_ble_eq_true rfl) (fun c7 M => ?_)
  refine v_ifne d_M_whole_10 ?_ ?_
  · refine v_iconst d_M_whole_35 (by decide) ?_
    exact v_ret d_M_whole_36 rfl
  · refine v_aloadn d_M_whole_13 rfl 0 rfl ?_
    refine v_iloadn d_M_whole_14 rfl 3 rfl ?_
    refine v_iconst d_M_whole_15 (by decide) ?_
    refine v_iconst d_M_whole_16 (by decide) ?_
    refine v_cSi d_M_whole_17 ml_M_65 (c_M_in l hfl v3 0 2 M) (fun _ => rfl) (by decide) (by decide) (as := [xI v3, xI 0, xI 2]) (st1 := [xA a0]) rfl rfl (Nat.le_of_ble_eq_true rfl) (fun c17 M => ?_)
    refine v_join2 (pj := 28) (lj := fun sa0_28 s1_28 => [(0, xA a0), (1, xI v1), (2, xI v2), (3, xI v3)]) (sj := fun sa0_28 s1_28 => [xI s1_28, xA sa0_28]) (fun sa0_28 s1_28 M => ?_) (fun j28 hj28 => ?_)
    · refine v_iconst d_M_whole_28 (by decide) ?_
      refine v_cVi d_M_whole_29 ml_M_180 (q := (RX11, TX11, 32)) rfl (c_M_throwsIf l hfl sa0_28 s1_28 2 M) (fun _ => rfl) (by decide) (by decide) (as := [xI s1_28, xI 2]) (st1 := []) rfl rfl (Nat.le_of_ble_eq_true rfl) (fun c29 M => ?_)
      refine v_ifeq d_M_whole_32 ?_ ?_
      · refine v_iconst d_M_whole_37 (by decide) ?_
        refine v_istore (lz := fun z => [(4, xI z), (0, xA a0), (1, xI v1), (2, xI v2), (3, xI v3)]) d_M_whole_38 (Nat.le_of_ble_eq_true rfl) (fun _ => rfl) (fun v4_38 => ?_)
        refine v_aloadn d_M_whole_40 rfl 1 rfl ?_
        refine v_iloadn d_M_whole_41 rfl 2 rfl ?_
        refine v_aloadn d_M_whole_42 rfl 1 rfl ?_
        refine v_gI d_M_whole_43 fl_M_184 rfl (fun x43 => ?_)
        refine v_cVi d_M_whole_46 ml_M_212 (q := (RX11, TX11, 32)) rfl (c_M_firstSizes l hfl a0 v1 x43 M) (fun _ => rfl) (by decide) (by decide) (as := [xI v1, xI x43]) (st1 := []) rfl rfl (Nat.le_of_ble_eq_true rfl) (fun c46 M => ?_)
        refine v_istore (lz := fun z => [(5, xI z), (4, xI v4_38), (0, xA a0), (1, xI v1), (2, xI v2), (3, xI v3)]) d_M_whole_49 (Nat.le_of_ble_eq_true rfl) (fun _ => rfl) (fun v5_49 => ?_)
        refine v_sub (ls' := [(0, xA a0), (1, xI v1), (2, xI v2), (3, xI v3), (4, xI v4_38), (5, xI v5_49)]) [2, 3, 4, 5, 1, 0] rfl ?_
        refine V_lp_M_whole_51 hfl _ _ _ _ _ (fun v4_111 M => ?_) _ _ _ _
        · refine v_iloadn d_M_whole_111 rfl 0 rfl ?_
          refine v_iconst d_M_whole_112 (by decide) ?_
          refine v_icne d_M_whole_113 ?_ ?_
          · refine v_iconst d_M_whole_121 (by decide) ?_
            exact v_ret d_M_whole_122 rfl
          · refine v_iload d_M_whole_116 1 rfl ?_
            refine v_goto d_M_whole_118 ?_
            exact v_ret d_M_whole_122 rfl
      · refine v_iconst d_M_whole_35 (by decide) ?_
        exact v_ret d_M_whole_36 rfl
    refine v_ifne d_M_whole_20 ?_ ?_
    · refine v_iconst d_M_whole_27 (by decide) ?_
      exact hj28 a0 0 M
    · refine v_iconst d_M_whole_23 (by decide) ?_
      refine v_goto d_M_whole_24 ?_
      exact hj28 a0 1 M
set_option maxHeartbeats 4000000 in
set_option maxRecDepth 100000 in
theorem V_lp_M_lettersOf_4 {l : Launch} {w : vm_W} (hfl : l.stackTraces = false) (kx34 : Int → mm_T → Option (Int × mm_T)) (a0 : Nat) (v1 : Int) (hkx34 : ∀ (v2_e : Int) (M : mm_T), V_ l w q_M_lettersOf 3 ex_I 34 [(2, xI v2_e)] [] M (kx34 v2_e M)) : ∀ (f : Nat) (v2 : Int) (v3 : Int) (M : mm_T), V_ l w q_M_lettersOf 3 ex_I 4 [(0, xA a0), (1, xI v1), (2, xI v2), (3, xI v3)] [] M (lp_M_lettersOf_4 kx34 a0 v1 f v2 v3 M) := by
  intro f
  induction f with
  | zero => intros; exact V_.none
  | succ f ih =>
    intro v2 v3 M
    unfold lp_M_lettersOf_4
    refine v_iloadn d_M_lettersOf_4 rfl 3 rfl ?_
    refine v_iconst d_M_lettersOf_5 (by decide) ?_
    refine v_icge d_M_lettersOf_6 ?_ ?_
    · refine v_sub (ls' := [(2, xI v2)]) [2] rfl ?_
      exact hkx34 v2 M
    · refine v_iloadn d_M_lettersOf_9 rfl 2 rfl ?_
      refine v_aloadn d_M_lettersOf_10 rfl 0 rfl ?_
      refine v_iloadn d_M_lettersOf_11 rfl 1 rfl ?_
      refine v_iloadn d_M_lettersOf_12 rfl 3 rfl ?_
      refine v_cVi d_M_lettersOf_13 ml_M_205 (q := (RX11, TX11, 32)) rfl (c_M_hasLetter l hfl a0 v1 v3 M) (fun _ => rfl) (by decide) (by decide) (as := [xI v1, xI v3]) (st1 := [xI v2]) rfl rfl (Nat.le_of_ble_eq_true rfl) (fun c13 M => ?_)
      refine v_join2 (pj := 26) (lj := fun s0_26 s1_26 => [(0, xA a0), (1, xI v1), (3, xI v3)]) (sj := fun s0_26 s1_26 => [xI s1_26, xI s0_26]) (fun s0_26 s1_26 M => ?_) (fun j26 hj26 => ?_)
      · refine v_ior d_M_lettersOf_26 ?_
        refine v_istoren (lz := fun z => [(2, xI z), (0, xA a0), (1, xI v1), (3, xI v3)]) d_M_lettersOf_27 rfl (Nat.le_of_ble_eq_true rfl) (fun _ => rfl) (fun v2_27 => ?_)
        refine v_iinc (lz := fun z => [(3, xI z), (2, xI v2_27), (0, xA a0), (1, xI v1)]) d_M_lettersOf_28 3 rfl (Nat.le_of_ble_eq_true rfl) (fun _ => rfl) (fun v3_28 => ?_)
        refine v_goto d_M_lettersOf_31 ?_
        refine v_sub (ls' := [(0, xA a0), (1, xI v1), (2, xI v2_27), (3, xI v3_28)]) [2, 3, 1, 0] rfl ?_
        exact ih v2_27 v3_28 M
      refine v_ifeq d_M_lettersOf_16 ?_ ?_
      · refine v_iconst d_M_lettersOf_25 (by decide) ?_
        refine v_sub (ls' := [(0, xA a0), (1, xI v1), (3, xI v3)]) [0, 1, 3] rfl ?_
        exact hj26 v2 0 M
      · refine v_iconst d_M_lettersOf_19 (by decide) ?_
        refine v_iloadn d_M_lettersOf_20 rfl 3 rfl ?_
        refine v_ishl d_M_lettersOf_21 ?_
        refine v_goto d_M_lettersOf_22 ?_
        refine v_sub (ls' := [(0, xA a0), (1, xI v1), (3, xI v3)]) [0, 1, 3] rfl ?_
        exact hj26 v2 (shl_ 1 v3) M
set_option maxHeartbeats 4000000 in
set_option maxRecDepth 100000 in
theorem c_M_lettersOf (l : Launch) (hfl : l.stackTraces = false) (a0 : Nat) (v1 : Int) (M : mm_T) : vm_Con l yX11_lettersOf (.code yX11_lettersOf cX11_lettersOf 4 (some .int)) 3 ex_I [xA a0, xI v1] M (k_M_lettersOf a0 v1 M) := by
  refine vm_con (y := q_M_lettersOf) hfl (by decide +kernel) rfl (fun h => by cases h) (Nat.le_of_ble_eq_true rfl) rfl (fun _ _ _ => rfl) (fun r E h => by cases h) (fun w => ?_)
  show V_ l w q_M_lettersOf 3 ex_I 0 [(0, xA a0), (1, xI v1)] [] M (k_M_lettersOf a0 v1 M)
  unfold k_M_lettersOf
  refine v_iconst d_M_lettersOf_0 (by decide) ?_
  refine v_istoren (lz := fun z => [(2, xI z), (0, xA a0), (1, xI v1)]) d_M_lettersOf_1 rfl (Nat.le_of_ble_eq_true rfl) (fun _ => rfl) (fun v2_1 => ?_)
  refine v_iconst d_M_lettersOf_2 (by decide) ?_
  refine v_istoren (lz := fun z => [(3, xI z), (2, xI v2_1), (0, xA a0), (1, xI v1)]) d_M_lettersOf_3 rfl (Nat.le_of_ble_eq_true rfl) (fun _ => rfl) (fun v3_3 => ?_)
  refine v_sub (ls' := [(0, xA a0), (1, xI v1), (2, xI v2_1), (3, xI v3_3)]) [2, 3, 1, 0] rfl ?_
  refine V_lp_M_lettersOf_4 hfl _ _ _ (fun v2_34 M => ?_) _ _ _ _
  · refine v_iloadn d_M_lettersOf_34 rfl 0 rfl ?_
    exact v_ret d_M_lettersOf_35 rfl
set_option maxHeartbeats 4000000 in
set_option maxRecDepth 100000 in
theorem V_lp_M_endOf_2 {l : Launch} {w : vm_W} (hfl : l.stackTraces = false) (kx22 : Int → mm_T → Option (Int × mm_T)) (a0 : Nat) (hkx22 : ∀ (v2_e : Int) (M : mm_T), V_ l w q_M_endOf 1 ex_I 22 [(2, xI v2_e)] [] M (kx22 v2_e M)) : ∀ (f : Nat) (v2 : Int) (M : mm_T), V_ l w q_M_endOf 1 ex_I 2 [(0, xA a0), (2, xI v2)] [] M (lp_M_endOf_2 kx22 a0 f v2 M) := by
  intro f
  induction f with
  | zero => intros; exact V_.none
  | succ f ih =>
    intro v2 M
    unfold lp_M_endOf_2
    refine v_aloadn d_M_endOf_2 rfl 0 rfl ?_
    refine v_gR d_M_endOf_3 fl_M_115 rfl (fun r3 => ?_)
    refine v_iloadn d_M_endOf_6 rfl 1 rfl ?_
    refine v_iald d_M_endOf_7 (fun x7 => ?_)
    refine v_iloadn d_M_endOf_8 rfl 1 rfl ?_
    refine v_iceq d_M_endOf_9 ?_ ?_
    · refine v_sub (ls' := [(2, xI v2)]) [1] rfl ?_
      exact hkx22 v2 M
    · refine v_aloadn d_M_endOf_12 rfl 0 rfl ?_
      refine v_gR d_M_endOf_13 fl_M_115 rfl (fun r13 => ?_)
      refine v_iloadn d_M_endOf_16 rfl 1 rfl ?_
      refine v_iald d_M_endOf_17 (fun x17 => ?_)
      refine v_istoren (lz := fun z => [(2, xI z), (0, xA a0)]) d_M_endOf_18 rfl (Nat.le_of_ble_eq_true rfl) (fun _ => rfl) (fun v2_18 => ?_)
      refine v_goto d_M_endOf_19 ?_
      refine v_sub (ls' := [(0, xA a0), (2, xI v2_18)]) [1, 0] rfl ?_
      exact ih v2_18 M
set_option maxHeartbeats 4000000 in
set_option maxRecDepth 100000 in
theorem c_M_endOf (l : Launch) (hfl : l.stackTraces = false) (a0 : Nat) (v1 : Int) (M : mm_T) : vm_Con l yX11_endOf (.code yX11_endOf cX11_endOf 3 (some .int)) 1 ex_I [xA a0, xI v1] M (k_M_endOf a0 v1 M) := by
  refine vm_con (y := q_M_endOf) hfl (by decide +kernel) rfl (fun h => by cases h) (Nat.le_of_ble_eq_true rfl) rfl (fun _ _ _ => rfl) (fun r E h => by cases h) (fun w => ?_)
  show V_ l w q_M_endOf 1 ex_I 0 [(0, xA a0), (1, xI v1)] [] M (k_M_endOf a0 v1 M)
  unfold k_M_endOf
  refine v_iloadn d_M_endOf_0 rfl 1 rfl ?_
  refine v_istoren (lz := fun z => [(2, xI z), (0, xA a0), (1, xI v1)]) d_M_endOf_1 rfl (Nat.le_of_ble_eq_true rfl) (fun _ => rfl) (fun v2_1 => ?_)
  refine v_sub (ls' := [(0, xA a0), (2, xI v2_1)]) [1, 0] rfl ?_
  refine V_lp_M_endOf_2 hfl _ _ (fun v2_22 M => ?_) _ _ _
  · refine v_iloadn d_M_endOf_22 rfl 0 rfl ?_
    exact v_ret d_M_endOf_23 rfl
set_option maxHeartbeats 4000000 in
set_option maxRecDepth 100000 in
theorem V_lp_M_isLoose_3 {l : Launch} {w : vm_W} (hfl : l.stackTraces = false) (kx25 : mm_T → Option (Int × mm_T)) (a0 : Nat) {v1 : Int} {v2 : Int} {v3 : Int} (hkx25 : ∀ (M : mm_T), V_ l w q_M_isLoose 2 ex_Z 25 [(0, xA a0), (1, xI v1), (2, xI v2), (3, xI v3)] [] M (kx25 M)) : ∀ (f : Nat) (v4 : Int) (M : mm_T), V_ l w q_M_isLoose 2 ex_Z 3 [(0, xA a0), (1, xI v1), (2, xI v2), (3, xI v3), (4, xI v4)] [] M (lp_M_isLoose_3 kx25 a0 f v4 M) := by
  intro f
  induction f with
  | zero => intros; exact V_.none
  | succ f ih =>
    intro v4 M
    unfold lp_M_isLoose_3
    refine v_iload d_M_isLoose_3 4 rfl ?_
    refine v_bipush d_M_isLoose_5 (by decide) ?_
    refine v_icge d_M_isLoose_7 ?_ ?_
    · refine v_sub (ls' := [(0, xA a0), (1, xI v1), (2, xI v2), (3, xI v3)]) [0, 1, 2, 3] rfl ?_
      exact hkx25 M
    · refine v_aloadn d_M_isLoose_10 rfl 0 rfl ?_
      refine v_gR d_M_isLoose_11 fl_M_115 rfl (fun r11 => ?_)
      refine v_iload d_M_isLoose_14 4 rfl ?_
      refine v_iload d_M_isLoose_16 4 rfl ?_
      refine v_iast d_M_isLoose_18 (fun M => ?_)
      refine v_iinc (lz := fun z => [(4, xI z), (0, xA a0), (1, xI v1), (2, xI v2), (3, xI v3)]) d_M_isLoose_19 4 rfl (Nat.le_of_ble_eq_true rfl) (fun _ => rfl) (fun v4_19 => ?_)
      refine v_goto d_M_isLoose_22 ?_
      refine v_sub (ls' := [(0, xA a0), (1, xI v1), (2, xI v2), (3, xI v3), (4, xI v4_19)]) [1, 2, 3, 4, 0] rfl ?_
      exact ih v4_19 M
set_option maxHeartbeats 4000000 in
set_option maxRecDepth 100000 in
theorem V_lp_M_isLoose_31 {l : Launch} {w : vm_W} (hfl : l.stackTraces = false) (kx103 : mm_T → Option (Int × mm_T)) (a0 : Nat) (v1 : Int) (v2 : Int) {v3 : Int} (hkx103 : ∀ (M : mm_T), V_ l w q_M_isLoose 2 ex_Z 103 [(0, xA a0), (3, xI v3)] [] M (kx103 M)) : ∀ (f : Nat) (v4 : Int) (v5 : Int) (M : mm_T), V_ l w q_M_isLoose 2 ex_Z 31 [(0, xA a0), (1, xI v1), (2, xI v2), (3, xI v3), (4, xI v4), (5, xI v5)] [] M (lp_M_isLoose_31 kx103 a0 v1 v2 f v4 v5 M) := by
  intro f
  induction f with
  | zero => intros; exact V_.none
  | succ f ih =>
    intro v4 v5 M
    unfold lp_M_isLoose_31
    refine v_iload d_M_isLoose_31 5 rfl ?_
    refine v_aloadn d_M_isLoose_33 rfl 0 rfl ?_
    refine v_gR d_M_isLoose_34 fl_M_77 rfl (fun r34 => ?_)
    refine v_sipush d_M_isLoose_37 (by decide) ?_
    refine v_iloadn d_M_isLoose_40 rfl 1 rfl ?_
    refine v_iadd d_M_isLoose_41 (fun x41 => ?_)
    refine v_iald d_M_isLoose_42 (fun x42 => ?_)
    refine v_icge d_M_isLoose_43 ?_ ?_
    · refine v_sub (ls' := [(0, xA a0), (3, xI v3)]) [0, 3] rfl ?_
      exact hkx103 M
    · refine v_aloadn d_M_isLoose_46 rfl 0 rfl ?_
      refine v_iloadn d_M_isLoose_47 rfl 1 rfl ?_
      refine v_iload d_M_isLoose_48 5 rfl ?_
      refine v_cVi d_M_isLoose_50 ml_M_202 (q := (RX11, TX11, 32)) rfl (c_M_letterOf l hfl a0 v1 v5 M) (fun _ => rfl) (by decide) (by decide) (as := [xI v1, xI v5]) (st1 := []) rfl rfl (Nat.le_of_ble_eq_true rfl) (fun c50 M => ?_)
      refine v_istore (lz := fun z => [(6, xI z), (0, xA a0), (1, xI v1), (2, xI v2), (3, xI v3), (4, xI v4), (5, xI v5)]) d_M_isLoose_53 (Nat.le_of_ble_eq_true rfl) (fun _ => rfl) (fun v6_53 => ?_)
      refine v_iloadn d_M_isLoose_55 rfl 3 rfl ?_
      refine v_iload d_M_isLoose_56 0 rfl ?_
      refine v_ishr d_M_isLoose_58 ?_
      refine v_iconst d_M_isLoose_59 (by decide) ?_
      refine v_iand d_M_isLoose_60 ?_
      refine v_iconst d_M_isLoose_61 (by decide) ?_
      refine v_join1 (pj := 97) (lj := fun v4_97 => [(0, xA a0), (1, xI v1), (2, xI v2), (3, xI v3), (4, xI v4_97), (5, xI v5)]) (sj := fun v4_97 => []) (fun v4_97 M => ?_) (fun j97 hj97 => ?_)
      · refine v_iinc (lz := fun z => [(5, xI z), (0, xA a0), (1, xI v1), (2, xI v2), (3, xI v3), (4, xI v4_97)]) d_M_isLoose_97 5 rfl (Nat.le_of_ble_eq_true rfl) (fun _ => rfl) (fun v5_97 => ?_)
        refine v_goto d_M_isLoose_100 ?_
        refine v_sub (ls' := [(0, xA a0), (1, xI v1), (2, xI v2), (3, xI v3), (4, xI v4_97), (5, xI v5_97)]) [1, 2, 3, 4, 5, 0] rfl ?_
        exact ih v4_97 v5_97 M
      refine v_icne d_M_isLoose_62 ?_ ?_
      · refine v_iload d_M_isLoose_68 5 rfl ?_
        refine v_iconst d_M_isLoose_70 (by decide) ?_
        refine v_join0 (pj := 93) (lj := [(0, xA a0), (1, xI v1), (2, xI v2), (3, xI v3), (5, xI v5), (6, xI v6_53)]) (sj := []) (fun M => ?_) (fun j93 hj93 => ?_)
        · refine v_iload d_M_isLoose_93 5 rfl ?_
          refine v_istore (lz := fun z => [(4, xI z), (0, xA a0), (1, xI v1), (2, xI v2), (3, xI v3), (5, xI v5), (6, xI v6_53)]) d_M_isLoose_95 (Nat.le_of_ble_eq_true rfl) (fun _ => rfl) (fun v4_95 => ?_)
          refine v_sub (ls' := [(0, xA a0), (1, xI v1), (2, xI v2), (3, xI v3), (4, xI v4_95), (5, xI v5)]) [1, 2, 3, 4, 0, 5] rfl ?_
          exact hj97 v4_95 M
        refine v_iceq d_M_isLoose_71 ?_ ?_
        · refine v_sub (ls' := [(0, xA a0), (1, xI v1), (2, xI v2), (3, xI v3), (5, xI v5), (6, xI v6_53)]) [1, 2, 3, 4, 6, 0] rfl ?_
          exact hj93 M
        · refine v_aloadn d_M_isLoose_74 rfl 1 rfl ?_
          refine v_gR d_M_isLoose_75 fl_M_115 rfl (fun r75 => ?_)
          refine v_aloadn d_M_isLoose_78 rfl 1 rfl ?_
          refine v_iload d_M_isLoose_79 5 rfl ?_
          refine v_cVi d_M_isLoose_81 ml_M_356 (q := (RX11, TX11, 32)) rfl (c_M_endOf l hfl a0 v4 M) (fun _ => rfl) (by decide) (by decide) (as := [xI v4]) (st1 := [xA r75]) rfl rfl (Nat.le_of_ble_eq_true rfl) (fun c81 M => ?_)
          refine v_aloadn d_M_isLoose_84 rfl 1 rfl ?_
          refine v_iconst d_M_isLoose_85 (by decide) ?_
          refine v_iload d_M_isLoose_86 0 rfl ?_
          refine v_iadd d_M_isLoose_88 (fun x88 => ?_)
          refine v_cVi d_M_isLoose_89 ml_M_356 (q := (RX11, TX11, 32)) rfl (c_M_endOf l hfl a0 x88 M) (fun _ => rfl) (by decide) (by decide) (as := [xI x88]) (st1 := [xI c81, xA r75]) rfl rfl (Nat.le_of_ble_eq_true rfl) (fun c89 M => ?_)
          refine v_iast d_M_isLoose_92 (fun M => ?_)
          refine v_sub (ls' := [(0, xA a0), (1, xI v1), (2, xI v2), (3, xI v3), (5, xI v5), (6, xI v6_53)]) [1, 2, 3, 4, 6, 0] rfl ?_
          exact hj93 M
      · refine v_goto d_M_isLoose_65 ?_
        refine v_sub (ls' := [(0, xA a0), (1, xI v1), (2, xI v2), (3, xI v3), (4, xI v4), (5, xI v5)]) [1, 2, 3, 4, 5, 6] rfl ?_
        exact hj97 v4 M
set_option maxHeartbeats 4000000 in
set_option maxRecDepth 100000 in
theorem V_lp_M_isLoose_115 {l : Launch} {w : vm_W} (hfl : l.stackTraces = false) (kx166 : mm_T → Option (Int × mm_T)) (a0 : Nat) (v3 : Int) (v5 : Int) (hkx166 : ∀ (M : mm_T), V_ l w q_M_isLoose 2 ex_Z 166 [(0, xA a0), (3, xI v3), (5, xI v5)] [] M (kx166 M)) : ∀ (f : Nat) (v6 : Int) (M : mm_T), V_ l w q_M_isLoose 2 ex_Z 115 [(0, xA a0), (3, xI v3), (5, xI v5), (6, xI v6)] [] M (lp_M_isLoose_115 kx166 a0 v3 v5 f v6 M) := by
  intro f
  induction f with
  | zero => intros; exact V_.none
  | succ f ih =>
    intro v6 M
    unfold lp_M_isLoose_115
    refine v_iload d_M_isLoose_115 3 rfl ?_
    refine v_iconst d_M_isLoose_117 (by decide) ?_
    refine v_icge d_M_isLoose_118 ?_ ?_
    · refine v_sub (ls' := [(0, xA a0), (3, xI v3), (5, xI v5)]) [0, 1, 2] rfl ?_
      exact hkx166 M
    · refine v_iloadn d_M_isLoose_121 rfl 1 rfl ?_
      refine v_iload d_M_isLoose_122 2 rfl ?_
      refine v_ishr d_M_isLoose_124 ?_
      refine v_iconst d_M_isLoose_125 (by decide) ?_
      refine v_iand d_M_isLoose_126 ?_
      refine v_iconst d_M_isLoose_127 (by decide) ?_
      refine v_join0 (pj := 160) (lj := [(0, xA a0), (3, xI v3), (5, xI v5), (6, xI v6)]) (sj := []) (fun M => ?_) (fun j160 hj160 => ?_)
      · refine v_iinc (lz := fun z => [(6, xI z), (0, xA a0), (3, xI v3), (5, xI v5)]) d_M_isLoose_160 3 rfl (Nat.le_of_ble_eq_true rfl) (fun _ => rfl) (fun v6_160 => ?_)
        refine v_goto d_M_isLoose_163 ?_
        refine v_sub (ls' := [(0, xA a0), (3, xI v3), (5, xI v5), (6, xI v6_160)]) [1, 2, 3, 0] rfl ?_
        exact ih v6_160 M
      refine v_icne d_M_isLoose_128 ?_ ?_
      · exact hj160 M
      · refine v_iloadn d_M_isLoose_131 rfl 1 rfl ?_
        refine v_iload d_M_isLoose_132 3 rfl ?_
        refine v_ishr d_M_isLoose_134 ?_
        refine v_iconst d_M_isLoose_135 (by decide) ?_
        refine v_iand d_M_isLoose_136 ?_
        refine v_iconst d_M_isLoose_137 (by decide) ?_
        refine v_icne d_M_isLoose_138 ?_ ?_
        · exact hj160 M
        · refine v_aloadn d_M_isLoose_141 rfl 0 rfl ?_
          refine v_iload d_M_isLoose_142 2 rfl ?_
          refine v_cVi d_M_isLoose_144 ml_M_356 (q := (RX11, TX11, 32)) rfl (c_M_endOf l hfl a0 v5 M) (fun _ => rfl) (by decide) (by decide) (as := [xI v5]) (st1 := []) rfl rfl (Nat.le_of_ble_eq_true rfl) (fun c144 M => ?_)
          refine v_aloadn d_M_isLoose_147 rfl 0 rfl ?_
          refine v_iconst d_M_isLoose_148 (by decide) ?_
          refine v_iload d_M_isLoose_149 3 rfl ?_
          refine v_iadd d_M_isLoose_151 (fun x151 => ?_)
          refine v_cVi d_M_isLoose_152 ml_M_356 (q := (RX11, TX11, 32)) rfl (c_M_endOf l hfl a0 x151 M) (fun _ => rfl) (by decide) (by decide) (as := [xI x151]) (st1 := [xI c144]) rfl rfl (Nat.le_of_ble_eq_true rfl) (fun c152 M => ?_)
          refine v_icne d_M_isLoose_155 ?_ ?_
          · exact hj160 M
          · refine v_iconst d_M_isLoose_158 (by decide) ?_
            exact v_zret d_M_isLoose_159 rfl
set_option maxHeartbeats 4000000 in
set_option maxRecDepth 100000 in
theorem V_lp_M_isLoose_106 {l : Launch} {w : vm_W} (hfl : l.stackTraces = false) (kx172 : mm_T → Option (Int × mm_T)) (a0 : Nat) (v3 : Int) (hkx172 : ∀ (M : mm_T), V_ l w q_M_isLoose 2 ex_Z 172 [] [] M (kx172 M)) : ∀ (f : Nat) (v5 : Int) (M : mm_T), V_ l w q_M_isLoose 2 ex_Z 106 [(0, xA a0), (3, xI v3), (5, xI v5)] [] M (lp_M_isLoose_106 kx172 a0 v3 f v5 M) := by
  intro f
  induction f with
  | zero => intros; exact V_.none
  | succ f ih =>
    intro v5 M
    unfold lp_M_isLoose_106
    refine v_iload d_M_isLoose_106 2 rfl ?_
    refine v_iconst d_M_isLoose_108 (by decide) ?_
    refine v_icge d_M_isLoose_109 ?_ ?_
    · refine v_sub (ls' := []) [] rfl ?_
      exact hkx172 M
    · refine v_iconst d_M_isLoose_112 (by decide) ?_
      refine v_istore (lz := fun z => [(6, xI z), (0, xA a0), (3, xI v3), (5, xI v5)]) d_M_isLoose_113 (Nat.le_of_ble_eq_true rfl) (fun _ => rfl) (fun v6_113 => ?_)
      refine v_sub (ls' := [(0, xA a0), (3, xI v3), (5, xI v5), (6, xI v6_113)]) [1, 2, 3, 0] rfl ?_
      refine V_lp_M_isLoose_115 hfl _ _ _ _ (fun M => ?_) _ _ _
      · refine v_iinc (lz := fun z => [(5, xI z), (0, xA a0), (3, xI v3)]) d_M_isLoose_166 2 rfl (Nat.le_of_ble_eq_true rfl) (fun _ => rfl) (fun v5_166 => ?_)
        refine v_goto d_M_isLoose_169 ?_
        refine v_sub (ls' := [(0, xA a0), (3, xI v3), (5, xI v5_166)]) [1, 2, 0] rfl ?_
        exact ih v5_166 M
set_option maxHeartbeats 4000000 in
set_option maxRecDepth 100000 in
theorem c_M_isLoose (l : Launch) (hfl : l.stackTraces = false) (a0 : Nat) (v1 : Int) (v2 : Int) (v3 : Int) (M : mm_T) : vm_Con l yX11_isLoose (.code yX11_isLoose cX11_isLoose 7 (some .boolean)) 2 ex_Z [xA a0, xI v1, xI v2, xI v3] M (k_M_isLoose a0 v1 v2 v3 M) := by
  refine vm_con (y := q_M_isLoose) hfl (by decide +kernel) rfl (fun h => by cases h) (Nat.le_of_ble_eq_true rfl) rfl (fun _ _ _ => rfl) (fun r E h => by cases h) (fun w => ?_)
  show V_ l w q_M_isLoose 2 ex_Z 0 [(0, xA a0), (1, xI v1), (2, xI v2), (3, xI v3)] [] M (k_M_isLoose a0 v1 v2 v3 M)
  unfold k_M_isLoose
  refine v_iconst d_M_isLoose_0 (by decide) ?_
  refine v_istore (lz := fun z => [(4, xI z), (0, xA a0), (1, xI v1), (2, xI v2), (3, xI v3)]) d_M_isLoose_1 (Nat.le_of_ble_eq_true rfl) (fun _ => rfl) (fun v4_1 => ?_)
  refine v_sub (ls' := [(0, xA a0), (1, xI v1), (2, xI v2), (3, xI v3), (4, xI v4_1)]) [1, 2, 3, 4, 0] rfl ?_
  refine V_lp_M_isLoose_3 hfl _ _ (fun M => ?_) _ _ _
  · refine v_iconst d_M_isLoose_25 (by decide) ?_
    refine v_istore (lz := fun z => [(4, xI z), (0, xA a0), (1, xI v1), (2, xI v2), (3, xI v3)]) d_M_isLoose_26 (Nat.le_of_ble_eq_true rfl) (fun _ => rfl) (fun v4_26 => ?_)
    refine v_iconst d_M_isLoose_28 (by decide) ?_
    refine v_istore (lz := fun z => [(5, xI z), (4, xI v4_26), (0, xA a0), (1, xI v1), (2, xI v2), (3, xI v3)]) d_M_isLoose_29 (Nat.le_of_ble_eq_true rfl) (fun _ => rfl) (fun v5_29 => ?_)
    refine v_sub (ls' := [(0, xA a0), (1, xI v1), (2, xI v2), (3, xI v3), (4, xI v4_26), (5, xI v5_29)]) [2, 3, 4, 5, 1, 0] rfl ?_
    refine V_lp_M_isLoose_31 hfl _ _ _ _ (fun M => ?_) _ _ _ _
    · refine v_iconst d_M_isLoose_103 (by decide) ?_
      refine v_istore (lz := fun z => [(5, xI z), (0, xA a0), (3, xI v3)]) d_M_isLoose_104 (Nat.le_of_ble_eq_true rfl) (fun _ => rfl) (fun v5_104 => ?_)
      refine v_sub (ls' := [(0, xA a0), (3, xI v3), (5, xI v5_104)]) [1, 2, 0] rfl ?_
      refine V_lp_M_isLoose_106 hfl _ _ _ (fun M => ?_) _ _ _
      · refine v_iconst d_M_isLoose_172 (by decide) ?_
        exact v_zret d_M_isLoose_173 rfl
set_option maxHeartbeats 4000000 in
set_option maxRecDepth 100000 in
theorem V_lp_M_cannotBe_5 {l : Launch} {w : vm_W} (hfl : l.stackTraces = false) {d : Nat} (kx48 : Int → mm_T → Option (Int × mm_T)) (a0 : Nat) (v1 : Int) (v2 : Int) (hkx48 : ∀ (v3_e : Int) (M : mm_T), V_ l w q_M_cannotBe (4 + d) ex_Z 48 [(0, xA a0), (1, xI v1), (2, xI v2), (3, xI v3_e)] [] M (kx48 v3_e M)) : ∀ (f : Nat) (v3 : Int) (v4 : Int) (M : mm_T), V_ l w q_M_cannotBe (4 + d) ex_Z 5 [(0, xA a0), (1, xI v1), (2, xI v2), (3, xI v3), (4, xI v4)] [] M (lp_M_cannotBe_5 kx48 a0 v1 v2 f v3 v4 M) := by
  intro f
  induction f with
  | zero => intros; exact V_.none
  | succ f ih =>
    intro v3 v4 M
    unfold lp_M_cannotBe_5
    refine v_iload d_M_cannotBe_5 4 rfl ?_
    refine v_aloadn d_M_cannotBe_7 rfl 0 rfl ?_
    refine v_gR d_M_cannotBe_8 fl_M_77 rfl (fun r8 => ?_)
    refine v_sipush d_M_cannotBe_11 (by decide) ?_
    refine v_iloadn d_M_cannotBe_14 rfl 1 rfl ?_
    refine v_iadd d_M_cannotBe_15 (fun x15 => ?_)
    refine v_iald d_M_cannotBe_16 (fun x16 => ?_)
    refine v_icge d_M_cannotBe_17 ?_ ?_
    · refine v_sub (ls' := [(0, xA a0), (1, xI v1), (2, xI v2), (3, xI v3)]) [0, 1, 2, 3] rfl ?_
      exact hkx48 v3 M
    · refine v_iloadn d_M_cannotBe_20 rfl 3 rfl ?_
      refine v_iloadn d_M_cannotBe_21 rfl 2 rfl ?_
      refine v_aloadn d_M_cannotBe_22 rfl 0 rfl ?_
      refine v_iloadn d_M_cannotBe_23 rfl 1 rfl ?_
      refine v_iload d_M_cannotBe_24 4 rfl ?_
      refine v_cVi d_M_cannotBe_26 ml_M_202 (q := (RX11, TX11, 32)) rfl (c_M_letterOf l hfl a0 v1 v4 M) (fun _ => rfl) (by omega) (by decide) (as := [xI v1, xI v4]) (st1 := [xI v2, xI v3]) rfl rfl (Nat.le_of_ble_eq_true rfl) (fun c26 M => ?_)
      refine v_ishr d_M_cannotBe_29 ?_
      refine v_iconst d_M_cannotBe_30 (by decide) ?_
      refine v_iand d_M_cannotBe_31 ?_
      refine v_join2 (pj := 40) (lj := fun s0_40 s1_40 => [(0, xA a0), (1, xI v1), (2, xI v2), (4, xI v4)]) (sj := fun s0_40 s1_40 => [xI s1_40, xI s0_40]) (fun s0_40 s1_40 M => ?_) (fun j40 hj40 => ?_)
      · refine v_iadd d_M_cannotBe_40 (fun x40 => ?_)
        refine v_istoren (lz := fun z => [(3, xI z), (0, xA a0), (1, xI v1), (2, xI v2), (4, xI v4)]) d_M_cannotBe_41 rfl (Nat.le_of_ble_eq_true rfl) (fun _ => rfl) (fun v3_41 => ?_)
        refine v_iinc (lz := fun z => [(4, xI z), (3, xI v3_41), (0, xA a0), (1, xI v1), (2, xI v2)]) d_M_cannotBe_42 4 rfl (Nat.le_of_ble_eq_true rfl) (fun _ => rfl) (fun v4_42 => ?_)
        refine v_goto d_M_cannotBe_45 ?_
        refine v_sub (ls' := [(0, xA a0), (1, xI v1), (2, xI v2), (3, xI v3_41), (4, xI v4_42)]) [2, 3, 4, 1, 0] rfl ?_
        exact ih v3_41 v4_42 M
      refine v_ifne d_M_cannotBe_32 ?_ ?_
      · refine v_iconst d_M_cannotBe_39 (by decide) ?_
        refine v_sub (ls' := [(0, xA a0), (1, xI v1), (2, xI v2), (4, xI v4)]) [0, 1, 2, 4] rfl ?_
        exact hj40 v3 0 M
      · refine v_iconst d_M_cannotBe_35 (by decide) ?_
        refine v_goto d_M_cannotBe_36 ?_
        refine v_sub (ls' := [(0, xA a0), (1, xI v1), (2, xI v2), (4, xI v4)]) [0, 1, 2, 4] rfl ?_
        exact hj40 v3 1 M
set_option maxHeartbeats 4000000 in
set_option maxRecDepth 100000 in
theorem V_lp_M_cannotBe_69 {l : Launch} {w : vm_W} (hfl : l.stackTraces = false) {d : Nat} (kx117 : mm_T → Option (Int × mm_T)) (rec : Nat → Int → Int → mm_T → Option (Int × mm_T)) (a0 : Nat) (v1 : Int) (v2 : Int) (v4 : Int) (hkx117 : ∀ (M : mm_T), V_ l w q_M_cannotBe (4 + d) ex_Z 117 [] [] M (kx117 M)) (hrec : ∀ (a0 : Nat) (v1 : Int) (v2 : Int) (M : mm_T), vm_Con l yX11_cannotBe (.code yX11_cannotBe cX11_cannotBe 6 (some .boolean)) (4 + d - 1) ex_Z [xA a0, xI v1, xI v2] M (rec a0 v1 v2 M)) (hd0 : 1 ≤ d) : ∀ (f : Nat) (v5 : Int) (M : mm_T), V_ l w q_M_cannotBe (4 + d) ex_Z 69 [(0, xA a0), (1, xI v1), (2, xI v2), (4, xI v4), (5, xI v5)] [] M (lp_M_cannotBe_69 kx117 rec a0 v1 v2 v4 f v5 M) := by
  intro f
  induction f with
  | zero => intros; exact V_.none
  | succ f ih =>
    intro v5 M
    unfold lp_M_cannotBe_69
    refine v_iload d_M_cannotBe_69 4 rfl ?_
    refine v_iload d_M_cannotBe_71 3 rfl ?_
    refine v_icge d_M_cannotBe_73 ?_ ?_
    · refine v_sub (ls' := []) [] rfl ?_
      exact hkx117 M
    · refine v_iload d_M_cannotBe_76 4 rfl ?_
      refine v_iload d_M_cannotBe_78 3 rfl ?_
      refine v_iconst d_M_cannotBe_80 (by decide) ?_
      refine v_ixor d_M_cannotBe_81 ?_
      refine v_iand d_M_cannotBe_82 ?_
      refine v_join0 (pj := 111) (lj := [(0, xA a0), (1, xI v1), (2, xI v2), (4, xI v4), (5, xI v5)]) (sj := []) (fun M => ?_) (fun j111 hj111 => ?_)
      · refine v_iinc (lz := fun z => [(5, xI z), (0, xA a0), (1, xI v1), (2, xI v2), (4, xI v4)]) d_M_cannotBe_111 4 rfl (Nat.le_of_ble_eq_true rfl) (fun _ => rfl) (fun v5_111 => ?_)
        refine v_goto d_M_cannotBe_114 ?_
        refine v_sub (ls' := [(0, xA a0), (1, xI v1), (2, xI v2), (4, xI v4), (5, xI v5_111)]) [1, 2, 3, 4, 0] rfl ?_
        exact ih v5_111 M
      refine v_ifne d_M_cannotBe_83 ?_ ?_
      · exact hj111 M
      · refine v_aloadn d_M_cannotBe_86 rfl 0 rfl ?_
        refine v_iloadn d_M_cannotBe_87 rfl 1 rfl ?_
        refine v_iloadn d_M_cannotBe_88 rfl 2 rfl ?_
        refine v_iload d_M_cannotBe_89 4 rfl ?_
        refine v_cVi d_M_cannotBe_91 ml_M_362 (q := (RX11, TX11, 32)) rfl (c_M_isLoose l hfl a0 v1 v2 v5 M) (fun _ => rfl) (by omega) (by decide) (as := [xI v1, xI v2, xI v5]) (st1 := []) rfl rfl (Nat.le_of_ble_eq_true rfl) (fun c91 M => ?_)
        refine v_ifeq d_M_cannotBe_94 ?_ ?_
        · exact hj111 M
        · refine v_aloadn d_M_cannotBe_97 rfl 0 rfl ?_
          refine v_iloadn d_M_cannotBe_98 rfl 1 rfl ?_
          refine v_iloadn d_M_cannotBe_99 rfl 2 rfl ?_
          refine v_iload d_M_cannotBe_100 4 rfl ?_
          refine v_ior d_M_cannotBe_102 ?_
          refine v_cVi d_M_cannotBe_103 ml_M_365 (q := (RX11, TX11, 32)) rfl (hrec a0 v1 (or_ v2 v5) M) (fun _ => rfl) (by omega) (by decide) (as := [xI v1, xI (or_ v2 v5)]) (st1 := []) rfl rfl (Nat.le_of_ble_eq_true rfl) (fun c103 M => ?_)
          refine v_ifeq d_M_cannotBe_106 ?_ ?_
          · exact hj111 M
          · refine v_iconst d_M_cannotBe_109 (by decide) ?_
            exact v_zret d_M_cannotBe_110 rfl
set_option maxHeartbeats 4000000 in
set_option maxRecDepth 100000 in
theorem c_M_cannotBe (l : Launch) (hfl : l.stackTraces = false) : ∀ (d : Nat) (a0 : Nat) (v1 : Int) (v2 : Int) (M : mm_T), vm_Con l yX11_cannotBe (.code yX11_cannotBe cX11_cannotBe 6 (some .boolean)) (4 + d) ex_Z [xA a0, xI v1, xI v2] M (k_M_cannotBe d a0 v1 v2 M) := by
  intro d
  induction d with
  | zero => intro a0 v1 v2 M w r M' hk; cases hk
  | succ d ih =>
  intro a0 v1 v2 M
  refine vm_con (y := q_M_cannotBe) hfl (by decide +kernel) rfl (fun h => by cases h) (Nat.le_of_ble_eq_true rfl) rfl (fun _ _ _ => rfl) (fun r E h => by cases h) (fun w => ?_)
  show V_ l w q_M_cannotBe (4 + (d + 1)) ex_Z 0 [(0, xA a0), (1, xI v1), (2, xI v2)] [] M (k_M_cannotBe (d + 1) a0 v1 v2 M)
  unfold k_M_cannotBe
  have hrec : ∀ (a0 : Nat) (v1 : Int) (v2 : Int) (M : mm_T), vm_Con l yX11_cannotBe (.code yX11_cannotBe cX11_cannotBe 6 (some .boolean)) (4 + (d + 1) - 1) ex_Z [xA a0, xI v1, xI v2] M (k_M_cannotBe d a0 v1 v2 M) := ih
  have hd0 : 1 ≤ d + 1 := by omega
  refine v_iconst d_M_cannotBe_0 (by decide) ?_
  refine v_istoren (lz := fun z => [(3, xI z), (0, xA a0), (1, xI v1), (2, xI v2)]) d_M_cannotBe_1 rfl (Nat.le_of_ble_eq_true rfl) (fun _ => rfl) (fun v3_1 => ?_)
  refine v_iconst d_M_cannotBe_2 (by decide) ?_
  refine v_istore (lz := fun z => [(4, xI z), (3, xI v3_1), (0, xA a0), (1, xI v1), (2, xI v2)]) d_M_cannotBe_3 (Nat.le_of_ble_eq_true rfl) (fun _ => rfl) (fun v4_3 => ?_)
  refine v_sub (ls' := [(0, xA a0), (1, xI v1), (2, xI v2), (3, xI v3_1), (4, xI v4_3)]) [2, 3, 4, 1, 0] rfl ?_
  refine V_lp_M_cannotBe_5 hfl _ _ _ _ (fun v3_48 M => ?_) _ _ _ _
  · refine v_iloadn d_M_cannotBe_48 rfl 3 rfl ?_
    refine v_iconst d_M_cannotBe_49 (by decide) ?_
    refine v_icne d_M_cannotBe_50 ?_ ?_
    · refine v_aloadn d_M_cannotBe_55 rfl 0 rfl ?_
      refine v_iloadn d_M_cannotBe_56 rfl 1 rfl ?_
      refine v_cVi d_M_cannotBe_57 ml_M_359 (q := (RX11, TX11, 32)) rfl (c_M_lettersOf l hfl a0 v1 M) (fun _ => rfl) (by omega) (by decide) (as := [xI v1]) (st1 := []) rfl rfl (Nat.le_of_ble_eq_true rfl) (fun c57 M => ?_)
      refine v_iloadn d_M_cannotBe_60 rfl 2 rfl ?_
      refine v_iconst d_M_cannotBe_61 (by decide) ?_
      refine v_ixor d_M_cannotBe_62 ?_
      refine v_iand d_M_cannotBe_63 ?_
      refine v_istore (lz := fun z => [(4, xI z), (0, xA a0), (1, xI v1), (2, xI v2), (3, xI v3_48)]) d_M_cannotBe_64 (Nat.le_of_ble_eq_true rfl) (fun _ => rfl) (fun v4_64 => ?_)
      refine v_iconst d_M_cannotBe_66 (by decide) ?_
      refine v_istore (lz := fun z => [(5, xI z), (4, xI v4_64), (0, xA a0), (1, xI v1), (2, xI v2), (3, xI v3_48)]) d_M_cannotBe_67 (Nat.le_of_ble_eq_true rfl) (fun _ => rfl) (fun v5_67 => ?_)
      refine v_sub (ls' := [(0, xA a0), (1, xI v1), (2, xI v2), (4, xI v4_64), (5, xI v5_67)]) [2, 3, 4, 1, 0] rfl ?_
      refine V_lp_M_cannotBe_69 hfl _ _ _ _ _ _ (fun M => ?_) (by exact hrec) (by omega) _ _ _
      · refine v_iconst d_M_cannotBe_117 (by decide) ?_
        exact v_zret d_M_cannotBe_118 rfl
    · refine v_iconst d_M_cannotBe_53 (by decide) ?_
      exact v_zret d_M_cannotBe_54 rfl
set_option maxHeartbeats 4000000 in
set_option maxRecDepth 100000 in
theorem c_M_cannot (l : Launch) (hfl : l.stackTraces = false) (a0 : Nat) (v1 : Int) (M : mm_T) : vm_Con l yX11_cannot (.code yX11_cannot cX11_cannot 2 (some .boolean)) 13 ex_Z [xA a0, xI v1] M (k_M_cannot a0 v1 M) := by
  refine vm_con (y := q_M_cannot) hfl (by decide +kernel) rfl (fun h => by cases h) (Nat.le_of_ble_eq_true rfl) rfl (fun _ _ _ => rfl) (fun r E h => by cases h) (fun w => ?_)
  show V_ l w q_M_cannot 13 ex_Z 0 [(0, xA a0), (1, xI v1)] [] M (k_M_cannot a0 v1 M)
  unfold k_M_cannot
  refine v_aloadn d_M_cannot_0 rfl 0 rfl ?_
  refine v_iconst d_M_cannot_1 (by decide) ?_
  refine v_pI d_M_cannot_2 fl_M_3 (Or.inl rfl) rfl rfl (fun M => ?_)
  refine v_aloadn d_M_cannot_5 rfl 0 rfl ?_
  refine v_iloadn d_M_cannot_6 rfl 1 rfl ?_
  refine v_cVi d_M_cannot_7 ml_M_353 (q := (RX11, TX11, 32)) rfl (c_M_noPattern l hfl a0 v1 M) (fun _ => rfl) (by decide) (by decide) (as := [xI v1]) (st1 := []) rfl rfl (Nat.le_of_ble_eq_true rfl) (fun c7 M => ?_)
  refine v_join0 (pj := 26) (lj := []) (sj := []) (fun M => ?_) (fun j26 hj26 => ?_)
  · refine v_iconst d_M_cannot_26 (by decide) ?_
    exact v_zret d_M_cannot_27 rfl
  refine v_ifne d_M_cannot_10 ?_ ?_
  · refine v_sub (ls' := []) [] rfl ?_
    exact hj26 M
  · refine v_aloadn d_M_cannot_13 rfl 0 rfl ?_
    refine v_iloadn d_M_cannot_14 rfl 1 rfl ?_
    refine v_iconst d_M_cannot_15 (by decide) ?_
    refine v_cVi d_M_cannot_16 ml_M_365 (q := (RX11, TX11, 32)) rfl (c_M_cannotBe l hfl 8 a0 v1 0 M) (fun _ => rfl) (by decide) (by decide) (as := [xI v1, xI 0]) (st1 := []) rfl rfl (Nat.le_of_ble_eq_true rfl) (fun c16 M => ?_)
    refine v_ifeq d_M_cannot_19 ?_ ?_
    · refine v_sub (ls' := []) [] rfl ?_
      exact hj26 M
    · refine v_iconst d_M_cannot_22 (by decide) ?_
      refine v_goto d_M_cannot_23 ?_
      exact v_zret d_M_cannot_27 rfl
set_option maxHeartbeats 4000000 in
set_option maxRecDepth 100000 in
theorem V_lp_M_loose_20 {l : Launch} {w : vm_W} (hfl : l.stackTraces = false) (kx71 : Int → mm_T → Option (Int × mm_T)) (a0 : Nat) (v1 : Int) (v2 : Int) (hkx71 : ∀ (v3_e : Int) (M : mm_T), V_ l w q_M_loose 4 ex_I 71 [(2, xI v2), (3, xI v3_e)] [] M (kx71 v3_e M)) : ∀ (f : Nat) (v3 : Int) (v4 : Int) (M : mm_T), V_ l w q_M_loose 4 ex_I 20 [(0, xA a0), (1, xI v1), (2, xI v2), (3, xI v3), (4, xI v4)] [] M (lp_M_loose_20 kx71 a0 v1 v2 f v3 v4 M) := by
  intro f
  induction f with
  | zero => intros; exact V_.none
  | succ f ih =>
    intro v3 v4 M
    unfold lp_M_loose_20
    refine v_iload d_M_loose_20 4 rfl ?_
    refine v_bipush d_M_loose_22 (by decide) ?_
    refine v_icge d_M_loose_24 ?_ ?_
    · refine v_sub (ls' := [(2, xI v2), (3, xI v3)]) [2, 3] rfl ?_
      exact hkx71 v3 M
    · refine v_iload d_M_loose_27 4 rfl ?_
      refine v_aloadn d_M_loose_29 rfl 0 rfl ?_
      refine v_iloadn d_M_loose_30 rfl 1 rfl ?_
      refine v_cVi d_M_loose_31 ml_M_359 (q := (RX11, TX11, 32)) rfl (c_M_lettersOf l hfl a0 v1 M) (fun _ => rfl) (by decide) (by decide) (as := [xI v1]) (st1 := [xI v4]) rfl rfl (Nat.le_of_ble_eq_true rfl) (fun c31 M => ?_)
      refine v_iconst d_M_loose_34 (by decide) ?_
      refine v_ixor d_M_loose_35 ?_
      refine v_iand d_M_loose_36 ?_
      refine v_join1 (pj := 65) (lj := fun v3_65 => [(0, xA a0), (1, xI v1), (2, xI v2), (3, xI v3_65), (4, xI v4)]) (sj := fun v3_65 => []) (fun v3_65 M => ?_) (fun j65 hj65 => ?_)
      · refine v_iinc (lz := fun z => [(4, xI z), (0, xA a0), (1, xI v1), (2, xI v2), (3, xI v3_65)]) d_M_loose_65 4 rfl (Nat.le_of_ble_eq_true rfl) (fun _ => rfl) (fun v4_65 => ?_)
        refine v_goto d_M_loose_68 ?_
        refine v_sub (ls' := [(0, xA a0), (1, xI v1), (2, xI v2), (3, xI v3_65), (4, xI v4_65)]) [1, 2, 3, 4, 0] rfl ?_
        exact ih v3_65 v4_65 M
      refine v_ifne d_M_loose_37 ?_ ?_
      · exact hj65 v3 M
      · refine v_aloadn d_M_loose_40 rfl 0 rfl ?_
        refine v_iloadn d_M_loose_41 rfl 1 rfl ?_
        refine v_iconst d_M_loose_42 (by decide) ?_
        refine v_iload d_M_loose_43 4 rfl ?_
        refine v_cVi d_M_loose_45 ml_M_362 (q := (RX11, TX11, 32)) rfl (c_M_isLoose l hfl a0 v1 0 v4 M) (fun _ => rfl) (by decide) (by decide) (as := [xI v1, xI 0, xI v4]) (st1 := []) rfl rfl (Nat.le_of_ble_eq_true rfl) (fun c45 M => ?_)
        refine v_ifne d_M_loose_48 ?_ ?_
        · refine v_iloadn d_M_loose_54 rfl 3 rfl ?_
          refine v_iloadn d_M_loose_55 rfl 2 rfl ?_
          refine v_icne d_M_loose_56 ?_ ?_
          · refine v_iinc (lz := fun z => [(3, xI z), (0, xA a0), (1, xI v1), (2, xI v2), (4, xI v4)]) d_M_loose_62 3 rfl (Nat.le_of_ble_eq_true rfl) (fun _ => rfl) (fun v3_62 => ?_)
            refine v_sub (ls' := [(0, xA a0), (1, xI v1), (2, xI v2), (3, xI v3_62), (4, xI v4)]) [1, 2, 3, 0, 4] rfl ?_
            exact hj65 v3_62 M
          · refine v_iload d_M_loose_59 4 rfl ?_
            exact v_ret d_M_loose_61 rfl
        · refine v_goto d_M_loose_51 ?_
          exact hj65 v3 M
set_option maxHeartbeats 4000000 in
set_option maxRecDepth 100000 in
theorem c_M_loose (l : Launch) (hfl : l.stackTraces = false) (a0 : Nat) (v1 : Int) (v2 : Int) (M : mm_T) : vm_Con l yX11_loose (.code yX11_loose cX11_loose 5 (some .int)) 4 ex_I [xA a0, xI v1, xI v2] M (k_M_loose a0 v1 v2 M) := by
  refine vm_con (y := q_M_loose) hfl (by decide +kernel) rfl (fun h => by cases h) (Nat.le_of_ble_eq_true rfl) rfl (fun _ _ _ => rfl) (fun r E h => by cases h) (fun w => ?_)
  show V_ l w q_M_loose 4 ex_I 0 [(0, xA a0), (1, xI v1), (2, xI v2)] [] M (k_M_loose a0 v1 v2 M)
  unfold k_M_loose
  refine v_aloadn d_M_loose_0 rfl 0 rfl ?_
  refine v_iconst d_M_loose_1 (by decide) ?_
  refine v_pI d_M_loose_2 fl_M_3 (Or.inl rfl) rfl rfl (fun M => ?_)
  refine v_aloadn d_M_loose_5 rfl 0 rfl ?_
  refine v_iloadn d_M_loose_6 rfl 1 rfl ?_
  refine v_cVi d_M_loose_7 ml_M_353 (q := (RX11, TX11, 32)) rfl (c_M_noPattern l hfl a0 v1 M) (fun _ => rfl) (by decide) (by decide) (as := [xI v1]) (st1 := []) rfl rfl (Nat.le_of_ble_eq_true rfl) (fun c7 M => ?_)
  refine v_ifeq d_M_loose_10 ?_ ?_
  · refine v_iconst d_M_loose_15 (by decide) ?_
    refine v_istoren (lz := fun z => [(3, xI z), (0, xA a0), (1, xI v1), (2, xI v2)]) d_M_loose_16 rfl (Nat.le_of_ble_eq_true rfl) (fun _ => rfl) (fun v3_16 => ?_)
    refine v_iconst d_M_loose_17 (by decide) ?_
    refine v_istore (lz := fun z => [(4, xI z), (3, xI v3_16), (0, xA a0), (1, xI v1), (2, xI v2)]) d_M_loose_18 (Nat.le_of_ble_eq_true rfl) (fun _ => rfl) (fun v4_18 => ?_)
    refine v_sub (ls' := [(0, xA a0), (1, xI v1), (2, xI v2), (3, xI v3_16), (4, xI v4_18)]) [2, 3, 4, 1, 0] rfl ?_
    refine V_lp_M_loose_20 hfl _ _ _ _ (fun v3_71 M => ?_) _ _ _ _
    · refine v_iloadn d_M_loose_71 rfl 0 rfl ?_
      refine v_iconst d_M_loose_72 (by decide) ?_
      refine v_icne d_M_loose_73 ?_ ?_
      · refine v_iconst d_M_loose_80 (by decide) ?_
        exact v_ret d_M_loose_81 rfl
      · refine v_iloadn d_M_loose_76 rfl 1 rfl ?_
        refine v_goto d_M_loose_77 ?_
        exact v_ret d_M_loose_81 rfl
  · refine v_iconst d_M_loose_13 (by decide) ?_
    exact v_ret d_M_loose_14 rfl
set_option maxHeartbeats 4000000 in
set_option maxRecDepth 100000 in
theorem c_M_pattern (l : Launch) (hfl : l.stackTraces = false) (a0 : Nat) (v1 : Int) (v2 : Int) (M : mm_T) : vm_Con l yX11_pattern (.code yX11_pattern cX11_pattern 3 (some .int)) 4 ex_I [xA a0, xI v1, xI v2] M (k_M_pattern a0 v1 v2 M) := by
  refine vm_con (y := q_M_pattern) hfl (by decide +kernel) rfl (fun h => by cases h) (Nat.le_of_ble_eq_true rfl) rfl (fun _ _ _ => rfl) (fun r E h => by cases h) (fun w => ?_)
  show V_ l w q_M_pattern 4 ex_I 0 [(0, xA a0), (1, xI v1), (2, xI v2)] [] M (k_M_pattern a0 v1 v2 M)
  unfold k_M_pattern
  refine v_aloadn d_M_pattern_0 rfl 0 rfl ?_
  refine v_iconst d_M_pattern_1 (by decide) ?_
  refine v_pI d_M_pattern_2 fl_M_3 (Or.inl rfl) rfl rfl (fun M => ?_)
  refine v_aloadn d_M_pattern_5 rfl 0 rfl ?_
  refine v_iloadn d_M_pattern_6 rfl 1 rfl ?_
  refine v_cVi d_M_pattern_7 ml_M_353 (q := (RX11, TX11, 32)) rfl (c_M_noPattern l hfl a0 v1 M) (fun _ => rfl) (by decide) (by decide) (as := [xI v1]) (st1 := []) rfl rfl (Nat.le_of_ble_eq_true rfl) (fun c7 M => ?_)
  refine v_ifne d_M_pattern_10 ?_ ?_
  · refine v_iconst d_M_pattern_35 (by decide) ?_
    exact v_ret d_M_pattern_36 rfl
  · refine v_aloadn d_M_pattern_13 rfl 0 rfl ?_
    refine v_iloadn d_M_pattern_14 rfl 2 rfl ?_
    refine v_iconst d_M_pattern_15 (by decide) ?_
    refine v_iconst d_M_pattern_16 (by decide) ?_
    refine v_cSi d_M_pattern_17 ml_M_65 (c_M_in l hfl v2 0 2 M) (fun _ => rfl) (by decide) (by decide) (as := [xI v2, xI 0, xI 2]) (st1 := [xA a0]) rfl rfl (Nat.le_of_ble_eq_true rfl) (fun c17 M => ?_)
    refine v_join2 (pj := 28) (lj := fun sa0_28 s1_28 => [(0, xA a0), (1, xI v1), (2, xI v2)]) (sj := fun sa0_28 s1_28 => [xI s1_28, xA sa0_28]) (fun sa0_28 s1_28 M => ?_) (fun j28 hj28 => ?_)
    · refine v_iconst d_M_pattern_28 (by decide) ?_
      refine v_cVi d_M_pattern_29 ml_M_180 (q := (RX11, TX11, 32)) rfl (c_M_throwsIf l hfl sa0_28 s1_28 2 M) (fun _ => rfl) (by decide) (by decide) (as := [xI s1_28, xI 2]) (st1 := []) rfl rfl (Nat.le_of_ble_eq_true rfl) (fun c29 M => ?_)
      refine v_ifeq d_M_pattern_32 ?_ ?_
      · refine v_iloadn d_M_pattern_37 rfl 2 rfl ?_
        refine v_ifne d_M_pattern_38 ?_ ?_
        · refine v_iloadn d_M_pattern_54 rfl 2 rfl ?_
          refine v_iconst d_M_pattern_55 (by decide) ?_
          refine v_icne d_M_pattern_56 ?_ ?_
          · refine v_aloadn d_M_pattern_67 rfl 0 rfl ?_
            refine v_gR d_M_pattern_68 fl_M_77 rfl (fun r68 => ?_)
            refine v_sipush d_M_pattern_71 (by decide) ?_
            refine v_iloadn d_M_pattern_74 rfl 1 rfl ?_
            refine v_iadd d_M_pattern_75 (fun x75 => ?_)
            refine v_iald d_M_pattern_76 (fun x76 => ?_)
            exact v_ret d_M_pattern_77 rfl
          · refine v_aloadn d_M_pattern_59 rfl 0 rfl ?_
            refine v_iloadn d_M_pattern_60 rfl 1 rfl ?_
            refine v_cVi d_M_pattern_61 ml_M_359 (q := (RX11, TX11, 32)) rfl (c_M_lettersOf l hfl a0 v1 M) (fun _ => rfl) (by decide) (by decide) (as := [xI v1]) (st1 := []) rfl rfl (Nat.le_of_ble_eq_true rfl) (fun c61 M => ?_)
            refine v_goto d_M_pattern_64 ?_
            exact v_ret d_M_pattern_77 rfl
        · refine v_aloadn d_M_pattern_41 rfl 0 rfl ?_
          refine v_gR d_M_pattern_42 fl_M_77 rfl (fun r42 => ?_)
          refine v_sipush d_M_pattern_45 (by decide) ?_
          refine v_iloadn d_M_pattern_48 rfl 1 rfl ?_
          refine v_iadd d_M_pattern_49 (fun x49 => ?_)
          refine v_iald d_M_pattern_50 (fun x50 => ?_)
          refine v_goto d_M_pattern_51 ?_
          exact v_ret d_M_pattern_77 rfl
      · refine v_iconst d_M_pattern_35 (by decide) ?_
        exact v_ret d_M_pattern_36 rfl
    refine v_ifne d_M_pattern_20 ?_ ?_
    · refine v_iconst d_M_pattern_27 (by decide) ?_
      exact hj28 a0 0 M
    · refine v_iconst d_M_pattern_23 (by decide) ?_
      refine v_goto d_M_pattern_24 ?_
      exact hj28 a0 1 M
set_option maxHeartbeats 4000000 in
set_option maxRecDepth 100000 in
theorem c_M_limit (l : Launch) (hfl : l.stackTraces = false) (a0 : Nat) (v1 : Int) (v2 : Int) (v3 : Int) (M : mm_T) : vm_Con l yX11_limit (.code yX11_limit cX11_limit 5 (some .int)) 2 ex_I [xA a0, xI v1, xI v2, xI v3] M (k_M_limit a0 v1 v2 v3 M) := by
  refine vm_con (y := q_M_limit) hfl (by decide +kernel) rfl (fun h => by cases h) (Nat.le_of_ble_eq_true rfl) rfl (fun _ _ _ => rfl) (fun r E h => by cases h) (fun w => ?_)
  show V_ l w q_M_limit 2 ex_I 0 [(0, xA a0), (1, xI v1), (2, xI v2), (3, xI v3)] [] M (k_M_limit a0 v1 v2 v3 M)
  unfold k_M_limit
  refine v_aloadn d_M_limit_0 rfl 0 rfl ?_
  refine v_iconst d_M_limit_1 (by decide) ?_
  refine v_pI d_M_limit_2 fl_M_3 (Or.inl rfl) rfl rfl (fun M => ?_)
  refine v_aloadn d_M_limit_5 rfl 0 rfl ?_
  refine v_iloadn d_M_limit_6 rfl 1 rfl ?_
  refine v_iconst d_M_limit_7 (by decide) ?_
  refine v_iconst d_M_limit_8 (by decide) ?_
  refine v_cSi d_M_limit_9 ml_M_65 (c_M_in l hfl v1 0 2 M) (fun _ => rfl) (by decide) (by decide) (as := [xI v1, xI 0, xI 2]) (st1 := [xA a0]) rfl rfl (Nat.le_of_ble_eq_true rfl) (fun c9 M => ?_)
  refine v_join2 (pj := 40) (lj := fun sa0_40 s1_40 => [(0, xA a0), (1, xI v1), (2, xI v2), (3, xI v3)]) (sj := fun sa0_40 s1_40 => [xI s1_40, xA sa0_40]) (fun sa0_40 s1_40 M => ?_) (fun j40 hj40 => ?_)
  · refine v_iconst d_M_limit_40 (by decide) ?_
    refine v_cVi d_M_limit_41 ml_M_180 (q := (RX11, TX11, 32)) rfl (c_M_throwsIf l hfl sa0_40 s1_40 1 M) (fun _ => rfl) (by decide) (by decide) (as := [xI s1_40, xI 1]) (st1 := []) rfl rfl (Nat.le_of_ble_eq_true rfl) (fun c41 M => ?_)
    refine v_ifeq d_M_limit_44 ?_ ?_
    · refine v_aloadn d_M_limit_49 rfl 0 rfl ?_
      refine v_gR d_M_limit_50 fl_M_77 rfl (fun r50 => ?_)
      refine v_iconst d_M_limit_53 (by decide) ?_
      refine v_iald d_M_limit_54 (fun x54 => ?_)
      refine v_istore (lz := fun z => [(4, xI z), (0, xA a0), (1, xI v1), (2, xI v2), (3, xI v3)]) d_M_limit_55 (Nat.le_of_ble_eq_true rfl) (fun _ => rfl) (fun v4_55 => ?_)
      refine v_aloadn d_M_limit_57 rfl 1 rfl ?_
      refine v_gR d_M_limit_58 fl_M_77 rfl (fun r58 => ?_)
      refine v_iconst d_M_limit_61 (by decide) ?_
      refine v_iloadn d_M_limit_62 rfl 2 rfl ?_
      refine v_iast d_M_limit_63 (fun M => ?_)
      refine v_aloadn d_M_limit_64 rfl 1 rfl ?_
      refine v_gR d_M_limit_65 fl_M_77 rfl (fun r65 => ?_)
      refine v_iconst d_M_limit_68 (by decide) ?_
      refine v_iloadn d_M_limit_69 rfl 2 rfl ?_
      refine v_join3 (pj := 78) (lj := fun sa0_78 s1_78 s2_78 => [(0, xA a0), (1, xI v1), (3, xI v3), (4, xI v4_55)]) (sj := fun sa0_78 s1_78 s2_78 => [xI s2_78, xI s1_78, xA sa0_78]) (fun sa0_78 s1_78 s2_78 M => ?_) (fun j78 hj78 => ?_)
      · refine v_iast d_M_limit_78 (fun M => ?_)
        refine v_aloadn d_M_limit_79 rfl 0 rfl ?_
        refine v_gR d_M_limit_80 fl_M_77 rfl (fun r80 => ?_)
        refine v_iconst d_M_limit_83 (by decide) ?_
        refine v_iloadn d_M_limit_84 rfl 1 rfl ?_
        refine v_join3 (pj := 93) (lj := fun sa0_93 s1_93 s2_93 => [(4, xI v4_55)]) (sj := fun sa0_93 s1_93 s2_93 => [xI s2_93, xI s1_93, xA sa0_93]) (fun sa0_93 s1_93 s2_93 M => ?_) (fun j93 hj93 => ?_)
        · refine v_iast d_M_limit_93 (fun M => ?_)
          refine v_iload d_M_limit_94 0 rfl ?_
          exact v_ret d_M_limit_96 rfl
        refine v_ifne d_M_limit_85 ?_ ?_
        · refine v_iloadn d_M_limit_92 rfl 2 rfl ?_
          refine v_sub (ls' := [(4, xI v4_55)]) [3] rfl ?_
          exact hj93 r80 3 v3 M
        · refine v_iconst d_M_limit_88 (by decide) ?_
          refine v_goto d_M_limit_89 ?_
          refine v_sub (ls' := [(4, xI v4_55)]) [3] rfl ?_
          exact hj93 r80 3 0 M
      refine v_ifne d_M_limit_70 ?_ ?_
      · refine v_iloadn d_M_limit_77 rfl 3 rfl ?_
        refine v_sub (ls' := [(0, xA a0), (1, xI v1), (3, xI v3), (4, xI v4_55)]) [1, 2, 4, 0] rfl ?_
        exact hj78 r65 2 v2 M
      · refine v_iconst d_M_limit_73 (by decide) ?_
        refine v_goto d_M_limit_74 ?_
        refine v_sub (ls' := [(0, xA a0), (1, xI v1), (3, xI v3), (4, xI v4_55)]) [1, 2, 4, 0] rfl ?_
        exact hj78 r65 2 0 M
    · refine v_iconst d_M_limit_47 (by decide) ?_
      exact v_ret d_M_limit_48 rfl
  refine v_join1 (pj := 35) (lj := fun sa0_35 => [(0, xA a0), (1, xI v1), (2, xI v2), (3, xI v3)]) (sj := fun sa0_35 => [xA sa0_35]) (fun sa0_35 M => ?_) (fun j35 hj35 => ?_)
  · refine v_iconst d_M_limit_35 (by decide) ?_
    refine v_goto d_M_limit_36 ?_
    exact hj40 sa0_35 1 M
  refine v_ifeq d_M_limit_12 ?_ ?_
  · exact hj35 a0 M
  · refine v_iloadn d_M_limit_15 rfl 2 rfl ?_
    refine v_iconst d_M_limit_16 (by decide) ?_
    refine v_bipush d_M_limit_17 (by decide) ?_
    refine v_cSi d_M_limit_19 ml_M_65 (c_M_in l hfl v2 1 99 M) (fun _ => rfl) (by decide) (by decide) (as := [xI v2, xI 1, xI 99]) (st1 := [xA a0]) rfl rfl (Nat.le_of_ble_eq_true rfl) (fun c19 M => ?_)
    refine v_ifeq d_M_limit_22 ?_ ?_
    · exact hj35 a0 M
    · refine v_iloadn d_M_limit_25 rfl 3 rfl ?_
      refine v_iconst d_M_limit_26 (by decide) ?_
      refine v_bipush d_M_limit_27 (by decide) ?_
      refine v_cSi d_M_limit_29 ml_M_65 (c_M_in l hfl v3 1 9 M) (fun _ => rfl) (by decide) (by decide) (as := [xI v3, xI 1, xI 9]) (st1 := [xA a0]) rfl rfl (Nat.le_of_ble_eq_true rfl) (fun c29 M => ?_)
      refine v_ifne d_M_limit_32 ?_ ?_
      · refine v_iconst d_M_limit_39 (by decide) ?_
        exact hj40 a0 0 M
      · exact hj35 a0 M
set_option maxHeartbeats 4000000 in
set_option maxRecDepth 100000 in
theorem c_M_avoid (l : Launch) (hfl : l.stackTraces = false) (a0 : Nat) (v1 : Int) (v2 : Int) (M : mm_T) : vm_Con l yX11_avoid (.code yX11_avoid cX11_avoid 4 (some .boolean)) 3 ex_Z [xA a0, xI v1, xI v2] M (k_M_avoid a0 v1 v2 M) := by
  refine vm_con (y := q_M_avoid) hfl (by decide +kernel) rfl (fun h => by cases h) (Nat.le_of_ble_eq_true rfl) rfl (fun _ _ _ => rfl) (fun r E h => by cases h) (fun w => ?_)
  show V_ l w q_M_avoid 3 ex_Z 0 [(0, xA a0), (1, xI v1), (2, xI v2)] [] M (k_M_avoid a0 v1 v2 M)
  unfold k_M_avoid
  refine v_aloadn d_M_avoid_0 rfl 0 rfl ?_
  refine v_iconst d_M_avoid_1 (by decide) ?_
  refine v_pI d_M_avoid_2 fl_M_3 (Or.inl rfl) rfl rfl (fun M => ?_)
  refine v_aloadn d_M_avoid_5 rfl 0 rfl ?_
  refine v_iloadn d_M_avoid_6 rfl 1 rfl ?_
  refine v_cVi d_M_avoid_7 ml_M_353 (q := (RX11, TX11, 32)) rfl (c_M_noPattern l hfl a0 v1 M) (fun _ => rfl) (by decide) (by decide) (as := [xI v1]) (st1 := []) rfl rfl (Nat.le_of_ble_eq_true rfl) (fun c7 M => ?_)
  refine v_ifeq d_M_avoid_10 ?_ ?_
  · refine v_aloadn d_M_avoid_15 rfl 0 rfl ?_
    refine v_gR d_M_avoid_16 fl_M_77 rfl (fun r16 => ?_)
    refine v_sipush d_M_avoid_19 (by decide) ?_
    refine v_iloadn d_M_avoid_22 rfl 1 rfl ?_
    refine v_iadd d_M_avoid_23 (fun x23 => ?_)
    refine v_iald d_M_avoid_24 (fun x24 => ?_)
    refine v_iconst d_M_avoid_25 (by decide) ?_
    refine v_join1 (pj := 34) (lj := fun s0_34 => [(0, xA a0), (1, xI v1), (2, xI v2)]) (sj := fun s0_34 => [xI s0_34]) (fun s0_34 M => ?_) (fun j34 hj34 => ?_)
    · refine v_istoren (lz := fun z => [(3, xI z), (0, xA a0), (1, xI v1), (2, xI v2)]) d_M_avoid_34 rfl (Nat.le_of_ble_eq_true rfl) (fun _ => rfl) (fun v3_34 => ?_)
      refine v_aloadn d_M_avoid_35 rfl 1 rfl ?_
      refine v_gR d_M_avoid_36 fl_M_77 rfl (fun r36 => ?_)
      refine v_sipush d_M_avoid_39 (by decide) ?_
      refine v_iloadn d_M_avoid_42 rfl 2 rfl ?_
      refine v_iadd d_M_avoid_43 (fun x43 => ?_)
      refine v_iloadn d_M_avoid_44 rfl 3 rfl ?_
      refine v_join3 (pj := 53) (lj := fun sa0_53 s1_53 s2_53 => [(3, xI v3_34)]) (sj := fun sa0_53 s1_53 s2_53 => [xI s2_53, xI s1_53, xA sa0_53]) (fun sa0_53 s1_53 s2_53 M => ?_) (fun j53 hj53 => ?_)
      · refine v_iast d_M_avoid_53 (fun M => ?_)
        refine v_iloadn d_M_avoid_54 rfl 0 rfl ?_
        exact v_zret d_M_avoid_55 rfl
      refine v_ifeq d_M_avoid_45 ?_ ?_
      · refine v_iconst d_M_avoid_52 (by decide) ?_
        refine v_sub (ls' := [(3, xI v3_34)]) [0] rfl ?_
        exact hj53 r36 x43 0 M
      · refine v_iconst d_M_avoid_48 (by decide) ?_
        refine v_goto d_M_avoid_49 ?_
        refine v_sub (ls' := [(3, xI v3_34)]) [0] rfl ?_
        exact hj53 r36 x43 1 M
    refine v_icne d_M_avoid_26 ?_ ?_
    · refine v_iconst d_M_avoid_33 (by decide) ?_
      exact hj34 0 M
    · refine v_iconst d_M_avoid_29 (by decide) ?_
      refine v_goto d_M_avoid_30 ?_
      exact hj34 1 M
  · refine v_iconst d_M_avoid_13 (by decide) ?_
    exact v_zret d_M_avoid_14 rfl
set_option maxHeartbeats 4000000 in
set_option maxRecDepth 100000 in
theorem V_lp_M_count_9 {l : Launch} {w : vm_W} (hfl : l.stackTraces = false) (kx38 : Int → mm_T → Option (Int × mm_T)) (a0 : Nat) {v1 : Int} (hkx38 : ∀ (v2_e : Int) (M : mm_T), V_ l w q_M_count 1 ex_I 38 [(0, xA a0), (1, xI v1), (2, xI v2_e)] [] M (kx38 v2_e M)) : ∀ (f : Nat) (v2 : Int) (v3 : Int) (M : mm_T), V_ l w q_M_count 1 ex_I 9 [(0, xA a0), (1, xI v1), (2, xI v2), (3, xI v3)] [] M (lp_M_count_9 kx38 a0 f v2 v3 M) := by
  intro f
  induction f with
  | zero => intros; exact V_.none
  | succ f ih =>
    intro v2 v3 M
    unfold lp_M_count_9
    refine v_iloadn d_M_count_9 rfl 3 rfl ?_
    refine v_aloadn d_M_count_10 rfl 0 rfl ?_
    refine v_gR d_M_count_11 fl_M_77 rfl (fun r11 => ?_)
    refine v_iconst d_M_count_14 (by decide) ?_
    refine v_iald d_M_count_15 (fun x15 => ?_)
    refine v_icge d_M_count_16 ?_ ?_
    · refine v_sub (ls' := [(0, xA a0), (1, xI v1), (2, xI v2)]) [0, 1, 2] rfl ?_
      exact hkx38 v2 M
    · refine v_iloadn d_M_count_19 rfl 2 rfl ?_
      refine v_aloadn d_M_count_20 rfl 0 rfl ?_
      refine v_gR d_M_count_21 fl_M_77 rfl (fun r21 => ?_)
      refine v_sipush d_M_count_24 (by decide) ?_
      refine v_iloadn d_M_count_27 rfl 3 rfl ?_
      refine v_iadd d_M_count_28 (fun x28 => ?_)
      refine v_iald d_M_count_29 (fun x29 => ?_)
      refine v_iadd d_M_count_30 (fun x30 => ?_)
      refine v_istoren (lz := fun z => [(2, xI z), (0, xA a0), (1, xI v1), (3, xI v3)]) d_M_count_31 rfl (Nat.le_of_ble_eq_true rfl) (fun _ => rfl) (fun v2_31 => ?_)
      refine v_iinc (lz := fun z => [(3, xI z), (2, xI v2_31), (0, xA a0), (1, xI v1)]) d_M_count_32 3 rfl (Nat.le_of_ble_eq_true rfl) (fun _ => rfl) (fun v3_32 => ?_)
      refine v_goto d_M_count_35 ?_
      refine v_sub (ls' := [(0, xA a0), (1, xI v1), (2, xI v2_31), (3, xI v3_32)]) [2, 3, 1, 0] rfl ?_
      exact ih v2_31 v3_32 M
set_option maxHeartbeats 4000000 in
set_option maxRecDepth 100000 in
theorem c_M_count (l : Launch) (hfl : l.stackTraces = false) (a0 : Nat) (v1 : Int) (M : mm_T) : vm_Con l yX11_count (.code yX11_count cX11_count 4 (some .int)) 1 ex_I [xA a0, xI v1] M (k_M_count a0 v1 M) := by
  refine vm_con (y := q_M_count) hfl (by decide +kernel) rfl (fun h => by cases h) (Nat.le_of_ble_eq_true rfl) rfl (fun _ _ _ => rfl) (fun r E h => by cases h) (fun w => ?_)
  show V_ l w q_M_count 1 ex_I 0 [(0, xA a0), (1, xI v1)] [] M (k_M_count a0 v1 M)
  unfold k_M_count
  refine v_aloadn d_M_count_0 rfl 0 rfl ?_
  refine v_iconst d_M_count_1 (by decide) ?_
  refine v_pI d_M_count_2 fl_M_3 (Or.inl rfl) rfl rfl (fun M => ?_)
  refine v_iconst d_M_count_5 (by decide) ?_
  refine v_istoren (lz := fun z => [(2, xI z), (0, xA a0), (1, xI v1)]) d_M_count_6 rfl (Nat.le_of_ble_eq_true rfl) (fun _ => rfl) (fun v2_6 => ?_)
  refine v_iconst d_M_count_7 (by decide) ?_
  refine v_istoren (lz := fun z => [(3, xI z), (2, xI v2_6), (0, xA a0), (1, xI v1)]) d_M_count_8 rfl (Nat.le_of_ble_eq_true rfl) (fun _ => rfl) (fun v3_8 => ?_)
  refine v_sub (ls' := [(0, xA a0), (1, xI v1), (2, xI v2_6), (3, xI v3_8)]) [2, 3, 1, 0] rfl ?_
  refine V_lp_M_count_9 hfl _ _ (fun v2_38 M => ?_) _ _ _ _
  · refine v_iloadn d_M_count_38 rfl 1 rfl ?_
    refine v_sw (n := 9) (tg := fun i => ([88, 95, 102, 109, 111, 116, 121, 128, 135] : List Nat).getD i 0) (dt := 142) d_M_count_39 rfl rfl d_M_count_39_o (fun i hi => ?_) ?_
    · match i, hi with
      | 0, _ =>
        show V_ l w q_M_count 1 ex_I 88 [(0, xA a0), (1, xI v1), (2, xI v2_38)] [] M _
        refine v_aloadn d_M_count_88 rfl 0 rfl ?_
        refine v_gR d_M_count_89 fl_M_77 rfl (fun r89 => ?_)
        refine v_iconst d_M_count_92 (by decide) ?_
        refine v_iald d_M_count_93 (fun x93 => ?_)
        exact v_ret d_M_count_94 rfl
      | 1, _ =>
        show V_ l w q_M_count 1 ex_I 95 [(0, xA a0), (1, xI v1), (2, xI v2_38)] [] M _
        refine v_aloadn d_M_count_95 rfl 0 rfl ?_
        refine v_gR d_M_count_96 fl_M_77 rfl (fun r96 => ?_)
        refine v_iconst d_M_count_99 (by decide) ?_
        refine v_iald d_M_count_100 (fun x100 => ?_)
        exact v_ret d_M_count_101 rfl
      | 2, _ =>
        show V_ l w q_M_count 1 ex_I 102 [(0, xA a0), (1, xI v1), (2, xI v2_38)] [] M _
        refine v_aloadn d_M_count_102 rfl 0 rfl ?_
        refine v_gR d_M_count_103 fl_M_77 rfl (fun r103 => ?_)
        refine v_iconst d_M_count_106 (by decide) ?_
        refine v_iald d_M_count_107 (fun x107 => ?_)
        exact v_ret d_M_count_108 rfl
      | 3, _ =>
        show V_ l w q_M_count 1 ex_I 109 [(0, xA a0), (1, xI v1), (2, xI v2_38)] [] M _
        refine v_iloadn d_M_count_109 rfl 2 rfl ?_
        exact v_ret d_M_count_110 rfl
      | 4, _ =>
        show V_ l w q_M_count 1 ex_I 111 [(0, xA a0), (1, xI v1), (2, xI v2_38)] [] M _
        refine v_aloadn d_M_count_111 rfl 0 rfl ?_
        refine v_gI d_M_count_112 fl_M_184 rfl (fun x112 => ?_)
        exact v_ret d_M_count_115 rfl
      | 5, _ =>
        show V_ l w q_M_count 1 ex_I 116 [(0, xA a0), (1, xI v1), (2, xI v2_38)] [] M _
        refine v_aloadn d_M_count_116 rfl 0 rfl ?_
        refine v_gI d_M_count_117 fl_M_187 rfl (fun x117 => ?_)
        exact v_ret d_M_count_120 rfl
      | 6, _ =>
        show V_ l w q_M_count 1 ex_I 121 [(0, xA a0), (1, xI v1), (2, xI v2_38)] [] M _
        refine v_aloadn d_M_count_121 rfl 0 rfl ?_
        refine v_gR d_M_count_122 fl_M_77 rfl (fun r122 => ?_)
        refine v_iconst d_M_count_125 (by decide) ?_
        refine v_iald d_M_count_126 (fun x126 => ?_)
        exact v_ret d_M_count_127 rfl
      | 7, _ =>
        show V_ l w q_M_count 1 ex_I 128 [(0, xA a0), (1, xI v1), (2, xI v2_38)] [] M _
        refine v_aloadn d_M_count_128 rfl 0 rfl ?_
        refine v_gR d_M_count_129 fl_M_77 rfl (fun r129 => ?_)
        refine v_iconst d_M_count_132 (by decide) ?_
        refine v_iald d_M_count_133 (fun x133 => ?_)
        exact v_ret d_M_count_134 rfl
      | 8, _ =>
        show V_ l w q_M_count 1 ex_I 135 [(0, xA a0), (1, xI v1), (2, xI v2_38)] [] M _
        refine v_aloadn d_M_count_135 rfl 0 rfl ?_
        refine v_gR d_M_count_136 fl_M_77 rfl (fun r136 => ?_)
        refine v_iconst d_M_count_139 (by decide) ?_
        refine v_iald d_M_count_140 (fun x140 => ?_)
        exact v_ret d_M_count_141 rfl
      | i + 9, hi => exact absurd hi (by omega)
    · refine v_iconst d_M_count_142 (by decide) ?_
      exact v_ret d_M_count_143 rfl
