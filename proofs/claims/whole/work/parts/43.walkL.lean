set_option maxHeartbeats 4000000 in
set_option maxRecDepth 100000 in
theorem c_L_read (l : Launch) (hfl : l.stackTraces = false) (a0 : Nat) (a1 : Nat) (M : mm_T) : vm_Con l yL_read (.codeWith yL_read cL_read 3 (some .int) [(0, 8, 11, 13)]) 13 ex_I [xA a0, xA a1] M (k_L_read a0 a1 M) := by
  refine vm_conW (y := q_L_read) hfl (by decide +kernel) rfl (fun h => by cases h) (Nat.le_of_ble_eq_true rfl) _ rfl (fun _ _ _ => rfl) (fun r E h => by cases h) (fun w => ?_)
  show V_ l w q_L_read 13 ex_I 0 [(0, xA a0), (1, xA a1)] [] M (k_L_read a0 a1 M)
  unfold k_L_read
  refine v_aloadn d_L_read_0 rfl 1 rfl ?_
  refine v_iconst d_L_read_1 (by decide) ?_
  refine v_aloadn d_L_read_2 rfl 0 rfl ?_
  refine v_xW d_L_read_3 ml_L_7 (q := (RX10, TX10, 10)) rfl (c_X_read l hfl a0 M) (fun _ => rfl) (by decide) (by decide) (as := []) (st1 := [xI 0, xA a1]) rfl rfl (Nat.le_of_ble_eq_true rfl) (sr := fun r => [xI r]) (fun E M => ?_) (fun c3 M => ?_)
  · by_cases h1 : E = 1
    · subst h1
      right; refine ⟨11, 2, 12, [(0, xA a0), (1, xA a1)], ⟨[], ⟨0, 8, 11, 13⟩, [], rfl, (fun z hz => (by cases hz)), by decide, by decide, ⟨"java/lang/IllegalArgumentException", gw_641, gw_833⟩, rfl⟩, Or.inl ⟨2, rfl, d_L_read_11.1, rfl⟩, Nat.le_of_ble_eq_true rfl, rfl, ?_⟩
      show V_ l w q_L_read 13 ex_I 12 [(0, xA a0), (1, xA a1)] [] M _
      rw [if_pos rfl]
      refine v_iconst d_L_read_12 (by decide) ?_
      exact v_ret d_L_read_13 rfl
    left
    rw [if_neg h1]
  show V_ l w q_L_read 13 ex_I 6 [(0, xA a0), (1, xA a1)] [xI c3, xI 0, xA a1] M _
  refine v_i2l d_L_read_6 ?_
  refine v_last d_L_read_7 (fun M => ?_)
  refine v_goto d_L_read_8 ?_
  refine v_iconst d_L_read_14 (by decide) ?_
  exact v_ret d_L_read_15 rfl
set_option maxHeartbeats 4000000 in
set_option maxRecDepth 100000 in
theorem c_L_word (l : Launch) (hfl : l.stackTraces = false) (a0 : Nat) (a1 : Nat) (M : mm_T) : vm_Con l yL_word (.codeWith yL_word cL_word 3 (some .int) [(0, 8, 11, 13)]) 7 ex_I [xA a0, xA a1] M (k_L_word a0 a1 M) := by
  refine vm_conW (y := q_L_word) hfl (by decide +kernel) rfl (fun h => by cases h) (Nat.le_of_ble_eq_true rfl) _ rfl (fun _ _ _ => rfl) (fun r E h => by cases h) (fun w => ?_)
  show V_ l w q_L_word 7 ex_I 0 [(0, xA a0), (1, xA a1)] [] M (k_L_word a0 a1 M)
  unfold k_L_word
  refine v_aloadn d_L_word_0 rfl 1 rfl ?_
  refine v_iconst d_L_word_1 (by decide) ?_
  refine v_aloadn d_L_word_2 rfl 0 rfl ?_
  refine v_xW d_L_word_3 ml_L_15 (q := (RX10, TX10, 10)) rfl (c_X_word l hfl a0 M) (fun _ => rfl) (by decide) (by decide) (as := []) (st1 := [xI 0, xA a1]) rfl rfl (Nat.le_of_ble_eq_true rfl) (sr := fun r => [xI r]) (fun E M => ?_) (fun c3 M => ?_)
  · by_cases h1 : E = 1
    · subst h1
      right; refine ⟨11, 2, 12, [(0, xA a0), (1, xA a1)], ⟨[], ⟨0, 8, 11, 13⟩, [], rfl, (fun z hz => (by cases hz)), by decide, by decide, ⟨"java/lang/IllegalArgumentException", gw_641, gw_833⟩, rfl⟩, Or.inl ⟨2, rfl, d_L_word_11.1, rfl⟩, Nat.le_of_ble_eq_true rfl, rfl, ?_⟩
      show V_ l w q_L_word 7 ex_I 12 [(0, xA a0), (1, xA a1)] [] M _
      rw [if_pos rfl]
      refine v_iconst d_L_word_12 (by decide) ?_
      exact v_ret d_L_word_13 rfl
    left
    rw [if_neg h1]
  show V_ l w q_L_word 7 ex_I 6 [(0, xA a0), (1, xA a1)] [xI c3, xI 0, xA a1] M _
  refine v_i2l d_L_word_6 ?_
  refine v_last d_L_word_7 (fun M => ?_)
  refine v_goto d_L_word_8 ?_
  refine v_iconst d_L_word_14 (by decide) ?_
  exact v_ret d_L_word_15 rfl
set_option maxHeartbeats 4000000 in
set_option maxRecDepth 100000 in
theorem c_L_push (l : Launch) (hfl : l.stackTraces = false) (a0 : Nat) (v1 : Int) (a2 : Nat) (M : mm_T) : vm_Con l yL_push (.codeWith yL_push cL_push 4 (some .int) [(0, 9, 12, 13), (0, 9, 15, 22)]) 8 ex_I [xA a0, xI v1, xA a2] M (k_L_push a0 v1 a2 M) := by
  refine vm_conW (y := q_L_push) hfl (by decide +kernel) rfl (fun h => by cases h) (Nat.le_of_ble_eq_true rfl) _ rfl (fun _ _ _ => rfl) (fun r E h => by cases h) (fun w => ?_)
  show V_ l w q_L_push 8 ex_I 0 [(0, xA a0), (1, xI v1), (2, xA a2)] [] M (k_L_push a0 v1 a2 M)
  unfold k_L_push
  refine v_aloadn d_L_push_0 rfl 2 rfl ?_
  refine v_iconst d_L_push_1 (by decide) ?_
  refine v_aloadn d_L_push_2 rfl 0 rfl ?_
  refine v_iloadn d_L_push_3 rfl 1 rfl ?_
  refine v_xW d_L_push_4 ml_L_18 (q := (RX10, TX10, 10)) rfl (c_X_push l hfl a0 v1 M) (fun _ => rfl) (by decide) (by decide) (as := [xI v1]) (st1 := [xI 0, xA a2]) rfl rfl (Nat.le_of_ble_eq_true rfl) (sr := fun r => [xI r]) (fun E M => ?_) (fun c4 M => ?_)
  · by_cases h1 : E = 1
    · subst h1
      right; refine ⟨12, 3, 13, [(0, xA a0), (1, xI v1), (2, xA a2)], ⟨[], ⟨0, 9, 12, 13⟩, [⟨0, 9, 15, 22⟩], rfl, (fun z hz => (by cases hz)), by decide, by decide, ⟨"java/lang/IllegalArgumentException", gw_641, gw_833⟩, rfl⟩, Or.inl ⟨3, rfl, d_L_push_12.1, rfl⟩, Nat.le_of_ble_eq_true rfl, rfl, ?_⟩
      show V_ l w q_L_push 8 ex_I 13 [(0, xA a0), (1, xI v1), (2, xA a2)] [] M _
      rw [if_pos rfl]
      refine v_iconst d_L_push_13 (by decide) ?_
      exact v_ret d_L_push_14 rfl
    by_cases h2 : E = 2
    · subst h2
      right; refine ⟨15, 3, 16, [(0, xA a0), (1, xI v1), (2, xA a2)], ⟨[⟨0, 9, 12, 13⟩], ⟨0, 9, 15, 22⟩, [], rfl, (List.forall_mem_cons.mpr ⟨Or.inr ⟨by decide, "java/lang/IllegalArgumentException", gw_641, by decide⟩, (fun z hz => (by cases hz))⟩), by decide, by decide, ⟨"java/lang/IllegalStateException", gw_927, gw_938⟩, rfl⟩, Or.inl ⟨3, rfl, d_L_push_15.1, rfl⟩, Nat.le_of_ble_eq_true rfl, rfl, ?_⟩
      show V_ l w q_L_push 8 ex_I 16 [(0, xA a0), (1, xI v1), (2, xA a2)] [] M _
      rw [if_neg (by decide)]
      rw [if_pos rfl]
      refine v_iconst d_L_push_16 (by decide) ?_
      exact v_ret d_L_push_17 rfl
    left
    rw [if_neg h1, if_neg h2]
  show V_ l w q_L_push 8 ex_I 7 [(0, xA a0), (1, xI v1), (2, xA a2)] [xI c4, xI 0, xA a2] M _
  refine v_i2l d_L_push_7 ?_
  refine v_last d_L_push_8 (fun M => ?_)
  refine v_goto d_L_push_9 ?_
  refine v_iconst d_L_push_18 (by decide) ?_
  exact v_ret d_L_push_19 rfl
set_option maxHeartbeats 4000000 in
set_option maxRecDepth 100000 in
theorem c_L_pop (l : Launch) (hfl : l.stackTraces = false) (a0 : Nat) (a1 : Nat) (M : mm_T) : vm_Con l yL_pop (.codeWith yL_pop cL_pop 3 (some .int) [(0, 8, 11, 22)]) 7 ex_I [xA a0, xA a1] M (k_L_pop a0 a1 M) := by
  refine vm_conW (y := q_L_pop) hfl (by decide +kernel) rfl (fun h => by cases h) (Nat.le_of_ble_eq_true rfl) _ rfl (fun _ _ _ => rfl) (fun r E h => by cases h) (fun w => ?_)
  show V_ l w q_L_pop 7 ex_I 0 [(0, xA a0), (1, xA a1)] [] M (k_L_pop a0 a1 M)
  unfold k_L_pop
  refine v_aloadn d_L_pop_0 rfl 1 rfl ?_
  refine v_iconst d_L_pop_1 (by decide) ?_
  refine v_aloadn d_L_pop_2 rfl 0 rfl ?_
  refine v_xW d_L_pop_3 ml_L_24 (q := (RX10, TX10, 10)) rfl (c_X_pop l hfl a0 M) (fun _ => rfl) (by decide) (by decide) (as := []) (st1 := [xI 0, xA a1]) rfl rfl (Nat.le_of_ble_eq_true rfl) (sr := fun r => [xI r]) (fun E M => ?_) (fun c3 M => ?_)
  · by_cases h2 : E = 2
    · subst h2
      right; refine ⟨11, 2, 12, [(0, xA a0), (1, xA a1)], ⟨[], ⟨0, 8, 11, 22⟩, [], rfl, (fun z hz => (by cases hz)), by decide, by decide, ⟨"java/lang/IllegalStateException", gw_927, gw_938⟩, rfl⟩, Or.inl ⟨2, rfl, d_L_pop_11.1, rfl⟩, Nat.le_of_ble_eq_true rfl, rfl, ?_⟩
      show V_ l w q_L_pop 7 ex_I 12 [(0, xA a0), (1, xA a1)] [] M _
      rw [if_pos rfl]
      refine v_iconst d_L_pop_12 (by decide) ?_
      exact v_ret d_L_pop_13 rfl
    left
    rw [if_neg h2]
  show V_ l w q_L_pop 7 ex_I 6 [(0, xA a0), (1, xA a1)] [xI c3, xI 0, xA a1] M _
  refine v_i2l d_L_pop_6 ?_
  refine v_last d_L_pop_7 (fun M => ?_)
  refine v_goto d_L_pop_8 ?_
  refine v_iconst d_L_pop_14 (by decide) ?_
  exact v_ret d_L_pop_15 rfl
set_option maxHeartbeats 4000000 in
set_option maxRecDepth 100000 in
theorem c_L_greatest (l : Launch) (hfl : l.stackTraces = false) (a0 : Nat) (v1 : Int) (a2 : Nat) (M : mm_T) : vm_Con l yL_greatest (.codeWith yL_greatest cL_greatest 4 (some .int) [(0, 9, 12, 30)]) 8 ex_I [xA a0, xI v1, xA a2] M (k_L_greatest a0 v1 a2 M) := by
  refine vm_conW (y := q_L_greatest) hfl (by decide +kernel) rfl (fun h => by cases h) (Nat.le_of_ble_eq_true rfl) _ rfl (fun _ _ _ => rfl) (fun r E h => by cases h) (fun w => ?_)
  show V_ l w q_L_greatest 8 ex_I 0 [(0, xA a0), (1, xI v1), (2, xA a2)] [] M (k_L_greatest a0 v1 a2 M)
  unfold k_L_greatest
  refine v_aloadn d_L_greatest_0 rfl 2 rfl ?_
  refine v_iconst d_L_greatest_1 (by decide) ?_
  refine v_aloadn d_L_greatest_2 rfl 0 rfl ?_
  refine v_iloadn d_L_greatest_3 rfl 1 rfl ?_
  refine v_xW d_L_greatest_4 ml_L_27 (q := (RX10, TX10, 10)) rfl (c_X_greatest l hfl a0 v1 M) (fun _ => rfl) (by decide) (by decide) (as := [xI v1]) (st1 := [xI 0, xA a2]) rfl rfl (Nat.le_of_ble_eq_true rfl) (sr := fun r => [xI r]) (fun E M => ?_) (fun c4 M => ?_)
  · by_cases h4 : E = 4
    · subst h4
      right; refine ⟨12, 3, 13, [(0, xA a0), (1, xI v1), (2, xA a2)], ⟨[], ⟨0, 9, 12, 30⟩, [], rfl, (fun z hz => (by cases hz)), by decide, by decide, ⟨"java/util/NoSuchElementException", gw_962, gw_973⟩, rfl⟩, Or.inl ⟨3, rfl, d_L_greatest_12.1, rfl⟩, Nat.le_of_ble_eq_true rfl, rfl, ?_⟩
      show V_ l w q_L_greatest 8 ex_I 13 [(0, xA a0), (1, xI v1), (2, xA a2)] [] M _
      rw [if_pos rfl]
      refine v_iconst d_L_greatest_13 (by decide) ?_
      exact v_ret d_L_greatest_14 rfl
    left
    rw [if_neg h4]
  show V_ l w q_L_greatest 8 ex_I 7 [(0, xA a0), (1, xI v1), (2, xA a2)] [xI c4, xI 0, xA a2] M _
  refine v_i2l d_L_greatest_7 ?_
  refine v_last d_L_greatest_8 (fun M => ?_)
  refine v_goto d_L_greatest_9 ?_
  refine v_iconst d_L_greatest_15 (by decide) ?_
  exact v_ret d_L_greatest_16 rfl
set_option maxHeartbeats 4000000 in
set_option maxRecDepth 100000 in
theorem c_L_run (l : Launch) (hfl : l.stackTraces = false) (a0 : Nat) (v1 : Int) (v2 : Int) (a3 : Nat) (M : mm_T) : vm_Con l yL_run (.codeWith yL_run cL_run 5 (some .int) [(0, 10, 13, 30)]) 8 ex_I [xA a0, xI v1, xI v2, xA a3] M (k_L_run a0 v1 v2 a3 M) := by
  refine vm_conW (y := q_L_run) hfl (by decide +kernel) rfl (fun h => by cases h) (Nat.le_of_ble_eq_true rfl) _ rfl (fun _ _ _ => rfl) (fun r E h => by cases h) (fun w => ?_)
  show V_ l w q_L_run 8 ex_I 0 [(0, xA a0), (1, xI v1), (2, xI v2), (3, xA a3)] [] M (k_L_run a0 v1 v2 a3 M)
  unfold k_L_run
  refine v_aloadn d_L_run_0 rfl 3 rfl ?_
  refine v_iconst d_L_run_1 (by decide) ?_
  refine v_aloadn d_L_run_2 rfl 0 rfl ?_
  refine v_iloadn d_L_run_3 rfl 1 rfl ?_
  refine v_iloadn d_L_run_4 rfl 2 rfl ?_
  refine v_xW d_L_run_5 ml_L_32 (q := (RX10, TX10, 10)) rfl (c_X_run l hfl a0 v1 v2 M) (fun _ => rfl) (by decide) (by decide) (as := [xI v1, xI v2]) (st1 := [xI 0, xA a3]) rfl rfl (Nat.le_of_ble_eq_true rfl) (sr := fun r => [xI r]) (fun E M => ?_) (fun c5 M => ?_)
  · by_cases h4 : E = 4
    · subst h4
      right; refine ⟨13, 4, 15, [(0, xA a0), (1, xI v1), (2, xI v2), (3, xA a3)], ⟨[], ⟨0, 10, 13, 30⟩, [], rfl, (fun z hz => (by cases hz)), by decide, by decide, ⟨"java/util/NoSuchElementException", gw_962, gw_973⟩, rfl⟩, Or.inr ⟨d_L_run_13.1, rfl⟩, Nat.le_of_ble_eq_true rfl, rfl, ?_⟩
      show V_ l w q_L_run 8 ex_I 15 [(0, xA a0), (1, xI v1), (2, xI v2), (3, xA a3)] [] M _
      rw [if_pos rfl]
      refine v_iconst d_L_run_15 (by decide) ?_
      exact v_ret d_L_run_16 rfl
    left
    rw [if_neg h4]
  show V_ l w q_L_run 8 ex_I 8 [(0, xA a0), (1, xI v1), (2, xI v2), (3, xA a3)] [xI c5, xI 0, xA a3] M _
  refine v_i2l d_L_run_8 ?_
  refine v_last d_L_run_9 (fun M => ?_)
  refine v_goto d_L_run_10 ?_
  refine v_iconst d_L_run_17 (by decide) ?_
  exact v_ret d_L_run_18 rfl
set_option maxHeartbeats 4000000 in
set_option maxRecDepth 100000 in
theorem c_L_factors (l : Launch) (hfl : l.stackTraces = false) (a0 : Nat) (v1 : Int) (a2 : Nat) (M : mm_T) : vm_Con l yL_factors (.codeWith yL_factors cL_factors 4 (some .int) [(0, 9, 12, 13)]) 8 ex_I [xA a0, xI v1, xA a2] M (k_L_factors a0 v1 a2 M) := by
  refine vm_conW (y := q_L_factors) hfl (by decide +kernel) rfl (fun h => by cases h) (Nat.le_of_ble_eq_true rfl) _ rfl (fun _ _ _ => rfl) (fun r E h => by cases h) (fun w => ?_)
  show V_ l w q_L_factors 8 ex_I 0 [(0, xA a0), (1, xI v1), (2, xA a2)] [] M (k_L_factors a0 v1 a2 M)
  unfold k_L_factors
  refine v_aloadn d_L_factors_0 rfl 2 rfl ?_
  refine v_iconst d_L_factors_1 (by decide) ?_
  refine v_aloadn d_L_factors_2 rfl 0 rfl ?_
  refine v_iloadn d_L_factors_3 rfl 1 rfl ?_
  refine v_xW d_L_factors_4 ml_L_36 (q := (RX10, TX10, 10)) rfl (c_X_factors l hfl a0 v1 M) (fun _ => rfl) (by decide) (by decide) (as := [xI v1]) (st1 := [xI 0, xA a2]) rfl rfl (Nat.le_of_ble_eq_true rfl) (sr := fun r => [xI r]) (fun E M => ?_) (fun c4 M => ?_)
  · by_cases h1 : E = 1
    · subst h1
      right; refine ⟨12, 3, 13, [(0, xA a0), (1, xI v1), (2, xA a2)], ⟨[], ⟨0, 9, 12, 13⟩, [], rfl, (fun z hz => (by cases hz)), by decide, by decide, ⟨"java/lang/IllegalArgumentException", gw_641, gw_833⟩, rfl⟩, Or.inl ⟨3, rfl, d_L_factors_12.1, rfl⟩, Nat.le_of_ble_eq_true rfl, rfl, ?_⟩
      show V_ l w q_L_factors 8 ex_I 13 [(0, xA a0), (1, xI v1), (2, xA a2)] [] M _
      rw [if_pos rfl]
      refine v_iconst d_L_factors_13 (by decide) ?_
      exact v_ret d_L_factors_14 rfl
    left
    rw [if_neg h1]
  show V_ l w q_L_factors 8 ex_I 7 [(0, xA a0), (1, xI v1), (2, xA a2)] [xI c4, xI 0, xA a2] M _
  refine v_i2l d_L_factors_7 ?_
  refine v_last d_L_factors_8 (fun M => ?_)
  refine v_goto d_L_factors_9 ?_
  refine v_iconst d_L_factors_15 (by decide) ?_
  exact v_ret d_L_factors_16 rfl
set_option maxHeartbeats 4000000 in
set_option maxRecDepth 100000 in
theorem c_L_met (l : Launch) (hfl : l.stackTraces = false) (a0 : Nat) (v1 : Int) (v2 : Int) (a3 : Nat) (M : mm_T) : vm_Con l yL_met (.codeWith yL_met cL_met 5 (some .int) [(0, 10, 13, 42), (0, 10, 17, 30)]) 15 ex_I [xA a0, xI v1, xI v2, xA a3] M (k_L_met a0 v1 v2 a3 M) := by
  refine vm_conW (y := q_L_met) hfl (by decide +kernel) rfl (fun h => by cases h) (Nat.le_of_ble_eq_true rfl) _ rfl (fun _ _ _ => rfl) (fun r E h => by cases h) (fun w => ?_)
  show V_ l w q_L_met 15 ex_I 0 [(0, xA a0), (1, xI v1), (2, xI v2), (3, xA a3)] [] M (k_L_met a0 v1 v2 a3 M)
  unfold k_L_met
  refine v_aloadn d_L_met_0 rfl 3 rfl ?_
  refine v_iconst d_L_met_1 (by decide) ?_
  refine v_aloadn d_L_met_2 rfl 0 rfl ?_
  refine v_iloadn d_L_met_3 rfl 1 rfl ?_
  refine v_iloadn d_L_met_4 rfl 2 rfl ?_
  refine v_xW d_L_met_5 ml_L_39 (q := (RX10, TX10, 10)) rfl (c_X_met l hfl a0 v1 v2 M) (fun _ => rfl) (by decide) (by decide) (as := [xI v1, xI v2]) (st1 := [xI 0, xA a3]) rfl rfl (Nat.le_of_ble_eq_true rfl) (sr := fun r => [xI r]) (fun E M => ?_) (fun c5 M => ?_)
  · by_cases h3 : E = 3
    · subst h3
      right; refine ⟨13, 4, 15, [(0, xA a0), (1, xI v1), (2, xI v2), (3, xA a3)], ⟨[], ⟨0, 10, 13, 42⟩, [⟨0, 10, 17, 30⟩], rfl, (fun z hz => (by cases hz)), by decide, by decide, ⟨"java/lang/IndexOutOfBoundsException", gw_1011, gw_1023⟩, rfl⟩, Or.inr ⟨d_L_met_13.1, rfl⟩, Nat.le_of_ble_eq_true rfl, rfl, ?_⟩
      show V_ l w q_L_met 15 ex_I 15 [(0, xA a0), (1, xI v1), (2, xI v2), (3, xA a3)] [] M _
      rw [if_pos rfl]
      refine v_iconst d_L_met_15 (by decide) ?_
      exact v_ret d_L_met_16 rfl
    by_cases h4 : E = 4
    · subst h4
      right; refine ⟨17, 4, 19, [(0, xA a0), (1, xI v1), (2, xI v2), (3, xA a3)], ⟨[⟨0, 10, 13, 42⟩], ⟨0, 10, 17, 30⟩, [], rfl, (List.forall_mem_cons.mpr ⟨Or.inr ⟨by decide, "java/lang/IndexOutOfBoundsException", gw_1011, by decide⟩, (fun z hz => (by cases hz))⟩), by decide, by decide, ⟨"java/util/NoSuchElementException", gw_962, gw_973⟩, rfl⟩, Or.inr ⟨d_L_met_17.1, rfl⟩, Nat.le_of_ble_eq_true rfl, rfl, ?_⟩
      show V_ l w q_L_met 15 ex_I 19 [(0, xA a0), (1, xI v1), (2, xI v2), (3, xA a3)] [] M _
      rw [if_neg (by decide)]
      rw [if_pos rfl]
      refine v_iconst d_L_met_19 (by decide) ?_
      exact v_ret d_L_met_20 rfl
    left
    rw [if_neg h3, if_neg h4]
  show V_ l w q_L_met 15 ex_I 8 [(0, xA a0), (1, xI v1), (2, xI v2), (3, xA a3)] [xI c5, xI 0, xA a3] M _
  refine v_i2l d_L_met_8 ?_
  refine v_last d_L_met_9 (fun M => ?_)
  refine v_goto d_L_met_10 ?_
  refine v_iconst d_L_met_21 (by decide) ?_
  exact v_ret d_L_met_22 rfl
set_option maxHeartbeats 4000000 in
set_option maxRecDepth 100000 in
theorem c_L_first (l : Launch) (hfl : l.stackTraces = false) (a0 : Nat) (v1 : Int) (a2 : Nat) (M : mm_T) : vm_Con l yL_first (.codeWith yL_first cL_first 4 (some .int) [(0, 9, 12, 13)]) 18 ex_I [xA a0, xI v1, xA a2] M (k_L_first a0 v1 a2 M) := by
  refine vm_conW (y := q_L_first) hfl (by decide +kernel) rfl (fun h => by cases h) (Nat.le_of_ble_eq_true rfl) _ rfl (fun _ _ _ => rfl) (fun r E h => by cases h) (fun w => ?_)
  show V_ l w q_L_first 18 ex_I 0 [(0, xA a0), (1, xI v1), (2, xA a2)] [] M (k_L_first a0 v1 a2 M)
  unfold k_L_first
  refine v_aloadn d_L_first_0 rfl 2 rfl ?_
  refine v_iconst d_L_first_1 (by decide) ?_
  refine v_aloadn d_L_first_2 rfl 0 rfl ?_
  refine v_iloadn d_L_first_3 rfl 1 rfl ?_
  refine v_xW d_L_first_4 ml_L_44 (q := (RX10, TX10, 10)) rfl (c_X_first l hfl a0 v1 M) (fun _ => rfl) (by decide) (by decide) (as := [xI v1]) (st1 := [xI 0, xA a2]) rfl rfl (Nat.le_of_ble_eq_true rfl) (sr := fun r => [xI r]) (fun E M => ?_) (fun c4 M => ?_)
  · by_cases h1 : E = 1
    · subst h1
      right; refine ⟨12, 3, 13, [(0, xA a0), (1, xI v1), (2, xA a2)], ⟨[], ⟨0, 9, 12, 13⟩, [], rfl, (fun z hz => (by cases hz)), by decide, by decide, ⟨"java/lang/IllegalArgumentException", gw_641, gw_833⟩, rfl⟩, Or.inl ⟨3, rfl, d_L_first_12.1, rfl⟩, Nat.le_of_ble_eq_true rfl, rfl, ?_⟩
      show V_ l w q_L_first 18 ex_I 13 [(0, xA a0), (1, xI v1), (2, xA a2)] [] M _
      rw [if_pos rfl]
      refine v_iconst d_L_first_13 (by decide) ?_
      exact v_ret d_L_first_14 rfl
    left
    rw [if_neg h1]
  show V_ l w q_L_first 18 ex_I 7 [(0, xA a0), (1, xI v1), (2, xA a2)] [xI c4, xI 0, xA a2] M _
  refine v_i2l d_L_first_7 ?_
  refine v_last d_L_first_8 (fun M => ?_)
  refine v_goto d_L_first_9 ?_
  refine v_iconst d_L_first_15 (by decide) ?_
  exact v_ret d_L_first_16 rfl
set_option maxHeartbeats 4000000 in
set_option maxRecDepth 100000 in
theorem c_L_next (l : Launch) (hfl : l.stackTraces = false) (a0 : Nat) (a1 : Nat) (M : mm_T) : vm_Con l yL_next (.codeWith yL_next cL_next 3 (some .int) [(0, 8, 11, 22)]) 17 ex_I [xA a0, xA a1] M (k_L_next a0 a1 M) := by
  refine vm_conW (y := q_L_next) hfl (by decide +kernel) rfl (fun h => by cases h) (Nat.le_of_ble_eq_true rfl) _ rfl (fun _ _ _ => rfl) (fun r E h => by cases h) (fun w => ?_)
  show V_ l w q_L_next 17 ex_I 0 [(0, xA a0), (1, xA a1)] [] M (k_L_next a0 a1 M)
  unfold k_L_next
  refine v_aloadn d_L_next_0 rfl 1 rfl ?_
  refine v_iconst d_L_next_1 (by decide) ?_
  refine v_aloadn d_L_next_2 rfl 0 rfl ?_
  refine v_xW d_L_next_3 ml_L_47 (q := (RX10, TX10, 10)) rfl (c_X_next l hfl a0 M) (fun _ => rfl) (by decide) (by decide) (as := []) (st1 := [xI 0, xA a1]) rfl rfl (Nat.le_of_ble_eq_true rfl) (sr := fun r => [xI r]) (fun E M => ?_) (fun c3 M => ?_)
  · by_cases h2 : E = 2
    · subst h2
      right; refine ⟨11, 2, 12, [(0, xA a0), (1, xA a1)], ⟨[], ⟨0, 8, 11, 22⟩, [], rfl, (fun z hz => (by cases hz)), by decide, by decide, ⟨"java/lang/IllegalStateException", gw_927, gw_938⟩, rfl⟩, Or.inl ⟨2, rfl, d_L_next_11.1, rfl⟩, Nat.le_of_ble_eq_true rfl, rfl, ?_⟩
      show V_ l w q_L_next 17 ex_I 12 [(0, xA a0), (1, xA a1)] [] M _
      rw [if_pos rfl]
      refine v_iconst d_L_next_12 (by decide) ?_
      exact v_ret d_L_next_13 rfl
    left
    rw [if_neg h2]
  show V_ l w q_L_next 17 ex_I 6 [(0, xA a0), (1, xA a1)] [xI c3, xI 0, xA a1] M _
  refine v_i2l d_L_next_6 ?_
  refine v_last d_L_next_7 (fun M => ?_)
  refine v_goto d_L_next_8 ?_
  refine v_iconst d_L_next_14 (by decide) ?_
  exact v_ret d_L_next_15 rfl
set_option maxHeartbeats 4000000 in
set_option maxRecDepth 100000 in
theorem c_L_many (l : Launch) (hfl : l.stackTraces = false) (a0 : Nat) (v1 : Int) (a2 : Nat) (M : mm_T) : vm_Con l yL_many (.codeWith yL_many cL_many 4 (some .int) [(0, 9, 12, 13)]) 18 ex_I [xA a0, xI v1, xA a2] M (k_L_many a0 v1 a2 M) := by
  refine vm_conW (y := q_L_many) hfl (by decide +kernel) rfl (fun h => by cases h) (Nat.le_of_ble_eq_true rfl) _ rfl (fun _ _ _ => rfl) (fun r E h => by cases h) (fun w => ?_)
  show V_ l w q_L_many 18 ex_I 0 [(0, xA a0), (1, xI v1), (2, xA a2)] [] M (k_L_many a0 v1 a2 M)
  unfold k_L_many
  refine v_aloadn d_L_many_0 rfl 2 rfl ?_
  refine v_iconst d_L_many_1 (by decide) ?_
  refine v_aloadn d_L_many_2 rfl 0 rfl ?_
  refine v_iloadn d_L_many_3 rfl 1 rfl ?_
  refine v_xW d_L_many_4 ml_L_50 (q := (RX10, TX10, 10)) rfl (c_X_many l hfl a0 v1 M) (fun _ => rfl) (by decide) (by decide) (as := [xI v1]) (st1 := [xI 0, xA a2]) rfl rfl (Nat.le_of_ble_eq_true rfl) (sr := fun r => [xI r]) (fun E M => ?_) (fun c4 M => ?_)
  · by_cases h1 : E = 1
    · subst h1
      right; refine ⟨12, 3, 13, [(0, xA a0), (1, xI v1), (2, xA a2)], ⟨[], ⟨0, 9, 12, 13⟩, [], rfl, (fun z hz => (by cases hz)), by decide, by decide, ⟨"java/lang/IllegalArgumentException", gw_641, gw_833⟩, rfl⟩, Or.inl ⟨3, rfl, d_L_many_12.1, rfl⟩, Nat.le_of_ble_eq_true rfl, rfl, ?_⟩
      show V_ l w q_L_many 18 ex_I 13 [(0, xA a0), (1, xI v1), (2, xA a2)] [] M _
      rw [if_pos rfl]
      refine v_iconst d_L_many_13 (by decide) ?_
      exact v_ret d_L_many_14 rfl
    left
    rw [if_neg h1]
  show V_ l w q_L_many 18 ex_I 7 [(0, xA a0), (1, xI v1), (2, xA a2)] [xI c4, xI 0, xA a2] M _
  refine v_i2l d_L_many_7 ?_
  refine v_last d_L_many_8 (fun M => ?_)
  refine v_goto d_L_many_9 ?_
  refine v_iconst d_L_many_15 (by decide) ?_
  exact v_ret d_L_many_16 rfl
set_option maxHeartbeats 4000000 in
set_option maxRecDepth 100000 in
theorem c_L_growth (l : Launch) (hfl : l.stackTraces = false) (a0 : Nat) (v1 : Int) (a2 : Nat) (M : mm_T) : vm_Con l yL_growth (.codeWith yL_growth cL_growth 4 (some .int) [(0, 9, 12, 13)]) 18 ex_I [xA a0, xI v1, xA a2] M (k_L_growth a0 v1 a2 M) := by
  refine vm_conW (y := q_L_growth) hfl (by decide +kernel) rfl (fun h => by cases h) (Nat.le_of_ble_eq_true rfl) _ rfl (fun _ _ _ => rfl) (fun r E h => by cases h) (fun w => ?_)
  show V_ l w q_L_growth 18 ex_I 0 [(0, xA a0), (1, xI v1), (2, xA a2)] [] M (k_L_growth a0 v1 a2 M)
  unfold k_L_growth
  refine v_aloadn d_L_growth_0 rfl 2 rfl ?_
  refine v_iconst d_L_growth_1 (by decide) ?_
  refine v_aloadn d_L_growth_2 rfl 0 rfl ?_
  refine v_iloadn d_L_growth_3 rfl 1 rfl ?_
  refine v_xW d_L_growth_4 ml_L_53 (q := (RX10, TX10, 10)) rfl (c_X_growth l hfl a0 v1 M) (fun _ => rfl) (by decide) (by decide) (as := [xI v1]) (st1 := [xI 0, xA a2]) rfl rfl (Nat.le_of_ble_eq_true rfl) (sr := fun r => [xI r]) (fun E M => ?_) (fun c4 M => ?_)
  · by_cases h1 : E = 1
    · subst h1
      right; refine ⟨12, 3, 13, [(0, xA a0), (1, xI v1), (2, xA a2)], ⟨[], ⟨0, 9, 12, 13⟩, [], rfl, (fun z hz => (by cases hz)), by decide, by decide, ⟨"java/lang/IllegalArgumentException", gw_641, gw_833⟩, rfl⟩, Or.inl ⟨3, rfl, d_L_growth_12.1, rfl⟩, Nat.le_of_ble_eq_true rfl, rfl, ?_⟩
      show V_ l w q_L_growth 18 ex_I 13 [(0, xA a0), (1, xI v1), (2, xA a2)] [] M _
      rw [if_pos rfl]
      refine v_iconst d_L_growth_13 (by decide) ?_
      exact v_ret d_L_growth_14 rfl
    left
    rw [if_neg h1]
  show V_ l w q_L_growth 18 ex_I 7 [(0, xA a0), (1, xI v1), (2, xA a2)] [xI c4, xI 0, xA a2] M _
  refine v_i2l d_L_growth_7 ?_
  refine v_last d_L_growth_8 (fun M => ?_)
  refine v_goto d_L_growth_9 ?_
  refine v_iconst d_L_growth_15 (by decide) ?_
  exact v_ret d_L_growth_16 rfl
set_option maxHeartbeats 4000000 in
set_option maxRecDepth 100000 in
theorem c_L_image (l : Launch) (hfl : l.stackTraces = false) (a0 : Nat) (v1 : Int) (a2 : Nat) (M : mm_T) : vm_Con l yL_image (.codeWith yL_image cL_image 4 (some .int) [(0, 9, 12, 42), (0, 9, 15, 22)]) 8 ex_I [xA a0, xI v1, xA a2] M (k_L_image a0 v1 a2 M) := by
  refine vm_conW (y := q_L_image) hfl (by decide +kernel) rfl (fun h => by cases h) (Nat.le_of_ble_eq_true rfl) _ rfl (fun _ _ _ => rfl) (fun r E h => by cases h) (fun w => ?_)
  show V_ l w q_L_image 8 ex_I 0 [(0, xA a0), (1, xI v1), (2, xA a2)] [] M (k_L_image a0 v1 a2 M)
  unfold k_L_image
  refine v_aloadn d_L_image_0 rfl 2 rfl ?_
  refine v_iconst d_L_image_1 (by decide) ?_
  refine v_aloadn d_L_image_2 rfl 0 rfl ?_
  refine v_iloadn d_L_image_3 rfl 1 rfl ?_
  refine v_xW d_L_image_4 ml_L_56 (q := (RX10, TX10, 10)) rfl (c_X_image l hfl a0 v1 M) (fun _ => rfl) (by decide) (by decide) (as := [xI v1]) (st1 := [xI 0, xA a2]) rfl rfl (Nat.le_of_ble_eq_true rfl) (sr := fun r => [xI r]) (fun E M => ?_) (fun c4 M => ?_)
  · by_cases h3 : E = 3
    · subst h3
      right; refine ⟨12, 3, 13, [(0, xA a0), (1, xI v1), (2, xA a2)], ⟨[], ⟨0, 9, 12, 42⟩, [⟨0, 9, 15, 22⟩], rfl, (fun z hz => (by cases hz)), by decide, by decide, ⟨"java/lang/IndexOutOfBoundsException", gw_1011, gw_1023⟩, rfl⟩, Or.inl ⟨3, rfl, d_L_image_12.1, rfl⟩, Nat.le_of_ble_eq_true rfl, rfl, ?_⟩
      show V_ l w q_L_image 8 ex_I 13 [(0, xA a0), (1, xI v1), (2, xA a2)] [] M _
      rw [if_pos rfl]
      refine v_iconst d_L_image_13 (by decide) ?_
      exact v_ret d_L_image_14 rfl
    by_cases h2 : E = 2
    · subst h2
      right; refine ⟨15, 3, 16, [(0, xA a0), (1, xI v1), (2, xA a2)], ⟨[⟨0, 9, 12, 42⟩], ⟨0, 9, 15, 22⟩, [], rfl, (List.forall_mem_cons.mpr ⟨Or.inr ⟨by decide, "java/lang/IndexOutOfBoundsException", gw_1011, by decide⟩, (fun z hz => (by cases hz))⟩), by decide, by decide, ⟨"java/lang/IllegalStateException", gw_927, gw_938⟩, rfl⟩, Or.inl ⟨3, rfl, d_L_image_15.1, rfl⟩, Nat.le_of_ble_eq_true rfl, rfl, ?_⟩
      show V_ l w q_L_image 8 ex_I 16 [(0, xA a0), (1, xI v1), (2, xA a2)] [] M _
      rw [if_neg (by decide)]
      rw [if_pos rfl]
      refine v_iconst d_L_image_16 (by decide) ?_
      exact v_ret d_L_image_17 rfl
    left
    rw [if_neg h3, if_neg h2]
  show V_ l w q_L_image 8 ex_I 7 [(0, xA a0), (1, xI v1), (2, xA a2)] [xI c4, xI 0, xA a2] M _
  refine v_i2l d_L_image_7 ?_
  refine v_last d_L_image_8 (fun M => ?_)
  refine v_goto d_L_image_9 ?_
  refine v_iconst d_L_image_18 (by decide) ?_
  exact v_ret d_L_image_19 rfl
set_option maxHeartbeats 4000000 in
set_option maxRecDepth 100000 in
theorem c_L_imaged (l : Launch) (hfl : l.stackTraces = false) (a0 : Nat) (v1 : Int) (v2 : Int) (v3 : Int) (a4 : Nat) (M : mm_T) : vm_Con l yL_imaged (.codeWith yL_imaged cL_imaged 6 (some .int) [(0, 12, 15, 42), (0, 12, 19, 13)]) 8 ex_I [xA a0, xI v1, xI v2, xI v3, xA a4] M (k_L_imaged a0 v1 v2 v3 a4 M) := by
  refine vm_conW (y := q_L_imaged) hfl (by decide +kernel) rfl (fun h => by cases h) (Nat.le_of_ble_eq_true rfl) _ rfl (fun _ _ _ => rfl) (fun r E h => by cases h) (fun w => ?_)
  show V_ l w q_L_imaged 8 ex_I 0 [(0, xA a0), (1, xI v1), (2, xI v2), (3, xI v3), (4, xA a4)] [] M (k_L_imaged a0 v1 v2 v3 a4 M)
  unfold k_L_imaged
  refine v_aload d_L_imaged_0 4 rfl ?_
  refine v_iconst d_L_imaged_2 (by decide) ?_
  refine v_aloadn d_L_imaged_3 rfl 0 rfl ?_
  refine v_iloadn d_L_imaged_4 rfl 1 rfl ?_
  refine v_iloadn d_L_imaged_5 rfl 2 rfl ?_
  refine v_iloadn d_L_imaged_6 rfl 3 rfl ?_
  refine v_xW d_L_imaged_7 ml_L_59 (q := (RX10, TX10, 10)) rfl (c_X_imaged l hfl a0 v1 v2 v3 M) (fun _ => rfl) (by decide) (by decide) (as := [xI v1, xI v2, xI v3]) (st1 := [xI 0, xA a4]) rfl rfl (Nat.le_of_ble_eq_true rfl) (sr := fun r => [xI r]) (fun E M => ?_) (fun c7 M => ?_)
  · by_cases h3 : E = 3
    · subst h3
      right; refine ⟨15, 5, 17, [(0, xA a0), (1, xI v1), (2, xI v2), (3, xI v3), (4, xA a4)], ⟨[], ⟨0, 12, 15, 42⟩, [⟨0, 12, 19, 13⟩], rfl, (fun z hz => (by cases hz)), by decide, by decide, ⟨"java/lang/IndexOutOfBoundsException", gw_1011, gw_1023⟩, rfl⟩, Or.inr ⟨d_L_imaged_15.1, rfl⟩, Nat.le_of_ble_eq_true rfl, rfl, ?_⟩
      show V_ l w q_L_imaged 8 ex_I 17 [(0, xA a0), (1, xI v1), (2, xI v2), (3, xI v3), (4, xA a4)] [] M _
      rw [if_pos rfl]
      refine v_iconst d_L_imaged_17 (by decide) ?_
      exact v_ret d_L_imaged_18 rfl
    by_cases h1 : E = 1
    · subst h1
      right; refine ⟨19, 5, 21, [(0, xA a0), (1, xI v1), (2, xI v2), (3, xI v3), (4, xA a4)], ⟨[⟨0, 12, 15, 42⟩], ⟨0, 12, 19, 13⟩, [], rfl, (List.forall_mem_cons.mpr ⟨Or.inr ⟨by decide, "java/lang/IndexOutOfBoundsException", gw_1011, by decide⟩, (fun z hz => (by cases hz))⟩), by decide, by decide, ⟨"java/lang/IllegalArgumentException", gw_641, gw_833⟩, rfl⟩, Or.inr ⟨d_L_imaged_19.1, rfl⟩, Nat.le_of_ble_eq_true rfl, rfl, ?_⟩
      show V_ l w q_L_imaged 8 ex_I 21 [(0, xA a0), (1, xI v1), (2, xI v2), (3, xI v3), (4, xA a4)] [] M _
      rw [if_neg (by decide)]
      rw [if_pos rfl]
      refine v_iconst d_L_imaged_21 (by decide) ?_
      exact v_ret d_L_imaged_22 rfl
    left
    rw [if_neg h3, if_neg h1]
  show V_ l w q_L_imaged 8 ex_I 10 [(0, xA a0), (1, xI v1), (2, xI v2), (3, xI v3), (4, xA a4)] [xI c7, xI 0, xA a4] M _
  refine v_i2l d_L_imaged_10 ?_
  refine v_last d_L_imaged_11 (fun M => ?_)
  refine v_goto d_L_imaged_12 ?_
  refine v_iconst d_L_imaged_23 (by decide) ?_
  exact v_ret d_L_imaged_24 rfl
set_option maxHeartbeats 4000000 in
set_option maxRecDepth 100000 in
theorem c_L_length (l : Launch) (hfl : l.stackTraces = false) (a0 : Nat) (v1 : Int) (v2 : Int) (v3 : Int) (a4 : Nat) (M : mm_T) : vm_Con l yL_length (.codeWith yL_length cL_length 6 (some .int) [(0, 11, 14, 42), (0, 11, 18, 13)]) 8 ex_I [xA a0, xI v1, xI v2, xI v3, xA a4] M (k_L_length a0 v1 v2 v3 a4 M) := by
  refine vm_conW (y := q_L_length) hfl (by decide +kernel) rfl (fun h => by cases h) (Nat.le_of_ble_eq_true rfl) _ rfl (fun _ _ _ => rfl) (fun r E h => by cases h) (fun w => ?_)
  show V_ l w q_L_length 8 ex_I 0 [(0, xA a0), (1, xI v1), (2, xI v2), (3, xI v3), (4, xA a4)] [] M (k_L_length a0 v1 v2 v3 a4 M)
  unfold k_L_length
  refine v_aload d_L_length_0 4 rfl ?_
  refine v_iconst d_L_length_2 (by decide) ?_
  refine v_aloadn d_L_length_3 rfl 0 rfl ?_
  refine v_iloadn d_L_length_4 rfl 1 rfl ?_
  refine v_iloadn d_L_length_5 rfl 2 rfl ?_
  refine v_iloadn d_L_length_6 rfl 3 rfl ?_
  refine v_xW d_L_length_7 ml_L_63 (q := (RX10, TX10, 10)) rfl (c_X_length l hfl a0 v1 v2 v3 M) (fun _ => rfl) (by decide) (by decide) (as := [xI v1, xI v2, xI v3]) (st1 := [xI 0, xA a4]) rfl rfl (Nat.le_of_ble_eq_true rfl) (sr := fun r => [xJ r]) (fun E M => ?_) (fun c7 M => ?_)
  · by_cases h3 : E = 3
    · subst h3
      right; refine ⟨14, 5, 16, [(0, xA a0), (1, xI v1), (2, xI v2), (3, xI v3), (4, xA a4)], ⟨[], ⟨0, 11, 14, 42⟩, [⟨0, 11, 18, 13⟩], rfl, (fun z hz => (by cases hz)), by decide, by decide, ⟨"java/lang/IndexOutOfBoundsException", gw_1011, gw_1023⟩, rfl⟩, Or.inr ⟨d_L_length_14.1, rfl⟩, Nat.le_of_ble_eq_true rfl, rfl, ?_⟩
      show V_ l w q_L_length 8 ex_I 16 [(0, xA a0), (1, xI v1), (2, xI v2), (3, xI v3), (4, xA a4)] [] M _
      rw [if_pos rfl]
      refine v_iconst d_L_length_16 (by decide) ?_
      exact v_ret d_L_length_17 rfl
    by_cases h1 : E = 1
    · subst h1
      right; refine ⟨18, 5, 20, [(0, xA a0), (1, xI v1), (2, xI v2), (3, xI v3), (4, xA a4)], ⟨[⟨0, 11, 14, 42⟩], ⟨0, 11, 18, 13⟩, [], rfl, (List.forall_mem_cons.mpr ⟨Or.inr ⟨by decide, "java/lang/IndexOutOfBoundsException", gw_1011, by decide⟩, (fun z hz => (by cases hz))⟩), by decide, by decide, ⟨"java/lang/IllegalArgumentException", gw_641, gw_833⟩, rfl⟩, Or.inr ⟨d_L_length_18.1, rfl⟩, Nat.le_of_ble_eq_true rfl, rfl, ?_⟩
      show V_ l w q_L_length 8 ex_I 20 [(0, xA a0), (1, xI v1), (2, xI v2), (3, xI v3), (4, xA a4)] [] M _
      rw [if_neg (by decide)]
      rw [if_pos rfl]
      refine v_iconst d_L_length_20 (by decide) ?_
      exact v_ret d_L_length_21 rfl
    left
    rw [if_neg h3, if_neg h1]
  show V_ l w q_L_length 8 ex_I 10 [(0, xA a0), (1, xI v1), (2, xI v2), (3, xI v3), (4, xA a4)] [xJ c7, xI 0, xA a4] M _
  refine v_last d_L_length_10 (fun M => ?_)
  refine v_goto d_L_length_11 ?_
  refine v_iconst d_L_length_22 (by decide) ?_
  exact v_ret d_L_length_23 rfl
set_option maxHeartbeats 4000000 in
set_option maxRecDepth 100000 in
theorem c_L_power (l : Launch) (hfl : l.stackTraces = false) (a0 : Nat) (v1 : Int) (v2 : Int) (v3 : Int) (w4 : Int64) (a6 : Nat) (M : mm_T) : vm_Con l yL_power (.codeWith yL_power cL_power 8 (some .int) [(0, 14, 17, 42), (0, 14, 21, 13)]) 8 ex_I [xA a0, xI v1, xI v2, xI v3, xJ w4, xA a6] M (k_L_power a0 v1 v2 v3 w4 a6 M) := by
  refine vm_conW (y := q_L_power) hfl (by decide +kernel) rfl (fun h => by cases h) (Nat.le_of_ble_eq_true rfl) _ rfl (fun _ _ _ => rfl) (fun r E h => by cases h) (fun w => ?_)
  show V_ l w q_L_power 8 ex_I 0 [(0, xA a0), (1, xI v1), (2, xI v2), (3, xI v3), (4, xJ w4), (6, xA a6)] [] M (k_L_power a0 v1 v2 v3 w4 a6 M)
  unfold k_L_power
  refine v_aload d_L_power_0 5 rfl ?_
  refine v_iconst d_L_power_2 (by decide) ?_
  refine v_aloadn d_L_power_3 rfl 0 rfl ?_
  refine v_iloadn d_L_power_4 rfl 1 rfl ?_
  refine v_iloadn d_L_power_5 rfl 2 rfl ?_
  refine v_iloadn d_L_power_6 rfl 3 rfl ?_
  refine v_lload d_L_power_7 4 rfl ?_
  refine v_xW d_L_power_9 ml_L_67 (q := (RX10, TX10, 10)) rfl (c_X_power l hfl a0 v1 v2 v3 w4 M) (fun _ => rfl) (by decide) (by decide) (as := [xI v1, xI v2, xI v3, xJ w4]) (st1 := [xI 0, xA a6]) rfl rfl (Nat.le_of_ble_eq_true rfl) (sr := fun r => [xI r]) (fun E M => ?_) (fun c9 M => ?_)
  · by_cases h3 : E = 3
    · subst h3
      right; refine ⟨17, 7, 19, [(0, xA a0), (1, xI v1), (2, xI v2), (3, xI v3), (4, xJ w4), (6, xA a6)], ⟨[], ⟨0, 14, 17, 42⟩, [⟨0, 14, 21, 13⟩], rfl, (fun z hz => (by cases hz)), by decide, by decide, ⟨"java/lang/IndexOutOfBoundsException", gw_1011, gw_1023⟩, rfl⟩, Or.inr ⟨d_L_power_17.1, rfl⟩, Nat.le_of_ble_eq_true rfl, rfl, ?_⟩
      show V_ l w q_L_power 8 ex_I 19 [(0, xA a0), (1, xI v1), (2, xI v2), (3, xI v3), (4, xJ w4), (6, xA a6)] [] M _
      rw [if_pos rfl]
      refine v_iconst d_L_power_19 (by decide) ?_
      exact v_ret d_L_power_20 rfl
    by_cases h1 : E = 1
    · subst h1
      right; refine ⟨21, 7, 23, [(0, xA a0), (1, xI v1), (2, xI v2), (3, xI v3), (4, xJ w4), (6, xA a6)], ⟨[⟨0, 14, 17, 42⟩], ⟨0, 14, 21, 13⟩, [], rfl, (List.forall_mem_cons.mpr ⟨Or.inr ⟨by decide, "java/lang/IndexOutOfBoundsException", gw_1011, by decide⟩, (fun z hz => (by cases hz))⟩), by decide, by decide, ⟨"java/lang/IllegalArgumentException", gw_641, gw_833⟩, rfl⟩, Or.inr ⟨d_L_power_21.1, rfl⟩, Nat.le_of_ble_eq_true rfl, rfl, ?_⟩
      show V_ l w q_L_power 8 ex_I 23 [(0, xA a0), (1, xI v1), (2, xI v2), (3, xI v3), (4, xJ w4), (6, xA a6)] [] M _
      rw [if_neg (by decide)]
      rw [if_pos rfl]
      refine v_iconst d_L_power_23 (by decide) ?_
      exact v_ret d_L_power_24 rfl
    left
    rw [if_neg h3, if_neg h1]
  show V_ l w q_L_power 8 ex_I 12 [(0, xA a0), (1, xI v1), (2, xI v2), (3, xI v3), (4, xJ w4), (6, xA a6)] [xI c9, xI 0, xA a6] M _
  refine v_i2l d_L_power_12 ?_
  refine v_last d_L_power_13 (fun M => ?_)
  refine v_goto d_L_power_14 ?_
  refine v_iconst d_L_power_25 (by decide) ?_
  exact v_ret d_L_power_26 rfl
set_option maxHeartbeats 4000000 in
set_option maxRecDepth 100000 in
theorem c_L_often (l : Launch) (hfl : l.stackTraces = false) (a0 : Nat) (v1 : Int) (v2 : Int) (v3 : Int) (v4 : Int) (a5 : Nat) (M : mm_T) : vm_Con l yL_often (.codeWith yL_often cL_often 7 (some .int) [(0, 13, 16, 42), (0, 13, 20, 13)]) 8 ex_I [xA a0, xI v1, xI v2, xI v3, xI v4, xA a5] M (k_L_often a0 v1 v2 v3 v4 a5 M) := by
  refine vm_conW (y := q_L_often) hfl (by decide +kernel) rfl (fun h => by cases h) (Nat.le_of_ble_eq_true rfl) _ rfl (fun _ _ _ => rfl) (fun r E h => by cases h) (fun w => ?_)
  show V_ l w q_L_often 8 ex_I 0 [(0, xA a0), (1, xI v1), (2, xI v2), (3, xI v3), (4, xI v4), (5, xA a5)] [] M (k_L_often a0 v1 v2 v3 v4 a5 M)
  unfold k_L_often
  refine v_aload d_L_often_0 5 rfl ?_
  refine v_iconst d_L_often_2 (by decide) ?_
  refine v_aloadn d_L_often_3 rfl 0 rfl ?_
  refine v_iloadn d_L_often_4 rfl 1 rfl ?_
  refine v_iloadn d_L_often_5 rfl 2 rfl ?_
  refine v_iloadn d_L_often_6 rfl 3 rfl ?_
  refine v_iload d_L_often_7 4 rfl ?_
  refine v_xW d_L_often_9 ml_L_71 (q := (RX10, TX10, 10)) rfl (c_X_often l hfl a0 v1 v2 v3 v4 M) (fun _ => rfl) (by decide) (by decide) (as := [xI v1, xI v2, xI v3, xI v4]) (st1 := [xI 0, xA a5]) rfl rfl (Nat.le_of_ble_eq_true rfl) (sr := fun r => [xJ r]) (fun E M => ?_) (fun c9 M => ?_)
  · by_cases h3 : E = 3
    · subst h3
      right; refine ⟨16, 6, 18, [(0, xA a0), (1, xI v1), (2, xI v2), (3, xI v3), (4, xI v4), (5, xA a5)], ⟨[], ⟨0, 13, 16, 42⟩, [⟨0, 13, 20, 13⟩], rfl, (fun z hz => (by cases hz)), by decide, by decide, ⟨"java/lang/IndexOutOfBoundsException", gw_1011, gw_1023⟩, rfl⟩, Or.inr ⟨d_L_often_16.1, rfl⟩, Nat.le_of_ble_eq_true rfl, rfl, ?_⟩
      show V_ l w q_L_often 8 ex_I 18 [(0, xA a0), (1, xI v1), (2, xI v2), (3, xI v3), (4, xI v4), (5, xA a5)] [] M _
      rw [if_pos rfl]
      refine v_iconst d_L_often_18 (by decide) ?_
      exact v_ret d_L_often_19 rfl
    by_cases h1 : E = 1
    · subst h1
      right; refine ⟨20, 6, 22, [(0, xA a0), (1, xI v1), (2, xI v2), (3, xI v3), (4, xI v4), (5, xA a5)], ⟨[⟨0, 13, 16, 42⟩], ⟨0, 13, 20, 13⟩, [], rfl, (List.forall_mem_cons.mpr ⟨Or.inr ⟨by decide, "java/lang/IndexOutOfBoundsException", gw_1011, by decide⟩, (fun z hz => (by cases hz))⟩), by decide, by decide, ⟨"java/lang/IllegalArgumentException", gw_641, gw_833⟩, rfl⟩, Or.inr ⟨d_L_often_20.1, rfl⟩, Nat.le_of_ble_eq_true rfl, rfl, ?_⟩
      show V_ l w q_L_often 8 ex_I 22 [(0, xA a0), (1, xI v1), (2, xI v2), (3, xI v3), (4, xI v4), (5, xA a5)] [] M _
      rw [if_neg (by decide)]
      rw [if_pos rfl]
      refine v_iconst d_L_often_22 (by decide) ?_
      exact v_ret d_L_often_23 rfl
    left
    rw [if_neg h3, if_neg h1]
  show V_ l w q_L_often 8 ex_I 12 [(0, xA a0), (1, xI v1), (2, xI v2), (3, xI v3), (4, xI v4), (5, xA a5)] [xJ c9, xI 0, xA a5] M _
  refine v_last d_L_often_12 (fun M => ?_)
  refine v_goto d_L_often_13 ?_
  refine v_iconst d_L_often_24 (by decide) ?_
  exact v_ret d_L_often_25 rfl
set_option maxHeartbeats 4000000 in
set_option maxRecDepth 100000 in
theorem c_L_keeps (l : Launch) (hfl : l.stackTraces = false) (a0 : Nat) (v1 : Int) (v2 : Int) (a3 : Nat) (M : mm_T) : vm_Con l yL_keeps (.codeWith yL_keeps cL_keeps 5 (some .int) [(0, 10, 13, 42), (0, 10, 17, 13)]) 18 ex_I [xA a0, xI v1, xI v2, xA a3] M (k_L_keeps a0 v1 v2 a3 M) := by
  refine vm_conW (y := q_L_keeps) hfl (by decide +kernel) rfl (fun h => by cases h) (Nat.le_of_ble_eq_true rfl) _ rfl (fun _ _ _ => rfl) (fun r E h => by cases h) (fun w => ?_)
  show V_ l w q_L_keeps 18 ex_I 0 [(0, xA a0), (1, xI v1), (2, xI v2), (3, xA a3)] [] M (k_L_keeps a0 v1 v2 a3 M)
  unfold k_L_keeps
  refine v_aloadn d_L_keeps_0 rfl 3 rfl ?_
  refine v_iconst d_L_keeps_1 (by decide) ?_
  refine v_aloadn d_L_keeps_2 rfl 0 rfl ?_
  refine v_iloadn d_L_keeps_3 rfl 1 rfl ?_
  refine v_iloadn d_L_keeps_4 rfl 2 rfl ?_
  refine v_xW d_L_keeps_5 ml_L_75 (q := (RX10, TX10, 10)) rfl (c_X_keeps l hfl a0 v1 v2 M) (fun _ => rfl) (by decide) (by decide) (as := [xI v1, xI v2]) (st1 := [xI 0, xA a3]) rfl rfl (Nat.le_of_ble_eq_true rfl) (sr := fun r => [xI r]) (fun E M => ?_) (fun c5 M => ?_)
  · by_cases h3 : E = 3
    · subst h3
      right; refine ⟨13, 4, 15, [(0, xA a0), (1, xI v1), (2, xI v2), (3, xA a3)], ⟨[], ⟨0, 10, 13, 42⟩, [⟨0, 10, 17, 13⟩], rfl, (fun z hz => (by cases hz)), by decide, by decide, ⟨"java/lang/IndexOutOfBoundsException", gw_1011, gw_1023⟩, rfl⟩, Or.inr ⟨d_L_keeps_13.1, rfl⟩, Nat.le_of_ble_eq_true rfl, rfl, ?_⟩
      show V_ l w q_L_keeps 18 ex_I 15 [(0, xA a0), (1, xI v1), (2, xI v2), (3, xA a3)] [] M _
      rw [if_pos rfl]
      refine v_iconst d_L_keeps_15 (by decide) ?_
      exact v_ret d_L_keeps_16 rfl
    by_cases h1 : E = 1
    · subst h1
      right; refine ⟨17, 4, 19, [(0, xA a0), (1, xI v1), (2, xI v2), (3, xA a3)], ⟨[⟨0, 10, 13, 42⟩], ⟨0, 10, 17, 13⟩, [], rfl, (List.forall_mem_cons.mpr ⟨Or.inr ⟨by decide, "java/lang/IndexOutOfBoundsException", gw_1011, by decide⟩, (fun z hz => (by cases hz))⟩), by decide, by decide, ⟨"java/lang/IllegalArgumentException", gw_641, gw_833⟩, rfl⟩, Or.inr ⟨d_L_keeps_17.1, rfl⟩, Nat.le_of_ble_eq_true rfl, rfl, ?_⟩
      show V_ l w q_L_keeps 18 ex_I 19 [(0, xA a0), (1, xI v1), (2, xI v2), (3, xA a3)] [] M _
      rw [if_neg (by decide)]
      rw [if_pos rfl]
      refine v_iconst d_L_keeps_19 (by decide) ?_
      exact v_ret d_L_keeps_20 rfl
    left
    rw [if_neg h3, if_neg h1]
  show V_ l w q_L_keeps 18 ex_I 8 [(0, xA a0), (1, xI v1), (2, xI v2), (3, xA a3)] [xI c5, xI 0, xA a3] M _
  refine v_i2l d_L_keeps_8 ?_
  refine v_last d_L_keeps_9 (fun M => ?_)
  refine v_goto d_L_keeps_10 ?_
  refine v_iconst d_L_keeps_21 (by decide) ?_
  exact v_ret d_L_keeps_22 rfl
set_option maxHeartbeats 4000000 in
set_option maxRecDepth 100000 in
theorem c_L_breaks (l : Launch) (hfl : l.stackTraces = false) (a0 : Nat) (v1 : Int) (v2 : Int) (a3 : Nat) (M : mm_T) : vm_Con l yL_breaks (.codeWith yL_breaks cL_breaks 5 (some .int) [(0, 10, 13, 42), (0, 10, 17, 13)]) 18 ex_I [xA a0, xI v1, xI v2, xA a3] M (k_L_breaks a0 v1 v2 a3 M) := by
  refine vm_conW (y := q_L_breaks) hfl (by decide +kernel) rfl (fun h => by cases h) (Nat.le_of_ble_eq_true rfl) _ rfl (fun _ _ _ => rfl) (fun r E h => by cases h) (fun w => ?_)
  show V_ l w q_L_breaks 18 ex_I 0 [(0, xA a0), (1, xI v1), (2, xI v2), (3, xA a3)] [] M (k_L_breaks a0 v1 v2 a3 M)
  unfold k_L_breaks
  refine v_aloadn d_L_breaks_0 rfl 3 rfl ?_
  refine v_iconst d_L_breaks_1 (by decide) ?_
  refine v_aloadn d_L_breaks_2 rfl 0 rfl ?_
  refine v_iloadn d_L_breaks_3 rfl 1 rfl ?_
  refine v_iloadn d_L_breaks_4 rfl 2 rfl ?_
  refine v_xW d_L_breaks_5 ml_L_78 (q := (RX10, TX10, 10)) rfl (c_X_breaks l hfl a0 v1 v2 M) (fun _ => rfl) (by decide) (by decide) (as := [xI v1, xI v2]) (st1 := [xI 0, xA a3]) rfl rfl (Nat.le_of_ble_eq_true rfl) (sr := fun r => [xI r]) (fun E M => ?_) (fun c5 M => ?_)
  · by_cases h3 : E = 3
    · subst h3
      right; refine ⟨13, 4, 15, [(0, xA a0), (1, xI v1), (2, xI v2), (3, xA a3)], ⟨[], ⟨0, 10, 13, 42⟩, [⟨0, 10, 17, 13⟩], rfl, (fun z hz => (by cases hz)), by decide, by decide, ⟨"java/lang/IndexOutOfBoundsException", gw_1011, gw_1023⟩, rfl⟩, Or.inr ⟨d_L_breaks_13.1, rfl⟩, Nat.le_of_ble_eq_true rfl, rfl, ?_⟩
      show V_ l w q_L_breaks 18 ex_I 15 [(0, xA a0), (1, xI v1), (2, xI v2), (3, xA a3)] [] M _
      rw [if_pos rfl]
      refine v_iconst d_L_breaks_15 (by decide) ?_
      exact v_ret d_L_breaks_16 rfl
    by_cases h1 : E = 1
    · subst h1
      right; refine ⟨17, 4, 19, [(0, xA a0), (1, xI v1), (2, xI v2), (3, xA a3)], ⟨[⟨0, 10, 13, 42⟩], ⟨0, 10, 17, 13⟩, [], rfl, (List.forall_mem_cons.mpr ⟨Or.inr ⟨by decide, "java/lang/IndexOutOfBoundsException", gw_1011, by decide⟩, (fun z hz => (by cases hz))⟩), by decide, by decide, ⟨"java/lang/IllegalArgumentException", gw_641, gw_833⟩, rfl⟩, Or.inr ⟨d_L_breaks_17.1, rfl⟩, Nat.le_of_ble_eq_true rfl, rfl, ?_⟩
      show V_ l w q_L_breaks 18 ex_I 19 [(0, xA a0), (1, xI v1), (2, xI v2), (3, xA a3)] [] M _
      rw [if_neg (by decide)]
      rw [if_pos rfl]
      refine v_iconst d_L_breaks_19 (by decide) ?_
      exact v_ret d_L_breaks_20 rfl
    left
    rw [if_neg h3, if_neg h1]
  show V_ l w q_L_breaks 18 ex_I 8 [(0, xA a0), (1, xI v1), (2, xI v2), (3, xA a3)] [xI c5, xI 0, xA a3] M _
  refine v_i2l d_L_breaks_8 ?_
  refine v_last d_L_breaks_9 (fun M => ?_)
  refine v_goto d_L_breaks_10 ?_
  refine v_iconst d_L_breaks_21 (by decide) ?_
  exact v_ret d_L_breaks_22 rfl
set_option maxHeartbeats 4000000 in
set_option maxRecDepth 100000 in
theorem c_L_grows (l : Launch) (hfl : l.stackTraces = false) (a0 : Nat) (v1 : Int) (a2 : Nat) (M : mm_T) : vm_Con l yL_grows (.codeWith yL_grows cL_grows 4 (some .int) [(0, 9, 12, 42)]) 8 ex_I [xA a0, xI v1, xA a2] M (k_L_grows a0 v1 a2 M) := by
  refine vm_conW (y := q_L_grows) hfl (by decide +kernel) rfl (fun h => by cases h) (Nat.le_of_ble_eq_true rfl) _ rfl (fun _ _ _ => rfl) (fun r E h => by cases h) (fun w => ?_)
  show V_ l w q_L_grows 8 ex_I 0 [(0, xA a0), (1, xI v1), (2, xA a2)] [] M (k_L_grows a0 v1 a2 M)
  unfold k_L_grows
  refine v_aloadn d_L_grows_0 rfl 2 rfl ?_
  refine v_iconst d_L_grows_1 (by decide) ?_
  refine v_aloadn d_L_grows_2 rfl 0 rfl ?_
  refine v_iloadn d_L_grows_3 rfl 1 rfl ?_
  refine v_xW d_L_grows_4 ml_L_81 (q := (RX10, TX10, 10)) rfl (c_X_grows l hfl a0 v1 M) (fun _ => rfl) (by decide) (by decide) (as := [xI v1]) (st1 := [xI 0, xA a2]) rfl rfl (Nat.le_of_ble_eq_true rfl) (sr := fun r => [xI r]) (fun E M => ?_) (fun c4 M => ?_)
  · by_cases h3 : E = 3
    · subst h3
      right; refine ⟨12, 3, 13, [(0, xA a0), (1, xI v1), (2, xA a2)], ⟨[], ⟨0, 9, 12, 42⟩, [], rfl, (fun z hz => (by cases hz)), by decide, by decide, ⟨"java/lang/IndexOutOfBoundsException", gw_1011, gw_1023⟩, rfl⟩, Or.inl ⟨3, rfl, d_L_grows_12.1, rfl⟩, Nat.le_of_ble_eq_true rfl, rfl, ?_⟩
      show V_ l w q_L_grows 8 ex_I 13 [(0, xA a0), (1, xI v1), (2, xA a2)] [] M _
      rw [if_pos rfl]
      refine v_iconst d_L_grows_13 (by decide) ?_
      exact v_ret d_L_grows_14 rfl
    left
    rw [if_neg h3]
  show V_ l w q_L_grows 8 ex_I 7 [(0, xA a0), (1, xI v1), (2, xA a2)] [xI c4, xI 0, xA a2] M _
  refine v_i2l d_L_grows_7 ?_
  refine v_last d_L_grows_8 (fun M => ?_)
  refine v_goto d_L_grows_9 ?_
  refine v_iconst d_L_grows_15 (by decide) ?_
  exact v_ret d_L_grows_16 rfl
set_option maxHeartbeats 4000000 in
set_option maxRecDepth 100000 in
theorem c_L_uniform (l : Launch) (hfl : l.stackTraces = false) (a0 : Nat) (v1 : Int) (a2 : Nat) (M : mm_T) : vm_Con l yL_uniform (.codeWith yL_uniform cL_uniform 4 (some .int) [(0, 9, 12, 42)]) 8 ex_I [xA a0, xI v1, xA a2] M (k_L_uniform a0 v1 a2 M) := by
  refine vm_conW (y := q_L_uniform) hfl (by decide +kernel) rfl (fun h => by cases h) (Nat.le_of_ble_eq_true rfl) _ rfl (fun _ _ _ => rfl) (fun r E h => by cases h) (fun w => ?_)
  show V_ l w q_L_uniform 8 ex_I 0 [(0, xA a0), (1, xI v1), (2, xA a2)] [] M (k_L_uniform a0 v1 a2 M)
  unfold k_L_uniform
  refine v_aloadn d_L_uniform_0 rfl 2 rfl ?_
  refine v_iconst d_L_uniform_1 (by decide) ?_
  refine v_aloadn d_L_uniform_2 rfl 0 rfl ?_
  refine v_iloadn d_L_uniform_3 rfl 1 rfl ?_
  refine v_xW d_L_uniform_4 ml_L_84 (q := (RX10, TX10, 10)) rfl (c_X_uniform l hfl a0 v1 M) (fun _ => rfl) (by decide) (by decide) (as := [xI v1]) (st1 := [xI 0, xA a2]) rfl rfl (Nat.le_of_ble_eq_true rfl) (sr := fun r => [xI r]) (fun E M => ?_) (fun c4 M => ?_)
  · by_cases h3 : E = 3
    · subst h3
      right; refine ⟨12, 3, 13, [(0, xA a0), (1, xI v1), (2, xA a2)], ⟨[], ⟨0, 9, 12, 42⟩, [], rfl, (fun z hz => (by cases hz)), by decide, by decide, ⟨"java/lang/IndexOutOfBoundsException", gw_1011, gw_1023⟩, rfl⟩, Or.inl ⟨3, rfl, d_L_uniform_12.1, rfl⟩, Nat.le_of_ble_eq_true rfl, rfl, ?_⟩
      show V_ l w q_L_uniform 8 ex_I 13 [(0, xA a0), (1, xI v1), (2, xA a2)] [] M _
      rw [if_pos rfl]
      refine v_iconst d_L_uniform_13 (by decide) ?_
      exact v_ret d_L_uniform_14 rfl
    left
    rw [if_neg h3]
  show V_ l w q_L_uniform 8 ex_I 7 [(0, xA a0), (1, xI v1), (2, xA a2)] [xI c4, xI 0, xA a2] M _
  refine v_i2l d_L_uniform_7 ?_
  refine v_last d_L_uniform_8 (fun M => ?_)
  refine v_goto d_L_uniform_9 ?_
  refine v_iconst d_L_uniform_15 (by decide) ?_
  exact v_ret d_L_uniform_16 rfl
set_option maxHeartbeats 4000000 in
set_option maxRecDepth 100000 in
theorem c_L_cannot (l : Launch) (hfl : l.stackTraces = false) (a0 : Nat) (v1 : Int) (a2 : Nat) (M : mm_T) : vm_Con l yL_cannot (.codeWith yL_cannot cL_cannot 4 (some .int) [(0, 16, 19, 42)]) 8 ex_I [xA a0, xI v1, xA a2] M (k_L_cannot a0 v1 a2 M) := by
  refine vm_conW (y := q_L_cannot) hfl (by decide +kernel) rfl (fun h => by cases h) (Nat.le_of_ble_eq_true rfl) _ rfl (fun _ _ _ => rfl) (fun r E h => by cases h) (fun w => ?_)
  show V_ l w q_L_cannot 8 ex_I 0 [(0, xA a0), (1, xI v1), (2, xA a2)] [] M (k_L_cannot a0 v1 a2 M)
  unfold k_L_cannot
  refine v_aloadn d_L_cannot_0 rfl 2 rfl ?_
  refine v_iconst d_L_cannot_1 (by decide) ?_
  refine v_aloadn d_L_cannot_2 rfl 0 rfl ?_
  refine v_iloadn d_L_cannot_3 rfl 1 rfl ?_
  refine v_xW d_L_cannot_4 ml_L_87 (q := (RX10, TX10, 10)) rfl (c_X_cannot l hfl a0 v1 M) (fun _ => rfl) (by decide) (by decide) (as := [xI v1]) (st1 := [xI 0, xA a2]) rfl rfl (Nat.le_of_ble_eq_true rfl) (sr := fun r => [xI r]) (fun E M => ?_) (fun c4 M => ?_)
  · by_cases h3 : E = 3
    · subst h3
      right; refine ⟨19, 3, 20, [(0, xA a0), (1, xI v1), (2, xA a2)], ⟨[], ⟨0, 16, 19, 42⟩, [], rfl, (fun z hz => (by cases hz)), by decide, by decide, ⟨"java/lang/IndexOutOfBoundsException", gw_1011, gw_1023⟩, rfl⟩, Or.inl ⟨3, rfl, d_L_cannot_19.1, rfl⟩, Nat.le_of_ble_eq_true rfl, rfl, ?_⟩
      show V_ l w q_L_cannot 8 ex_I 20 [(0, xA a0), (1, xI v1), (2, xA a2)] [] M _
      rw [if_pos rfl]
      refine v_iconst d_L_cannot_20 (by decide) ?_
      exact v_ret d_L_cannot_21 rfl
    left
    rw [if_neg h3]
  show V_ l w q_L_cannot 8 ex_I 7 [(0, xA a0), (1, xI v1), (2, xA a2)] [xI c4, xI 0, xA a2] M _
  refine v_join3 (pj := 15) (lj := fun sa0_15 s1_15 sw2_15 => []) (sj := fun sa0_15 s1_15 sw2_15 => [xJ sw2_15, xI s1_15, xA sa0_15]) (fun sa0_15 s1_15 sw2_15 M => ?_) (fun j15 hj15 => ?_)
  · refine v_last d_L_cannot_15 (fun M => ?_)
    refine v_goto d_L_cannot_16 ?_
    refine v_iconst d_L_cannot_22 (by decide) ?_
    exact v_ret d_L_cannot_23 rfl
  refine v_ifeq d_L_cannot_7 ?_ ?_
  · refine v_lconst d_L_cannot_14 (v := 0) rfl ?_
    refine v_sub (ls' := []) [] rfl ?_
    exact hj15 a2 0 0 M
  · refine v_lconst d_L_cannot_10 (v := 1) rfl ?_
    refine v_goto d_L_cannot_11 ?_
    refine v_sub (ls' := []) [] rfl ?_
    exact hj15 a2 0 1 M
set_option maxHeartbeats 4000000 in
set_option maxRecDepth 100000 in
theorem c_L_loose (l : Launch) (hfl : l.stackTraces = false) (a0 : Nat) (v1 : Int) (v2 : Int) (a3 : Nat) (M : mm_T) : vm_Con l yL_loose (.codeWith yL_loose cL_loose 5 (some .int) [(0, 10, 13, 42)]) 8 ex_I [xA a0, xI v1, xI v2, xA a3] M (k_L_loose a0 v1 v2 a3 M) := by
  refine vm_conW (y := q_L_loose) hfl (by decide +kernel) rfl (fun h => by cases h) (Nat.le_of_ble_eq_true rfl) _ rfl (fun _ _ _ => rfl) (fun r E h => by cases h) (fun w => ?_)
  show V_ l w q_L_loose 8 ex_I 0 [(0, xA a0), (1, xI v1), (2, xI v2), (3, xA a3)] [] M (k_L_loose a0 v1 v2 a3 M)
  unfold k_L_loose
  refine v_aloadn d_L_loose_0 rfl 3 rfl ?_
  refine v_iconst d_L_loose_1 (by decide) ?_
  refine v_aloadn d_L_loose_2 rfl 0 rfl ?_
  refine v_iloadn d_L_loose_3 rfl 1 rfl ?_
  refine v_iloadn d_L_loose_4 rfl 2 rfl ?_
  refine v_xW d_L_loose_5 ml_L_91 (q := (RX10, TX10, 10)) rfl (c_X_loose l hfl a0 v1 v2 M) (fun _ => rfl) (by decide) (by decide) (as := [xI v1, xI v2]) (st1 := [xI 0, xA a3]) rfl rfl (Nat.le_of_ble_eq_true rfl) (sr := fun r => [xI r]) (fun E M => ?_) (fun c5 M => ?_)
  · by_cases h3 : E = 3
    · subst h3
      right; refine ⟨13, 4, 15, [(0, xA a0), (1, xI v1), (2, xI v2), (3, xA a3)], ⟨[], ⟨0, 10, 13, 42⟩, [], rfl, (fun z hz => (by cases hz)), by decide, by decide, ⟨"java/lang/IndexOutOfBoundsException", gw_1011, gw_1023⟩, rfl⟩, Or.inr ⟨d_L_loose_13.1, rfl⟩, Nat.le_of_ble_eq_true rfl, rfl, ?_⟩
      show V_ l w q_L_loose 8 ex_I 15 [(0, xA a0), (1, xI v1), (2, xI v2), (3, xA a3)] [] M _
      rw [if_pos rfl]
      refine v_iconst d_L_loose_15 (by decide) ?_
      exact v_ret d_L_loose_16 rfl
    left
    rw [if_neg h3]
  show V_ l w q_L_loose 8 ex_I 8 [(0, xA a0), (1, xI v1), (2, xI v2), (3, xA a3)] [xI c5, xI 0, xA a3] M _
  refine v_i2l d_L_loose_8 ?_
  refine v_last d_L_loose_9 (fun M => ?_)
  refine v_goto d_L_loose_10 ?_
  refine v_iconst d_L_loose_17 (by decide) ?_
  exact v_ret d_L_loose_18 rfl
set_option maxHeartbeats 4000000 in
set_option maxRecDepth 100000 in
theorem c_L_pattern (l : Launch) (hfl : l.stackTraces = false) (a0 : Nat) (v1 : Int) (v2 : Int) (a3 : Nat) (M : mm_T) : vm_Con l yL_pattern (.codeWith yL_pattern cL_pattern 5 (some .int) [(0, 10, 13, 42), (0, 10, 17, 30)]) 8 ex_I [xA a0, xI v1, xI v2, xA a3] M (k_L_pattern a0 v1 v2 a3 M) := by
  refine vm_conW (y := q_L_pattern) hfl (by decide +kernel) rfl (fun h => by cases h) (Nat.le_of_ble_eq_true rfl) _ rfl (fun _ _ _ => rfl) (fun r E h => by cases h) (fun w => ?_)
  show V_ l w q_L_pattern 8 ex_I 0 [(0, xA a0), (1, xI v1), (2, xI v2), (3, xA a3)] [] M (k_L_pattern a0 v1 v2 a3 M)
  unfold k_L_pattern
  refine v_aloadn d_L_pattern_0 rfl 3 rfl ?_
  refine v_iconst d_L_pattern_1 (by decide) ?_
  refine v_aloadn d_L_pattern_2 rfl 0 rfl ?_
  refine v_iloadn d_L_pattern_3 rfl 1 rfl ?_
  refine v_iloadn d_L_pattern_4 rfl 2 rfl ?_
  refine v_xW d_L_pattern_5 ml_L_94 (q := (RX10, TX10, 10)) rfl (c_X_pattern l hfl a0 v1 v2 M) (fun _ => rfl) (by decide) (by decide) (as := [xI v1, xI v2]) (st1 := [xI 0, xA a3]) rfl rfl (Nat.le_of_ble_eq_true rfl) (sr := fun r => [xI r]) (fun E M => ?_) (fun c5 M => ?_)
  · by_cases h3 : E = 3
    · subst h3
      right; refine ⟨13, 4, 15, [(0, xA a0), (1, xI v1), (2, xI v2), (3, xA a3)], ⟨[], ⟨0, 10, 13, 42⟩, [⟨0, 10, 17, 30⟩], rfl, (fun z hz => (by cases hz)), by decide, by decide, ⟨"java/lang/IndexOutOfBoundsException", gw_1011, gw_1023⟩, rfl⟩, Or.inr ⟨d_L_pattern_13.1, rfl⟩, Nat.le_of_ble_eq_true rfl, rfl, ?_⟩
      show V_ l w q_L_pattern 8 ex_I 15 [(0, xA a0), (1, xI v1), (2, xI v2), (3, xA a3)] [] M _
      rw [if_pos rfl]
      refine v_iconst d_L_pattern_15 (by decide) ?_
      exact v_ret d_L_pattern_16 rfl
    by_cases h4 : E = 4
    · subst h4
      right; refine ⟨17, 4, 19, [(0, xA a0), (1, xI v1), (2, xI v2), (3, xA a3)], ⟨[⟨0, 10, 13, 42⟩], ⟨0, 10, 17, 30⟩, [], rfl, (List.forall_mem_cons.mpr ⟨Or.inr ⟨by decide, "java/lang/IndexOutOfBoundsException", gw_1011, by decide⟩, (fun z hz => (by cases hz))⟩), by decide, by decide, ⟨"java/util/NoSuchElementException", gw_962, gw_973⟩, rfl⟩, Or.inr ⟨d_L_pattern_17.1, rfl⟩, Nat.le_of_ble_eq_true rfl, rfl, ?_⟩
      show V_ l w q_L_pattern 8 ex_I 19 [(0, xA a0), (1, xI v1), (2, xI v2), (3, xA a3)] [] M _
      rw [if_neg (by decide)]
      rw [if_pos rfl]
      refine v_iconst d_L_pattern_19 (by decide) ?_
      exact v_ret d_L_pattern_20 rfl
    left
    rw [if_neg h3, if_neg h4]
  show V_ l w q_L_pattern 8 ex_I 8 [(0, xA a0), (1, xI v1), (2, xI v2), (3, xA a3)] [xI c5, xI 0, xA a3] M _
  refine v_i2l d_L_pattern_8 ?_
  refine v_last d_L_pattern_9 (fun M => ?_)
  refine v_goto d_L_pattern_10 ?_
  refine v_iconst d_L_pattern_21 (by decide) ?_
  exact v_ret d_L_pattern_22 rfl
set_option maxHeartbeats 4000000 in
set_option maxRecDepth 100000 in
theorem c_L_stuck (l : Launch) (hfl : l.stackTraces = false) (a0 : Nat) (v1 : Int) (a2 : Nat) (M : mm_T) : vm_Con l yL_stuck (.codeWith yL_stuck cL_stuck 4 (some .int) [(0, 9, 12, 13)]) 17 ex_I [xA a0, xI v1, xA a2] M (k_L_stuck a0 v1 a2 M) := by
  refine vm_conW (y := q_L_stuck) hfl (by decide +kernel) rfl (fun h => by cases h) (Nat.le_of_ble_eq_true rfl) _ rfl (fun _ _ _ => rfl) (fun r E h => by cases h) (fun w => ?_)
  show V_ l w q_L_stuck 17 ex_I 0 [(0, xA a0), (1, xI v1), (2, xA a2)] [] M (k_L_stuck a0 v1 a2 M)
  unfold k_L_stuck
  refine v_aloadn d_L_stuck_0 rfl 2 rfl ?_
  refine v_iconst d_L_stuck_1 (by decide) ?_
  refine v_aloadn d_L_stuck_2 rfl 0 rfl ?_
  refine v_iloadn d_L_stuck_3 rfl 1 rfl ?_
  refine v_xW d_L_stuck_4 ml_L_97 (q := (RX10, TX10, 10)) rfl (c_X_stuck l hfl a0 v1 M) (fun _ => rfl) (by decide) (by decide) (as := [xI v1]) (st1 := [xI 0, xA a2]) rfl rfl (Nat.le_of_ble_eq_true rfl) (sr := fun r => [xI r]) (fun E M => ?_) (fun c4 M => ?_)
  · by_cases h1 : E = 1
    · subst h1
      right; refine ⟨12, 3, 13, [(0, xA a0), (1, xI v1), (2, xA a2)], ⟨[], ⟨0, 9, 12, 13⟩, [], rfl, (fun z hz => (by cases hz)), by decide, by decide, ⟨"java/lang/IllegalArgumentException", gw_641, gw_833⟩, rfl⟩, Or.inl ⟨3, rfl, d_L_stuck_12.1, rfl⟩, Nat.le_of_ble_eq_true rfl, rfl, ?_⟩
      show V_ l w q_L_stuck 17 ex_I 13 [(0, xA a0), (1, xI v1), (2, xA a2)] [] M _
      rw [if_pos rfl]
      refine v_iconst d_L_stuck_13 (by decide) ?_
      exact v_ret d_L_stuck_14 rfl
    left
    rw [if_neg h1]
  show V_ l w q_L_stuck 17 ex_I 7 [(0, xA a0), (1, xI v1), (2, xA a2)] [xI c4, xI 0, xA a2] M _
  refine v_i2l d_L_stuck_7 ?_
  refine v_last d_L_stuck_8 (fun M => ?_)
  refine v_goto d_L_stuck_9 ?_
  refine v_iconst d_L_stuck_15 (by decide) ?_
  exact v_ret d_L_stuck_16 rfl
set_option maxHeartbeats 4000000 in
set_option maxRecDepth 100000 in
theorem c_L_rank (l : Launch) (hfl : l.stackTraces = false) (a0 : Nat) (a1 : Nat) (M : mm_T) : vm_Con l yL_rank (.codeWith yL_rank cL_rank 3 (some .int) [(0, 8, 11, 22)]) 17 ex_I [xA a0, xA a1] M (k_L_rank a0 a1 M) := by
  refine vm_conW (y := q_L_rank) hfl (by decide +kernel) rfl (fun h => by cases h) (Nat.le_of_ble_eq_true rfl) _ rfl (fun _ _ _ => rfl) (fun r E h => by cases h) (fun w => ?_)
  show V_ l w q_L_rank 17 ex_I 0 [(0, xA a0), (1, xA a1)] [] M (k_L_rank a0 a1 M)
  unfold k_L_rank
  refine v_aloadn d_L_rank_0 rfl 1 rfl ?_
  refine v_iconst d_L_rank_1 (by decide) ?_
  refine v_aloadn d_L_rank_2 rfl 0 rfl ?_
  refine v_xW d_L_rank_3 ml_L_100 (q := (RX10, TX10, 10)) rfl (c_X_rank l hfl a0 M) (fun _ => rfl) (by decide) (by decide) (as := []) (st1 := [xI 0, xA a1]) rfl rfl (Nat.le_of_ble_eq_true rfl) (sr := fun r => [xI r]) (fun E M => ?_) (fun c3 M => ?_)
  · by_cases h2 : E = 2
    · subst h2
      right; refine ⟨11, 2, 12, [(0, xA a0), (1, xA a1)], ⟨[], ⟨0, 8, 11, 22⟩, [], rfl, (fun z hz => (by cases hz)), by decide, by decide, ⟨"java/lang/IllegalStateException", gw_927, gw_938⟩, rfl⟩, Or.inl ⟨2, rfl, d_L_rank_11.1, rfl⟩, Nat.le_of_ble_eq_true rfl, rfl, ?_⟩
      show V_ l w q_L_rank 17 ex_I 12 [(0, xA a0), (1, xA a1)] [] M _
      rw [if_pos rfl]
      refine v_iconst d_L_rank_12 (by decide) ?_
      exact v_ret d_L_rank_13 rfl
    left
    rw [if_neg h2]
  show V_ l w q_L_rank 17 ex_I 6 [(0, xA a0), (1, xA a1)] [xI c3, xI 0, xA a1] M _
  refine v_i2l d_L_rank_6 ?_
  refine v_last d_L_rank_7 (fun M => ?_)
  refine v_goto d_L_rank_8 ?_
  refine v_iconst d_L_rank_14 (by decide) ?_
  exact v_ret d_L_rank_15 rfl
set_option maxHeartbeats 4000000 in
set_option maxRecDepth 100000 in
theorem c_L_nth (l : Launch) (hfl : l.stackTraces = false) (a0 : Nat) (v1 : Int) (v2 : Int) (a3 : Nat) (M : mm_T) : vm_Con l yL_nth (.codeWith yL_nth cL_nth 5 (some .int) [(0, 10, 13, 13)]) 18 ex_I [xA a0, xI v1, xI v2, xA a3] M (k_L_nth a0 v1 v2 a3 M) := by
  refine vm_conW (y := q_L_nth) hfl (by decide +kernel) rfl (fun h => by cases h) (Nat.le_of_ble_eq_true rfl) _ rfl (fun _ _ _ => rfl) (fun r E h => by cases h) (fun w => ?_)
  show V_ l w q_L_nth 18 ex_I 0 [(0, xA a0), (1, xI v1), (2, xI v2), (3, xA a3)] [] M (k_L_nth a0 v1 v2 a3 M)
  unfold k_L_nth
  refine v_aloadn d_L_nth_0 rfl 3 rfl ?_
  refine v_iconst d_L_nth_1 (by decide) ?_
  refine v_aloadn d_L_nth_2 rfl 0 rfl ?_
  refine v_iloadn d_L_nth_3 rfl 1 rfl ?_
  refine v_iloadn d_L_nth_4 rfl 2 rfl ?_
  refine v_xW d_L_nth_5 ml_L_103 (q := (RX10, TX10, 10)) rfl (c_X_nth l hfl a0 v1 v2 M) (fun _ => rfl) (by decide) (by decide) (as := [xI v1, xI v2]) (st1 := [xI 0, xA a3]) rfl rfl (Nat.le_of_ble_eq_true rfl) (sr := fun r => [xI r]) (fun E M => ?_) (fun c5 M => ?_)
  · by_cases h1 : E = 1
    · subst h1
      right; refine ⟨13, 4, 15, [(0, xA a0), (1, xI v1), (2, xI v2), (3, xA a3)], ⟨[], ⟨0, 10, 13, 13⟩, [], rfl, (fun z hz => (by cases hz)), by decide, by decide, ⟨"java/lang/IllegalArgumentException", gw_641, gw_833⟩, rfl⟩, Or.inr ⟨d_L_nth_13.1, rfl⟩, Nat.le_of_ble_eq_true rfl, rfl, ?_⟩
      show V_ l w q_L_nth 18 ex_I 15 [(0, xA a0), (1, xI v1), (2, xI v2), (3, xA a3)] [] M _
      rw [if_pos rfl]
      refine v_iconst d_L_nth_15 (by decide) ?_
      exact v_ret d_L_nth_16 rfl
    left
    rw [if_neg h1]
  show V_ l w q_L_nth 18 ex_I 8 [(0, xA a0), (1, xI v1), (2, xI v2), (3, xA a3)] [xI c5, xI 0, xA a3] M _
  refine v_i2l d_L_nth_8 ?_
  refine v_last d_L_nth_9 (fun M => ?_)
  refine v_goto d_L_nth_10 ?_
  refine v_iconst d_L_nth_17 (by decide) ?_
  exact v_ret d_L_nth_18 rfl
set_option maxHeartbeats 4000000 in
set_option maxRecDepth 100000 in
theorem c_L_limit (l : Launch) (hfl : l.stackTraces = false) (a0 : Nat) (v1 : Int) (v2 : Int) (v3 : Int) (a4 : Nat) (M : mm_T) : vm_Con l yL_limit (.codeWith yL_limit cL_limit 6 (some .int) [(0, 12, 15, 13)]) 8 ex_I [xA a0, xI v1, xI v2, xI v3, xA a4] M (k_L_limit a0 v1 v2 v3 a4 M) := by
  refine vm_conW (y := q_L_limit) hfl (by decide +kernel) rfl (fun h => by cases h) (Nat.le_of_ble_eq_true rfl) _ rfl (fun _ _ _ => rfl) (fun r E h => by cases h) (fun w => ?_)
  show V_ l w q_L_limit 8 ex_I 0 [(0, xA a0), (1, xI v1), (2, xI v2), (3, xI v3), (4, xA a4)] [] M (k_L_limit a0 v1 v2 v3 a4 M)
  unfold k_L_limit
  refine v_aload d_L_limit_0 4 rfl ?_
  refine v_iconst d_L_limit_2 (by decide) ?_
  refine v_aloadn d_L_limit_3 rfl 0 rfl ?_
  refine v_iloadn d_L_limit_4 rfl 1 rfl ?_
  refine v_iloadn d_L_limit_5 rfl 2 rfl ?_
  refine v_iloadn d_L_limit_6 rfl 3 rfl ?_
  refine v_xW d_L_limit_7 ml_L_106 (q := (RX10, TX10, 10)) rfl (c_X_limit l hfl a0 v1 v2 v3 M) (fun _ => rfl) (by decide) (by decide) (as := [xI v1, xI v2, xI v3]) (st1 := [xI 0, xA a4]) rfl rfl (Nat.le_of_ble_eq_true rfl) (sr := fun r => [xI r]) (fun E M => ?_) (fun c7 M => ?_)
  · by_cases h1 : E = 1
    · subst h1
      right; refine ⟨15, 5, 17, [(0, xA a0), (1, xI v1), (2, xI v2), (3, xI v3), (4, xA a4)], ⟨[], ⟨0, 12, 15, 13⟩, [], rfl, (fun z hz => (by cases hz)), by decide, by decide, ⟨"java/lang/IllegalArgumentException", gw_641, gw_833⟩, rfl⟩, Or.inr ⟨d_L_limit_15.1, rfl⟩, Nat.le_of_ble_eq_true rfl, rfl, ?_⟩
      show V_ l w q_L_limit 8 ex_I 17 [(0, xA a0), (1, xI v1), (2, xI v2), (3, xI v3), (4, xA a4)] [] M _
      rw [if_pos rfl]
      refine v_iconst d_L_limit_17 (by decide) ?_
      exact v_ret d_L_limit_18 rfl
    left
    rw [if_neg h1]
  show V_ l w q_L_limit 8 ex_I 10 [(0, xA a0), (1, xI v1), (2, xI v2), (3, xI v3), (4, xA a4)] [xI c7, xI 0, xA a4] M _
  refine v_i2l d_L_limit_10 ?_
  refine v_last d_L_limit_11 (fun M => ?_)
  refine v_goto d_L_limit_12 ?_
  refine v_iconst d_L_limit_19 (by decide) ?_
  exact v_ret d_L_limit_20 rfl
set_option maxHeartbeats 4000000 in
set_option maxRecDepth 100000 in
theorem c_L_avoid (l : Launch) (hfl : l.stackTraces = false) (a0 : Nat) (v1 : Int) (v2 : Int) (a3 : Nat) (M : mm_T) : vm_Con l yL_avoid (.codeWith yL_avoid cL_avoid 5 (some .int) [(0, 17, 20, 42)]) 8 ex_I [xA a0, xI v1, xI v2, xA a3] M (k_L_avoid a0 v1 v2 a3 M) := by
  refine vm_conW (y := q_L_avoid) hfl (by decide +kernel) rfl (fun h => by cases h) (Nat.le_of_ble_eq_true rfl) _ rfl (fun _ _ _ => rfl) (fun r E h => by cases h) (fun w => ?_)
  show V_ l w q_L_avoid 8 ex_I 0 [(0, xA a0), (1, xI v1), (2, xI v2), (3, xA a3)] [] M (k_L_avoid a0 v1 v2 a3 M)
  unfold k_L_avoid
  refine v_aloadn d_L_avoid_0 rfl 3 rfl ?_
  refine v_iconst d_L_avoid_1 (by decide) ?_
  refine v_aloadn d_L_avoid_2 rfl 0 rfl ?_
  refine v_iloadn d_L_avoid_3 rfl 1 rfl ?_
  refine v_iloadn d_L_avoid_4 rfl 2 rfl ?_
  refine v_xW d_L_avoid_5 ml_L_109 (q := (RX10, TX10, 10)) rfl (c_X_avoid l hfl a0 v1 v2 M) (fun _ => rfl) (by decide) (by decide) (as := [xI v1, xI v2]) (st1 := [xI 0, xA a3]) rfl rfl (Nat.le_of_ble_eq_true rfl) (sr := fun r => [xI r]) (fun E M => ?_) (fun c5 M => ?_)
  · by_cases h3 : E = 3
    · subst h3
      right; refine ⟨20, 4, 22, [(0, xA a0), (1, xI v1), (2, xI v2), (3, xA a3)], ⟨[], ⟨0, 17, 20, 42⟩, [], rfl, (fun z hz => (by cases hz)), by decide, by decide, ⟨"java/lang/IndexOutOfBoundsException", gw_1011, gw_1023⟩, rfl⟩, Or.inr ⟨d_L_avoid_20.1, rfl⟩, Nat.le_of_ble_eq_true rfl, rfl, ?_⟩
      show V_ l w q_L_avoid 8 ex_I 22 [(0, xA a0), (1, xI v1), (2, xI v2), (3, xA a3)] [] M _
      rw [if_pos rfl]
      refine v_iconst d_L_avoid_22 (by decide) ?_
      exact v_ret d_L_avoid_23 rfl
    left
    rw [if_neg h3]
  show V_ l w q_L_avoid 8 ex_I 8 [(0, xA a0), (1, xI v1), (2, xI v2), (3, xA a3)] [xI c5, xI 0, xA a3] M _
  refine v_join3 (pj := 16) (lj := fun sa0_16 s1_16 sw2_16 => []) (sj := fun sa0_16 s1_16 sw2_16 => [xJ sw2_16, xI s1_16, xA sa0_16]) (fun sa0_16 s1_16 sw2_16 M => ?_) (fun j16 hj16 => ?_)
  · refine v_last d_L_avoid_16 (fun M => ?_)
    refine v_goto d_L_avoid_17 ?_
    refine v_iconst d_L_avoid_24 (by decide) ?_
    exact v_ret d_L_avoid_25 rfl
  refine v_ifeq d_L_avoid_8 ?_ ?_
  · refine v_lconst d_L_avoid_15 (v := 0) rfl ?_
    refine v_sub (ls' := []) [] rfl ?_
    exact hj16 a3 0 0 M
  · refine v_lconst d_L_avoid_11 (v := 1) rfl ?_
    refine v_goto d_L_avoid_12 ?_
    refine v_sub (ls' := []) [] rfl ?_
    exact hj16 a3 0 1 M
set_option maxHeartbeats 4000000 in
set_option maxRecDepth 100000 in
theorem c_L_local (l : Launch) (hfl : l.stackTraces = false) (a0 : Nat) (v1 : Int) (a2 : Nat) (M : mm_T) : vm_Con l yL_local (.codeWith yL_local cL_local 4 (some .int) [(0, 9, 12, 13)]) 8 ex_I [xA a0, xI v1, xA a2] M (k_L_local a0 v1 a2 M) := by
  refine vm_conW (y := q_L_local) hfl (by decide +kernel) rfl (fun h => by cases h) (Nat.le_of_ble_eq_true rfl) _ rfl (fun _ _ _ => rfl) (fun r E h => by cases h) (fun w => ?_)
  show V_ l w q_L_local 8 ex_I 0 [(0, xA a0), (1, xI v1), (2, xA a2)] [] M (k_L_local a0 v1 a2 M)
  unfold k_L_local
  refine v_aloadn d_L_local_0 rfl 2 rfl ?_
  refine v_iconst d_L_local_1 (by decide) ?_
  refine v_aloadn d_L_local_2 rfl 0 rfl ?_
  refine v_iloadn d_L_local_3 rfl 1 rfl ?_
  refine v_xW d_L_local_4 ml_L_113 (q := (RX10, TX10, 10)) rfl (c_X_local l hfl a0 v1 M) (fun _ => rfl) (by decide) (by decide) (as := [xI v1]) (st1 := [xI 0, xA a2]) rfl rfl (Nat.le_of_ble_eq_true rfl) (sr := fun r => [xI r]) (fun E M => ?_) (fun c4 M => ?_)
  · by_cases h1 : E = 1
    · subst h1
      right; refine ⟨12, 3, 13, [(0, xA a0), (1, xI v1), (2, xA a2)], ⟨[], ⟨0, 9, 12, 13⟩, [], rfl, (fun z hz => (by cases hz)), by decide, by decide, ⟨"java/lang/IllegalArgumentException", gw_641, gw_833⟩, rfl⟩, Or.inl ⟨3, rfl, d_L_local_12.1, rfl⟩, Nat.le_of_ble_eq_true rfl, rfl, ?_⟩
      show V_ l w q_L_local 8 ex_I 13 [(0, xA a0), (1, xI v1), (2, xA a2)] [] M _
      rw [if_pos rfl]
      refine v_iconst d_L_local_13 (by decide) ?_
      exact v_ret d_L_local_14 rfl
    left
    rw [if_neg h1]
  show V_ l w q_L_local 8 ex_I 7 [(0, xA a0), (1, xI v1), (2, xA a2)] [xI c4, xI 0, xA a2] M _
  refine v_i2l d_L_local_7 ?_
  refine v_last d_L_local_8 (fun M => ?_)
  refine v_goto d_L_local_9 ?_
  refine v_iconst d_L_local_15 (by decide) ?_
  exact v_ret d_L_local_16 rfl
set_option maxHeartbeats 4000000 in
set_option maxRecDepth 100000 in
theorem c_L_fill (l : Launch) (hfl : l.stackTraces = false) (a0 : Nat) (v1 : Int) (v2 : Int) (v3 : Int) (a4 : Nat) (M : mm_T) : vm_Con l yL_fill (.codeWith yL_fill cL_fill 6 (some .int) [(0, 12, 15, 42), (0, 12, 19, 13), (0, 12, 23, 22)]) 17 ex_I [xA a0, xI v1, xI v2, xI v3, xA a4] M (k_L_fill a0 v1 v2 v3 a4 M) := by
  refine vm_conW (y := q_L_fill) hfl (by decide +kernel) rfl (fun h => by cases h) (Nat.le_of_ble_eq_true rfl) _ rfl (fun _ _ _ => rfl) (fun r E h => by cases h) (fun w => ?_)
  show V_ l w q_L_fill 17 ex_I 0 [(0, xA a0), (1, xI v1), (2, xI v2), (3, xI v3), (4, xA a4)] [] M (k_L_fill a0 v1 v2 v3 a4 M)
  unfold k_L_fill
  refine v_aload d_L_fill_0 4 rfl ?_
  refine v_iconst d_L_fill_2 (by decide) ?_
  refine v_aloadn d_L_fill_3 rfl 0 rfl ?_
  refine v_iloadn d_L_fill_4 rfl 1 rfl ?_
  refine v_iloadn d_L_fill_5 rfl 2 rfl ?_
  refine v_iloadn d_L_fill_6 rfl 3 rfl ?_
  refine v_xW d_L_fill_7 ml_L_116 (q := (RX10, TX10, 10)) rfl (c_X_fill l hfl a0 v1 v2 v3 M) (fun _ => rfl) (by decide) (by decide) (as := [xI v1, xI v2, xI v3]) (st1 := [xI 0, xA a4]) rfl rfl (Nat.le_of_ble_eq_true rfl) (sr := fun r => [xI r]) (fun E M => ?_) (fun c7 M => ?_)
  · by_cases h3 : E = 3
    · subst h3
      right; refine ⟨15, 5, 17, [(0, xA a0), (1, xI v1), (2, xI v2), (3, xI v3), (4, xA a4)], ⟨[], ⟨0, 12, 15, 42⟩, [⟨0, 12, 19, 13⟩, ⟨0, 12, 23, 22⟩], rfl, (fun z hz => (by cases hz)), by decide, by decide, ⟨"java/lang/IndexOutOfBoundsException", gw_1011, gw_1023⟩, rfl⟩, Or.inr ⟨d_L_fill_15.1, rfl⟩, Nat.le_of_ble_eq_true rfl, rfl, ?_⟩
      show V_ l w q_L_fill 17 ex_I 17 [(0, xA a0), (1, xI v1), (2, xI v2), (3, xI v3), (4, xA a4)] [] M _
      rw [if_pos rfl]
      refine v_iconst d_L_fill_17 (by decide) ?_
      exact v_ret d_L_fill_18 rfl
    by_cases h1 : E = 1
    · subst h1
      right; refine ⟨19, 5, 21, [(0, xA a0), (1, xI v1), (2, xI v2), (3, xI v3), (4, xA a4)], ⟨[⟨0, 12, 15, 42⟩], ⟨0, 12, 19, 13⟩, [⟨0, 12, 23, 22⟩], rfl, (List.forall_mem_cons.mpr ⟨Or.inr ⟨by decide, "java/lang/IndexOutOfBoundsException", gw_1011, by decide⟩, (fun z hz => (by cases hz))⟩), by decide, by decide, ⟨"java/lang/IllegalArgumentException", gw_641, gw_833⟩, rfl⟩, Or.inr ⟨d_L_fill_19.1, rfl⟩, Nat.le_of_ble_eq_true rfl, rfl, ?_⟩
      show V_ l w q_L_fill 17 ex_I 21 [(0, xA a0), (1, xI v1), (2, xI v2), (3, xI v3), (4, xA a4)] [] M _
      rw [if_neg (by decide)]
      rw [if_pos rfl]
      refine v_iconst d_L_fill_21 (by decide) ?_
      exact v_ret d_L_fill_22 rfl
    by_cases h2 : E = 2
    · subst h2
      right; refine ⟨23, 5, 25, [(0, xA a0), (1, xI v1), (2, xI v2), (3, xI v3), (4, xA a4)], ⟨[⟨0, 12, 15, 42⟩, ⟨0, 12, 19, 13⟩], ⟨0, 12, 23, 22⟩, [], rfl, (List.forall_mem_cons.mpr ⟨Or.inr ⟨by decide, "java/lang/IndexOutOfBoundsException", gw_1011, by decide⟩, (List.forall_mem_cons.mpr ⟨Or.inr ⟨by decide, "java/lang/IllegalArgumentException", gw_641, by decide⟩, (fun z hz => (by cases hz))⟩)⟩), by decide, by decide, ⟨"java/lang/IllegalStateException", gw_927, gw_938⟩, rfl⟩, Or.inr ⟨d_L_fill_23.1, rfl⟩, Nat.le_of_ble_eq_true rfl, rfl, ?_⟩
      show V_ l w q_L_fill 17 ex_I 25 [(0, xA a0), (1, xI v1), (2, xI v2), (3, xI v3), (4, xA a4)] [] M _
      rw [if_neg (by decide)]
      rw [if_neg (by decide)]
      rw [if_pos rfl]
      refine v_iconst d_L_fill_25 (by decide) ?_
      exact v_ret d_L_fill_26 rfl
    left
    rw [if_neg h3, if_neg h1, if_neg h2]
  show V_ l w q_L_fill 17 ex_I 10 [(0, xA a0), (1, xI v1), (2, xI v2), (3, xI v3), (4, xA a4)] [xI c7, xI 0, xA a4] M _
  refine v_i2l d_L_fill_10 ?_
  refine v_last d_L_fill_11 (fun M => ?_)
  refine v_goto d_L_fill_12 ?_
  refine v_iconst d_L_fill_27 (by decide) ?_
  exact v_ret d_L_fill_28 rfl
set_option maxHeartbeats 4000000 in
set_option maxRecDepth 100000 in
theorem c_L_sources (l : Launch) (hfl : l.stackTraces = false) (a0 : Nat) (v1 : Int) (a2 : Nat) (M : mm_T) : vm_Con l yL_sources (.codeWith yL_sources cL_sources 4 (some .int) [(0, 8, 11, 42)]) 8 ex_I [xA a0, xI v1, xA a2] M (k_L_sources a0 v1 a2 M) := by
  refine vm_conW (y := q_L_sources) hfl (by decide +kernel) rfl (fun h => by cases h) (Nat.le_of_ble_eq_true rfl) _ rfl (fun _ _ _ => rfl) (fun r E h => by cases h) (fun w => ?_)
  show V_ l w q_L_sources 8 ex_I 0 [(0, xA a0), (1, xI v1), (2, xA a2)] [] M (k_L_sources a0 v1 a2 M)
  unfold k_L_sources
  refine v_aloadn d_L_sources_0 rfl 2 rfl ?_
  refine v_iconst d_L_sources_1 (by decide) ?_
  refine v_aloadn d_L_sources_2 rfl 0 rfl ?_
  refine v_iloadn d_L_sources_3 rfl 1 rfl ?_
  refine v_xW d_L_sources_4 ml_L_119 (q := (RX10, TX10, 10)) rfl (c_X_sources l hfl a0 v1 M) (fun _ => rfl) (by decide) (by decide) (as := [xI v1]) (st1 := [xI 0, xA a2]) rfl rfl (Nat.le_of_ble_eq_true rfl) (sr := fun r => [xJ r]) (fun E M => ?_) (fun c4 M => ?_)
  · by_cases h3 : E = 3
    · subst h3
      right; refine ⟨11, 3, 12, [(0, xA a0), (1, xI v1), (2, xA a2)], ⟨[], ⟨0, 8, 11, 42⟩, [], rfl, (fun z hz => (by cases hz)), by decide, by decide, ⟨"java/lang/IndexOutOfBoundsException", gw_1011, gw_1023⟩, rfl⟩, Or.inl ⟨3, rfl, d_L_sources_11.1, rfl⟩, Nat.le_of_ble_eq_true rfl, rfl, ?_⟩
      show V_ l w q_L_sources 8 ex_I 12 [(0, xA a0), (1, xI v1), (2, xA a2)] [] M _
      rw [if_pos rfl]
      refine v_iconst d_L_sources_12 (by decide) ?_
      exact v_ret d_L_sources_13 rfl
    left
    rw [if_neg h3]
  show V_ l w q_L_sources 8 ex_I 7 [(0, xA a0), (1, xI v1), (2, xA a2)] [xJ c4, xI 0, xA a2] M _
  refine v_last d_L_sources_7 (fun M => ?_)
  refine v_goto d_L_sources_8 ?_
  refine v_iconst d_L_sources_14 (by decide) ?_
  exact v_ret d_L_sources_15 rfl
set_option maxHeartbeats 4000000 in
set_option maxRecDepth 100000 in
theorem c_L_code (l : Launch) (hfl : l.stackTraces = false) (a0 : Nat) (v1 : Int) (a2 : Nat) (M : mm_T) : vm_Con l yL_code (.codeWith yL_code cL_code 4 (some .int) [(0, 16, 19, 42)]) 8 ex_I [xA a0, xI v1, xA a2] M (k_L_code a0 v1 a2 M) := by
  refine vm_conW (y := q_L_code) hfl (by decide +kernel) rfl (fun h => by cases h) (Nat.le_of_ble_eq_true rfl) _ rfl (fun _ _ _ => rfl) (fun r E h => by cases h) (fun w => ?_)
  show V_ l w q_L_code 8 ex_I 0 [(0, xA a0), (1, xI v1), (2, xA a2)] [] M (k_L_code a0 v1 a2 M)
  unfold k_L_code
  refine v_aloadn d_L_code_0 rfl 2 rfl ?_
  refine v_iconst d_L_code_1 (by decide) ?_
  refine v_aloadn d_L_code_2 rfl 0 rfl ?_
  refine v_iloadn d_L_code_3 rfl 1 rfl ?_
  refine v_xW d_L_code_4 ml_L_123 (q := (RX10, TX10, 10)) rfl (c_X_code l hfl a0 v1 M) (fun _ => rfl) (by decide) (by decide) (as := [xI v1]) (st1 := [xI 0, xA a2]) rfl rfl (Nat.le_of_ble_eq_true rfl) (sr := fun r => [xI r]) (fun E M => ?_) (fun c4 M => ?_)
  · by_cases h3 : E = 3
    · subst h3
      right; refine ⟨19, 3, 20, [(0, xA a0), (1, xI v1), (2, xA a2)], ⟨[], ⟨0, 16, 19, 42⟩, [], rfl, (fun z hz => (by cases hz)), by decide, by decide, ⟨"java/lang/IndexOutOfBoundsException", gw_1011, gw_1023⟩, rfl⟩, Or.inl ⟨3, rfl, d_L_code_19.1, rfl⟩, Nat.le_of_ble_eq_true rfl, rfl, ?_⟩
      show V_ l w q_L_code 8 ex_I 20 [(0, xA a0), (1, xI v1), (2, xA a2)] [] M _
      rw [if_pos rfl]
      refine v_iconst d_L_code_20 (by decide) ?_
      exact v_ret d_L_code_21 rfl
    left
    rw [if_neg h3]
  show V_ l w q_L_code 8 ex_I 7 [(0, xA a0), (1, xI v1), (2, xA a2)] [xI c4, xI 0, xA a2] M _
  refine v_join3 (pj := 15) (lj := fun sa0_15 s1_15 sw2_15 => []) (sj := fun sa0_15 s1_15 sw2_15 => [xJ sw2_15, xI s1_15, xA sa0_15]) (fun sa0_15 s1_15 sw2_15 M => ?_) (fun j15 hj15 => ?_)
  · refine v_last d_L_code_15 (fun M => ?_)
    refine v_goto d_L_code_16 ?_
    refine v_iconst d_L_code_22 (by decide) ?_
    exact v_ret d_L_code_23 rfl
  refine v_ifeq d_L_code_7 ?_ ?_
  · refine v_lconst d_L_code_14 (v := 0) rfl ?_
    refine v_sub (ls' := []) [] rfl ?_
    exact hj15 a2 0 0 M
  · refine v_lconst d_L_code_10 (v := 1) rfl ?_
    refine v_goto d_L_code_11 ?_
    refine v_sub (ls' := []) [] rfl ?_
    exact hj15 a2 0 1 M
set_option maxHeartbeats 4000000 in
set_option maxRecDepth 100000 in
theorem c_L_whole (l : Launch) (hfl : l.stackTraces = false) (a0 : Nat) (v1 : Int) (v2 : Int) (v3 : Int) (a4 : Nat) (M : mm_T) : vm_Con l yL_whole (.codeWith yL_whole cL_whole 6 (some .int) [(0, 12, 15, 42), (0, 12, 19, 30)]) 8 ex_I [xA a0, xI v1, xI v2, xI v3, xA a4] M (k_L_whole a0 v1 v2 v3 a4 M) := by
  refine vm_conW (y := q_L_whole) hfl (by decide +kernel) rfl (fun h => by cases h) (Nat.le_of_ble_eq_true rfl) _ rfl (fun _ _ _ => rfl) (fun r E h => by cases h) (fun w => ?_)
  show V_ l w q_L_whole 8 ex_I 0 [(0, xA a0), (1, xI v1), (2, xI v2), (3, xI v3), (4, xA a4)] [] M (k_L_whole a0 v1 v2 v3 a4 M)
  unfold k_L_whole
  refine v_aload d_L_whole_0 4 rfl ?_
  refine v_iconst d_L_whole_2 (by decide) ?_
  refine v_aloadn d_L_whole_3 rfl 0 rfl ?_
  refine v_iloadn d_L_whole_4 rfl 1 rfl ?_
  refine v_iloadn d_L_whole_5 rfl 2 rfl ?_
  refine v_iloadn d_L_whole_6 rfl 3 rfl ?_
  refine v_xW d_L_whole_7 ml_L_126 (q := (RX10, TX10, 10)) rfl (c_X_whole l hfl a0 v1 v2 v3 M) (fun _ => rfl) (by decide) (by decide) (as := [xI v1, xI v2, xI v3]) (st1 := [xI 0, xA a4]) rfl rfl (Nat.le_of_ble_eq_true rfl) (sr := fun r => [xI r]) (fun E M => ?_) (fun c7 M => ?_)
  · by_cases h3 : E = 3
    · subst h3
      right; refine ⟨15, 5, 17, [(0, xA a0), (1, xI v1), (2, xI v2), (3, xI v3), (4, xA a4)], ⟨[], ⟨0, 12, 15, 42⟩, [⟨0, 12, 19, 30⟩], rfl, (fun z hz => (by cases hz)), by decide, by decide, ⟨"java/lang/IndexOutOfBoundsException", gw_1011, gw_1023⟩, rfl⟩, Or.inr ⟨d_L_whole_15.1, rfl⟩, Nat.le_of_ble_eq_true rfl, rfl, ?_⟩
      show V_ l w q_L_whole 8 ex_I 17 [(0, xA a0), (1, xI v1), (2, xI v2), (3, xI v3), (4, xA a4)] [] M _
      rw [if_pos rfl]
      refine v_iconst d_L_whole_17 (by decide) ?_
      exact v_ret d_L_whole_18 rfl
    by_cases h4 : E = 4
    · subst h4
      right; refine ⟨19, 5, 21, [(0, xA a0), (1, xI v1), (2, xI v2), (3, xI v3), (4, xA a4)], ⟨[⟨0, 12, 15, 42⟩], ⟨0, 12, 19, 30⟩, [], rfl, (List.forall_mem_cons.mpr ⟨Or.inr ⟨by decide, "java/lang/IndexOutOfBoundsException", gw_1011, by decide⟩, (fun z hz => (by cases hz))⟩), by decide, by decide, ⟨"java/util/NoSuchElementException", gw_962, gw_973⟩, rfl⟩, Or.inr ⟨d_L_whole_19.1, rfl⟩, Nat.le_of_ble_eq_true rfl, rfl, ?_⟩
      show V_ l w q_L_whole 8 ex_I 21 [(0, xA a0), (1, xI v1), (2, xI v2), (3, xI v3), (4, xA a4)] [] M _
      rw [if_neg (by decide)]
      rw [if_pos rfl]
      refine v_iconst d_L_whole_21 (by decide) ?_
      exact v_ret d_L_whole_22 rfl
    left
    rw [if_neg h3, if_neg h4]
  show V_ l w q_L_whole 8 ex_I 10 [(0, xA a0), (1, xI v1), (2, xI v2), (3, xI v3), (4, xA a4)] [xI c7, xI 0, xA a4] M _
  refine v_i2l d_L_whole_10 ?_
  refine v_last d_L_whole_11 (fun M => ?_)
  refine v_goto d_L_whole_12 ?_
  refine v_iconst d_L_whole_23 (by decide) ?_
  exact v_ret d_L_whole_24 rfl
