def q_L_read : vm_Y := ("RepeatFreeLaw", cL_read, 3, false, [(0, 8, 11, 13)])
def t_L_read_0 : List (Nat × Instr × Nat) := [(0, .aload_n 1, 1), (1, .iconst 0, 1), (2, .aload_n 0, 1), (3, .invokevirtual 7, 3), (6, .i2l, 1), (7, .lastore, 1), (8, .goto 6, 3), (11, .astore_n 2, 1), (12, .iconst 1, 1), (13, .ireturn, 1), (14, .iconst 0, 1), (15, .ireturn, 1)]
theorem b_L_read_0 : (t_L_read_0.all fun q => decide (decode q_L_read.2.1 q.1 = .ok (q.2.1, q.2.2))) = true := by decide +kernel
theorem d_L_read_0 : vm_D q_L_read.2.1 0 1 1 (.aload_n 1) := vm_dD b_L_read_0 0 rfl rfl
theorem d_L_read_1 : vm_D q_L_read.2.1 1 1 2 (.iconst 0) := vm_dD b_L_read_0 1 rfl rfl
theorem d_L_read_2 : vm_D q_L_read.2.1 2 1 3 (.aload_n 0) := vm_dD b_L_read_0 2 rfl rfl
theorem d_L_read_12 : vm_D q_L_read.2.1 12 1 13 (.iconst 1) := vm_dD b_L_read_0 8 rfl rfl
theorem d_L_read_13 : vm_D q_L_read.2.1 13 1 14 (.ireturn) := vm_dD b_L_read_0 9 rfl rfl
theorem d_L_read_11 : vm_D q_L_read.2.1 11 1 12 (.astore_n 2) := vm_dD b_L_read_0 7 rfl rfl
theorem d_L_read_3 : vm_D q_L_read.2.1 3 3 6 (.invokevirtual 7) := vm_dD b_L_read_0 3 rfl rfl
theorem d_L_read_6 : vm_D q_L_read.2.1 6 1 7 (.i2l) := vm_dD b_L_read_0 4 rfl rfl
theorem d_L_read_7 : vm_D q_L_read.2.1 7 1 8 (.lastore) := vm_dD b_L_read_0 5 rfl rfl
theorem d_L_read_8 : ∃ off : Int, decode q_L_read.2.1 8 = .ok (.goto off, 3) ∧ ((8 : Nat) : Int) + off = ((14 : Nat) : Int) := ⟨6, vm_db b_L_read_0 (i := 6) rfl, by decide⟩
theorem d_L_read_14 : vm_D q_L_read.2.1 14 1 15 (.iconst 0) := vm_dD b_L_read_0 10 rfl rfl
theorem d_L_read_15 : vm_D q_L_read.2.1 15 1 16 (.ireturn) := vm_dD b_L_read_0 11 rfl rfl
def q_L_word : vm_Y := ("RepeatFreeLaw", cL_word, 3, false, [(0, 8, 11, 13)])
def t_L_word_0 : List (Nat × Instr × Nat) := [(0, .aload_n 1, 1), (1, .iconst 0, 1), (2, .aload_n 0, 1), (3, .invokevirtual 15, 3), (6, .i2l, 1), (7, .lastore, 1), (8, .goto 6, 3), (11, .astore_n 2, 1), (12, .iconst 1, 1), (13, .ireturn, 1), (14, .iconst 0, 1), (15, .ireturn, 1)]
theorem b_L_word_0 : (t_L_word_0.all fun q => decide (decode q_L_word.2.1 q.1 = .ok (q.2.1, q.2.2))) = true := by decide +kernel
theorem d_L_word_0 : vm_D q_L_word.2.1 0 1 1 (.aload_n 1) := vm_dD b_L_word_0 0 rfl rfl
theorem d_L_word_1 : vm_D q_L_word.2.1 1 1 2 (.iconst 0) := vm_dD b_L_word_0 1 rfl rfl
theorem d_L_word_2 : vm_D q_L_word.2.1 2 1 3 (.aload_n 0) := vm_dD b_L_word_0 2 rfl rfl
theorem d_L_word_12 : vm_D q_L_word.2.1 12 1 13 (.iconst 1) := vm_dD b_L_word_0 8 rfl rfl
theorem d_L_word_13 : vm_D q_L_word.2.1 13 1 14 (.ireturn) := vm_dD b_L_word_0 9 rfl rfl
theorem d_L_word_11 : vm_D q_L_word.2.1 11 1 12 (.astore_n 2) := vm_dD b_L_word_0 7 rfl rfl
theorem d_L_word_3 : vm_D q_L_word.2.1 3 3 6 (.invokevirtual 15) := vm_dD b_L_word_0 3 rfl rfl
theorem d_L_word_6 : vm_D q_L_word.2.1 6 1 7 (.i2l) := vm_dD b_L_word_0 4 rfl rfl
theorem d_L_word_7 : vm_D q_L_word.2.1 7 1 8 (.lastore) := vm_dD b_L_word_0 5 rfl rfl
theorem d_L_word_8 : ∃ off : Int, decode q_L_word.2.1 8 = .ok (.goto off, 3) ∧ ((8 : Nat) : Int) + off = ((14 : Nat) : Int) := ⟨6, vm_db b_L_word_0 (i := 6) rfl, by decide⟩
theorem d_L_word_14 : vm_D q_L_word.2.1 14 1 15 (.iconst 0) := vm_dD b_L_word_0 10 rfl rfl
theorem d_L_word_15 : vm_D q_L_word.2.1 15 1 16 (.ireturn) := vm_dD b_L_word_0 11 rfl rfl
def q_L_push : vm_Y := ("RepeatFreeLaw", cL_push, 4, false, [(0, 9, 12, 13), (0, 9, 15, 22)])
def t_L_push_0 : List (Nat × Instr × Nat) := [(0, .aload_n 2, 1), (1, .iconst 0, 1), (2, .aload_n 0, 1), (3, .iload_n 1, 1), (4, .invokevirtual 18, 3), (7, .i2l, 1), (8, .lastore, 1), (9, .goto 9, 3), (12, .astore_n 3, 1), (13, .iconst 1, 1), (14, .ireturn, 1), (15, .astore_n 3, 1), (16, .iconst 2, 1), (17, .ireturn, 1), (18, .iconst 0, 1), (19, .ireturn, 1)]
theorem b_L_push_0 : (t_L_push_0.all fun q => decide (decode q_L_push.2.1 q.1 = .ok (q.2.1, q.2.2))) = true := by decide +kernel
theorem d_L_push_0 : vm_D q_L_push.2.1 0 1 1 (.aload_n 2) := vm_dD b_L_push_0 0 rfl rfl
theorem d_L_push_1 : vm_D q_L_push.2.1 1 1 2 (.iconst 0) := vm_dD b_L_push_0 1 rfl rfl
theorem d_L_push_2 : vm_D q_L_push.2.1 2 1 3 (.aload_n 0) := vm_dD b_L_push_0 2 rfl rfl
theorem d_L_push_3 : vm_D q_L_push.2.1 3 1 4 (.iload_n 1) := vm_dD b_L_push_0 3 rfl rfl
theorem d_L_push_13 : vm_D q_L_push.2.1 13 1 14 (.iconst 1) := vm_dD b_L_push_0 9 rfl rfl
theorem d_L_push_14 : vm_D q_L_push.2.1 14 1 15 (.ireturn) := vm_dD b_L_push_0 10 rfl rfl
theorem d_L_push_12 : vm_D q_L_push.2.1 12 1 13 (.astore_n 3) := vm_dD b_L_push_0 8 rfl rfl
theorem d_L_push_16 : vm_D q_L_push.2.1 16 1 17 (.iconst 2) := vm_dD b_L_push_0 12 rfl rfl
theorem d_L_push_17 : vm_D q_L_push.2.1 17 1 18 (.ireturn) := vm_dD b_L_push_0 13 rfl rfl
theorem d_L_push_15 : vm_D q_L_push.2.1 15 1 16 (.astore_n 3) := vm_dD b_L_push_0 11 rfl rfl
theorem d_L_push_4 : vm_D q_L_push.2.1 4 3 7 (.invokevirtual 18) := vm_dD b_L_push_0 4 rfl rfl
theorem d_L_push_7 : vm_D q_L_push.2.1 7 1 8 (.i2l) := vm_dD b_L_push_0 5 rfl rfl
theorem d_L_push_8 : vm_D q_L_push.2.1 8 1 9 (.lastore) := vm_dD b_L_push_0 6 rfl rfl
theorem d_L_push_9 : ∃ off : Int, decode q_L_push.2.1 9 = .ok (.goto off, 3) ∧ ((9 : Nat) : Int) + off = ((18 : Nat) : Int) := ⟨9, vm_db b_L_push_0 (i := 7) rfl, by decide⟩
theorem d_L_push_18 : vm_D q_L_push.2.1 18 1 19 (.iconst 0) := vm_dD b_L_push_0 14 rfl rfl
theorem d_L_push_19 : vm_D q_L_push.2.1 19 1 20 (.ireturn) := vm_dD b_L_push_0 15 rfl rfl
def q_L_pop : vm_Y := ("RepeatFreeLaw", cL_pop, 3, false, [(0, 8, 11, 22)])
def t_L_pop_0 : List (Nat × Instr × Nat) := [(0, .aload_n 1, 1), (1, .iconst 0, 1), (2, .aload_n 0, 1), (3, .invokevirtual 24, 3), (6, .i2l, 1), (7, .lastore, 1), (8, .goto 6, 3), (11, .astore_n 2, 1), (12, .iconst 1, 1), (13, .ireturn, 1), (14, .iconst 0, 1), (15, .ireturn, 1)]
theorem b_L_pop_0 : (t_L_pop_0.all fun q => decide (decode q_L_pop.2.1 q.1 = .ok (q.2.1, q.2.2))) = true := by decide +kernel
theorem d_L_pop_0 : vm_D q_L_pop.2.1 0 1 1 (.aload_n 1) := vm_dD b_L_pop_0 0 rfl rfl
theorem d_L_pop_1 : vm_D q_L_pop.2.1 1 1 2 (.iconst 0) := vm_dD b_L_pop_0 1 rfl rfl
theorem d_L_pop_2 : vm_D q_L_pop.2.1 2 1 3 (.aload_n 0) := vm_dD b_L_pop_0 2 rfl rfl
theorem d_L_pop_12 : vm_D q_L_pop.2.1 12 1 13 (.iconst 1) := vm_dD b_L_pop_0 8 rfl rfl
theorem d_L_pop_13 : vm_D q_L_pop.2.1 13 1 14 (.ireturn) := vm_dD b_L_pop_0 9 rfl rfl
theorem d_L_pop_11 : vm_D q_L_pop.2.1 11 1 12 (.astore_n 2) := vm_dD b_L_pop_0 7 rfl rfl
theorem d_L_pop_3 : vm_D q_L_pop.2.1 3 3 6 (.invokevirtual 24) := vm_dD b_L_pop_0 3 rfl rfl
theorem d_L_pop_6 : vm_D q_L_pop.2.1 6 1 7 (.i2l) := vm_dD b_L_pop_0 4 rfl rfl
theorem d_L_pop_7 : vm_D q_L_pop.2.1 7 1 8 (.lastore) := vm_dD b_L_pop_0 5 rfl rfl
theorem d_L_pop_8 : ∃ off : Int, decode q_L_pop.2.1 8 = .ok (.goto off, 3) ∧ ((8 : Nat) : Int) + off = ((14 : Nat) : Int) := ⟨6, vm_db b_L_pop_0 (i := 6) rfl, by decide⟩
theorem d_L_pop_14 : vm_D q_L_pop.2.1 14 1 15 (.iconst 0) := vm_dD b_L_pop_0 10 rfl rfl
theorem d_L_pop_15 : vm_D q_L_pop.2.1 15 1 16 (.ireturn) := vm_dD b_L_pop_0 11 rfl rfl
def q_L_greatest : vm_Y := ("RepeatFreeLaw", cL_greatest, 4, false, [(0, 9, 12, 30)])
def t_L_greatest_0 : List (Nat × Instr × Nat) := [(0, .aload_n 2, 1), (1, .iconst 0, 1), (2, .aload_n 0, 1), (3, .iload_n 1, 1), (4, .invokevirtual 27, 3), (7, .i2l, 1), (8, .lastore, 1), (9, .goto 6, 3), (12, .astore_n 3, 1), (13, .iconst 1, 1), (14, .ireturn, 1), (15, .iconst 0, 1), (16, .ireturn, 1)]
theorem b_L_greatest_0 : (t_L_greatest_0.all fun q => decide (decode q_L_greatest.2.1 q.1 = .ok (q.2.1, q.2.2))) = true := by decide +kernel
theorem d_L_greatest_0 : vm_D q_L_greatest.2.1 0 1 1 (.aload_n 2) := vm_dD b_L_greatest_0 0 rfl rfl
theorem d_L_greatest_1 : vm_D q_L_greatest.2.1 1 1 2 (.iconst 0) := vm_dD b_L_greatest_0 1 rfl rfl
theorem d_L_greatest_2 : vm_D q_L_greatest.2.1 2 1 3 (.aload_n 0) := vm_dD b_L_greatest_0 2 rfl rfl
theorem d_L_greatest_3 : vm_D q_L_greatest.2.1 3 1 4 (.iload_n 1) := vm_dD b_L_greatest_0 3 rfl rfl
theorem d_L_greatest_13 : vm_D q_L_greatest.2.1 13 1 14 (.iconst 1) := vm_dD b_L_greatest_0 9 rfl rfl
theorem d_L_greatest_14 : vm_D q_L_greatest.2.1 14 1 15 (.ireturn) := vm_dD b_L_greatest_0 10 rfl rfl
theorem d_L_greatest_12 : vm_D q_L_greatest.2.1 12 1 13 (.astore_n 3) := vm_dD b_L_greatest_0 8 rfl rfl
theorem d_L_greatest_4 : vm_D q_L_greatest.2.1 4 3 7 (.invokevirtual 27) := vm_dD b_L_greatest_0 4 rfl rfl
theorem d_L_greatest_7 : vm_D q_L_greatest.2.1 7 1 8 (.i2l) := vm_dD b_L_greatest_0 5 rfl rfl
theorem d_L_greatest_8 : vm_D q_L_greatest.2.1 8 1 9 (.lastore) := vm_dD b_L_greatest_0 6 rfl rfl
theorem d_L_greatest_9 : ∃ off : Int, decode q_L_greatest.2.1 9 = .ok (.goto off, 3) ∧ ((9 : Nat) : Int) + off = ((15 : Nat) : Int) := ⟨6, vm_db b_L_greatest_0 (i := 7) rfl, by decide⟩
theorem d_L_greatest_15 : vm_D q_L_greatest.2.1 15 1 16 (.iconst 0) := vm_dD b_L_greatest_0 11 rfl rfl
theorem d_L_greatest_16 : vm_D q_L_greatest.2.1 16 1 17 (.ireturn) := vm_dD b_L_greatest_0 12 rfl rfl
def q_L_run : vm_Y := ("RepeatFreeLaw", cL_run, 5, false, [(0, 10, 13, 30)])
def t_L_run_0 : List (Nat × Instr × Nat) := [(0, .aload_n 3, 1), (1, .iconst 0, 1), (2, .aload_n 0, 1), (3, .iload_n 1, 1), (4, .iload_n 2, 1), (5, .invokevirtual 32, 3), (8, .i2l, 1), (9, .lastore, 1), (10, .goto 7, 3), (13, .astore 4, 2), (15, .iconst 1, 1), (16, .ireturn, 1), (17, .iconst 0, 1), (18, .ireturn, 1)]
theorem b_L_run_0 : (t_L_run_0.all fun q => decide (decode q_L_run.2.1 q.1 = .ok (q.2.1, q.2.2))) = true := by decide +kernel
theorem d_L_run_0 : vm_D q_L_run.2.1 0 1 1 (.aload_n 3) := vm_dD b_L_run_0 0 rfl rfl
theorem d_L_run_1 : vm_D q_L_run.2.1 1 1 2 (.iconst 0) := vm_dD b_L_run_0 1 rfl rfl
theorem d_L_run_2 : vm_D q_L_run.2.1 2 1 3 (.aload_n 0) := vm_dD b_L_run_0 2 rfl rfl
theorem d_L_run_3 : vm_D q_L_run.2.1 3 1 4 (.iload_n 1) := vm_dD b_L_run_0 3 rfl rfl
theorem d_L_run_4 : vm_D q_L_run.2.1 4 1 5 (.iload_n 2) := vm_dD b_L_run_0 4 rfl rfl
theorem d_L_run_15 : vm_D q_L_run.2.1 15 1 16 (.iconst 1) := vm_dD b_L_run_0 10 rfl rfl
theorem d_L_run_16 : vm_D q_L_run.2.1 16 1 17 (.ireturn) := vm_dD b_L_run_0 11 rfl rfl
theorem d_L_run_13 : vm_D q_L_run.2.1 13 2 15 (.astore 4) := vm_dD b_L_run_0 9 rfl rfl
theorem d_L_run_5 : vm_D q_L_run.2.1 5 3 8 (.invokevirtual 32) := vm_dD b_L_run_0 5 rfl rfl
theorem d_L_run_8 : vm_D q_L_run.2.1 8 1 9 (.i2l) := vm_dD b_L_run_0 6 rfl rfl
theorem d_L_run_9 : vm_D q_L_run.2.1 9 1 10 (.lastore) := vm_dD b_L_run_0 7 rfl rfl
theorem d_L_run_10 : ∃ off : Int, decode q_L_run.2.1 10 = .ok (.goto off, 3) ∧ ((10 : Nat) : Int) + off = ((17 : Nat) : Int) := ⟨7, vm_db b_L_run_0 (i := 8) rfl, by decide⟩
theorem d_L_run_17 : vm_D q_L_run.2.1 17 1 18 (.iconst 0) := vm_dD b_L_run_0 12 rfl rfl
theorem d_L_run_18 : vm_D q_L_run.2.1 18 1 19 (.ireturn) := vm_dD b_L_run_0 13 rfl rfl
def q_L_factors : vm_Y := ("RepeatFreeLaw", cL_factors, 4, false, [(0, 9, 12, 13)])
def t_L_factors_0 : List (Nat × Instr × Nat) := [(0, .aload_n 2, 1), (1, .iconst 0, 1), (2, .aload_n 0, 1), (3, .iload_n 1, 1), (4, .invokevirtual 36, 3), (7, .i2l, 1), (8, .lastore, 1), (9, .goto 6, 3), (12, .astore_n 3, 1), (13, .iconst 1, 1), (14, .ireturn, 1), (15, .iconst 0, 1), (16, .ireturn, 1)]
theorem b_L_factors_0 : (t_L_factors_0.all fun q => decide (decode q_L_factors.2.1 q.1 = .ok (q.2.1, q.2.2))) = true := by decide +kernel
theorem d_L_factors_0 : vm_D q_L_factors.2.1 0 1 1 (.aload_n 2) := vm_dD b_L_factors_0 0 rfl rfl
theorem d_L_factors_1 : vm_D q_L_factors.2.1 1 1 2 (.iconst 0) := vm_dD b_L_factors_0 1 rfl rfl
theorem d_L_factors_2 : vm_D q_L_factors.2.1 2 1 3 (.aload_n 0) := vm_dD b_L_factors_0 2 rfl rfl
theorem d_L_factors_3 : vm_D q_L_factors.2.1 3 1 4 (.iload_n 1) := vm_dD b_L_factors_0 3 rfl rfl
theorem d_L_factors_13 : vm_D q_L_factors.2.1 13 1 14 (.iconst 1) := vm_dD b_L_factors_0 9 rfl rfl
theorem d_L_factors_14 : vm_D q_L_factors.2.1 14 1 15 (.ireturn) := vm_dD b_L_factors_0 10 rfl rfl
theorem d_L_factors_12 : vm_D q_L_factors.2.1 12 1 13 (.astore_n 3) := vm_dD b_L_factors_0 8 rfl rfl
theorem d_L_factors_4 : vm_D q_L_factors.2.1 4 3 7 (.invokevirtual 36) := vm_dD b_L_factors_0 4 rfl rfl
theorem d_L_factors_7 : vm_D q_L_factors.2.1 7 1 8 (.i2l) := vm_dD b_L_factors_0 5 rfl rfl
theorem d_L_factors_8 : vm_D q_L_factors.2.1 8 1 9 (.lastore) := vm_dD b_L_factors_0 6 rfl rfl
theorem d_L_factors_9 : ∃ off : Int, decode q_L_factors.2.1 9 = .ok (.goto off, 3) ∧ ((9 : Nat) : Int) + off = ((15 : Nat) : Int) := ⟨6, vm_db b_L_factors_0 (i := 7) rfl, by decide⟩
theorem d_L_factors_15 : vm_D q_L_factors.2.1 15 1 16 (.iconst 0) := vm_dD b_L_factors_0 11 rfl rfl
theorem d_L_factors_16 : vm_D q_L_factors.2.1 16 1 17 (.ireturn) := vm_dD b_L_factors_0 12 rfl rfl
def q_L_met : vm_Y := ("RepeatFreeLaw", cL_met, 5, false, [(0, 10, 13, 42), (0, 10, 17, 30)])
def t_L_met_0 : List (Nat × Instr × Nat) := [(0, .aload_n 3, 1), (1, .iconst 0, 1), (2, .aload_n 0, 1), (3, .iload_n 1, 1), (4, .iload_n 2, 1), (5, .invokevirtual 39, 3), (8, .i2l, 1), (9, .lastore, 1), (10, .goto 11, 3), (13, .astore 4, 2), (15, .iconst 1, 1), (16, .ireturn, 1), (17, .astore 4, 2), (19, .iconst 2, 1), (20, .ireturn, 1), (21, .iconst 0, 1), (22, .ireturn, 1)]
theorem b_L_met_0 : (t_L_met_0.all fun q => decide (decode q_L_met.2.1 q.1 = .ok (q.2.1, q.2.2))) = true := by decide +kernel
theorem d_L_met_0 : vm_D q_L_met.2.1 0 1 1 (.aload_n 3) := vm_dD b_L_met_0 0 rfl rfl
theorem d_L_met_1 : vm_D q_L_met.2.1 1 1 2 (.iconst 0) := vm_dD b_L_met_0 1 rfl rfl
theorem d_L_met_2 : vm_D q_L_met.2.1 2 1 3 (.aload_n 0) := vm_dD b_L_met_0 2 rfl rfl
theorem d_L_met_3 : vm_D q_L_met.2.1 3 1 4 (.iload_n 1) := vm_dD b_L_met_0 3 rfl rfl
theorem d_L_met_4 : vm_D q_L_met.2.1 4 1 5 (.iload_n 2) := vm_dD b_L_met_0 4 rfl rfl
theorem d_L_met_15 : vm_D q_L_met.2.1 15 1 16 (.iconst 1) := vm_dD b_L_met_0 10 rfl rfl
theorem d_L_met_16 : vm_D q_L_met.2.1 16 1 17 (.ireturn) := vm_dD b_L_met_0 11 rfl rfl
theorem d_L_met_13 : vm_D q_L_met.2.1 13 2 15 (.astore 4) := vm_dD b_L_met_0 9 rfl rfl
theorem d_L_met_19 : vm_D q_L_met.2.1 19 1 20 (.iconst 2) := vm_dD b_L_met_0 13 rfl rfl
theorem d_L_met_20 : vm_D q_L_met.2.1 20 1 21 (.ireturn) := vm_dD b_L_met_0 14 rfl rfl
theorem d_L_met_17 : vm_D q_L_met.2.1 17 2 19 (.astore 4) := vm_dD b_L_met_0 12 rfl rfl
theorem d_L_met_5 : vm_D q_L_met.2.1 5 3 8 (.invokevirtual 39) := vm_dD b_L_met_0 5 rfl rfl
theorem d_L_met_8 : vm_D q_L_met.2.1 8 1 9 (.i2l) := vm_dD b_L_met_0 6 rfl rfl
theorem d_L_met_9 : vm_D q_L_met.2.1 9 1 10 (.lastore) := vm_dD b_L_met_0 7 rfl rfl
theorem d_L_met_10 : ∃ off : Int, decode q_L_met.2.1 10 = .ok (.goto off, 3) ∧ ((10 : Nat) : Int) + off = ((21 : Nat) : Int) := ⟨11, vm_db b_L_met_0 (i := 8) rfl, by decide⟩
theorem d_L_met_21 : vm_D q_L_met.2.1 21 1 22 (.iconst 0) := vm_dD b_L_met_0 15 rfl rfl
theorem d_L_met_22 : vm_D q_L_met.2.1 22 1 23 (.ireturn) := vm_dD b_L_met_0 16 rfl rfl
def q_L_first : vm_Y := ("RepeatFreeLaw", cL_first, 4, false, [(0, 9, 12, 13)])
def t_L_first_0 : List (Nat × Instr × Nat) := [(0, .aload_n 2, 1), (1, .iconst 0, 1), (2, .aload_n 0, 1), (3, .iload_n 1, 1), (4, .invokevirtual 44, 3), (7, .i2l, 1), (8, .lastore, 1), (9, .goto 6, 3), (12, .astore_n 3, 1), (13, .iconst 1, 1), (14, .ireturn, 1), (15, .iconst 0, 1), (16, .ireturn, 1)]
theorem b_L_first_0 : (t_L_first_0.all fun q => decide (decode q_L_first.2.1 q.1 = .ok (q.2.1, q.2.2))) = true := by decide +kernel
theorem d_L_first_0 : vm_D q_L_first.2.1 0 1 1 (.aload_n 2) := vm_dD b_L_first_0 0 rfl rfl
theorem d_L_first_1 : vm_D q_L_first.2.1 1 1 2 (.iconst 0) := vm_dD b_L_first_0 1 rfl rfl
theorem d_L_first_2 : vm_D q_L_first.2.1 2 1 3 (.aload_n 0) := vm_dD b_L_first_0 2 rfl rfl
theorem d_L_first_3 : vm_D q_L_first.2.1 3 1 4 (.iload_n 1) := vm_dD b_L_first_0 3 rfl rfl
theorem d_L_first_13 : vm_D q_L_first.2.1 13 1 14 (.iconst 1) := vm_dD b_L_first_0 9 rfl rfl
theorem d_L_first_14 : vm_D q_L_first.2.1 14 1 15 (.ireturn) := vm_dD b_L_first_0 10 rfl rfl
theorem d_L_first_12 : vm_D q_L_first.2.1 12 1 13 (.astore_n 3) := vm_dD b_L_first_0 8 rfl rfl
theorem d_L_first_4 : vm_D q_L_first.2.1 4 3 7 (.invokevirtual 44) := vm_dD b_L_first_0 4 rfl rfl
theorem d_L_first_7 : vm_D q_L_first.2.1 7 1 8 (.i2l) := vm_dD b_L_first_0 5 rfl rfl
theorem d_L_first_8 : vm_D q_L_first.2.1 8 1 9 (.lastore) := vm_dD b_L_first_0 6 rfl rfl
theorem d_L_first_9 : ∃ off : Int, decode q_L_first.2.1 9 = .ok (.goto off, 3) ∧ ((9 : Nat) : Int) + off = ((15 : Nat) : Int) := ⟨6, vm_db b_L_first_0 (i := 7) rfl, by decide⟩
theorem d_L_first_15 : vm_D q_L_first.2.1 15 1 16 (.iconst 0) := vm_dD b_L_first_0 11 rfl rfl
theorem d_L_first_16 : vm_D q_L_first.2.1 16 1 17 (.ireturn) := vm_dD b_L_first_0 12 rfl rfl
def q_L_next : vm_Y := ("RepeatFreeLaw", cL_next, 3, false, [(0, 8, 11, 22)])
def t_L_next_0 : List (Nat × Instr × Nat) := [(0, .aload_n 1, 1), (1, .iconst 0, 1), (2, .aload_n 0, 1), (3, .invokevirtual 47, 3), (6, .i2l, 1), (7, .lastore, 1), (8, .goto 6, 3), (11, .astore_n 2, 1), (12, .iconst 1, 1), (13, .ireturn, 1), (14, .iconst 0, 1), (15, .ireturn, 1)]
theorem b_L_next_0 : (t_L_next_0.all fun q => decide (decode q_L_next.2.1 q.1 = .ok (q.2.1, q.2.2))) = true := by decide +kernel
theorem d_L_next_0 : vm_D q_L_next.2.1 0 1 1 (.aload_n 1) := vm_dD b_L_next_0 0 rfl rfl
theorem d_L_next_1 : vm_D q_L_next.2.1 1 1 2 (.iconst 0) := vm_dD b_L_next_0 1 rfl rfl
theorem d_L_next_2 : vm_D q_L_next.2.1 2 1 3 (.aload_n 0) := vm_dD b_L_next_0 2 rfl rfl
theorem d_L_next_12 : vm_D q_L_next.2.1 12 1 13 (.iconst 1) := vm_dD b_L_next_0 8 rfl rfl
theorem d_L_next_13 : vm_D q_L_next.2.1 13 1 14 (.ireturn) := vm_dD b_L_next_0 9 rfl rfl
theorem d_L_next_11 : vm_D q_L_next.2.1 11 1 12 (.astore_n 2) := vm_dD b_L_next_0 7 rfl rfl
theorem d_L_next_3 : vm_D q_L_next.2.1 3 3 6 (.invokevirtual 47) := vm_dD b_L_next_0 3 rfl rfl
theorem d_L_next_6 : vm_D q_L_next.2.1 6 1 7 (.i2l) := vm_dD b_L_next_0 4 rfl rfl
theorem d_L_next_7 : vm_D q_L_next.2.1 7 1 8 (.lastore) := vm_dD b_L_next_0 5 rfl rfl
theorem d_L_next_8 : ∃ off : Int, decode q_L_next.2.1 8 = .ok (.goto off, 3) ∧ ((8 : Nat) : Int) + off = ((14 : Nat) : Int) := ⟨6, vm_db b_L_next_0 (i := 6) rfl, by decide⟩
theorem d_L_next_14 : vm_D q_L_next.2.1 14 1 15 (.iconst 0) := vm_dD b_L_next_0 10 rfl rfl
theorem d_L_next_15 : vm_D q_L_next.2.1 15 1 16 (.ireturn) := vm_dD b_L_next_0 11 rfl rfl
def q_L_many : vm_Y := ("RepeatFreeLaw", cL_many, 4, false, [(0, 9, 12, 13)])
def t_L_many_0 : List (Nat × Instr × Nat) := [(0, .aload_n 2, 1), (1, .iconst 0, 1), (2, .aload_n 0, 1), (3, .iload_n 1, 1), (4, .invokevirtual 50, 3), (7, .i2l, 1), (8, .lastore, 1), (9, .goto 6, 3), (12, .astore_n 3, 1), (13, .iconst 1, 1), (14, .ireturn, 1), (15, .iconst 0, 1), (16, .ireturn, 1)]
theorem b_L_many_0 : (t_L_many_0.all fun q => decide (decode q_L_many.2.1 q.1 = .ok (q.2.1, q.2.2))) = true := by decide +kernel
theorem d_L_many_0 : vm_D q_L_many.2.1 0 1 1 (.aload_n 2) := vm_dD b_L_many_0 0 rfl rfl
theorem d_L_many_1 : vm_D q_L_many.2.1 1 1 2 (.iconst 0) := vm_dD b_L_many_0 1 rfl rfl
theorem d_L_many_2 : vm_D q_L_many.2.1 2 1 3 (.aload_n 0) := vm_dD b_L_many_0 2 rfl rfl
theorem d_L_many_3 : vm_D q_L_many.2.1 3 1 4 (.iload_n 1) := vm_dD b_L_many_0 3 rfl rfl
theorem d_L_many_13 : vm_D q_L_many.2.1 13 1 14 (.iconst 1) := vm_dD b_L_many_0 9 rfl rfl
theorem d_L_many_14 : vm_D q_L_many.2.1 14 1 15 (.ireturn) := vm_dD b_L_many_0 10 rfl rfl
theorem d_L_many_12 : vm_D q_L_many.2.1 12 1 13 (.astore_n 3) := vm_dD b_L_many_0 8 rfl rfl
theorem d_L_many_4 : vm_D q_L_many.2.1 4 3 7 (.invokevirtual 50) := vm_dD b_L_many_0 4 rfl rfl
theorem d_L_many_7 : vm_D q_L_many.2.1 7 1 8 (.i2l) := vm_dD b_L_many_0 5 rfl rfl
theorem d_L_many_8 : vm_D q_L_many.2.1 8 1 9 (.lastore) := vm_dD b_L_many_0 6 rfl rfl
theorem d_L_many_9 : ∃ off : Int, decode q_L_many.2.1 9 = .ok (.goto off, 3) ∧ ((9 : Nat) : Int) + off = ((15 : Nat) : Int) := ⟨6, vm_db b_L_many_0 (i := 7) rfl, by decide⟩
theorem d_L_many_15 : vm_D q_L_many.2.1 15 1 16 (.iconst 0) := vm_dD b_L_many_0 11 rfl rfl
theorem d_L_many_16 : vm_D q_L_many.2.1 16 1 17 (.ireturn) := vm_dD b_L_many_0 12 rfl rfl
def q_L_growth : vm_Y := ("RepeatFreeLaw", cL_growth, 4, false, [(0, 9, 12, 13)])
def t_L_growth_0 : List (Nat × Instr × Nat) := [(0, .aload_n 2, 1), (1, .iconst 0, 1), (2, .aload_n 0, 1), (3, .iload_n 1, 1), (4, .invokevirtual 53, 3), (7, .i2l, 1), (8, .lastore, 1), (9, .goto 6, 3), (12, .astore_n 3, 1), (13, .iconst 1, 1), (14, .ireturn, 1), (15, .iconst 0, 1), (16, .ireturn, 1)]
theorem b_L_growth_0 : (t_L_growth_0.all fun q => decide (decode q_L_growth.2.1 q.1 = .ok (q.2.1, q.2.2))) = true := by decide +kernel
theorem d_L_growth_0 : vm_D q_L_growth.2.1 0 1 1 (.aload_n 2) := vm_dD b_L_growth_0 0 rfl rfl
theorem d_L_growth_1 : vm_D q_L_growth.2.1 1 1 2 (.iconst 0) := vm_dD b_L_growth_0 1 rfl rfl
theorem d_L_growth_2 : vm_D q_L_growth.2.1 2 1 3 (.aload_n 0) := vm_dD b_L_growth_0 2 rfl rfl
theorem d_L_growth_3 : vm_D q_L_growth.2.1 3 1 4 (.iload_n 1) := vm_dD b_L_growth_0 3 rfl rfl
theorem d_L_growth_13 : vm_D q_L_growth.2.1 13 1 14 (.iconst 1) := vm_dD b_L_growth_0 9 rfl rfl
theorem d_L_growth_14 : vm_D q_L_growth.2.1 14 1 15 (.ireturn) := vm_dD b_L_growth_0 10 rfl rfl
theorem d_L_growth_12 : vm_D q_L_growth.2.1 12 1 13 (.astore_n 3) := vm_dD b_L_growth_0 8 rfl rfl
theorem d_L_growth_4 : vm_D q_L_growth.2.1 4 3 7 (.invokevirtual 53) := vm_dD b_L_growth_0 4 rfl rfl
theorem d_L_growth_7 : vm_D q_L_growth.2.1 7 1 8 (.i2l) := vm_dD b_L_growth_0 5 rfl rfl
theorem d_L_growth_8 : vm_D q_L_growth.2.1 8 1 9 (.lastore) := vm_dD b_L_growth_0 6 rfl rfl
theorem d_L_growth_9 : ∃ off : Int, decode q_L_growth.2.1 9 = .ok (.goto off, 3) ∧ ((9 : Nat) : Int) + off = ((15 : Nat) : Int) := ⟨6, vm_db b_L_growth_0 (i := 7) rfl, by decide⟩
theorem d_L_growth_15 : vm_D q_L_growth.2.1 15 1 16 (.iconst 0) := vm_dD b_L_growth_0 11 rfl rfl
theorem d_L_growth_16 : vm_D q_L_growth.2.1 16 1 17 (.ireturn) := vm_dD b_L_growth_0 12 rfl rfl
def q_L_image : vm_Y := ("RepeatFreeLaw", cL_image, 4, false, [(0, 9, 12, 42), (0, 9, 15, 22)])
def t_L_image_0 : List (Nat × Instr × Nat) := [(0, .aload_n 2, 1), (1, .iconst 0, 1), (2, .aload_n 0, 1), (3, .iload_n 1, 1), (4, .invokevirtual 56, 3), (7, .i2l, 1), (8, .lastore, 1), (9, .goto 9, 3), (12, .astore_n 3, 1), (13, .iconst 1, 1), (14, .ireturn, 1), (15, .astore_n 3, 1), (16, .iconst 2, 1), (17, .ireturn, 1), (18, .iconst 0, 1), (19, .ireturn, 1)]
theorem b_L_image_0 : (t_L_image_0.all fun q => decide (decode q_L_image.2.1 q.1 = .ok (q.2.1, q.2.2))) = true := by decide +kernel
theorem d_L_image_0 : vm_D q_L_image.2.1 0 1 1 (.aload_n 2) := vm_dD b_L_image_0 0 rfl rfl
theorem d_L_image_1 : vm_D q_L_image.2.1 1 1 2 (.iconst 0) := vm_dD b_L_image_0 1 rfl rfl
theorem d_L_image_2 : vm_D q_L_image.2.1 2 1 3 (.aload_n 0) := vm_dD b_L_image_0 2 rfl rfl
theorem d_L_image_3 : vm_D q_L_image.2.1 3 1 4 (.iload_n 1) := vm_dD b_L_image_0 3 rfl rfl
theorem d_L_image_13 : vm_D q_L_image.2.1 13 1 14 (.iconst 1) := vm_dD b_L_image_0 9 rfl rfl
theorem d_L_image_14 : vm_D q_L_image.2.1 14 1 15 (.ireturn) := vm_dD b_L_image_0 10 rfl rfl
theorem d_L_image_12 : vm_D q_L_image.2.1 12 1 13 (.astore_n 3) := vm_dD b_L_image_0 8 rfl rfl
theorem d_L_image_16 : vm_D q_L_image.2.1 16 1 17 (.iconst 2) := vm_dD b_L_image_0 12 rfl rfl
theorem d_L_image_17 : vm_D q_L_image.2.1 17 1 18 (.ireturn) := vm_dD b_L_image_0 13 rfl rfl
theorem d_L_image_15 : vm_D q_L_image.2.1 15 1 16 (.astore_n 3) := vm_dD b_L_image_0 11 rfl rfl
theorem d_L_image_4 : vm_D q_L_image.2.1 4 3 7 (.invokevirtual 56) := vm_dD b_L_image_0 4 rfl rfl
theorem d_L_image_7 : vm_D q_L_image.2.1 7 1 8 (.i2l) := vm_dD b_L_image_0 5 rfl rfl
theorem d_L_image_8 : vm_D q_L_image.2.1 8 1 9 (.lastore) := vm_dD b_L_image_0 6 rfl rfl
theorem d_L_image_9 : ∃ off : Int, decode q_L_image.2.1 9 = .ok (.goto off, 3) ∧ ((9 : Nat) : Int) + off = ((18 : Nat) : Int) := ⟨9, vm_db b_L_image_0 (i := 7) rfl, by decide⟩
theorem d_L_image_18 : vm_D q_L_image.2.1 18 1 19 (.iconst 0) := vm_dD b_L_image_0 14 rfl rfl
theorem d_L_image_19 : vm_D q_L_image.2.1 19 1 20 (.ireturn) := vm_dD b_L_image_0 15 rfl rfl
def q_L_imaged : vm_Y := ("RepeatFreeLaw", cL_imaged, 6, false, [(0, 12, 15, 42), (0, 12, 19, 13)])
def t_L_imaged_0 : List (Nat × Instr × Nat) := [(0, .aload 4, 2), (2, .iconst 0, 1), (3, .aload_n 0, 1), (4, .iload_n 1, 1), (5, .iload_n 2, 1), (6, .iload_n 3, 1), (7, .invokevirtual 59, 3), (10, .i2l, 1), (11, .lastore, 1), (12, .goto 11, 3), (15, .astore 5, 2), (17, .iconst 1, 1), (18, .ireturn, 1), (19, .astore 5, 2), (21, .iconst 2, 1), (22, .ireturn, 1), (23, .iconst 0, 1), (24, .ireturn, 1)]
theorem b_L_imaged_0 : (t_L_imaged_0.all fun q => decide (decode q_L_imaged.2.1 q.1 = .ok (q.2.1, q.2.2))) = true := by decide +kernel
theorem d_L_imaged_0 : vm_D q_L_imaged.2.1 0 2 2 (.aload 4) := vm_dD b_L_imaged_0 0 rfl rfl
theorem d_L_imaged_2 : vm_D q_L_imaged.2.1 2 1 3 (.iconst 0) := vm_dD b_L_imaged_0 1 rfl rfl
theorem d_L_imaged_3 : vm_D q_L_imaged.2.1 3 1 4 (.aload_n 0) := vm_dD b_L_imaged_0 2 rfl rfl
theorem d_L_imaged_4 : vm_D q_L_imaged.2.1 4 1 5 (.iload_n 1) := vm_dD b_L_imaged_0 3 rfl rfl
theorem d_L_imaged_5 : vm_D q_L_imaged.2.1 5 1 6 (.iload_n 2) := vm_dD b_L_imaged_0 4 rfl rfl
theorem d_L_imaged_6 : vm_D q_L_imaged.2.1 6 1 7 (.iload_n 3) := vm_dD b_L_imaged_0 5 rfl rfl
theorem d_L_imaged_17 : vm_D q_L_imaged.2.1 17 1 18 (.iconst 1) := vm_dD b_L_imaged_0 11 rfl rfl
theorem d_L_imaged_18 : vm_D q_L_imaged.2.1 18 1 19 (.ireturn) := vm_dD b_L_imaged_0 12 rfl rfl
theorem d_L_imaged_15 : vm_D q_L_imaged.2.1 15 2 17 (.astore 5) := vm_dD b_L_imaged_0 10 rfl rfl
theorem d_L_imaged_21 : vm_D q_L_imaged.2.1 21 1 22 (.iconst 2) := vm_dD b_L_imaged_0 14 rfl rfl
theorem d_L_imaged_22 : vm_D q_L_imaged.2.1 22 1 23 (.ireturn) := vm_dD b_L_imaged_0 15 rfl rfl
theorem d_L_imaged_19 : vm_D q_L_imaged.2.1 19 2 21 (.astore 5) := vm_dD b_L_imaged_0 13 rfl rfl
theorem d_L_imaged_7 : vm_D q_L_imaged.2.1 7 3 10 (.invokevirtual 59) := vm_dD b_L_imaged_0 6 rfl rfl
theorem d_L_imaged_10 : vm_D q_L_imaged.2.1 10 1 11 (.i2l) := vm_dD b_L_imaged_0 7 rfl rfl
theorem d_L_imaged_11 : vm_D q_L_imaged.2.1 11 1 12 (.lastore) := vm_dD b_L_imaged_0 8 rfl rfl
theorem d_L_imaged_12 : ∃ off : Int, decode q_L_imaged.2.1 12 = .ok (.goto off, 3) ∧ ((12 : Nat) : Int) + off = ((23 : Nat) : Int) := ⟨11, vm_db b_L_imaged_0 (i := 9) rfl, by decide⟩
theorem d_L_imaged_23 : vm_D q_L_imaged.2.1 23 1 24 (.iconst 0) := vm_dD b_L_imaged_0 16 rfl rfl
theorem d_L_imaged_24 : vm_D q_L_imaged.2.1 24 1 25 (.ireturn) := vm_dD b_L_imaged_0 17 rfl rfl
def q_L_length : vm_Y := ("RepeatFreeLaw", cL_length, 6, false, [(0, 11, 14, 42), (0, 11, 18, 13)])
def t_L_length_0 : List (Nat × Instr × Nat) := [(0, .aload 4, 2), (2, .iconst 0, 1), (3, .aload_n 0, 1), (4, .iload_n 1, 1), (5, .iload_n 2, 1), (6, .iload_n 3, 1), (7, .invokevirtual 63, 3), (10, .lastore, 1), (11, .goto 11, 3), (14, .astore 5, 2), (16, .iconst 1, 1), (17, .ireturn, 1), (18, .astore 5, 2), (20, .iconst 2, 1), (21, .ireturn, 1), (22, .iconst 0, 1), (23, .ireturn, 1)]
theorem b_L_length_0 : (t_L_length_0.all fun q => decide (decode q_L_length.2.1 q.1 = .ok (q.2.1, q.2.2))) = true := by decide +kernel
theorem d_L_length_0 : vm_D q_L_length.2.1 0 2 2 (.aload 4) := vm_dD b_L_length_0 0 rfl rfl
theorem d_L_length_2 : vm_D q_L_length.2.1 2 1 3 (.iconst 0) := vm_dD b_L_length_0 1 rfl rfl
theorem d_L_length_3 : vm_D q_L_length.2.1 3 1 4 (.aload_n 0) := vm_dD b_L_length_0 2 rfl rfl
theorem d_L_length_4 : vm_D q_L_length.2.1 4 1 5 (.iload_n 1) := vm_dD b_L_length_0 3 rfl rfl
theorem d_L_length_5 : vm_D q_L_length.2.1 5 1 6 (.iload_n 2) := vm_dD b_L_length_0 4 rfl rfl
theorem d_L_length_6 : vm_D q_L_length.2.1 6 1 7 (.iload_n 3) := vm_dD b_L_length_0 5 rfl rfl
theorem d_L_length_16 : vm_D q_L_length.2.1 16 1 17 (.iconst 1) := vm_dD b_L_length_0 10 rfl rfl
theorem d_L_length_17 : vm_D q_L_length.2.1 17 1 18 (.ireturn) := vm_dD b_L_length_0 11 rfl rfl
theorem d_L_length_14 : vm_D q_L_length.2.1 14 2 16 (.astore 5) := vm_dD b_L_length_0 9 rfl rfl
theorem d_L_length_20 : vm_D q_L_length.2.1 20 1 21 (.iconst 2) := vm_dD b_L_length_0 13 rfl rfl
theorem d_L_length_21 : vm_D q_L_length.2.1 21 1 22 (.ireturn) := vm_dD b_L_length_0 14 rfl rfl
theorem d_L_length_18 : vm_D q_L_length.2.1 18 2 20 (.astore 5) := vm_dD b_L_length_0 12 rfl rfl
theorem d_L_length_7 : vm_D q_L_length.2.1 7 3 10 (.invokevirtual 63) := vm_dD b_L_length_0 6 rfl rfl
theorem d_L_length_10 : vm_D q_L_length.2.1 10 1 11 (.lastore) := vm_dD b_L_length_0 7 rfl rfl
theorem d_L_length_11 : ∃ off : Int, decode q_L_length.2.1 11 = .ok (.goto off, 3) ∧ ((11 : Nat) : Int) + off = ((22 : Nat) : Int) := ⟨11, vm_db b_L_length_0 (i := 8) rfl, by decide⟩
theorem d_L_length_22 : vm_D q_L_length.2.1 22 1 23 (.iconst 0) := vm_dD b_L_length_0 15 rfl rfl
theorem d_L_length_23 : vm_D q_L_length.2.1 23 1 24 (.ireturn) := vm_dD b_L_length_0 16 rfl rfl
def q_L_power : vm_Y := ("RepeatFreeLaw", cL_power, 8, false, [(0, 14, 17, 42), (0, 14, 21, 13)])
def t_L_power_0 : List (Nat × Instr × Nat) := [(0, .aload 6, 2), (2, .iconst 0, 1), (3, .aload_n 0, 1), (4, .iload_n 1, 1), (5, .iload_n 2, 1), (6, .iload_n 3, 1), (7, .lload 4, 2), (9, .invokevirtual 67, 3), (12, .i2l, 1), (13, .lastore, 1), (14, .goto 11, 3), (17, .astore 7, 2), (19, .iconst 1, 1), (20, .ireturn, 1), (21, .astore 7, 2), (23, .iconst 2, 1), (24, .ireturn, 1), (25, .iconst 0, 1), (26, .ireturn, 1)]
theorem b_L_power_0 : (t_L_power_0.all fun q => decide (decode q_L_power.2.1 q.1 = .ok (q.2.1, q.2.2))) = true := by decide +kernel
theorem d_L_power_0 : vm_D q_L_power.2.1 0 2 2 (.aload 6) := vm_dD b_L_power_0 0 rfl rfl
theorem d_L_power_2 : vm_D q_L_power.2.1 2 1 3 (.iconst 0) := vm_dD b_L_power_0 1 rfl rfl
theorem d_L_power_3 : vm_D q_L_power.2.1 3 1 4 (.aload_n 0) := vm_dD b_L_power_0 2 rfl rfl
theorem d_L_power_4 : vm_D q_L_power.2.1 4 1 5 (.iload_n 1) := vm_dD b_L_power_0 3 rfl rfl
theorem d_L_power_5 : vm_D q_L_power.2.1 5 1 6 (.iload_n 2) := vm_dD b_L_power_0 4 rfl rfl
theorem d_L_power_6 : vm_D q_L_power.2.1 6 1 7 (.iload_n 3) := vm_dD b_L_power_0 5 rfl rfl
theorem d_L_power_7 : vm_D q_L_power.2.1 7 2 9 (.lload 4) := vm_dD b_L_power_0 6 rfl rfl
theorem d_L_power_19 : vm_D q_L_power.2.1 19 1 20 (.iconst 1) := vm_dD b_L_power_0 12 rfl rfl
theorem d_L_power_20 : vm_D q_L_power.2.1 20 1 21 (.ireturn) := vm_dD b_L_power_0 13 rfl rfl
theorem d_L_power_17 : vm_D q_L_power.2.1 17 2 19 (.astore 7) := vm_dD b_L_power_0 11 rfl rfl
theorem d_L_power_23 : vm_D q_L_power.2.1 23 1 24 (.iconst 2) := vm_dD b_L_power_0 15 rfl rfl
theorem d_L_power_24 : vm_D q_L_power.2.1 24 1 25 (.ireturn) := vm_dD b_L_power_0 16 rfl rfl
theorem d_L_power_21 : vm_D q_L_power.2.1 21 2 23 (.astore 7) := vm_dD b_L_power_0 14 rfl rfl
theorem d_L_power_9 : vm_D q_L_power.2.1 9 3 12 (.invokevirtual 67) := vm_dD b_L_power_0 7 rfl rfl
theorem d_L_power_12 : vm_D q_L_power.2.1 12 1 13 (.i2l) := vm_dD b_L_power_0 8 rfl rfl
theorem d_L_power_13 : vm_D q_L_power.2.1 13 1 14 (.lastore) := vm_dD b_L_power_0 9 rfl rfl
theorem d_L_power_14 : ∃ off : Int, decode q_L_power.2.1 14 = .ok (.goto off, 3) ∧ ((14 : Nat) : Int) + off = ((25 : Nat) : Int) := ⟨11, vm_db b_L_power_0 (i := 10) rfl, by decide⟩
theorem d_L_power_25 : vm_D q_L_power.2.1 25 1 26 (.iconst 0) := vm_dD b_L_power_0 17 rfl rfl
theorem d_L_power_26 : vm_D q_L_power.2.1 26 1 27 (.ireturn) := vm_dD b_L_power_0 18 rfl rfl
def q_L_often : vm_Y := ("RepeatFreeLaw", cL_often, 7, false, [(0, 13, 16, 42), (0, 13, 20, 13)])
def t_L_often_0 : List (Nat × Instr × Nat) := [(0, .aload 5, 2), (2, .iconst 0, 1), (3, .aload_n 0, 1), (4, .iload_n 1, 1), (5, .iload_n 2, 1), (6, .iload_n 3, 1), (7, .iload 4, 2), (9, .invokevirtual 71, 3), (12, .lastore, 1), (13, .goto 11, 3), (16, .astore 6, 2), (18, .iconst 1, 1), (19, .ireturn, 1), (20, .astore 6, 2), (22, .iconst 2, 1), (23, .ireturn, 1), (24, .iconst 0, 1), (25, .ireturn, 1)]
theorem b_L_often_0 : (t_L_often_0.all fun q => decide (decode q_L_often.2.1 q.1 = .ok (q.2.1, q.2.2))) = true := by decide +kernel
theorem d_L_often_0 : vm_D q_L_often.2.1 0 2 2 (.aload 5) := vm_dD b_L_often_0 0 rfl rfl
theorem d_L_often_2 : vm_D q_L_often.2.1 2 1 3 (.iconst 0) := vm_dD b_L_often_0 1 rfl rfl
theorem d_L_often_3 : vm_D q_L_often.2.1 3 1 4 (.aload_n 0) := vm_dD b_L_often_0 2 rfl rfl
theorem d_L_often_4 : vm_D q_L_often.2.1 4 1 5 (.iload_n 1) := vm_dD b_L_often_0 3 rfl rfl
theorem d_L_often_5 : vm_D q_L_often.2.1 5 1 6 (.iload_n 2) := vm_dD b_L_often_0 4 rfl rfl
theorem d_L_often_6 : vm_D q_L_often.2.1 6 1 7 (.iload_n 3) := vm_dD b_L_often_0 5 rfl rfl
theorem d_L_often_7 : vm_D q_L_often.2.1 7 2 9 (.iload 4) := vm_dD b_L_often_0 6 rfl rfl
theorem d_L_often_18 : vm_D q_L_often.2.1 18 1 19 (.iconst 1) := vm_dD b_L_often_0 11 rfl rfl
theorem d_L_often_19 : vm_D q_L_often.2.1 19 1 20 (.ireturn) := vm_dD b_L_often_0 12 rfl rfl
theorem d_L_often_16 : vm_D q_L_often.2.1 16 2 18 (.astore 6) := vm_dD b_L_often_0 10 rfl rfl
theorem d_L_often_22 : vm_D q_L_often.2.1 22 1 23 (.iconst 2) := vm_dD b_L_often_0 14 rfl rfl
theorem d_L_often_23 : vm_D q_L_often.2.1 23 1 24 (.ireturn) := vm_dD b_L_often_0 15 rfl rfl
theorem d_L_often_20 : vm_D q_L_often.2.1 20 2 22 (.astore 6) := vm_dD b_L_often_0 13 rfl rfl
theorem d_L_often_9 : vm_D q_L_often.2.1 9 3 12 (.invokevirtual 71) := vm_dD b_L_often_0 7 rfl rfl
theorem d_L_often_12 : vm_D q_L_often.2.1 12 1 13 (.lastore) := vm_dD b_L_often_0 8 rfl rfl
theorem d_L_often_13 : ∃ off : Int, decode q_L_often.2.1 13 = .ok (.goto off, 3) ∧ ((13 : Nat) : Int) + off = ((24 : Nat) : Int) := ⟨11, vm_db b_L_often_0 (i := 9) rfl, by decide⟩
theorem d_L_often_24 : vm_D q_L_often.2.1 24 1 25 (.iconst 0) := vm_dD b_L_often_0 16 rfl rfl
theorem d_L_often_25 : vm_D q_L_often.2.1 25 1 26 (.ireturn) := vm_dD b_L_often_0 17 rfl rfl
def q_L_keeps : vm_Y := ("RepeatFreeLaw", cL_keeps, 5, false, [(0, 10, 13, 42), (0, 10, 17, 13)])
def t_L_keeps_0 : List (Nat × Instr × Nat) := [(0, .aload_n 3, 1), (1, .iconst 0, 1), (2, .aload_n 0, 1), (3, .iload_n 1, 1), (4, .iload_n 2, 1), (5, .invokevirtual 75, 3), (8, .i2l, 1), (9, .lastore, 1), (10, .goto 11, 3), (13, .astore 4, 2), (15, .iconst 1, 1), (16, .ireturn, 1), (17, .astore 4, 2), (19, .iconst 2, 1), (20, .ireturn, 1), (21, .iconst 0, 1), (22, .ireturn, 1)]
theorem b_L_keeps_0 : (t_L_keeps_0.all fun q => decide (decode q_L_keeps.2.1 q.1 = .ok (q.2.1, q.2.2))) = true := by decide +kernel
theorem d_L_keeps_0 : vm_D q_L_keeps.2.1 0 1 1 (.aload_n 3) := vm_dD b_L_keeps_0 0 rfl rfl
theorem d_L_keeps_1 : vm_D q_L_keeps.2.1 1 1 2 (.iconst 0) := vm_dD b_L_keeps_0 1 rfl rfl
theorem d_L_keeps_2 : vm_D q_L_keeps.2.1 2 1 3 (.aload_n 0) := vm_dD b_L_keeps_0 2 rfl rfl
theorem d_L_keeps_3 : vm_D q_L_keeps.2.1 3 1 4 (.iload_n 1) := vm_dD b_L_keeps_0 3 rfl rfl
theorem d_L_keeps_4 : vm_D q_L_keeps.2.1 4 1 5 (.iload_n 2) := vm_dD b_L_keeps_0 4 rfl rfl
theorem d_L_keeps_15 : vm_D q_L_keeps.2.1 15 1 16 (.iconst 1) := vm_dD b_L_keeps_0 10 rfl rfl
theorem d_L_keeps_16 : vm_D q_L_keeps.2.1 16 1 17 (.ireturn) := vm_dD b_L_keeps_0 11 rfl rfl
theorem d_L_keeps_13 : vm_D q_L_keeps.2.1 13 2 15 (.astore 4) := vm_dD b_L_keeps_0 9 rfl rfl
theorem d_L_keeps_19 : vm_D q_L_keeps.2.1 19 1 20 (.iconst 2) := vm_dD b_L_keeps_0 13 rfl rfl
theorem d_L_keeps_20 : vm_D q_L_keeps.2.1 20 1 21 (.ireturn) := vm_dD b_L_keeps_0 14 rfl rfl
theorem d_L_keeps_17 : vm_D q_L_keeps.2.1 17 2 19 (.astore 4) := vm_dD b_L_keeps_0 12 rfl rfl
theorem d_L_keeps_5 : vm_D q_L_keeps.2.1 5 3 8 (.invokevirtual 75) := vm_dD b_L_keeps_0 5 rfl rfl
theorem d_L_keeps_8 : vm_D q_L_keeps.2.1 8 1 9 (.i2l) := vm_dD b_L_keeps_0 6 rfl rfl
theorem d_L_keeps_9 : vm_D q_L_keeps.2.1 9 1 10 (.lastore) := vm_dD b_L_keeps_0 7 rfl rfl
theorem d_L_keeps_10 : ∃ off : Int, decode q_L_keeps.2.1 10 = .ok (.goto off, 3) ∧ ((10 : Nat) : Int) + off = ((21 : Nat) : Int) := ⟨11, vm_db b_L_keeps_0 (i := 8) rfl, by decide⟩
theorem d_L_keeps_21 : vm_D q_L_keeps.2.1 21 1 22 (.iconst 0) := vm_dD b_L_keeps_0 15 rfl rfl
theorem d_L_keeps_22 : vm_D q_L_keeps.2.1 22 1 23 (.ireturn) := vm_dD b_L_keeps_0 16 rfl rfl
def q_L_breaks : vm_Y := ("RepeatFreeLaw", cL_breaks, 5, false, [(0, 10, 13, 42), (0, 10, 17, 13)])
def t_L_breaks_0 : List (Nat × Instr × Nat) := [(0, .aload_n 3, 1), (1, .iconst 0, 1), (2, .aload_n 0, 1), (3, .iload_n 1, 1), (4, .iload_n 2, 1), (5, .invokevirtual 78, 3), (8, .i2l, 1), (9, .lastore, 1), (10, .goto 11, 3), (13, .astore 4, 2), (15, .iconst 1, 1), (16, .ireturn, 1), (17, .astore 4, 2), (19, .iconst 2, 1), (20, .ireturn, 1), (21, .iconst 0, 1), (22, .ireturn, 1)]
theorem b_L_breaks_0 : (t_L_breaks_0.all fun q => decide (decode q_L_breaks.2.1 q.1 = .ok (q.2.1, q.2.2))) = true := by decide +kernel
theorem d_L_breaks_0 : vm_D q_L_breaks.2.1 0 1 1 (.aload_n 3) := vm_dD b_L_breaks_0 0 rfl rfl
theorem d_L_breaks_1 : vm_D q_L_breaks.2.1 1 1 2 (.iconst 0) := vm_dD b_L_breaks_0 1 rfl rfl
theorem d_L_breaks_2 : vm_D q_L_breaks.2.1 2 1 3 (.aload_n 0) := vm_dD b_L_breaks_0 2 rfl rfl
theorem d_L_breaks_3 : vm_D q_L_breaks.2.1 3 1 4 (.iload_n 1) := vm_dD b_L_breaks_0 3 rfl rfl
theorem d_L_breaks_4 : vm_D q_L_breaks.2.1 4 1 5 (.iload_n 2) := vm_dD b_L_breaks_0 4 rfl rfl
theorem d_L_breaks_15 : vm_D q_L_breaks.2.1 15 1 16 (.iconst 1) := vm_dD b_L_breaks_0 10 rfl rfl
theorem d_L_breaks_16 : vm_D q_L_breaks.2.1 16 1 17 (.ireturn) := vm_dD b_L_breaks_0 11 rfl rfl
theorem d_L_breaks_13 : vm_D q_L_breaks.2.1 13 2 15 (.astore 4) := vm_dD b_L_breaks_0 9 rfl rfl
theorem d_L_breaks_19 : vm_D q_L_breaks.2.1 19 1 20 (.iconst 2) := vm_dD b_L_breaks_0 13 rfl rfl
theorem d_L_breaks_20 : vm_D q_L_breaks.2.1 20 1 21 (.ireturn) := vm_dD b_L_breaks_0 14 rfl rfl
theorem d_L_breaks_17 : vm_D q_L_breaks.2.1 17 2 19 (.astore 4) := vm_dD b_L_breaks_0 12 rfl rfl
theorem d_L_breaks_5 : vm_D q_L_breaks.2.1 5 3 8 (.invokevirtual 78) := vm_dD b_L_breaks_0 5 rfl rfl
theorem d_L_breaks_8 : vm_D q_L_breaks.2.1 8 1 9 (.i2l) := vm_dD b_L_breaks_0 6 rfl rfl
theorem d_L_breaks_9 : vm_D q_L_breaks.2.1 9 1 10 (.lastore) := vm_dD b_L_breaks_0 7 rfl rfl
theorem d_L_breaks_10 : ∃ off : Int, decode q_L_breaks.2.1 10 = .ok (.goto off, 3) ∧ ((10 : Nat) : Int) + off = ((21 : Nat) : Int) := ⟨11, vm_db b_L_breaks_0 (i := 8) rfl, by decide⟩
theorem d_L_breaks_21 : vm_D q_L_breaks.2.1 21 1 22 (.iconst 0) := vm_dD b_L_breaks_0 15 rfl rfl
theorem d_L_breaks_22 : vm_D q_L_breaks.2.1 22 1 23 (.ireturn) := vm_dD b_L_breaks_0 16 rfl rfl
def q_L_grows : vm_Y := ("RepeatFreeLaw", cL_grows, 4, false, [(0, 9, 12, 42)])
def t_L_grows_0 : List (Nat × Instr × Nat) := [(0, .aload_n 2, 1), (1, .iconst 0, 1), (2, .aload_n 0, 1), (3, .iload_n 1, 1), (4, .invokevirtual 81, 3), (7, .i2l, 1), (8, .lastore, 1), (9, .goto 6, 3), (12, .astore_n 3, 1), (13, .iconst 1, 1), (14, .ireturn, 1), (15, .iconst 0, 1), (16, .ireturn, 1)]
theorem b_L_grows_0 : (t_L_grows_0.all fun q => decide (decode q_L_grows.2.1 q.1 = .ok (q.2.1, q.2.2))) = true := by decide +kernel
theorem d_L_grows_0 : vm_D q_L_grows.2.1 0 1 1 (.aload_n 2) := vm_dD b_L_grows_0 0 rfl rfl
theorem d_L_grows_1 : vm_D q_L_grows.2.1 1 1 2 (.iconst 0) := vm_dD b_L_grows_0 1 rfl rfl
theorem d_L_grows_2 : vm_D q_L_grows.2.1 2 1 3 (.aload_n 0) := vm_dD b_L_grows_0 2 rfl rfl
theorem d_L_grows_3 : vm_D q_L_grows.2.1 3 1 4 (.iload_n 1) := vm_dD b_L_grows_0 3 rfl rfl
theorem d_L_grows_13 : vm_D q_L_grows.2.1 13 1 14 (.iconst 1) := vm_dD b_L_grows_0 9 rfl rfl
theorem d_L_grows_14 : vm_D q_L_grows.2.1 14 1 15 (.ireturn) := vm_dD b_L_grows_0 10 rfl rfl
theorem d_L_grows_12 : vm_D q_L_grows.2.1 12 1 13 (.astore_n 3) := vm_dD b_L_grows_0 8 rfl rfl
theorem d_L_grows_4 : vm_D q_L_grows.2.1 4 3 7 (.invokevirtual 81) := vm_dD b_L_grows_0 4 rfl rfl
theorem d_L_grows_7 : vm_D q_L_grows.2.1 7 1 8 (.i2l) := vm_dD b_L_grows_0 5 rfl rfl
theorem d_L_grows_8 : vm_D q_L_grows.2.1 8 1 9 (.lastore) := vm_dD b_L_grows_0 6 rfl rfl
theorem d_L_grows_9 : ∃ off : Int, decode q_L_grows.2.1 9 = .ok (.goto off, 3) ∧ ((9 : Nat) : Int) + off = ((15 : Nat) : Int) := ⟨6, vm_db b_L_grows_0 (i := 7) rfl, by decide⟩
theorem d_L_grows_15 : vm_D q_L_grows.2.1 15 1 16 (.iconst 0) := vm_dD b_L_grows_0 11 rfl rfl
theorem d_L_grows_16 : vm_D q_L_grows.2.1 16 1 17 (.ireturn) := vm_dD b_L_grows_0 12 rfl rfl
def q_L_uniform : vm_Y := ("RepeatFreeLaw", cL_uniform, 4, false, [(0, 9, 12, 42)])
def t_L_uniform_0 : List (Nat × Instr × Nat) := [(0, .aload_n 2, 1), (1, .iconst 0, 1), (2, .aload_n 0, 1), (3, .iload_n 1, 1), (4, .invokevirtual 84, 3), (7, .i2l, 1), (8, .lastore, 1), (9, .goto 6, 3), (12, .astore_n 3, 1), (13, .iconst 1, 1), (14, .ireturn, 1), (15, .iconst 0, 1), (16, .ireturn, 1)]
theorem b_L_uniform_0 : (t_L_uniform_0.all fun q => decide (decode q_L_uniform.2.1 q.1 = .ok (q.2.1, q.2.2))) = true := by decide +kernel
theorem d_L_uniform_0 : vm_D q_L_uniform.2.1 0 1 1 (.aload_n 2) := vm_dD b_L_uniform_0 0 rfl rfl
theorem d_L_uniform_1 : vm_D q_L_uniform.2.1 1 1 2 (.iconst 0) := vm_dD b_L_uniform_0 1 rfl rfl
theorem d_L_uniform_2 : vm_D q_L_uniform.2.1 2 1 3 (.aload_n 0) := vm_dD b_L_uniform_0 2 rfl rfl
theorem d_L_uniform_3 : vm_D q_L_uniform.2.1 3 1 4 (.iload_n 1) := vm_dD b_L_uniform_0 3 rfl rfl
theorem d_L_uniform_13 : vm_D q_L_uniform.2.1 13 1 14 (.iconst 1) := vm_dD b_L_uniform_0 9 rfl rfl
theorem d_L_uniform_14 : vm_D q_L_uniform.2.1 14 1 15 (.ireturn) := vm_dD b_L_uniform_0 10 rfl rfl
theorem d_L_uniform_12 : vm_D q_L_uniform.2.1 12 1 13 (.astore_n 3) := vm_dD b_L_uniform_0 8 rfl rfl
theorem d_L_uniform_4 : vm_D q_L_uniform.2.1 4 3 7 (.invokevirtual 84) := vm_dD b_L_uniform_0 4 rfl rfl
theorem d_L_uniform_7 : vm_D q_L_uniform.2.1 7 1 8 (.i2l) := vm_dD b_L_uniform_0 5 rfl rfl
theorem d_L_uniform_8 : vm_D q_L_uniform.2.1 8 1 9 (.lastore) := vm_dD b_L_uniform_0 6 rfl rfl
theorem d_L_uniform_9 : ∃ off : Int, decode q_L_uniform.2.1 9 = .ok (.goto off, 3) ∧ ((9 : Nat) : Int) + off = ((15 : Nat) : Int) := ⟨6, vm_db b_L_uniform_0 (i := 7) rfl, by decide⟩
theorem d_L_uniform_15 : vm_D q_L_uniform.2.1 15 1 16 (.iconst 0) := vm_dD b_L_uniform_0 11 rfl rfl
theorem d_L_uniform_16 : vm_D q_L_uniform.2.1 16 1 17 (.ireturn) := vm_dD b_L_uniform_0 12 rfl rfl
def q_L_cannot : vm_Y := ("RepeatFreeLaw", cL_cannot, 4, false, [(0, 16, 19, 42)])
def t_L_cannot_0 : List (Nat × Instr × Nat) := [(0, .aload_n 2, 1), (1, .iconst 0, 1), (2, .aload_n 0, 1), (3, .iload_n 1, 1), (4, .invokevirtual 87, 3), (7, .ifCond .eq 7, 3), (10, .lconst 1, 1), (11, .goto 4, 3), (14, .lconst 0, 1), (15, .lastore, 1), (16, .goto 6, 3), (19, .astore_n 3, 1), (20, .iconst 1, 1), (21, .ireturn, 1), (22, .iconst 0, 1), (23, .ireturn, 1)]
theorem b_L_cannot_0 : (t_L_cannot_0.all fun q => decide (decode q_L_cannot.2.1 q.1 = .ok (q.2.1, q.2.2))) = true := by decide +kernel
theorem d_L_cannot_0 : vm_D q_L_cannot.2.1 0 1 1 (.aload_n 2) := vm_dD b_L_cannot_0 0 rfl rfl
theorem d_L_cannot_1 : vm_D q_L_cannot.2.1 1 1 2 (.iconst 0) := vm_dD b_L_cannot_0 1 rfl rfl
theorem d_L_cannot_2 : vm_D q_L_cannot.2.1 2 1 3 (.aload_n 0) := vm_dD b_L_cannot_0 2 rfl rfl
theorem d_L_cannot_3 : vm_D q_L_cannot.2.1 3 1 4 (.iload_n 1) := vm_dD b_L_cannot_0 3 rfl rfl
theorem d_L_cannot_20 : vm_D q_L_cannot.2.1 20 1 21 (.iconst 1) := vm_dD b_L_cannot_0 12 rfl rfl
theorem d_L_cannot_21 : vm_D q_L_cannot.2.1 21 1 22 (.ireturn) := vm_dD b_L_cannot_0 13 rfl rfl
theorem d_L_cannot_19 : vm_D q_L_cannot.2.1 19 1 20 (.astore_n 3) := vm_dD b_L_cannot_0 11 rfl rfl
theorem d_L_cannot_4 : vm_D q_L_cannot.2.1 4 3 7 (.invokevirtual 87) := vm_dD b_L_cannot_0 4 rfl rfl
theorem d_L_cannot_7 : vm_B q_L_cannot.2.1 7 10 14 (fun o => .ifCond .eq o) := ⟨7, vm_db b_L_cannot_0 (i := 5) rfl, rfl, by decide⟩
theorem d_L_cannot_15 : vm_D q_L_cannot.2.1 15 1 16 (.lastore) := vm_dD b_L_cannot_0 9 rfl rfl
theorem d_L_cannot_16 : ∃ off : Int, decode q_L_cannot.2.1 16 = .ok (.goto off, 3) ∧ ((16 : Nat) : Int) + off = ((22 : Nat) : Int) := ⟨6, vm_db b_L_cannot_0 (i := 10) rfl, by decide⟩
theorem d_L_cannot_22 : vm_D q_L_cannot.2.1 22 1 23 (.iconst 0) := vm_dD b_L_cannot_0 14 rfl rfl
theorem d_L_cannot_23 : vm_D q_L_cannot.2.1 23 1 24 (.ireturn) := vm_dD b_L_cannot_0 15 rfl rfl
theorem d_L_cannot_14 : vm_D q_L_cannot.2.1 14 1 15 (.lconst 0) := vm_dD b_L_cannot_0 8 rfl rfl
theorem d_L_cannot_10 : vm_D q_L_cannot.2.1 10 1 11 (.lconst 1) := vm_dD b_L_cannot_0 6 rfl rfl
theorem d_L_cannot_11 : ∃ off : Int, decode q_L_cannot.2.1 11 = .ok (.goto off, 3) ∧ ((11 : Nat) : Int) + off = ((15 : Nat) : Int) := ⟨4, vm_db b_L_cannot_0 (i := 7) rfl, by decide⟩
def q_L_loose : vm_Y := ("RepeatFreeLaw", cL_loose, 5, false, [(0, 10, 13, 42)])
def t_L_loose_0 : List (Nat × Instr × Nat) := [(0, .aload_n 3, 1), (1, .iconst 0, 1), (2, .aload_n 0, 1), (3, .iload_n 1, 1), (4, .iload_n 2, 1), (5, .invokevirtual 91, 3), (8, .i2l, 1), (9, .lastore, 1), (10, .goto 7, 3), (13, .astore 4, 2), (15, .iconst 1, 1), (16, .ireturn, 1), (17, .iconst 0, 1), (18, .ireturn, 1)]
theorem b_L_loose_0 : (t_L_loose_0.all fun q => decide (decode q_L_loose.2.1 q.1 = .ok (q.2.1, q.2.2))) = true := by decide +kernel
theorem d_L_loose_0 : vm_D q_L_loose.2.1 0 1 1 (.aload_n 3) := vm_dD b_L_loose_0 0 rfl rfl
theorem d_L_loose_1 : vm_D q_L_loose.2.1 1 1 2 (.iconst 0) := vm_dD b_L_loose_0 1 rfl rfl
theorem d_L_loose_2 : vm_D q_L_loose.2.1 2 1 3 (.aload_n 0) := vm_dD b_L_loose_0 2 rfl rfl
theorem d_L_loose_3 : vm_D q_L_loose.2.1 3 1 4 (.iload_n 1) := vm_dD b_L_loose_0 3 rfl rfl
theorem d_L_loose_4 : vm_D q_L_loose.2.1 4 1 5 (.iload_n 2) := vm_dD b_L_loose_0 4 rfl rfl
theorem d_L_loose_15 : vm_D q_L_loose.2.1 15 1 16 (.iconst 1) := vm_dD b_L_loose_0 10 rfl rfl
theorem d_L_loose_16 : vm_D q_L_loose.2.1 16 1 17 (.ireturn) := vm_dD b_L_loose_0 11 rfl rfl
theorem d_L_loose_13 : vm_D q_L_loose.2.1 13 2 15 (.astore 4) := vm_dD b_L_loose_0 9 rfl rfl
theorem d_L_loose_5 : vm_D q_L_loose.2.1 5 3 8 (.invokevirtual 91) := vm_dD b_L_loose_0 5 rfl rfl
theorem d_L_loose_8 : vm_D q_L_loose.2.1 8 1 9 (.i2l) := vm_dD b_L_loose_0 6 rfl rfl
theorem d_L_loose_9 : vm_D q_L_loose.2.1 9 1 10 (.lastore) := vm_dD b_L_loose_0 7 rfl rfl
theorem d_L_loose_10 : ∃ off : Int, decode q_L_loose.2.1 10 = .ok (.goto off, 3) ∧ ((10 : Nat) : Int) + off = ((17 : Nat) : Int) := ⟨7, vm_db b_L_loose_0 (i := 8) rfl, by decide⟩
theorem d_L_loose_17 : vm_D q_L_loose.2.1 17 1 18 (.iconst 0) := vm_dD b_L_loose_0 12 rfl rfl
theorem d_L_loose_18 : vm_D q_L_loose.2.1 18 1 19 (.ireturn) := vm_dD b_L_loose_0 13 rfl rfl
def q_L_pattern : vm_Y := ("RepeatFreeLaw", cL_pattern, 5, false, [(0, 10, 13, 42), (0, 10, 17, 30)])
def t_L_pattern_0 : List (Nat × Instr × Nat) := [(0, .aload_n 3, 1), (1, .iconst 0, 1), (2, .aload_n 0, 1), (3, .iload_n 1, 1), (4, .iload_n 2, 1), (5, .invokevirtual 94, 3), (8, .i2l, 1), (9, .lastore, 1), (10, .goto 11, 3), (13, .astore 4, 2), (15, .iconst 1, 1), (16, .ireturn, 1), (17, .astore 4, 2), (19, .iconst 2, 1), (20, .ireturn, 1), (21, .iconst 0, 1), (22, .ireturn, 1)]
theorem b_L_pattern_0 : (t_L_pattern_0.all fun q => decide (decode q_L_pattern.2.1 q.1 = .ok (q.2.1, q.2.2))) = true := by decide +kernel
theorem d_L_pattern_0 : vm_D q_L_pattern.2.1 0 1 1 (.aload_n 3) := vm_dD b_L_pattern_0 0 rfl rfl
theorem d_L_pattern_1 : vm_D q_L_pattern.2.1 1 1 2 (.iconst 0) := vm_dD b_L_pattern_0 1 rfl rfl
theorem d_L_pattern_2 : vm_D q_L_pattern.2.1 2 1 3 (.aload_n 0) := vm_dD b_L_pattern_0 2 rfl rfl
theorem d_L_pattern_3 : vm_D q_L_pattern.2.1 3 1 4 (.iload_n 1) := vm_dD b_L_pattern_0 3 rfl rfl
theorem d_L_pattern_4 : vm_D q_L_pattern.2.1 4 1 5 (.iload_n 2) := vm_dD b_L_pattern_0 4 rfl rfl
theorem d_L_pattern_15 : vm_D q_L_pattern.2.1 15 1 16 (.iconst 1) := vm_dD b_L_pattern_0 10 rfl rfl
theorem d_L_pattern_16 : vm_D q_L_pattern.2.1 16 1 17 (.ireturn) := vm_dD b_L_pattern_0 11 rfl rfl
theorem d_L_pattern_13 : vm_D q_L_pattern.2.1 13 2 15 (.astore 4) := vm_dD b_L_pattern_0 9 rfl rfl
theorem d_L_pattern_19 : vm_D q_L_pattern.2.1 19 1 20 (.iconst 2) := vm_dD b_L_pattern_0 13 rfl rfl
theorem d_L_pattern_20 : vm_D q_L_pattern.2.1 20 1 21 (.ireturn) := vm_dD b_L_pattern_0 14 rfl rfl
theorem d_L_pattern_17 : vm_D q_L_pattern.2.1 17 2 19 (.astore 4) := vm_dD b_L_pattern_0 12 rfl rfl
theorem d_L_pattern_5 : vm_D q_L_pattern.2.1 5 3 8 (.invokevirtual 94) := vm_dD b_L_pattern_0 5 rfl rfl
theorem d_L_pattern_8 : vm_D q_L_pattern.2.1 8 1 9 (.i2l) := vm_dD b_L_pattern_0 6 rfl rfl
theorem d_L_pattern_9 : vm_D q_L_pattern.2.1 9 1 10 (.lastore) := vm_dD b_L_pattern_0 7 rfl rfl
theorem d_L_pattern_10 : ∃ off : Int, decode q_L_pattern.2.1 10 = .ok (.goto off, 3) ∧ ((10 : Nat) : Int) + off = ((21 : Nat) : Int) := ⟨11, vm_db b_L_pattern_0 (i := 8) rfl, by decide⟩
theorem d_L_pattern_21 : vm_D q_L_pattern.2.1 21 1 22 (.iconst 0) := vm_dD b_L_pattern_0 15 rfl rfl
theorem d_L_pattern_22 : vm_D q_L_pattern.2.1 22 1 23 (.ireturn) := vm_dD b_L_pattern_0 16 rfl rfl
def q_L_stuck : vm_Y := ("RepeatFreeLaw", cL_stuck, 4, false, [(0, 9, 12, 13)])
def t_L_stuck_0 : List (Nat × Instr × Nat) := [(0, .aload_n 2, 1), (1, .iconst 0, 1), (2, .aload_n 0, 1), (3, .iload_n 1, 1), (4, .invokevirtual 97, 3), (7, .i2l, 1), (8, .lastore, 1), (9, .goto 6, 3), (12, .astore_n 3, 1), (13, .iconst 1, 1), (14, .ireturn, 1), (15, .iconst 0, 1), (16, .ireturn, 1)]
theorem b_L_stuck_0 : (t_L_stuck_0.all fun q => decide (decode q_L_stuck.2.1 q.1 = .ok (q.2.1, q.2.2))) = true := by decide +kernel
theorem d_L_stuck_0 : vm_D q_L_stuck.2.1 0 1 1 (.aload_n 2) := vm_dD b_L_stuck_0 0 rfl rfl
theorem d_L_stuck_1 : vm_D q_L_stuck.2.1 1 1 2 (.iconst 0) := vm_dD b_L_stuck_0 1 rfl rfl
theorem d_L_stuck_2 : vm_D q_L_stuck.2.1 2 1 3 (.aload_n 0) := vm_dD b_L_stuck_0 2 rfl rfl
theorem d_L_stuck_3 : vm_D q_L_stuck.2.1 3 1 4 (.iload_n 1) := vm_dD b_L_stuck_0 3 rfl rfl
theorem d_L_stuck_13 : vm_D q_L_stuck.2.1 13 1 14 (.iconst 1) := vm_dD b_L_stuck_0 9 rfl rfl
theorem d_L_stuck_14 : vm_D q_L_stuck.2.1 14 1 15 (.ireturn) := vm_dD b_L_stuck_0 10 rfl rfl
theorem d_L_stuck_12 : vm_D q_L_stuck.2.1 12 1 13 (.astore_n 3) := vm_dD b_L_stuck_0 8 rfl rfl
theorem d_L_stuck_4 : vm_D q_L_stuck.2.1 4 3 7 (.invokevirtual 97) := vm_dD b_L_stuck_0 4 rfl rfl
theorem d_L_stuck_7 : vm_D q_L_stuck.2.1 7 1 8 (.i2l) := vm_dD b_L_stuck_0 5 rfl rfl
theorem d_L_stuck_8 : vm_D q_L_stuck.2.1 8 1 9 (.lastore) := vm_dD b_L_stuck_0 6 rfl rfl
theorem d_L_stuck_9 : ∃ off : Int, decode q_L_stuck.2.1 9 = .ok (.goto off, 3) ∧ ((9 : Nat) : Int) + off = ((15 : Nat) : Int) := ⟨6, vm_db b_L_stuck_0 (i := 7) rfl, by decide⟩
theorem d_L_stuck_15 : vm_D q_L_stuck.2.1 15 1 16 (.iconst 0) := vm_dD b_L_stuck_0 11 rfl rfl
theorem d_L_stuck_16 : vm_D q_L_stuck.2.1 16 1 17 (.ireturn) := vm_dD b_L_stuck_0 12 rfl rfl
def q_L_rank : vm_Y := ("RepeatFreeLaw", cL_rank, 3, false, [(0, 8, 11, 22)])
def t_L_rank_0 : List (Nat × Instr × Nat) := [(0, .aload_n 1, 1), (1, .iconst 0, 1), (2, .aload_n 0, 1), (3, .invokevirtual 100, 3), (6, .i2l, 1), (7, .lastore, 1), (8, .goto 6, 3), (11, .astore_n 2, 1), (12, .iconst 1, 1), (13, .ireturn, 1), (14, .iconst 0, 1), (15, .ireturn, 1)]
theorem b_L_rank_0 : (t_L_rank_0.all fun q => decide (decode q_L_rank.2.1 q.1 = .ok (q.2.1, q.2.2))) = true := by decide +kernel
theorem d_L_rank_0 : vm_D q_L_rank.2.1 0 1 1 (.aload_n 1) := vm_dD b_L_rank_0 0 rfl rfl
theorem d_L_rank_1 : vm_D q_L_rank.2.1 1 1 2 (.iconst 0) := vm_dD b_L_rank_0 1 rfl rfl
theorem d_L_rank_2 : vm_D q_L_rank.2.1 2 1 3 (.aload_n 0) := vm_dD b_L_rank_0 2 rfl rfl
theorem d_L_rank_12 : vm_D q_L_rank.2.1 12 1 13 (.iconst 1) := vm_dD b_L_rank_0 8 rfl rfl
theorem d_L_rank_13 : vm_D q_L_rank.2.1 13 1 14 (.ireturn) := vm_dD b_L_rank_0 9 rfl rfl
theorem d_L_rank_11 : vm_D q_L_rank.2.1 11 1 12 (.astore_n 2) := vm_dD b_L_rank_0 7 rfl rfl
theorem d_L_rank_3 : vm_D q_L_rank.2.1 3 3 6 (.invokevirtual 100) := vm_dD b_L_rank_0 3 rfl rfl
theorem d_L_rank_6 : vm_D q_L_rank.2.1 6 1 7 (.i2l) := vm_dD b_L_rank_0 4 rfl rfl
theorem d_L_rank_7 : vm_D q_L_rank.2.1 7 1 8 (.lastore) := vm_dD b_L_rank_0 5 rfl rfl
theorem d_L_rank_8 : ∃ off : Int, decode q_L_rank.2.1 8 = .ok (.goto off, 3) ∧ ((8 : Nat) : Int) + off = ((14 : Nat) : Int) := ⟨6, vm_db b_L_rank_0 (i := 6) rfl, by decide⟩
theorem d_L_rank_14 : vm_D q_L_rank.2.1 14 1 15 (.iconst 0) := vm_dD b_L_rank_0 10 rfl rfl
theorem d_L_rank_15 : vm_D q_L_rank.2.1 15 1 16 (.ireturn) := vm_dD b_L_rank_0 11 rfl rfl
def q_L_nth : vm_Y := ("RepeatFreeLaw", cL_nth, 5, false, [(0, 10, 13, 13)])
def t_L_nth_0 : List (Nat × Instr × Nat) := [(0, .aload_n 3, 1), (1, .iconst 0, 1), (2, .aload_n 0, 1), (3, .iload_n 1, 1), (4, .iload_n 2, 1), (5, .invokevirtual 103, 3), (8, .i2l, 1), (9, .lastore, 1), (10, .goto 7, 3), (13, .astore 4, 2), (15, .iconst 1, 1), (16, .ireturn, 1), (17, .iconst 0, 1), (18, .ireturn, 1)]
theorem b_L_nth_0 : (t_L_nth_0.all fun q => decide (decode q_L_nth.2.1 q.1 = .ok (q.2.1, q.2.2))) = true := by decide +kernel
theorem d_L_nth_0 : vm_D q_L_nth.2.1 0 1 1 (.aload_n 3) := vm_dD b_L_nth_0 0 rfl rfl
theorem d_L_nth_1 : vm_D q_L_nth.2.1 1 1 2 (.iconst 0) := vm_dD b_L_nth_0 1 rfl rfl
theorem d_L_nth_2 : vm_D q_L_nth.2.1 2 1 3 (.aload_n 0) := vm_dD b_L_nth_0 2 rfl rfl
theorem d_L_nth_3 : vm_D q_L_nth.2.1 3 1 4 (.iload_n 1) := vm_dD b_L_nth_0 3 rfl rfl
theorem d_L_nth_4 : vm_D q_L_nth.2.1 4 1 5 (.iload_n 2) := vm_dD b_L_nth_0 4 rfl rfl
theorem d_L_nth_15 : vm_D q_L_nth.2.1 15 1 16 (.iconst 1) := vm_dD b_L_nth_0 10 rfl rfl
theorem d_L_nth_16 : vm_D q_L_nth.2.1 16 1 17 (.ireturn) := vm_dD b_L_nth_0 11 rfl rfl
theorem d_L_nth_13 : vm_D q_L_nth.2.1 13 2 15 (.astore 4) := vm_dD b_L_nth_0 9 rfl rfl
theorem d_L_nth_5 : vm_D q_L_nth.2.1 5 3 8 (.invokevirtual 103) := vm_dD b_L_nth_0 5 rfl rfl
theorem d_L_nth_8 : vm_D q_L_nth.2.1 8 1 9 (.i2l) := vm_dD b_L_nth_0 6 rfl rfl
theorem d_L_nth_9 : vm_D q_L_nth.2.1 9 1 10 (.lastore) := vm_dD b_L_nth_0 7 rfl rfl
theorem d_L_nth_10 : ∃ off : Int, decode q_L_nth.2.1 10 = .ok (.goto off, 3) ∧ ((10 : Nat) : Int) + off = ((17 : Nat) : Int) := ⟨7, vm_db b_L_nth_0 (i := 8) rfl, by decide⟩
theorem d_L_nth_17 : vm_D q_L_nth.2.1 17 1 18 (.iconst 0) := vm_dD b_L_nth_0 12 rfl rfl
theorem d_L_nth_18 : vm_D q_L_nth.2.1 18 1 19 (.ireturn) := vm_dD b_L_nth_0 13 rfl rfl
def q_L_limit : vm_Y := ("RepeatFreeLaw", cL_limit, 6, false, [(0, 12, 15, 13)])
def t_L_limit_0 : List (Nat × Instr × Nat) := [(0, .aload 4, 2), (2, .iconst 0, 1), (3, .aload_n 0, 1), (4, .iload_n 1, 1), (5, .iload_n 2, 1), (6, .iload_n 3, 1), (7, .invokevirtual 106, 3), (10, .i2l, 1), (11, .lastore, 1), (12, .goto 7, 3), (15, .astore 5, 2), (17, .iconst 1, 1), (18, .ireturn, 1), (19, .iconst 0, 1), (20, .ireturn, 1)]
theorem b_L_limit_0 : (t_L_limit_0.all fun q => decide (decode q_L_limit.2.1 q.1 = .ok (q.2.1, q.2.2))) = true := by decide +kernel
theorem d_L_limit_0 : vm_D q_L_limit.2.1 0 2 2 (.aload 4) := vm_dD b_L_limit_0 0 rfl rfl
theorem d_L_limit_2 : vm_D q_L_limit.2.1 2 1 3 (.iconst 0) := vm_dD b_L_limit_0 1 rfl rfl
theorem d_L_limit_3 : vm_D q_L_limit.2.1 3 1 4 (.aload_n 0) := vm_dD b_L_limit_0 2 rfl rfl
theorem d_L_limit_4 : vm_D q_L_limit.2.1 4 1 5 (.iload_n 1) := vm_dD b_L_limit_0 3 rfl rfl
theorem d_L_limit_5 : vm_D q_L_limit.2.1 5 1 6 (.iload_n 2) := vm_dD b_L_limit_0 4 rfl rfl
theorem d_L_limit_6 : vm_D q_L_limit.2.1 6 1 7 (.iload_n 3) := vm_dD b_L_limit_0 5 rfl rfl
theorem d_L_limit_17 : vm_D q_L_limit.2.1 17 1 18 (.iconst 1) := vm_dD b_L_limit_0 11 rfl rfl
theorem d_L_limit_18 : vm_D q_L_limit.2.1 18 1 19 (.ireturn) := vm_dD b_L_limit_0 12 rfl rfl
theorem d_L_limit_15 : vm_D q_L_limit.2.1 15 2 17 (.astore 5) := vm_dD b_L_limit_0 10 rfl rfl
theorem d_L_limit_7 : vm_D q_L_limit.2.1 7 3 10 (.invokevirtual 106) := vm_dD b_L_limit_0 6 rfl rfl
theorem d_L_limit_10 : vm_D q_L_limit.2.1 10 1 11 (.i2l) := vm_dD b_L_limit_0 7 rfl rfl
theorem d_L_limit_11 : vm_D q_L_limit.2.1 11 1 12 (.lastore) := vm_dD b_L_limit_0 8 rfl rfl
theorem d_L_limit_12 : ∃ off : Int, decode q_L_limit.2.1 12 = .ok (.goto off, 3) ∧ ((12 : Nat) : Int) + off = ((19 : Nat) : Int) := ⟨7, vm_db b_L_limit_0 (i := 9) rfl, by decide⟩
theorem d_L_limit_19 : vm_D q_L_limit.2.1 19 1 20 (.iconst 0) := vm_dD b_L_limit_0 13 rfl rfl
theorem d_L_limit_20 : vm_D q_L_limit.2.1 20 1 21 (.ireturn) := vm_dD b_L_limit_0 14 rfl rfl
def q_L_avoid : vm_Y := ("RepeatFreeLaw", cL_avoid, 5, false, [(0, 17, 20, 42)])
def t_L_avoid_0 : List (Nat × Instr × Nat) := [(0, .aload_n 3, 1), (1, .iconst 0, 1), (2, .aload_n 0, 1), (3, .iload_n 1, 1), (4, .iload_n 2, 1), (5, .invokevirtual 109, 3), (8, .ifCond .eq 7, 3), (11, .lconst 1, 1), (12, .goto 4, 3), (15, .lconst 0, 1), (16, .lastore, 1), (17, .goto 7, 3), (20, .astore 4, 2), (22, .iconst 1, 1), (23, .ireturn, 1), (24, .iconst 0, 1), (25, .ireturn, 1)]
theorem b_L_avoid_0 : (t_L_avoid_0.all fun q => decide (decode q_L_avoid.2.1 q.1 = .ok (q.2.1, q.2.2))) = true := by decide +kernel
theorem d_L_avoid_0 : vm_D q_L_avoid.2.1 0 1 1 (.aload_n 3) := vm_dD b_L_avoid_0 0 rfl rfl
theorem d_L_avoid_1 : vm_D q_L_avoid.2.1 1 1 2 (.iconst 0) := vm_dD b_L_avoid_0 1 rfl rfl
theorem d_L_avoid_2 : vm_D q_L_avoid.2.1 2 1 3 (.aload_n 0) := vm_dD b_L_avoid_0 2 rfl rfl
theorem d_L_avoid_3 : vm_D q_L_avoid.2.1 3 1 4 (.iload_n 1) := vm_dD b_L_avoid_0 3 rfl rfl
theorem d_L_avoid_4 : vm_D q_L_avoid.2.1 4 1 5 (.iload_n 2) := vm_dD b_L_avoid_0 4 rfl rfl
theorem d_L_avoid_22 : vm_D q_L_avoid.2.1 22 1 23 (.iconst 1) := vm_dD b_L_avoid_0 13 rfl rfl
theorem d_L_avoid_23 : vm_D q_L_avoid.2.1 23 1 24 (.ireturn) := vm_dD b_L_avoid_0 14 rfl rfl
theorem d_L_avoid_20 : vm_D q_L_avoid.2.1 20 2 22 (.astore 4) := vm_dD b_L_avoid_0 12 rfl rfl
theorem d_L_avoid_5 : vm_D q_L_avoid.2.1 5 3 8 (.invokevirtual 109) := vm_dD b_L_avoid_0 5 rfl rfl
theorem d_L_avoid_8 : vm_B q_L_avoid.2.1 8 11 15 (fun o => .ifCond .eq o) := ⟨7, vm_db b_L_avoid_0 (i := 6) rfl, rfl, by decide⟩
theorem d_L_avoid_16 : vm_D q_L_avoid.2.1 16 1 17 (.lastore) := vm_dD b_L_avoid_0 10 rfl rfl
theorem d_L_avoid_17 : ∃ off : Int, decode q_L_avoid.2.1 17 = .ok (.goto off, 3) ∧ ((17 : Nat) : Int) + off = ((24 : Nat) : Int) := ⟨7, vm_db b_L_avoid_0 (i := 11) rfl, by decide⟩
theorem d_L_avoid_24 : vm_D q_L_avoid.2.1 24 1 25 (.iconst 0) := vm_dD b_L_avoid_0 15 rfl rfl
theorem d_L_avoid_25 : vm_D q_L_avoid.2.1 25 1 26 (.ireturn) := vm_dD b_L_avoid_0 16 rfl rfl
theorem d_L_avoid_15 : vm_D q_L_avoid.2.1 15 1 16 (.lconst 0) := vm_dD b_L_avoid_0 9 rfl rfl
theorem d_L_avoid_11 : vm_D q_L_avoid.2.1 11 1 12 (.lconst 1) := vm_dD b_L_avoid_0 7 rfl rfl
theorem d_L_avoid_12 : ∃ off : Int, decode q_L_avoid.2.1 12 = .ok (.goto off, 3) ∧ ((12 : Nat) : Int) + off = ((16 : Nat) : Int) := ⟨4, vm_db b_L_avoid_0 (i := 8) rfl, by decide⟩
def q_L_local : vm_Y := ("RepeatFreeLaw", cL_local, 4, false, [(0, 9, 12, 13)])
def t_L_local_0 : List (Nat × Instr × Nat) := [(0, .aload_n 2, 1), (1, .iconst 0, 1), (2, .aload_n 0, 1), (3, .iload_n 1, 1), (4, .invokevirtual 113, 3), (7, .i2l, 1), (8, .lastore, 1), (9, .goto 6, 3), (12, .astore_n 3, 1), (13, .iconst 1, 1), (14, .ireturn, 1), (15, .iconst 0, 1), (16, .ireturn, 1)]
theorem b_L_local_0 : (t_L_local_0.all fun q => decide (decode q_L_local.2.1 q.1 = .ok (q.2.1, q.2.2))) = true := by decide +kernel
theorem d_L_local_0 : vm_D q_L_local.2.1 0 1 1 (.aload_n 2) := vm_dD b_L_local_0 0 rfl rfl
theorem d_L_local_1 : vm_D q_L_local.2.1 1 1 2 (.iconst 0) := vm_dD b_L_local_0 1 rfl rfl
theorem d_L_local_2 : vm_D q_L_local.2.1 2 1 3 (.aload_n 0) := vm_dD b_L_local_0 2 rfl rfl
theorem d_L_local_3 : vm_D q_L_local.2.1 3 1 4 (.iload_n 1) := vm_dD b_L_local_0 3 rfl rfl
theorem d_L_local_13 : vm_D q_L_local.2.1 13 1 14 (.iconst 1) := vm_dD b_L_local_0 9 rfl rfl
theorem d_L_local_14 : vm_D q_L_local.2.1 14 1 15 (.ireturn) := vm_dD b_L_local_0 10 rfl rfl
theorem d_L_local_12 : vm_D q_L_local.2.1 12 1 13 (.astore_n 3) := vm_dD b_L_local_0 8 rfl rfl
theorem d_L_local_4 : vm_D q_L_local.2.1 4 3 7 (.invokevirtual 113) := vm_dD b_L_local_0 4 rfl rfl
theorem d_L_local_7 : vm_D q_L_local.2.1 7 1 8 (.i2l) := vm_dD b_L_local_0 5 rfl rfl
theorem d_L_local_8 : vm_D q_L_local.2.1 8 1 9 (.lastore) := vm_dD b_L_local_0 6 rfl rfl
theorem d_L_local_9 : ∃ off : Int, decode q_L_local.2.1 9 = .ok (.goto off, 3) ∧ ((9 : Nat) : Int) + off = ((15 : Nat) : Int) := ⟨6, vm_db b_L_local_0 (i := 7) rfl, by decide⟩
theorem d_L_local_15 : vm_D q_L_local.2.1 15 1 16 (.iconst 0) := vm_dD b_L_local_0 11 rfl rfl
theorem d_L_local_16 : vm_D q_L_local.2.1 16 1 17 (.ireturn) := vm_dD b_L_local_0 12 rfl rfl
def q_L_fill : vm_Y := ("RepeatFreeLaw", cL_fill, 6, false, [(0, 12, 15, 42), (0, 12, 19, 13), (0, 12, 23, 22)])
def t_L_fill_0 : List (Nat × Instr × Nat) := [(0, .aload 4, 2), (2, .iconst 0, 1), (3, .aload_n 0, 1), (4, .iload_n 1, 1), (5, .iload_n 2, 1), (6, .iload_n 3, 1), (7, .invokevirtual 116, 3), (10, .i2l, 1), (11, .lastore, 1), (12, .goto 15, 3), (15, .astore 5, 2), (17, .iconst 1, 1), (18, .ireturn, 1), (19, .astore 5, 2), (21, .iconst 2, 1), (22, .ireturn, 1), (23, .astore 5, 2), (25, .iconst 3, 1), (26, .ireturn, 1), (27, .iconst 0, 1), (28, .ireturn, 1)]
theorem b_L_fill_0 : (t_L_fill_0.all fun q => decide (decode q_L_fill.2.1 q.1 = .ok (q.2.1, q.2.2))) = true := by decide +kernel
theorem d_L_fill_0 : vm_D q_L_fill.2.1 0 2 2 (.aload 4) := vm_dD b_L_fill_0 0 rfl rfl
theorem d_L_fill_2 : vm_D q_L_fill.2.1 2 1 3 (.iconst 0) := vm_dD b_L_fill_0 1 rfl rfl
theorem d_L_fill_3 : vm_D q_L_fill.2.1 3 1 4 (.aload_n 0) := vm_dD b_L_fill_0 2 rfl rfl
theorem d_L_fill_4 : vm_D q_L_fill.2.1 4 1 5 (.iload_n 1) := vm_dD b_L_fill_0 3 rfl rfl
theorem d_L_fill_5 : vm_D q_L_fill.2.1 5 1 6 (.iload_n 2) := vm_dD b_L_fill_0 4 rfl rfl
theorem d_L_fill_6 : vm_D q_L_fill.2.1 6 1 7 (.iload_n 3) := vm_dD b_L_fill_0 5 rfl rfl
theorem d_L_fill_17 : vm_D q_L_fill.2.1 17 1 18 (.iconst 1) := vm_dD b_L_fill_0 11 rfl rfl
theorem d_L_fill_18 : vm_D q_L_fill.2.1 18 1 19 (.ireturn) := vm_dD b_L_fill_0 12 rfl rfl
theorem d_L_fill_15 : vm_D q_L_fill.2.1 15 2 17 (.astore 5) := vm_dD b_L_fill_0 10 rfl rfl
theorem d_L_fill_21 : vm_D q_L_fill.2.1 21 1 22 (.iconst 2) := vm_dD b_L_fill_0 14 rfl rfl
theorem d_L_fill_22 : vm_D q_L_fill.2.1 22 1 23 (.ireturn) := vm_dD b_L_fill_0 15 rfl rfl
theorem d_L_fill_19 : vm_D q_L_fill.2.1 19 2 21 (.astore 5) := vm_dD b_L_fill_0 13 rfl rfl
theorem d_L_fill_25 : vm_D q_L_fill.2.1 25 1 26 (.iconst 3) := vm_dD b_L_fill_0 17 rfl rfl
theorem d_L_fill_26 : vm_D q_L_fill.2.1 26 1 27 (.ireturn) := vm_dD b_L_fill_0 18 rfl rfl
theorem d_L_fill_23 : vm_D q_L_fill.2.1 23 2 25 (.astore 5) := vm_dD b_L_fill_0 16 rfl rfl
theorem d_L_fill_7 : vm_D q_L_fill.2.1 7 3 10 (.invokevirtual 116) := vm_dD b_L_fill_0 6 rfl rfl
theorem d_L_fill_10 : vm_D q_L_fill.2.1 10 1 11 (.i2l) := vm_dD b_L_fill_0 7 rfl rfl
theorem d_L_fill_11 : vm_D q_L_fill.2.1 11 1 12 (.lastore) := vm_dD b_L_fill_0 8 rfl rfl
theorem d_L_fill_12 : ∃ off : Int, decode q_L_fill.2.1 12 = .ok (.goto off, 3) ∧ ((12 : Nat) : Int) + off = ((27 : Nat) : Int) := ⟨15, vm_db b_L_fill_0 (i := 9) rfl, by decide⟩
theorem d_L_fill_27 : vm_D q_L_fill.2.1 27 1 28 (.iconst 0) := vm_dD b_L_fill_0 19 rfl rfl
theorem d_L_fill_28 : vm_D q_L_fill.2.1 28 1 29 (.ireturn) := vm_dD b_L_fill_0 20 rfl rfl
def q_L_sources : vm_Y := ("RepeatFreeLaw", cL_sources, 4, false, [(0, 8, 11, 42)])
def t_L_sources_0 : List (Nat × Instr × Nat) := [(0, .aload_n 2, 1), (1, .iconst 0, 1), (2, .aload_n 0, 1), (3, .iload_n 1, 1), (4, .invokevirtual 119, 3), (7, .lastore, 1), (8, .goto 6, 3), (11, .astore_n 3, 1), (12, .iconst 1, 1), (13, .ireturn, 1), (14, .iconst 0, 1), (15, .ireturn, 1)]
theorem b_L_sources_0 : (t_L_sources_0.all fun q => decide (decode q_L_sources.2.1 q.1 = .ok (q.2.1, q.2.2))) = true := by decide +kernel
theorem d_L_sources_0 : vm_D q_L_sources.2.1 0 1 1 (.aload_n 2) := vm_dD b_L_sources_0 0 rfl rfl
theorem d_L_sources_1 : vm_D q_L_sources.2.1 1 1 2 (.iconst 0) := vm_dD b_L_sources_0 1 rfl rfl
theorem d_L_sources_2 : vm_D q_L_sources.2.1 2 1 3 (.aload_n 0) := vm_dD b_L_sources_0 2 rfl rfl
theorem d_L_sources_3 : vm_D q_L_sources.2.1 3 1 4 (.iload_n 1) := vm_dD b_L_sources_0 3 rfl rfl
theorem d_L_sources_12 : vm_D q_L_sources.2.1 12 1 13 (.iconst 1) := vm_dD b_L_sources_0 8 rfl rfl
theorem d_L_sources_13 : vm_D q_L_sources.2.1 13 1 14 (.ireturn) := vm_dD b_L_sources_0 9 rfl rfl
theorem d_L_sources_11 : vm_D q_L_sources.2.1 11 1 12 (.astore_n 3) := vm_dD b_L_sources_0 7 rfl rfl
theorem d_L_sources_4 : vm_D q_L_sources.2.1 4 3 7 (.invokevirtual 119) := vm_dD b_L_sources_0 4 rfl rfl
theorem d_L_sources_7 : vm_D q_L_sources.2.1 7 1 8 (.lastore) := vm_dD b_L_sources_0 5 rfl rfl
theorem d_L_sources_8 : ∃ off : Int, decode q_L_sources.2.1 8 = .ok (.goto off, 3) ∧ ((8 : Nat) : Int) + off = ((14 : Nat) : Int) := ⟨6, vm_db b_L_sources_0 (i := 6) rfl, by decide⟩
theorem d_L_sources_14 : vm_D q_L_sources.2.1 14 1 15 (.iconst 0) := vm_dD b_L_sources_0 10 rfl rfl
theorem d_L_sources_15 : vm_D q_L_sources.2.1 15 1 16 (.ireturn) := vm_dD b_L_sources_0 11 rfl rfl
def q_L_code : vm_Y := ("RepeatFreeLaw", cL_code, 4, false, [(0, 16, 19, 42)])
def t_L_code_0 : List (Nat × Instr × Nat) := [(0, .aload_n 2, 1), (1, .iconst 0, 1), (2, .aload_n 0, 1), (3, .iload_n 1, 1), (4, .invokevirtual 123, 3), (7, .ifCond .eq 7, 3), (10, .lconst 1, 1), (11, .goto 4, 3), (14, .lconst 0, 1), (15, .lastore, 1), (16, .goto 6, 3), (19, .astore_n 3, 1), (20, .iconst 1, 1), (21, .ireturn, 1), (22, .iconst 0, 1), (23, .ireturn, 1)]
theorem b_L_code_0 : (t_L_code_0.all fun q => decide (decode q_L_code.2.1 q.1 = .ok (q.2.1, q.2.2))) = true := by decide +kernel
theorem d_L_code_0 : vm_D q_L_code.2.1 0 1 1 (.aload_n 2) := vm_dD b_L_code_0 0 rfl rfl
theorem d_L_code_1 : vm_D q_L_code.2.1 1 1 2 (.iconst 0) := vm_dD b_L_code_0 1 rfl rfl
theorem d_L_code_2 : vm_D q_L_code.2.1 2 1 3 (.aload_n 0) := vm_dD b_L_code_0 2 rfl rfl
theorem d_L_code_3 : vm_D q_L_code.2.1 3 1 4 (.iload_n 1) := vm_dD b_L_code_0 3 rfl rfl
theorem d_L_code_20 : vm_D q_L_code.2.1 20 1 21 (.iconst 1) := vm_dD b_L_code_0 12 rfl rfl
theorem d_L_code_21 : vm_D q_L_code.2.1 21 1 22 (.ireturn) := vm_dD b_L_code_0 13 rfl rfl
theorem d_L_code_19 : vm_D q_L_code.2.1 19 1 20 (.astore_n 3) := vm_dD b_L_code_0 11 rfl rfl
theorem d_L_code_4 : vm_D q_L_code.2.1 4 3 7 (.invokevirtual 123) := vm_dD b_L_code_0 4 rfl rfl
theorem d_L_code_7 : vm_B q_L_code.2.1 7 10 14 (fun o => .ifCond .eq o) := ⟨7, vm_db b_L_code_0 (i := 5) rfl, rfl, by decide⟩
theorem d_L_code_15 : vm_D q_L_code.2.1 15 1 16 (.lastore) := vm_dD b_L_code_0 9 rfl rfl
theorem d_L_code_16 : ∃ off : Int, decode q_L_code.2.1 16 = .ok (.goto off, 3) ∧ ((16 : Nat) : Int) + off = ((22 : Nat) : Int) := ⟨6, vm_db b_L_code_0 (i := 10) rfl, by decide⟩
theorem d_L_code_22 : vm_D q_L_code.2.1 22 1 23 (.iconst 0) := vm_dD b_L_code_0 14 rfl rfl
theorem d_L_code_23 : vm_D q_L_code.2.1 23 1 24 (.ireturn) := vm_dD b_L_code_0 15 rfl rfl
theorem d_L_code_14 : vm_D q_L_code.2.1 14 1 15 (.lconst 0) := vm_dD b_L_code_0 8 rfl rfl
theorem d_L_code_10 : vm_D q_L_code.2.1 10 1 11 (.lconst 1) := vm_dD b_L_code_0 6 rfl rfl
theorem d_L_code_11 : ∃ off : Int, decode q_L_code.2.1 11 = .ok (.goto off, 3) ∧ ((11 : Nat) : Int) + off = ((15 : Nat) : Int) := ⟨4, vm_db b_L_code_0 (i := 7) rfl, by decide⟩
def q_L_whole : vm_Y := ("RepeatFreeLaw", cL_whole, 6, false, [(0, 12, 15, 42), (0, 12, 19, 30)])
def t_L_whole_0 : List (Nat × Instr × Nat) := [(0, .aload 4, 2), (2, .iconst 0, 1), (3, .aload_n 0, 1), (4, .iload_n 1, 1), (5, .iload_n 2, 1), (6, .iload_n 3, 1), (7, .invokevirtual 126, 3), (10, .i2l, 1), (11, .lastore, 1), (12, .goto 11, 3), (15, .astore 5, 2), (17, .iconst 1, 1), (18, .ireturn, 1), (19, .astore 5, 2), (21, .iconst 2, 1), (22, .ireturn, 1), (23, .iconst 0, 1), (24, .ireturn, 1)]
theorem b_L_whole_0 : (t_L_whole_0.all fun q => decide (decode q_L_whole.2.1 q.1 = .ok (q.2.1, q.2.2))) = true := by decide +kernel
theorem d_L_whole_0 : vm_D q_L_whole.2.1 0 2 2 (.aload 4) := vm_dD b_L_whole_0 0 rfl rfl
theorem d_L_whole_2 : vm_D q_L_whole.2.1 2 1 3 (.iconst 0) := vm_dD b_L_whole_0 1 rfl rfl
theorem d_L_whole_3 : vm_D q_L_whole.2.1 3 1 4 (.aload_n 0) := vm_dD b_L_whole_0 2 rfl rfl
theorem d_L_whole_4 : vm_D q_L_whole.2.1 4 1 5 (.iload_n 1) := vm_dD b_L_whole_0 3 rfl rfl
theorem d_L_whole_5 : vm_D q_L_whole.2.1 5 1 6 (.iload_n 2) := vm_dD b_L_whole_0 4 rfl rfl
theorem d_L_whole_6 : vm_D q_L_whole.2.1 6 1 7 (.iload_n 3) := vm_dD b_L_whole_0 5 rfl rfl
theorem d_L_whole_17 : vm_D q_L_whole.2.1 17 1 18 (.iconst 1) := vm_dD b_L_whole_0 11 rfl rfl
theorem d_L_whole_18 : vm_D q_L_whole.2.1 18 1 19 (.ireturn) := vm_dD b_L_whole_0 12 rfl rfl
theorem d_L_whole_15 : vm_D q_L_whole.2.1 15 2 17 (.astore 5) := vm_dD b_L_whole_0 10 rfl rfl
theorem d_L_whole_21 : vm_D q_L_whole.2.1 21 1 22 (.iconst 2) := vm_dD b_L_whole_0 14 rfl rfl
theorem d_L_whole_22 : vm_D q_L_whole.2.1 22 1 23 (.ireturn) := vm_dD b_L_whole_0 15 rfl rfl
theorem d_L_whole_19 : vm_D q_L_whole.2.1 19 2 21 (.astore 5) := vm_dD b_L_whole_0 13 rfl rfl
theorem d_L_whole_7 : vm_D q_L_whole.2.1 7 3 10 (.invokevirtual 126) := vm_dD b_L_whole_0 6 rfl rfl
theorem d_L_whole_10 : vm_D q_L_whole.2.1 10 1 11 (.i2l) := vm_dD b_L_whole_0 7 rfl rfl
theorem d_L_whole_11 : vm_D q_L_whole.2.1 11 1 12 (.lastore) := vm_dD b_L_whole_0 8 rfl rfl
theorem d_L_whole_12 : ∃ off : Int, decode q_L_whole.2.1 12 = .ok (.goto off, 3) ∧ ((12 : Nat) : Int) + off = ((23 : Nat) : Int) := ⟨11, vm_db b_L_whole_0 (i := 9) rfl, by decide⟩
theorem d_L_whole_23 : vm_D q_L_whole.2.1 23 1 24 (.iconst 0) := vm_dD b_L_whole_0 16 rfl rfl
theorem d_L_whole_24 : vm_D q_L_whole.2.1 24 1 25 (.ireturn) := vm_dD b_L_whole_0 17 rfl rfl
