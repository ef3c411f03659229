def q_Acts_init : vm_Y := ("RepeatFree$Acts", cX0_init, 1, true, [])
def t_Acts_init_0 : List (Nat × Instr × Nat) := [(0, .aload_n 0, 1), (1, .invokespecial 3, 3), (4, .aload_n 0, 1), (5, .bipush 10, 2), (7, .bipush 64, 2), (9, .multianewarray 9 2, 4), (13, .putfield 11, 3), (16, .aload_n 0, 1), (17, .bipush 10, 2), (19, .newarray .int, 2), (21, .putfield 16, 3), (24, .aload_n 0, 1), (25, .iconst 0, 1), (26, .putfield 20, 3), (29, .aload_n 0, 1), (30, .iconst 0, 1), (31, .putfield 24, 3), (34, .return_, 1)]
theorem b_Acts_init_0 : (t_Acts_init_0.all fun q => decide (decode q_Acts_init.2.1 q.1 = .ok (q.2.1, q.2.2))) = true := by decide +kernel
theorem d_Acts_init_0 : vm_D q_Acts_init.2.1 0 1 1 (.aload_n 0) := vm_dD b_Acts_init_0 0 rfl rfl
theorem d_Acts_init_1 : vm_D q_Acts_init.2.1 1 3 4 (.invokespecial 3) := vm_dD b_Acts_init_0 1 rfl rfl
theorem d_Acts_init_4 : vm_D q_Acts_init.2.1 4 1 5 (.aload_n 0) := vm_dD b_Acts_init_0 2 rfl rfl
theorem d_Acts_init_5 : vm_D q_Acts_init.2.1 5 2 7 (.bipush 10) := vm_dD b_Acts_init_0 3 rfl rfl
theorem d_Acts_init_7 : vm_D q_Acts_init.2.1 7 2 9 (.bipush 64) := vm_dD b_Acts_init_0 4 rfl rfl
theorem d_Acts_init_9 : vm_D q_Acts_init.2.1 9 4 13 (.multianewarray 9 2) := vm_dD b_Acts_init_0 5 rfl rfl
theorem d_Acts_init_13 : vm_D q_Acts_init.2.1 13 3 16 (.putfield 11) := vm_dD b_Acts_init_0 6 rfl rfl
theorem d_Acts_init_16 : vm_D q_Acts_init.2.1 16 1 17 (.aload_n 0) := vm_dD b_Acts_init_0 7 rfl rfl
theorem d_Acts_init_17 : vm_D q_Acts_init.2.1 17 2 19 (.bipush 10) := vm_dD b_Acts_init_0 8 rfl rfl
theorem d_Acts_init_19 : vm_D q_Acts_init.2.1 19 2 21 (.newarray .int) := vm_dD b_Acts_init_0 9 rfl rfl
theorem d_Acts_init_21 : vm_D q_Acts_init.2.1 21 3 24 (.putfield 16) := vm_dD b_Acts_init_0 10 rfl rfl
theorem d_Acts_init_24 : vm_D q_Acts_init.2.1 24 1 25 (.aload_n 0) := vm_dD b_Acts_init_0 11 rfl rfl
theorem d_Acts_init_25 : vm_D q_Acts_init.2.1 25 1 26 (.iconst 0) := vm_dD b_Acts_init_0 12 rfl rfl
theorem d_Acts_init_26 : vm_D q_Acts_init.2.1 26 3 29 (.putfield 20) := vm_dD b_Acts_init_0 13 rfl rfl
theorem d_Acts_init_29 : vm_D q_Acts_init.2.1 29 1 30 (.aload_n 0) := vm_dD b_Acts_init_0 14 rfl rfl
theorem d_Acts_init_30 : vm_D q_Acts_init.2.1 30 1 31 (.iconst 0) := vm_dD b_Acts_init_0 15 rfl rfl
theorem d_Acts_init_31 : vm_D q_Acts_init.2.1 31 3 34 (.putfield 24) := vm_dD b_Acts_init_0 16 rfl rfl
theorem d_Acts_init_34 : vm_D q_Acts_init.2.1 34 1 35 (.return_) := vm_dD b_Acts_init_0 17 rfl rfl
def q_Sizes_init : vm_Y := ("RepeatFree$Sizes", cX7_init, 1, true, [])
def t_Sizes_init_0 : List (Nat × Instr × Nat) := [(0, .aload_n 0, 1), (1, .invokespecial 3, 3), (4, .aload_n 0, 1), (5, .iconst 3, 1), (6, .newarray .int, 2), (8, .putfield 9, 3), (11, .aload_n 0, 1), (12, .iconst 3, 1), (13, .newarray .int, 2), (15, .putfield 15, 3), (18, .return_, 1)]
theorem b_Sizes_init_0 : (t_Sizes_init_0.all fun q => decide (decode q_Sizes_init.2.1 q.1 = .ok (q.2.1, q.2.2))) = true := by decide +kernel
theorem d_Sizes_init_0 : vm_D q_Sizes_init.2.1 0 1 1 (.aload_n 0) := vm_dD b_Sizes_init_0 0 rfl rfl
theorem d_Sizes_init_1 : vm_D q_Sizes_init.2.1 1 3 4 (.invokespecial 3) := vm_dD b_Sizes_init_0 1 rfl rfl
theorem d_Sizes_init_4 : vm_D q_Sizes_init.2.1 4 1 5 (.aload_n 0) := vm_dD b_Sizes_init_0 2 rfl rfl
theorem d_Sizes_init_5 : vm_D q_Sizes_init.2.1 5 1 6 (.iconst 3) := vm_dD b_Sizes_init_0 3 rfl rfl
theorem d_Sizes_init_6 : vm_D q_Sizes_init.2.1 6 2 8 (.newarray .int) := vm_dD b_Sizes_init_0 4 rfl rfl
theorem d_Sizes_init_8 : vm_D q_Sizes_init.2.1 8 3 11 (.putfield 9) := vm_dD b_Sizes_init_0 5 rfl rfl
theorem d_Sizes_init_11 : vm_D q_Sizes_init.2.1 11 1 12 (.aload_n 0) := vm_dD b_Sizes_init_0 6 rfl rfl
theorem d_Sizes_init_12 : vm_D q_Sizes_init.2.1 12 1 13 (.iconst 3) := vm_dD b_Sizes_init_0 7 rfl rfl
theorem d_Sizes_init_13 : vm_D q_Sizes_init.2.1 13 2 15 (.newarray .int) := vm_dD b_Sizes_init_0 8 rfl rfl
theorem d_Sizes_init_15 : vm_D q_Sizes_init.2.1 15 3 18 (.putfield 15) := vm_dD b_Sizes_init_0 9 rfl rfl
theorem d_Sizes_init_18 : vm_D q_Sizes_init.2.1 18 1 19 (.return_) := vm_dD b_Sizes_init_0 10 rfl rfl
def q_Line_init : vm_Y := ("RepeatFree$Line", cX1_init, 1, true, [])
def t_Line_init_0 : List (Nat × Instr × Nat) := [(0, .aload_n 0, 1), (1, .invokespecial 3, 3), (4, .aload_n 0, 1), (5, .bipush 64, 2), (7, .newarray .int, 2), (9, .putfield 9, 3), (12, .aload_n 0, 1), (13, .bipush 64, 2), (15, .bipush 64, 2), (17, .multianewarray 15 2, 4), (21, .putfield 17, 3), (24, .aload_n 0, 1), (25, .bipush 64, 2), (27, .newarray .int, 2), (29, .putfield 20, 3), (32, .aload_n 0, 1), (33, .new 23, 3), (36, .dup, 1), (37, .invokespecial 25, 3), (40, .putfield 26, 3), (43, .aload_n 0, 1), (44, .iconst 0, 1), (45, .putfield 30, 3), (48, .return_, 1)]
theorem b_Line_init_0 : (t_Line_init_0.all fun q => decide (decode q_Line_init.2.1 q.1 = .ok (q.2.1, q.2.2))) = true := by decide +kernel
theorem d_Line_init_0 : vm_D q_Line_init.2.1 0 1 1 (.aload_n 0) := vm_dD b_Line_init_0 0 rfl rfl
theorem d_Line_init_1 : vm_D q_Line_init.2.1 1 3 4 (.invokespecial 3) := vm_dD b_Line_init_0 1 rfl rfl
theorem d_Line_init_4 : vm_D q_Line_init.2.1 4 1 5 (.aload_n 0) := vm_dD b_Line_init_0 2 rfl rfl
theorem d_Line_init_5 : vm_D q_Line_init.2.1 5 2 7 (.bipush 64) := vm_dD b_Line_init_0 3 rfl rfl
theorem d_Line_init_7 : vm_D q_Line_init.2.1 7 2 9 (.newarray .int) := vm_dD b_Line_init_0 4 rfl rfl
theorem d_Line_init_9 : vm_D q_Line_init.2.1 9 3 12 (.putfield 9) := vm_dD b_Line_init_0 5 rfl rfl
theorem d_Line_init_12 : vm_D q_Line_init.2.1 12 1 13 (.aload_n 0) := vm_dD b_Line_init_0 6 rfl rfl
theorem d_Line_init_13 : vm_D q_Line_init.2.1 13 2 15 (.bipush 64) := vm_dD b_Line_init_0 7 rfl rfl
theorem d_Line_init_15 : vm_D q_Line_init.2.1 15 2 17 (.bipush 64) := vm_dD b_Line_init_0 8 rfl rfl
theorem d_Line_init_17 : vm_D q_Line_init.2.1 17 4 21 (.multianewarray 15 2) := vm_dD b_Line_init_0 9 rfl rfl
theorem d_Line_init_21 : vm_D q_Line_init.2.1 21 3 24 (.putfield 17) := vm_dD b_Line_init_0 10 rfl rfl
theorem d_Line_init_24 : vm_D q_Line_init.2.1 24 1 25 (.aload_n 0) := vm_dD b_Line_init_0 11 rfl rfl
theorem d_Line_init_25 : vm_D q_Line_init.2.1 25 2 27 (.bipush 64) := vm_dD b_Line_init_0 12 rfl rfl
theorem d_Line_init_27 : vm_D q_Line_init.2.1 27 2 29 (.newarray .int) := vm_dD b_Line_init_0 13 rfl rfl
theorem d_Line_init_29 : vm_D q_Line_init.2.1 29 3 32 (.putfield 20) := vm_dD b_Line_init_0 14 rfl rfl
theorem d_Line_init_32 : vm_D q_Line_init.2.1 32 1 33 (.aload_n 0) := vm_dD b_Line_init_0 15 rfl rfl
theorem d_Line_init_33 : vm_D q_Line_init.2.1 33 3 36 (.new 23) := vm_dD b_Line_init_0 16 rfl rfl
theorem d_Line_init_36 : vm_D q_Line_init.2.1 36 1 37 (.dup) := vm_dD b_Line_init_0 17 rfl rfl
theorem d_Line_init_37 : vm_D q_Line_init.2.1 37 3 40 (.invokespecial 25) := vm_dD b_Line_init_0 18 rfl rfl
theorem d_Line_init_40 : vm_D q_Line_init.2.1 40 3 43 (.putfield 26) := vm_dD b_Line_init_0 19 rfl rfl
theorem d_Line_init_43 : vm_D q_Line_init.2.1 43 1 44 (.aload_n 0) := vm_dD b_Line_init_0 20 rfl rfl
theorem d_Line_init_44 : vm_D q_Line_init.2.1 44 1 45 (.iconst 0) := vm_dD b_Line_init_0 21 rfl rfl
theorem d_Line_init_45 : vm_D q_Line_init.2.1 45 3 48 (.putfield 30) := vm_dD b_Line_init_0 22 rfl rfl
theorem d_Line_init_48 : vm_D q_Line_init.2.1 48 1 49 (.return_) := vm_dD b_Line_init_0 23 rfl rfl
def q_Tape_init : vm_Y := ("RepeatFree$Tape", cX8_init, 1, true, [])
def t_Tape_init_0 : List (Nat × Instr × Nat) := [(0, .aload_n 0, 1), (1, .invokespecial 3, 3), (4, .aload_n 0, 1), (5, .sipush 400, 3), (8, .newarray .int, 2), (10, .putfield 9, 3), (13, .aload_n 0, 1), (14, .iconst 0, 1), (15, .putfield 15, 3), (18, .return_, 1)]
theorem b_Tape_init_0 : (t_Tape_init_0.all fun q => decide (decode q_Tape_init.2.1 q.1 = .ok (q.2.1, q.2.2))) = true := by decide +kernel
theorem d_Tape_init_0 : vm_D q_Tape_init.2.1 0 1 1 (.aload_n 0) := vm_dD b_Tape_init_0 0 rfl rfl
theorem d_Tape_init_1 : vm_D q_Tape_init.2.1 1 3 4 (.invokespecial 3) := vm_dD b_Tape_init_0 1 rfl rfl
theorem d_Tape_init_4 : vm_D q_Tape_init.2.1 4 1 5 (.aload_n 0) := vm_dD b_Tape_init_0 2 rfl rfl
theorem d_Tape_init_5 : vm_D q_Tape_init.2.1 5 3 8 (.sipush 400) := vm_dD b_Tape_init_0 3 rfl rfl
theorem d_Tape_init_8 : vm_D q_Tape_init.2.1 8 2 10 (.newarray .int) := vm_dD b_Tape_init_0 4 rfl rfl
theorem d_Tape_init_10 : vm_D q_Tape_init.2.1 10 3 13 (.putfield 9) := vm_dD b_Tape_init_0 5 rfl rfl
theorem d_Tape_init_13 : vm_D q_Tape_init.2.1 13 1 14 (.aload_n 0) := vm_dD b_Tape_init_0 6 rfl rfl
theorem d_Tape_init_14 : vm_D q_Tape_init.2.1 14 1 15 (.iconst 0) := vm_dD b_Tape_init_0 7 rfl rfl
theorem d_Tape_init_15 : vm_D q_Tape_init.2.1 15 3 18 (.putfield 15) := vm_dD b_Tape_init_0 8 rfl rfl
theorem d_Tape_init_18 : vm_D q_Tape_init.2.1 18 1 19 (.return_) := vm_dD b_Tape_init_0 9 rfl rfl
def q_Reader_init : vm_Y := ("RepeatFree$Reader", cX4_init, 1, true, [])
def t_Reader_init_0 : List (Nat × Instr × Nat) := [(0, .aload_n 0, 1), (1, .invokespecial 3, 3), (4, .aload_n 0, 1), (5, .new 9, 3), (8, .dup, 1), (9, .invokespecial 11, 3), (12, .putfield 12, 3), (15, .aload_n 0, 1), (16, .iconst 0, 1), (17, .putfield 18, 3), (20, .aload_n 0, 1), (21, .iconst (-1), 1), (22, .putfield 22, 3), (25, .aload_n 0, 1), (26, .iconst 0, 1), (27, .putfield 25, 3), (30, .aload_n 0, 1), (31, .iconst 0, 1), (32, .putfield 28, 3), (35, .return_, 1)]
theorem b_Reader_init_0 : (t_Reader_init_0.all fun q => decide (decode q_Reader_init.2.1 q.1 = .ok (q.2.1, q.2.2))) = true := by decide +kernel
theorem d_Reader_init_0 : vm_D q_Reader_init.2.1 0 1 1 (.aload_n 0) := vm_dD b_Reader_init_0 0 rfl rfl
theorem d_Reader_init_1 : vm_D q_Reader_init.2.1 1 3 4 (.invokespecial 3) := vm_dD b_Reader_init_0 1 rfl rfl
theorem d_Reader_init_4 : vm_D q_Reader_init.2.1 4 1 5 (.aload_n 0) := vm_dD b_Reader_init_0 2 rfl rfl
theorem d_Reader_init_5 : vm_D q_Reader_init.2.1 5 3 8 (.new 9) := vm_dD b_Reader_init_0 3 rfl rfl
theorem d_Reader_init_8 : vm_D q_Reader_init.2.1 8 1 9 (.dup) := vm_dD b_Reader_init_0 4 rfl rfl
theorem d_Reader_init_9 : vm_D q_Reader_init.2.1 9 3 12 (.invokespecial 11) := vm_dD b_Reader_init_0 5 rfl rfl
theorem d_Reader_init_12 : vm_D q_Reader_init.2.1 12 3 15 (.putfield 12) := vm_dD b_Reader_init_0 6 rfl rfl
theorem d_Reader_init_15 : vm_D q_Reader_init.2.1 15 1 16 (.aload_n 0) := vm_dD b_Reader_init_0 7 rfl rfl
theorem d_Reader_init_16 : vm_D q_Reader_init.2.1 16 1 17 (.iconst 0) := vm_dD b_Reader_init_0 8 rfl rfl
theorem d_Reader_init_17 : vm_D q_Reader_init.2.1 17 3 20 (.putfield 18) := vm_dD b_Reader_init_0 9 rfl rfl
theorem d_Reader_init_20 : vm_D q_Reader_init.2.1 20 1 21 (.aload_n 0) := vm_dD b_Reader_init_0 10 rfl rfl
theorem d_Reader_init_21 : vm_D q_Reader_init.2.1 21 1 22 (.iconst (-1)) := vm_dD b_Reader_init_0 11 rfl rfl
theorem d_Reader_init_22 : vm_D q_Reader_init.2.1 22 3 25 (.putfield 22) := vm_dD b_Reader_init_0 12 rfl rfl
theorem d_Reader_init_25 : vm_D q_Reader_init.2.1 25 1 26 (.aload_n 0) := vm_dD b_Reader_init_0 13 rfl rfl
theorem d_Reader_init_26 : vm_D q_Reader_init.2.1 26 1 27 (.iconst 0) := vm_dD b_Reader_init_0 14 rfl rfl
theorem d_Reader_init_27 : vm_D q_Reader_init.2.1 27 3 30 (.putfield 25) := vm_dD b_Reader_init_0 15 rfl rfl
theorem d_Reader_init_30 : vm_D q_Reader_init.2.1 30 1 31 (.aload_n 0) := vm_dD b_Reader_init_0 16 rfl rfl
theorem d_Reader_init_31 : vm_D q_Reader_init.2.1 31 1 32 (.iconst 0) := vm_dD b_Reader_init_0 17 rfl rfl
theorem d_Reader_init_32 : vm_D q_Reader_init.2.1 32 3 35 (.putfield 28) := vm_dD b_Reader_init_0 18 rfl rfl
theorem d_Reader_init_35 : vm_D q_Reader_init.2.1 35 1 36 (.return_) := vm_dD b_Reader_init_0 19 rfl rfl
def q_Search_init : vm_Y := ("RepeatFree$Search", cX5_init, 1, true, [])
def t_Search_init_0 : List (Nat × Instr × Nat) := [(0, .aload_n 0, 1), (1, .invokespecial 3, 3), (4, .aload_n 0, 1), (5, .new 9, 3), (8, .dup, 1), (9, .invokespecial 11, 3), (12, .putfield 12, 3), (15, .aload_n 0, 1), (16, .aconst_null, 1), (17, .putfield 18, 3), (20, .aload_n 0, 1), (21, .iconst 0, 1), (22, .putfield 22, 3), (25, .aload_n 0, 1), (26, .iconst 0, 1), (27, .putfield 26, 3), (30, .aload_n 0, 1), (31, .iconst 0, 1), (32, .putfield 29, 3), (35, .aload_n 0, 1), (36, .iconst 0, 1), (37, .putfield 32, 3), (40, .aload_n 0, 1), (41, .iconst 0, 1), (42, .putfield 35, 3), (45, .return_, 1)]
theorem b_Search_init_0 : (t_Search_init_0.all fun q => decide (decode q_Search_init.2.1 q.1 = .ok (q.2.1, q.2.2))) = true := by decide +kernel
theorem d_Search_init_0 : vm_D q_Search_init.2.1 0 1 1 (.aload_n 0) := vm_dD b_Search_init_0 0 rfl rfl
theorem d_Search_init_1 : vm_D q_Search_init.2.1 1 3 4 (.invokespecial 3) := vm_dD b_Search_init_0 1 rfl rfl
theorem d_Search_init_4 : vm_D q_Search_init.2.1 4 1 5 (.aload_n 0) := vm_dD b_Search_init_0 2 rfl rfl
theorem d_Search_init_5 : vm_D q_Search_init.2.1 5 3 8 (.new 9) := vm_dD b_Search_init_0 3 rfl rfl
theorem d_Search_init_8 : vm_D q_Search_init.2.1 8 1 9 (.dup) := vm_dD b_Search_init_0 4 rfl rfl
theorem d_Search_init_9 : vm_D q_Search_init.2.1 9 3 12 (.invokespecial 11) := vm_dD b_Search_init_0 5 rfl rfl
theorem d_Search_init_12 : vm_D q_Search_init.2.1 12 3 15 (.putfield 12) := vm_dD b_Search_init_0 6 rfl rfl
theorem d_Search_init_15 : vm_D q_Search_init.2.1 15 1 16 (.aload_n 0) := vm_dD b_Search_init_0 7 rfl rfl
theorem d_Search_init_16 : vm_D q_Search_init.2.1 16 1 17 (.aconst_null) := vm_dD b_Search_init_0 8 rfl rfl
theorem d_Search_init_17 : vm_D q_Search_init.2.1 17 3 20 (.putfield 18) := vm_dD b_Search_init_0 9 rfl rfl
theorem d_Search_init_20 : vm_D q_Search_init.2.1 20 1 21 (.aload_n 0) := vm_dD b_Search_init_0 10 rfl rfl
theorem d_Search_init_21 : vm_D q_Search_init.2.1 21 1 22 (.iconst 0) := vm_dD b_Search_init_0 11 rfl rfl
theorem d_Search_init_22 : vm_D q_Search_init.2.1 22 3 25 (.putfield 22) := vm_dD b_Search_init_0 12 rfl rfl
theorem d_Search_init_25 : vm_D q_Search_init.2.1 25 1 26 (.aload_n 0) := vm_dD b_Search_init_0 13 rfl rfl
theorem d_Search_init_26 : vm_D q_Search_init.2.1 26 1 27 (.iconst 0) := vm_dD b_Search_init_0 14 rfl rfl
theorem d_Search_init_27 : vm_D q_Search_init.2.1 27 3 30 (.putfield 26) := vm_dD b_Search_init_0 15 rfl rfl
theorem d_Search_init_30 : vm_D q_Search_init.2.1 30 1 31 (.aload_n 0) := vm_dD b_Search_init_0 16 rfl rfl
theorem d_Search_init_31 : vm_D q_Search_init.2.1 31 1 32 (.iconst 0) := vm_dD b_Search_init_0 17 rfl rfl
theorem d_Search_init_32 : vm_D q_Search_init.2.1 32 3 35 (.putfield 29) := vm_dD b_Search_init_0 18 rfl rfl
theorem d_Search_init_35 : vm_D q_Search_init.2.1 35 1 36 (.aload_n 0) := vm_dD b_Search_init_0 19 rfl rfl
theorem d_Search_init_36 : vm_D q_Search_init.2.1 36 1 37 (.iconst 0) := vm_dD b_Search_init_0 20 rfl rfl
theorem d_Search_init_37 : vm_D q_Search_init.2.1 37 3 40 (.putfield 32) := vm_dD b_Search_init_0 21 rfl rfl
theorem d_Search_init_40 : vm_D q_Search_init.2.1 40 1 41 (.aload_n 0) := vm_dD b_Search_init_0 22 rfl rfl
theorem d_Search_init_41 : vm_D q_Search_init.2.1 41 1 42 (.iconst 0) := vm_dD b_Search_init_0 23 rfl rfl
theorem d_Search_init_42 : vm_D q_Search_init.2.1 42 3 45 (.putfield 35) := vm_dD b_Search_init_0 24 rfl rfl
theorem d_Search_init_45 : vm_D q_Search_init.2.1 45 1 46 (.return_) := vm_dD b_Search_init_0 25 rfl rfl
def q_Name_init : vm_Y := ("RepeatFree$Name", cX3_init, 1, true, [])
def t_Name_init_0 : List (Nat × Instr × Nat) := [(0, .aload_n 0, 1), (1, .invokespecial 3, 3), (4, .aload_n 0, 1), (5, .bipush 6, 2), (7, .newarray .int, 2), (9, .putfield 9, 3), (12, .aload_n 0, 1), (13, .iconst 0, 1), (14, .putfield 15, 3), (17, .return_, 1)]
theorem b_Name_init_0 : (t_Name_init_0.all fun q => decide (decode q_Name_init.2.1 q.1 = .ok (q.2.1, q.2.2))) = true := by decide +kernel
theorem d_Name_init_0 : vm_D q_Name_init.2.1 0 1 1 (.aload_n 0) := vm_dD b_Name_init_0 0 rfl rfl
theorem d_Name_init_1 : vm_D q_Name_init.2.1 1 3 4 (.invokespecial 3) := vm_dD b_Name_init_0 1 rfl rfl
theorem d_Name_init_4 : vm_D q_Name_init.2.1 4 1 5 (.aload_n 0) := vm_dD b_Name_init_0 2 rfl rfl
theorem d_Name_init_5 : vm_D q_Name_init.2.1 5 2 7 (.bipush 6) := vm_dD b_Name_init_0 3 rfl rfl
theorem d_Name_init_7 : vm_D q_Name_init.2.1 7 2 9 (.newarray .int) := vm_dD b_Name_init_0 4 rfl rfl
theorem d_Name_init_9 : vm_D q_Name_init.2.1 9 3 12 (.putfield 9) := vm_dD b_Name_init_0 5 rfl rfl
theorem d_Name_init_12 : vm_D q_Name_init.2.1 12 1 13 (.aload_n 0) := vm_dD b_Name_init_0 6 rfl rfl
theorem d_Name_init_13 : vm_D q_Name_init.2.1 13 1 14 (.iconst 0) := vm_dD b_Name_init_0 7 rfl rfl
theorem d_Name_init_14 : vm_D q_Name_init.2.1 14 3 17 (.putfield 15) := vm_dD b_Name_init_0 8 rfl rfl
theorem d_Name_init_17 : vm_D q_Name_init.2.1 17 1 18 (.return_) := vm_dD b_Name_init_0 9 rfl rfl
def q_Morph_init : vm_Y := ("RepeatFree$Morph", cX2_init, 1, true, [])
def t_Morph_init_0 : List (Nat × Instr × Nat) := [(0, .aload_n 0, 1), (1, .invokespecial 3, 3), (4, .aload_n 0, 1), (5, .new 9, 3), (8, .dup, 1), (9, .invokespecial 11, 3), (12, .putfield 12, 3), (15, .aload_n 0, 1), (16, .iconst 4, 1), (17, .bipush 6, 2), (19, .multianewarray 18 2, 4), (23, .putfield 20, 3), (26, .aload_n 0, 1), (27, .iconst 4, 1), (28, .newarray .int, 2), (30, .putfield 23, 3), (33, .return_, 1)]
theorem b_Morph_init_0 : (t_Morph_init_0.all fun q => decide (decode q_Morph_init.2.1 q.1 = .ok (q.2.1, q.2.2))) = true := by decide +kernel
theorem d_Morph_init_0 : vm_D q_Morph_init.2.1 0 1 1 (.aload_n 0) := vm_dD b_Morph_init_0 0 rfl rfl
theorem d_Morph_init_1 : vm_D q_Morph_init.2.1 1 3 4 (.invokespecial 3) := vm_dD b_Morph_init_0 1 rfl rfl
theorem d_Morph_init_4 : vm_D q_Morph_init.2.1 4 1 5 (.aload_n 0) := vm_dD b_Morph_init_0 2 rfl rfl
theorem d_Morph_init_5 : vm_D q_Morph_init.2.1 5 3 8 (.new 9) := vm_dD b_Morph_init_0 3 rfl rfl
theorem d_Morph_init_8 : vm_D q_Morph_init.2.1 8 1 9 (.dup) := vm_dD b_Morph_init_0 4 rfl rfl
theorem d_Morph_init_9 : vm_D q_Morph_init.2.1 9 3 12 (.invokespecial 11) := vm_dD b_Morph_init_0 5 rfl rfl
theorem d_Morph_init_12 : vm_D q_Morph_init.2.1 12 3 15 (.putfield 12) := vm_dD b_Morph_init_0 6 rfl rfl
theorem d_Morph_init_15 : vm_D q_Morph_init.2.1 15 1 16 (.aload_n 0) := vm_dD b_Morph_init_0 7 rfl rfl
theorem d_Morph_init_16 : vm_D q_Morph_init.2.1 16 1 17 (.iconst 4) := vm_dD b_Morph_init_0 8 rfl rfl
theorem d_Morph_init_17 : vm_D q_Morph_init.2.1 17 2 19 (.bipush 6) := vm_dD b_Morph_init_0 9 rfl rfl
theorem d_Morph_init_19 : vm_D q_Morph_init.2.1 19 4 23 (.multianewarray 18 2) := vm_dD b_Morph_init_0 10 rfl rfl
theorem d_Morph_init_23 : vm_D q_Morph_init.2.1 23 3 26 (.putfield 20) := vm_dD b_Morph_init_0 11 rfl rfl
theorem d_Morph_init_26 : vm_D q_Morph_init.2.1 26 1 27 (.aload_n 0) := vm_dD b_Morph_init_0 12 rfl rfl
theorem d_Morph_init_27 : vm_D q_Morph_init.2.1 27 1 28 (.iconst 4) := vm_dD b_Morph_init_0 13 rfl rfl
theorem d_Morph_init_28 : vm_D q_Morph_init.2.1 28 2 30 (.newarray .int) := vm_dD b_Morph_init_0 14 rfl rfl
theorem d_Morph_init_30 : vm_D q_Morph_init.2.1 30 3 33 (.putfield 23) := vm_dD b_Morph_init_0 15 rfl rfl
theorem d_Morph_init_33 : vm_D q_Morph_init.2.1 33 1 34 (.return_) := vm_dD b_Morph_init_0 16 rfl rfl
def q_Shape_init : vm_Y := ("RepeatFree$Shape", cX6_init, 1, true, [])
def t_Shape_init_0 : List (Nat × Instr × Nat) := [(0, .aload_n 0, 1), (1, .invokespecial 3, 3), (4, .aload_n 0, 1), (5, .new 9, 3), (8, .dup, 1), (9, .invokespecial 11, 3), (12, .putfield 12, 3), (15, .aload_n 0, 1), (16, .bipush 6, 2), (18, .newarray .int, 2), (20, .putfield 18, 3), (23, .aload_n 0, 1), (24, .iconst 0, 1), (25, .putfield 22, 3), (28, .aload_n 0, 1), (29, .iconst 0, 1), (30, .putfield 26, 3), (33, .aload_n 0, 1), (34, .iconst 0, 1), (35, .putfield 29, 3), (38, .return_, 1)]
theorem b_Shape_init_0 : (t_Shape_init_0.all fun q => decide (decode q_Shape_init.2.1 q.1 = .ok (q.2.1, q.2.2))) = true := by decide +kernel
theorem d_Shape_init_0 : vm_D q_Shape_init.2.1 0 1 1 (.aload_n 0) := vm_dD b_Shape_init_0 0 rfl rfl
theorem d_Shape_init_1 : vm_D q_Shape_init.2.1 1 3 4 (.invokespecial 3) := vm_dD b_Shape_init_0 1 rfl rfl
theorem d_Shape_init_4 : vm_D q_Shape_init.2.1 4 1 5 (.aload_n 0) := vm_dD b_Shape_init_0 2 rfl rfl
theorem d_Shape_init_5 : vm_D q_Shape_init.2.1 5 3 8 (.new 9) := vm_dD b_Shape_init_0 3 rfl rfl
theorem d_Shape_init_8 : vm_D q_Shape_init.2.1 8 1 9 (.dup) := vm_dD b_Shape_init_0 4 rfl rfl
theorem d_Shape_init_9 : vm_D q_Shape_init.2.1 9 3 12 (.invokespecial 11) := vm_dD b_Shape_init_0 5 rfl rfl
theorem d_Shape_init_12 : vm_D q_Shape_init.2.1 12 3 15 (.putfield 12) := vm_dD b_Shape_init_0 6 rfl rfl
theorem d_Shape_init_15 : vm_D q_Shape_init.2.1 15 1 16 (.aload_n 0) := vm_dD b_Shape_init_0 7 rfl rfl
theorem d_Shape_init_16 : vm_D q_Shape_init.2.1 16 2 18 (.bipush 6) := vm_dD b_Shape_init_0 8 rfl rfl
theorem d_Shape_init_18 : vm_D q_Shape_init.2.1 18 2 20 (.newarray .int) := vm_dD b_Shape_init_0 9 rfl rfl
theorem d_Shape_init_20 : vm_D q_Shape_init.2.1 20 3 23 (.putfield 18) := vm_dD b_Shape_init_0 10 rfl rfl
theorem d_Shape_init_23 : vm_D q_Shape_init.2.1 23 1 24 (.aload_n 0) := vm_dD b_Shape_init_0 11 rfl rfl
theorem d_Shape_init_24 : vm_D q_Shape_init.2.1 24 1 25 (.iconst 0) := vm_dD b_Shape_init_0 12 rfl rfl
theorem d_Shape_init_25 : vm_D q_Shape_init.2.1 25 3 28 (.putfield 22) := vm_dD b_Shape_init_0 13 rfl rfl
theorem d_Shape_init_28 : vm_D q_Shape_init.2.1 28 1 29 (.aload_n 0) := vm_dD b_Shape_init_0 14 rfl rfl
theorem d_Shape_init_29 : vm_D q_Shape_init.2.1 29 1 30 (.iconst 0) := vm_dD b_Shape_init_0 15 rfl rfl
theorem d_Shape_init_30 : vm_D q_Shape_init.2.1 30 3 33 (.putfield 26) := vm_dD b_Shape_init_0 16 rfl rfl
theorem d_Shape_init_33 : vm_D q_Shape_init.2.1 33 1 34 (.aload_n 0) := vm_dD b_Shape_init_0 17 rfl rfl
theorem d_Shape_init_34 : vm_D q_Shape_init.2.1 34 1 35 (.iconst 0) := vm_dD b_Shape_init_0 18 rfl rfl
theorem d_Shape_init_35 : vm_D q_Shape_init.2.1 35 3 38 (.putfield 29) := vm_dD b_Shape_init_0 19 rfl rfl
theorem d_Shape_init_38 : vm_D q_Shape_init.2.1 38 1 39 (.return_) := vm_dD b_Shape_init_0 20 rfl rfl
def q_Told_init : vm_Y := ("RepeatFree$Told", cX9_init, 2, true, [])
def t_Told_init_0 : List (Nat × Instr × Nat) := [(0, .aload_n 0, 1), (1, .invokespecial 3, 3), (4, .aload_n 0, 1), (5, .iconst 4, 1), (6, .anewarray 9, 3), (9, .putfield 11, 3), (12, .aload_n 0, 1), (13, .iconst 4, 1), (14, .anewarray 17, 3), (17, .putfield 19, 3), (20, .aload_n 0, 1), (21, .iconst 2, 1), (22, .putfield 23, 3), (25, .aload_n 0, 1), (26, .iconst 0, 1), (27, .putfield 27, 3), (30, .aload_n 0, 1), (31, .iconst 0, 1), (32, .putfield 30, 3), (35, .aload_n 0, 1), (36, .iconst 0, 1), (37, .putfield 33, 3), (40, .aload_n 0, 1), (41, .iconst 0, 1), (42, .putfield 36, 3), (45, .aload_n 0, 1), (46, .iconst 0, 1), (47, .putfield 39, 3), (50, .iconst 0, 1), (51, .istore_n 1, 1), (52, .iload_n 1, 1), (53, .iconst 4, 1), (54, .if_icmp .ge 35, 3), (57, .aload_n 0, 1), (58, .getfield 11, 3), (61, .iload_n 1, 1), (62, .new 9, 3), (65, .dup, 1), (66, .invokespecial 42, 3), (69, .aastore, 1), (70, .aload_n 0, 1), (71, .getfield 19, 3), (74, .iload_n 1, 1), (75, .new 17, 3), (78, .dup, 1), (79, .invokespecial 43, 3), (82, .aastore, 1), (83, .iinc 1 1, 3), (86, .goto (-34), 3), (89, .return_, 1)]
theorem b_Told_init_0 : (t_Told_init_0.all fun q => decide (decode q_Told_init.2.1 q.1 = .ok (q.2.1, q.2.2))) = true := by decide +kernel
theorem d_Told_init_0 : vm_D q_Told_init.2.1 0 1 1 (.aload_n 0) := vm_dD b_Told_init_0 0 rfl rfl
theorem d_Told_init_1 : vm_D q_Told_init.2.1 1 3 4 (.invokespecial 3) := vm_dD b_Told_init_0 1 rfl rfl
theorem d_Told_init_4 : vm_D q_Told_init.2.1 4 1 5 (.aload_n 0) := vm_dD b_Told_init_0 2 rfl rfl
theorem d_Told_init_5 : vm_D q_Told_init.2.1 5 1 6 (.iconst 4) := vm_dD b_Told_init_0 3 rfl rfl
theorem d_Told_init_6 : vm_D q_Told_init.2.1 6 3 9 (.anewarray 9) := vm_dD b_Told_init_0 4 rfl rfl
theorem d_Told_init_9 : vm_D q_Told_init.2.1 9 3 12 (.putfield 11) := vm_dD b_Told_init_0 5 rfl rfl
theorem d_Told_init_12 : vm_D q_Told_init.2.1 12 1 13 (.aload_n 0) := vm_dD b_Told_init_0 6 rfl rfl
theorem d_Told_init_13 : vm_D q_Told_init.2.1 13 1 14 (.iconst 4) := vm_dD b_Told_init_0 7 rfl rfl
theorem d_Told_init_14 : vm_D q_Told_init.2.1 14 3 17 (.anewarray 17) := vm_dD b_Told_init_0 8 rfl rfl
theorem d_Told_init_17 : vm_D q_Told_init.2.1 17 3 20 (.putfield 19) := vm_dD b_Told_init_0 9 rfl rfl
theorem d_Told_init_20 : vm_D q_Told_init.2.1 20 1 21 (.aload_n 0) := vm_dD b_Told_init_0 10 rfl rfl
theorem d_Told_init_21 : vm_D q_Told_init.2.1 21 1 22 (.iconst 2) := vm_dD b_Told_init_0 11 rfl rfl
theorem d_Told_init_22 : vm_D q_Told_init.2.1 22 3 25 (.putfield 23) := vm_dD b_Told_init_0 12 rfl rfl
theorem d_Told_init_25 : vm_D q_Told_init.2.1 25 1 26 (.aload_n 0) := vm_dD b_Told_init_0 13 rfl rfl
theorem d_Told_init_26 : vm_D q_Told_init.2.1 26 1 27 (.iconst 0) := vm_dD b_Told_init_0 14 rfl rfl
theorem d_Told_init_27 : vm_D q_Told_init.2.1 27 3 30 (.putfield 27) := vm_dD b_Told_init_0 15 rfl rfl
theorem d_Told_init_30 : vm_D q_Told_init.2.1 30 1 31 (.aload_n 0) := vm_dD b_Told_init_0 16 rfl rfl
theorem d_Told_init_31 : vm_D q_Told_init.2.1 31 1 32 (.iconst 0) := vm_dD b_Told_init_0 17 rfl rfl
theorem d_Told_init_32 : vm_D q_Told_init.2.1 32 3 35 (.putfield 30) := vm_dD b_Told_init_0 18 rfl rfl
theorem d_Told_init_35 : vm_D q_Told_init.2.1 35 1 36 (.aload_n 0) := vm_dD b_Told_init_0 19 rfl rfl
theorem d_Told_init_36 : vm_D q_Told_init.2.1 36 1 37 (.iconst 0) := vm_dD b_Told_init_0 20 rfl rfl
theorem d_Told_init_37 : vm_D q_Told_init.2.1 37 3 40 (.putfield 33) := vm_dD b_Told_init_0 21 rfl rfl
theorem d_Told_init_40 : vm_D q_Told_init.2.1 40 1 41 (.aload_n 0) := vm_dD b_Told_init_0 22 rfl rfl
theorem d_Told_init_41 : vm_D q_Told_init.2.1 41 1 42 (.iconst 0) := vm_dD b_Told_init_0 23 rfl rfl
theorem d_Told_init_42 : vm_D q_Told_init.2.1 42 3 45 (.putfield 36) := vm_dD b_Told_init_0 24 rfl rfl
theorem d_Told_init_45 : vm_D q_Told_init.2.1 45 1 46 (.aload_n 0) := vm_dD b_Told_init_0 25 rfl rfl
theorem d_Told_init_46 : vm_D q_Told_init.2.1 46 1 47 (.iconst 0) := vm_dD b_Told_init_0 26 rfl rfl
theorem d_Told_init_47 : vm_D q_Told_init.2.1 47 3 50 (.putfield 39) := vm_dD b_Told_init_0 27 rfl rfl
theorem d_Told_init_50 : vm_D q_Told_init.2.1 50 1 51 (.iconst 0) := vm_dD b_Told_init_0 28 rfl rfl
theorem d_Told_init_51 : vm_D q_Told_init.2.1 51 1 52 (.istore_n 1) := vm_dD b_Told_init_0 29 rfl rfl
theorem d_Told_init_52 : vm_D q_Told_init.2.1 52 1 53 (.iload_n 1) := vm_dD b_Told_init_0 30 rfl rfl
theorem d_Told_init_53 : vm_D q_Told_init.2.1 53 1 54 (.iconst 4) := vm_dD b_Told_init_0 31 rfl rfl
theorem d_Told_init_54 : vm_B q_Told_init.2.1 54 57 89 (fun o => .if_icmp .ge o) := ⟨35, vm_db b_Told_init_0 (i := 32) rfl, rfl, by decide⟩
theorem d_Told_init_57 : vm_D q_Told_init.2.1 57 1 58 (.aload_n 0) := vm_dD b_Told_init_0 33 rfl rfl
theorem d_Told_init_58 : vm_D q_Told_init.2.1 58 3 61 (.getfield 11) := vm_dD b_Told_init_0 34 rfl rfl
theorem d_Told_init_61 : vm_D q_Told_init.2.1 61 1 62 (.iload_n 1) := vm_dD b_Told_init_0 35 rfl rfl
theorem d_Told_init_62 : vm_D q_Told_init.2.1 62 3 65 (.new 9) := vm_dD b_Told_init_0 36 rfl rfl
theorem d_Told_init_65 : vm_D q_Told_init.2.1 65 1 66 (.dup) := vm_dD b_Told_init_0 37 rfl rfl
theorem d_Told_init_66 : vm_D q_Told_init.2.1 66 3 69 (.invokespecial 42) := vm_dD b_Told_init_0 38 rfl rfl
theorem d_Told_init_69 : vm_D q_Told_init.2.1 69 1 70 (.aastore) := vm_dD b_Told_init_0 39 rfl rfl
theorem d_Told_init_70 : vm_D q_Told_init.2.1 70 1 71 (.aload_n 0) := vm_dD b_Told_init_0 40 rfl rfl
theorem d_Told_init_71 : vm_D q_Told_init.2.1 71 3 74 (.getfield 19) := vm_dD b_Told_init_0 41 rfl rfl
theorem d_Told_init_74 : vm_D q_Told_init.2.1 74 1 75 (.iload_n 1) := vm_dD b_Told_init_0 42 rfl rfl
theorem d_Told_init_75 : vm_D q_Told_init.2.1 75 3 78 (.new 17) := vm_dD b_Told_init_0 43 rfl rfl
theorem d_Told_init_78 : vm_D q_Told_init.2.1 78 1 79 (.dup) := vm_dD b_Told_init_0 44 rfl rfl
theorem d_Told_init_79 : vm_D q_Told_init.2.1 79 3 82 (.invokespecial 43) := vm_dD b_Told_init_0 45 rfl rfl
theorem d_Told_init_82 : vm_D q_Told_init.2.1 82 1 83 (.aastore) := vm_dD b_Told_init_0 46 rfl rfl
theorem d_Told_init_83 : vm_D q_Told_init.2.1 83 3 86 (.iinc 1 1) := vm_dD b_Told_init_0 47 rfl rfl
theorem d_Told_init_86 : ∃ off : Int, decode q_Told_init.2.1 86 = .ok (.goto off, 3) ∧ ((86 : Nat) : Int) + off = ((52 : Nat) : Int) := ⟨-34, vm_db b_Told_init_0 (i := 48) rfl, by decide⟩
theorem d_Told_init_89 : vm_D q_Told_init.2.1 89 1 90 (.return_) := vm_dD b_Told_init_0 49 rfl rfl
def q_Tape_add : vm_Y := ("RepeatFree$Tape", cX8_add, 3, false, [])
def t_Tape_add_0 : List (Nat × Instr × Nat) := [(0, .bipush 24, 2), (2, .istore_n 2, 1), (3, .iload_n 2, 1), (4, .ifCond .lt 47, 3), (7, .aload_n 0, 1), (8, .getfield 15, 3), (11, .aload_n 0, 1), (12, .getfield 9, 3), (15, .arraylength, 1), (16, .if_icmp .ge 35, 3), (19, .aload_n 0, 1), (20, .getfield 9, 3), (23, .aload_n 0, 1), (24, .getfield 15, 3), (27, .iload_n 1, 1), (28, .iload_n 2, 1), (29, .iushr, 1), (30, .sipush 255, 3), (33, .iand, 1), (34, .iastore, 1), (35, .aload_n 0, 1), (36, .dup, 1), (37, .getfield 15, 3), (40, .iconst 1, 1), (41, .iadd, 1), (42, .putfield 15, 3), (45, .iinc 2 (-8), 3), (48, .goto (-45), 3), (51, .return_, 1)]
theorem b_Tape_add_0 : (t_Tape_add_0.all fun q => decide (decode q_Tape_add.2.1 q.1 = .ok (q.2.1, q.2.2))) = true := by decide +kernel
theorem d_Tape_add_0 : vm_D q_Tape_add.2.1 0 2 2 (.bipush 24) := vm_dD b_Tape_add_0 0 rfl rfl
theorem d_Tape_add_2 : vm_D q_Tape_add.2.1 2 1 3 (.istore_n 2) := vm_dD b_Tape_add_0 1 rfl rfl
theorem d_Tape_add_3 : vm_D q_Tape_add.2.1 3 1 4 (.iload_n 2) := vm_dD b_Tape_add_0 2 rfl rfl
theorem d_Tape_add_4 : vm_B q_Tape_add.2.1 4 7 51 (fun o => .ifCond .lt o) := ⟨47, vm_db b_Tape_add_0 (i := 3) rfl, rfl, by decide⟩
theorem d_Tape_add_7 : vm_D q_Tape_add.2.1 7 1 8 (.aload_n 0) := vm_dD b_Tape_add_0 4 rfl rfl
theorem d_Tape_add_8 : vm_D q_Tape_add.2.1 8 3 11 (.getfield 15) := vm_dD b_Tape_add_0 5 rfl rfl
theorem d_Tape_add_11 : vm_D q_Tape_add.2.1 11 1 12 (.aload_n 0) := vm_dD b_Tape_add_0 6 rfl rfl
theorem d_Tape_add_12 : vm_D q_Tape_add.2.1 12 3 15 (.getfield 9) := vm_dD b_Tape_add_0 7 rfl rfl
theorem d_Tape_add_15 : vm_D q_Tape_add.2.1 15 1 16 (.arraylength) := vm_dD b_Tape_add_0 8 rfl rfl
theorem d_Tape_add_16 : vm_B q_Tape_add.2.1 16 19 51 (fun o => .if_icmp .ge o) := ⟨35, vm_db b_Tape_add_0 (i := 9) rfl, rfl, by decide⟩
theorem d_Tape_add_19 : vm_D q_Tape_add.2.1 19 1 20 (.aload_n 0) := vm_dD b_Tape_add_0 10 rfl rfl
theorem d_Tape_add_20 : vm_D q_Tape_add.2.1 20 3 23 (.getfield 9) := vm_dD b_Tape_add_0 11 rfl rfl
theorem d_Tape_add_23 : vm_D q_Tape_add.2.1 23 1 24 (.aload_n 0) := vm_dD b_Tape_add_0 12 rfl rfl
theorem d_Tape_add_24 : vm_D q_Tape_add.2.1 24 3 27 (.getfield 15) := vm_dD b_Tape_add_0 13 rfl rfl
theorem d_Tape_add_27 : vm_D q_Tape_add.2.1 27 1 28 (.iload_n 1) := vm_dD b_Tape_add_0 14 rfl rfl
theorem d_Tape_add_28 : vm_D q_Tape_add.2.1 28 1 29 (.iload_n 2) := vm_dD b_Tape_add_0 15 rfl rfl
theorem d_Tape_add_29 : vm_D q_Tape_add.2.1 29 1 30 (.iushr) := vm_dD b_Tape_add_0 16 rfl rfl
theorem d_Tape_add_30 : vm_D q_Tape_add.2.1 30 3 33 (.sipush 255) := vm_dD b_Tape_add_0 17 rfl rfl
theorem d_Tape_add_33 : vm_D q_Tape_add.2.1 33 1 34 (.iand) := vm_dD b_Tape_add_0 18 rfl rfl
theorem d_Tape_add_34 : vm_D q_Tape_add.2.1 34 1 35 (.iastore) := vm_dD b_Tape_add_0 19 rfl rfl
theorem d_Tape_add_35 : vm_D q_Tape_add.2.1 35 1 36 (.aload_n 0) := vm_dD b_Tape_add_0 20 rfl rfl
theorem d_Tape_add_36 : vm_D q_Tape_add.2.1 36 1 37 (.dup) := vm_dD b_Tape_add_0 21 rfl rfl
theorem d_Tape_add_37 : vm_D q_Tape_add.2.1 37 3 40 (.getfield 15) := vm_dD b_Tape_add_0 22 rfl rfl
theorem d_Tape_add_40 : vm_D q_Tape_add.2.1 40 1 41 (.iconst 1) := vm_dD b_Tape_add_0 23 rfl rfl
theorem d_Tape_add_41 : vm_D q_Tape_add.2.1 41 1 42 (.iadd) := vm_dD b_Tape_add_0 24 rfl rfl
theorem d_Tape_add_42 : vm_D q_Tape_add.2.1 42 3 45 (.putfield 15) := vm_dD b_Tape_add_0 25 rfl rfl
theorem d_Tape_add_45 : vm_D q_Tape_add.2.1 45 3 48 (.iinc 2 (-8)) := vm_dD b_Tape_add_0 26 rfl rfl
theorem d_Tape_add_48 : ∃ off : Int, decode q_Tape_add.2.1 48 = .ok (.goto off, 3) ∧ ((48 : Nat) : Int) + off = ((3 : Nat) : Int) := ⟨-45, vm_db b_Tape_add_0 (i := 27) rfl, by decide⟩
theorem d_Tape_add_51 : vm_D q_Tape_add.2.1 51 1 52 (.return_) := vm_dD b_Tape_add_0 28 rfl rfl
def q_Acts_clear : vm_Y := ("RepeatFree$Acts", cX0_clear, 1, false, [])
def t_Acts_clear_0 : List (Nat × Instr × Nat) := [(0, .aload_n 0, 1), (1, .iconst 0, 1), (2, .putfield 24, 3), (5, .return_, 1)]
theorem b_Acts_clear_0 : (t_Acts_clear_0.all fun q => decide (decode q_Acts_clear.2.1 q.1 = .ok (q.2.1, q.2.2))) = true := by decide +kernel
theorem d_Acts_clear_0 : vm_D q_Acts_clear.2.1 0 1 1 (.aload_n 0) := vm_dD b_Acts_clear_0 0 rfl rfl
theorem d_Acts_clear_1 : vm_D q_Acts_clear.2.1 1 1 2 (.iconst 0) := vm_dD b_Acts_clear_0 1 rfl rfl
theorem d_Acts_clear_2 : vm_D q_Acts_clear.2.1 2 3 5 (.putfield 24) := vm_dD b_Acts_clear_0 2 rfl rfl
theorem d_Acts_clear_5 : vm_D q_Acts_clear.2.1 5 1 6 (.return_) := vm_dD b_Acts_clear_0 3 rfl rfl
def q_Line_clear : vm_Y := ("RepeatFree$Line", cX1_clear, 1, false, [])
def t_Line_clear_0 : List (Nat × Instr × Nat) := [(0, .aload_n 0, 1), (1, .iconst 0, 1), (2, .putfield 30, 3), (5, .return_, 1)]
theorem b_Line_clear_0 : (t_Line_clear_0.all fun q => decide (decode q_Line_clear.2.1 q.1 = .ok (q.2.1, q.2.2))) = true := by decide +kernel
theorem d_Line_clear_0 : vm_D q_Line_clear.2.1 0 1 1 (.aload_n 0) := vm_dD b_Line_clear_0 0 rfl rfl
theorem d_Line_clear_1 : vm_D q_Line_clear.2.1 1 1 2 (.iconst 0) := vm_dD b_Line_clear_0 1 rfl rfl
theorem d_Line_clear_2 : vm_D q_Line_clear.2.1 2 3 5 (.putfield 30) := vm_dD b_Line_clear_0 2 rfl rfl
theorem d_Line_clear_5 : vm_D q_Line_clear.2.1 5 1 6 (.return_) := vm_dD b_Line_clear_0 3 rfl rfl
def q_Reader_begin : vm_Y := ("RepeatFree$Reader", cX4_begin, 1, false, [])
def t_Reader_begin_0 : List (Nat × Instr × Nat) := [(0, .aload_n 0, 1), (1, .iconst 0, 1), (2, .putfield 18, 3), (5, .aload_n 0, 1), (6, .iconst (-1), 1), (7, .putfield 22, 3), (10, .return_, 1)]
theorem b_Reader_begin_0 : (t_Reader_begin_0.all fun q => decide (decode q_Reader_begin.2.1 q.1 = .ok (q.2.1, q.2.2))) = true := by decide +kernel
theorem d_Reader_begin_0 : vm_D q_Reader_begin.2.1 0 1 1 (.aload_n 0) := vm_dD b_Reader_begin_0 0 rfl rfl
theorem d_Reader_begin_1 : vm_D q_Reader_begin.2.1 1 1 2 (.iconst 0) := vm_dD b_Reader_begin_0 1 rfl rfl
theorem d_Reader_begin_2 : vm_D q_Reader_begin.2.1 2 3 5 (.putfield 18) := vm_dD b_Reader_begin_0 2 rfl rfl
theorem d_Reader_begin_5 : vm_D q_Reader_begin.2.1 5 1 6 (.aload_n 0) := vm_dD b_Reader_begin_0 3 rfl rfl
theorem d_Reader_begin_6 : vm_D q_Reader_begin.2.1 6 1 7 (.iconst (-1)) := vm_dD b_Reader_begin_0 4 rfl rfl
theorem d_Reader_begin_7 : vm_D q_Reader_begin.2.1 7 3 10 (.putfield 22) := vm_dD b_Reader_begin_0 5 rfl rfl
theorem d_Reader_begin_10 : vm_D q_Reader_begin.2.1 10 1 11 (.return_) := vm_dD b_Reader_begin_0 6 rfl rfl
def q_Tape_at : vm_Y := ("RepeatFree$Tape", cX8_at, 2, false, [])
def t_Tape_at_0 : List (Nat × Instr × Nat) := [(0, .iload_n 1, 1), (1, .ifCond .lt 29, 3), (4, .iload_n 1, 1), (5, .aload_n 0, 1), (6, .getfield 15, 3), (9, .if_icmp .ge 21, 3), (12, .iload_n 1, 1), (13, .aload_n 0, 1), (14, .getfield 9, 3), (17, .arraylength, 1), (18, .if_icmp .ge 12, 3), (21, .aload_n 0, 1), (22, .getfield 9, 3), (25, .iload_n 1, 1), (26, .iaload, 1), (27, .goto 4, 3), (30, .iconst (-1), 1), (31, .ireturn, 1)]
theorem b_Tape_at_0 : (t_Tape_at_0.all fun q => decide (decode q_Tape_at.2.1 q.1 = .ok (q.2.1, q.2.2))) = true := by decide +kernel
theorem d_Tape_at_0 : vm_D q_Tape_at.2.1 0 1 1 (.iload_n 1) := vm_dD b_Tape_at_0 0 rfl rfl
theorem d_Tape_at_1 : vm_B q_Tape_at.2.1 1 4 30 (fun o => .ifCond .lt o) := ⟨29, vm_db b_Tape_at_0 (i := 1) rfl, rfl, by decide⟩
theorem d_Tape_at_30 : vm_D q_Tape_at.2.1 30 1 31 (.iconst (-1)) := vm_dD b_Tape_at_0 16 rfl rfl
theorem d_Tape_at_31 : vm_D q_Tape_at.2.1 31 1 32 (.ireturn) := vm_dD b_Tape_at_0 17 rfl rfl
theorem d_Tape_at_4 : vm_D q_Tape_at.2.1 4 1 5 (.iload_n 1) := vm_dD b_Tape_at_0 2 rfl rfl
theorem d_Tape_at_5 : vm_D q_Tape_at.2.1 5 1 6 (.aload_n 0) := vm_dD b_Tape_at_0 3 rfl rfl
theorem d_Tape_at_6 : vm_D q_Tape_at.2.1 6 3 9 (.getfield 15) := vm_dD b_Tape_at_0 4 rfl rfl
theorem d_Tape_at_9 : vm_B q_Tape_at.2.1 9 12 30 (fun o => .if_icmp .ge o) := ⟨21, vm_db b_Tape_at_0 (i := 5) rfl, rfl, by decide⟩
theorem d_Tape_at_12 : vm_D q_Tape_at.2.1 12 1 13 (.iload_n 1) := vm_dD b_Tape_at_0 6 rfl rfl
theorem d_Tape_at_13 : vm_D q_Tape_at.2.1 13 1 14 (.aload_n 0) := vm_dD b_Tape_at_0 7 rfl rfl
theorem d_Tape_at_14 : vm_D q_Tape_at.2.1 14 3 17 (.getfield 9) := vm_dD b_Tape_at_0 8 rfl rfl
theorem d_Tape_at_17 : vm_D q_Tape_at.2.1 17 1 18 (.arraylength) := vm_dD b_Tape_at_0 9 rfl rfl
theorem d_Tape_at_18 : vm_B q_Tape_at.2.1 18 21 30 (fun o => .if_icmp .ge o) := ⟨12, vm_db b_Tape_at_0 (i := 10) rfl, rfl, by decide⟩
theorem d_Tape_at_21 : vm_D q_Tape_at.2.1 21 1 22 (.aload_n 0) := vm_dD b_Tape_at_0 11 rfl rfl
theorem d_Tape_at_22 : vm_D q_Tape_at.2.1 22 3 25 (.getfield 9) := vm_dD b_Tape_at_0 12 rfl rfl
theorem d_Tape_at_25 : vm_D q_Tape_at.2.1 25 1 26 (.iload_n 1) := vm_dD b_Tape_at_0 13 rfl rfl
theorem d_Tape_at_26 : vm_D q_Tape_at.2.1 26 1 27 (.iaload) := vm_dD b_Tape_at_0 14 rfl rfl
theorem d_Tape_at_27 : ∃ off : Int, decode q_Tape_at.2.1 27 = .ok (.goto off, 3) ∧ ((27 : Nat) : Int) + off = ((31 : Nat) : Int) := ⟨4, vm_db b_Tape_at_0 (i := 15) rfl, by decide⟩
def q_Tape_isBlank : vm_Y := ("RepeatFree$Tape", cX8_isBlank, 1, false, [])
def t_Tape_isBlank_0 : List (Nat × Instr × Nat) := [(0, .iload_n 0, 1), (1, .bipush 9, 2), (3, .if_icmp .eq 15, 3), (6, .iload_n 0, 1), (7, .bipush 10, 2), (9, .if_icmp .eq 9, 3), (12, .iload_n 0, 1), (13, .bipush 32, 2), (15, .if_icmp .ne 7, 3), (18, .iconst 1, 1), (19, .goto 4, 3), (22, .iconst 0, 1), (23, .ireturn, 1)]
theorem b_Tape_isBlank_0 : (t_Tape_isBlank_0.all fun q => decide (decode q_Tape_isBlank.2.1 q.1 = .ok (q.2.1, q.2.2))) = true := by decide +kernel
theorem d_Tape_isBlank_0 : vm_D q_Tape_isBlank.2.1 0 1 1 (.iload_n 0) := vm_dD b_Tape_isBlank_0 0 rfl rfl
theorem d_Tape_isBlank_1 : vm_D q_Tape_isBlank.2.1 1 2 3 (.bipush 9) := vm_dD b_Tape_isBlank_0 1 rfl rfl
theorem d_Tape_isBlank_3 : vm_B q_Tape_isBlank.2.1 3 6 18 (fun o => .if_icmp .eq o) := ⟨15, vm_db b_Tape_isBlank_0 (i := 2) rfl, rfl, by decide⟩
theorem d_Tape_isBlank_18 : vm_D q_Tape_isBlank.2.1 18 1 19 (.iconst 1) := vm_dD b_Tape_isBlank_0 9 rfl rfl
theorem d_Tape_isBlank_19 : ∃ off : Int, decode q_Tape_isBlank.2.1 19 = .ok (.goto off, 3) ∧ ((19 : Nat) : Int) + off = ((23 : Nat) : Int) := ⟨4, vm_db b_Tape_isBlank_0 (i := 10) rfl, by decide⟩
theorem d_Tape_isBlank_23 : vm_D q_Tape_isBlank.2.1 23 1 24 (.ireturn) := vm_dD b_Tape_isBlank_0 12 rfl rfl
theorem d_Tape_isBlank_6 : vm_D q_Tape_isBlank.2.1 6 1 7 (.iload_n 0) := vm_dD b_Tape_isBlank_0 3 rfl rfl
theorem d_Tape_isBlank_7 : vm_D q_Tape_isBlank.2.1 7 2 9 (.bipush 10) := vm_dD b_Tape_isBlank_0 4 rfl rfl
theorem d_Tape_isBlank_9 : vm_B q_Tape_isBlank.2.1 9 12 18 (fun o => .if_icmp .eq o) := ⟨9, vm_db b_Tape_isBlank_0 (i := 5) rfl, rfl, by decide⟩
theorem d_Tape_isBlank_12 : vm_D q_Tape_isBlank.2.1 12 1 13 (.iload_n 0) := vm_dD b_Tape_isBlank_0 6 rfl rfl
theorem d_Tape_isBlank_13 : vm_D q_Tape_isBlank.2.1 13 2 15 (.bipush 32) := vm_dD b_Tape_isBlank_0 7 rfl rfl
theorem d_Tape_isBlank_15 : vm_B q_Tape_isBlank.2.1 15 18 22 (fun o => .if_icmp .ne o) := ⟨7, vm_db b_Tape_isBlank_0 (i := 8) rfl, rfl, by decide⟩
theorem d_Tape_isBlank_22 : vm_D q_Tape_isBlank.2.1 22 1 23 (.iconst 0) := vm_dD b_Tape_isBlank_0 11 rfl rfl
def q_Reader_skipBlanks : vm_Y := ("RepeatFree$Reader", cX4_skipBlanks, 1, false, [])
def t_Reader_skipBlanks_0 : List (Nat × Instr × Nat) := [(0, .aload_n 0, 1), (1, .getfield 18, 3), (4, .aload_n 0, 1), (5, .getfield 12, 3), (8, .getfield 58, 3), (11, .if_icmp .ge 33, 3), (14, .aload_n 0, 1), (15, .getfield 12, 3), (18, .aload_n 0, 1), (19, .getfield 18, 3), (22, .invokevirtual 68, 3), (25, .invokestatic 82, 3), (28, .ifCond .eq 16, 3), (31, .aload_n 0, 1), (32, .dup, 1), (33, .getfield 18, 3), (36, .iconst 1, 1), (37, .iadd, 1), (38, .putfield 18, 3), (41, .goto (-41), 3), (44, .return_, 1)]
theorem b_Reader_skipBlanks_0 : (t_Reader_skipBlanks_0.all fun q => decide (decode q_Reader_skipBlanks.2.1 q.1 = .ok (q.2.1, q.2.2))) = true := by decide +kernel
theorem d_Reader_skipBlanks_0 : vm_D q_Reader_skipBlanks.2.1 0 1 1 (.aload_n 0) := vm_dD b_Reader_skipBlanks_0 0 rfl rfl
theorem d_Reader_skipBlanks_1 : vm_D q_Reader_skipBlanks.2.1 1 3 4 (.getfield 18) := vm_dD b_Reader_skipBlanks_0 1 rfl rfl
theorem d_Reader_skipBlanks_4 : vm_D q_Reader_skipBlanks.2.1 4 1 5 (.aload_n 0) := vm_dD b_Reader_skipBlanks_0 2 rfl rfl
theorem d_Reader_skipBlanks_5 : vm_D q_Reader_skipBlanks.2.1 5 3 8 (.getfield 12) := vm_dD b_Reader_skipBlanks_0 3 rfl rfl
theorem d_Reader_skipBlanks_8 : vm_D q_Reader_skipBlanks.2.1 8 3 11 (.getfield 58) := vm_dD b_Reader_skipBlanks_0 4 rfl rfl
theorem d_Reader_skipBlanks_11 : vm_B q_Reader_skipBlanks.2.1 11 14 44 (fun o => .if_icmp .ge o) := ⟨33, vm_db b_Reader_skipBlanks_0 (i := 5) rfl, rfl, by decide⟩
theorem d_Reader_skipBlanks_14 : vm_D q_Reader_skipBlanks.2.1 14 1 15 (.aload_n 0) := vm_dD b_Reader_skipBlanks_0 6 rfl rfl
theorem d_Reader_skipBlanks_15 : vm_D q_Reader_skipBlanks.2.1 15 3 18 (.getfield 12) := vm_dD b_Reader_skipBlanks_0 7 rfl rfl
theorem d_Reader_skipBlanks_18 : vm_D q_Reader_skipBlanks.2.1 18 1 19 (.aload_n 0) := vm_dD b_Reader_skipBlanks_0 8 rfl rfl
theorem d_Reader_skipBlanks_19 : vm_D q_Reader_skipBlanks.2.1 19 3 22 (.getfield 18) := vm_dD b_Reader_skipBlanks_0 9 rfl rfl
theorem d_Reader_skipBlanks_22 : vm_D q_Reader_skipBlanks.2.1 22 3 25 (.invokevirtual 68) := vm_dD b_Reader_skipBlanks_0 10 rfl rfl
theorem d_Reader_skipBlanks_25 : vm_D q_Reader_skipBlanks.2.1 25 3 28 (.invokestatic 82) := vm_dD b_Reader_skipBlanks_0 11 rfl rfl
theorem d_Reader_skipBlanks_28 : vm_B q_Reader_skipBlanks.2.1 28 31 44 (fun o => .ifCond .eq o) := ⟨16, vm_db b_Reader_skipBlanks_0 (i := 12) rfl, rfl, by decide⟩
theorem d_Reader_skipBlanks_31 : vm_D q_Reader_skipBlanks.2.1 31 1 32 (.aload_n 0) := vm_dD b_Reader_skipBlanks_0 13 rfl rfl
theorem d_Reader_skipBlanks_32 : vm_D q_Reader_skipBlanks.2.1 32 1 33 (.dup) := vm_dD b_Reader_skipBlanks_0 14 rfl rfl
theorem d_Reader_skipBlanks_33 : vm_D q_Reader_skipBlanks.2.1 33 3 36 (.getfield 18) := vm_dD b_Reader_skipBlanks_0 15 rfl rfl
theorem d_Reader_skipBlanks_36 : vm_D q_Reader_skipBlanks.2.1 36 1 37 (.iconst 1) := vm_dD b_Reader_skipBlanks_0 16 rfl rfl
theorem d_Reader_skipBlanks_37 : vm_D q_Reader_skipBlanks.2.1 37 1 38 (.iadd) := vm_dD b_Reader_skipBlanks_0 17 rfl rfl
theorem d_Reader_skipBlanks_38 : vm_D q_Reader_skipBlanks.2.1 38 3 41 (.putfield 18) := vm_dD b_Reader_skipBlanks_0 18 rfl rfl
theorem d_Reader_skipBlanks_41 : ∃ off : Int, decode q_Reader_skipBlanks.2.1 41 = .ok (.goto off, 3) ∧ ((41 : Nat) : Int) + off = ((0 : Nat) : Int) := ⟨-41, vm_db b_Reader_skipBlanks_0 (i := 19) rfl, by decide⟩
theorem d_Reader_skipBlanks_44 : vm_D q_Reader_skipBlanks.2.1 44 1 45 (.return_) := vm_dD b_Reader_skipBlanks_0 20 rfl rfl
def q_Reader_isWord : vm_Y := ("RepeatFree$Reader", cX4_isWord, 3, false, [])
def t_Reader_isWord_0 : List (Nat × Instr × Nat) := [(0, .aload_n 1, 1), (1, .invokevirtual 85, 3), (4, .aload_n 0, 1), (5, .getfield 18, 3), (8, .aload_n 0, 1), (9, .getfield 25, 3), (12, .isub, 1), (13, .if_icmp .eq 5, 3), (16, .iconst 0, 1), (17, .ireturn, 1), (18, .iconst 0, 1), (19, .istore_n 2, 1), (20, .iload_n 2, 1), (21, .aload_n 1, 1), (22, .invokevirtual 85, 3), (25, .if_icmp .ge 32, 3), (28, .aload_n 1, 1), (29, .iload_n 2, 1), (30, .invokevirtual 91, 3), (33, .aload_n 0, 1), (34, .getfield 12, 3), (37, .aload_n 0, 1), (38, .getfield 25, 3), (41, .iload_n 2, 1), (42, .iadd, 1), (43, .invokevirtual 68, 3), (46, .if_icmp .eq 5, 3), (49, .iconst 0, 1), (50, .ireturn, 1), (51, .iinc 2 1, 3), (54, .goto (-34), 3), (57, .iconst 1, 1), (58, .ireturn, 1)]
theorem b_Reader_isWord_0 : (t_Reader_isWord_0.all fun q => decide (decode q_Reader_isWord.2.1 q.1 = .ok (q.2.1, q.2.2))) = true := by decide +kernel
theorem d_Reader_isWord_0 : vm_D q_Reader_isWord.2.1 0 1 1 (.aload_n 1) := vm_dD b_Reader_isWord_0 0 rfl rfl
theorem d_Reader_isWord_1 : vm_D q_Reader_isWord.2.1 1 3 4 (.invokevirtual 85) := vm_dD b_Reader_isWord_0 1 rfl rfl
theorem d_Reader_isWord_4 : vm_D q_Reader_isWord.2.1 4 1 5 (.aload_n 0) := vm_dD b_Reader_isWord_0 2 rfl rfl
theorem d_Reader_isWord_5 : vm_D q_Reader_isWord.2.1 5 3 8 (.getfield 18) := vm_dD b_Reader_isWord_0 3 rfl rfl
theorem d_Reader_isWord_8 : vm_D q_Reader_isWord.2.1 8 1 9 (.aload_n 0) := vm_dD b_Reader_isWord_0 4 rfl rfl
theorem d_Reader_isWord_9 : vm_D q_Reader_isWord.2.1 9 3 12 (.getfield 25) := vm_dD b_Reader_isWord_0 5 rfl rfl
theorem d_Reader_isWord_12 : vm_D q_Reader_isWord.2.1 12 1 13 (.isub) := vm_dD b_Reader_isWord_0 6 rfl rfl
theorem d_Reader_isWord_13 : vm_B q_Reader_isWord.2.1 13 16 18 (fun o => .if_icmp .eq o) := ⟨5, vm_db b_Reader_isWord_0 (i := 7) rfl, rfl, by decide⟩
theorem d_Reader_isWord_18 : vm_D q_Reader_isWord.2.1 18 1 19 (.iconst 0) := vm_dD b_Reader_isWord_0 10 rfl rfl
theorem d_Reader_isWord_19 : vm_D q_Reader_isWord.2.1 19 1 20 (.istore_n 2) := vm_dD b_Reader_isWord_0 11 rfl rfl
theorem d_Reader_isWord_20 : vm_D q_Reader_isWord.2.1 20 1 21 (.iload_n 2) := vm_dD b_Reader_isWord_0 12 rfl rfl
theorem d_Reader_isWord_21 : vm_D q_Reader_isWord.2.1 21 1 22 (.aload_n 1) := vm_dD b_Reader_isWord_0 13 rfl rfl
theorem d_Reader_isWord_22 : vm_D q_Reader_isWord.2.1 22 3 25 (.invokevirtual 85) := vm_dD b_Reader_isWord_0 14 rfl rfl
theorem d_Reader_isWord_25 : vm_B q_Reader_isWord.2.1 25 28 57 (fun o => .if_icmp .ge o) := ⟨32, vm_db b_Reader_isWord_0 (i := 15) rfl, rfl, by decide⟩
theorem d_Reader_isWord_28 : vm_D q_Reader_isWord.2.1 28 1 29 (.aload_n 1) := vm_dD b_Reader_isWord_0 16 rfl rfl
theorem d_Reader_isWord_29 : vm_D q_Reader_isWord.2.1 29 1 30 (.iload_n 2) := vm_dD b_Reader_isWord_0 17 rfl rfl
theorem d_Reader_isWord_30 : vm_D q_Reader_isWord.2.1 30 3 33 (.invokevirtual 91) := vm_dD b_Reader_isWord_0 18 rfl rfl
theorem d_Reader_isWord_33 : vm_D q_Reader_isWord.2.1 33 1 34 (.aload_n 0) := vm_dD b_Reader_isWord_0 19 rfl rfl
theorem d_Reader_isWord_34 : vm_D q_Reader_isWord.2.1 34 3 37 (.getfield 12) := vm_dD b_Reader_isWord_0 20 rfl rfl
theorem d_Reader_isWord_37 : vm_D q_Reader_isWord.2.1 37 1 38 (.aload_n 0) := vm_dD b_Reader_isWord_0 21 rfl rfl
theorem d_Reader_isWord_38 : vm_D q_Reader_isWord.2.1 38 3 41 (.getfield 25) := vm_dD b_Reader_isWord_0 22 rfl rfl
theorem d_Reader_isWord_41 : vm_D q_Reader_isWord.2.1 41 1 42 (.iload_n 2) := vm_dD b_Reader_isWord_0 23 rfl rfl
theorem d_Reader_isWord_42 : vm_D q_Reader_isWord.2.1 42 1 43 (.iadd) := vm_dD b_Reader_isWord_0 24 rfl rfl
theorem d_Reader_isWord_43 : vm_D q_Reader_isWord.2.1 43 3 46 (.invokevirtual 68) := vm_dD b_Reader_isWord_0 25 rfl rfl
theorem d_Reader_isWord_46 : vm_B q_Reader_isWord.2.1 46 49 51 (fun o => .if_icmp .eq o) := ⟨5, vm_db b_Reader_isWord_0 (i := 26) rfl, rfl, by decide⟩
theorem d_Reader_isWord_51 : vm_D q_Reader_isWord.2.1 51 3 54 (.iinc 2 1) := vm_dD b_Reader_isWord_0 29 rfl rfl
theorem d_Reader_isWord_54 : ∃ off : Int, decode q_Reader_isWord.2.1 54 = .ok (.goto off, 3) ∧ ((54 : Nat) : Int) + off = ((20 : Nat) : Int) := ⟨-34, vm_db b_Reader_isWord_0 (i := 30) rfl, by decide⟩
theorem d_Reader_isWord_49 : vm_D q_Reader_isWord.2.1 49 1 50 (.iconst 0) := vm_dD b_Reader_isWord_0 27 rfl rfl
theorem d_Reader_isWord_50 : vm_D q_Reader_isWord.2.1 50 1 51 (.ireturn) := vm_dD b_Reader_isWord_0 28 rfl rfl
theorem d_Reader_isWord_57 : vm_D q_Reader_isWord.2.1 57 1 58 (.iconst 1) := vm_dD b_Reader_isWord_0 31 rfl rfl
theorem d_Reader_isWord_58 : vm_D q_Reader_isWord.2.1 58 1 59 (.ireturn) := vm_dD b_Reader_isWord_0 32 rfl rfl
theorem d_Reader_isWord_16 : vm_D q_Reader_isWord.2.1 16 1 17 (.iconst 0) := vm_dD b_Reader_isWord_0 8 rfl rfl
theorem d_Reader_isWord_17 : vm_D q_Reader_isWord.2.1 17 1 18 (.ireturn) := vm_dD b_Reader_isWord_0 9 rfl rfl
def q_Reader_miss : vm_Y := ("RepeatFree$Reader", cX4_miss, 2, false, [])
def t_Reader_miss_0 : List (Nat × Instr × Nat) := [(0, .aload_n 0, 1), (1, .iload_n 1, 1), (2, .putfield 22, 3), (5, .iconst 0, 1), (6, .ireturn, 1)]
theorem b_Reader_miss_0 : (t_Reader_miss_0.all fun q => decide (decode q_Reader_miss.2.1 q.1 = .ok (q.2.1, q.2.2))) = true := by decide +kernel
theorem d_Reader_miss_0 : vm_D q_Reader_miss.2.1 0 1 1 (.aload_n 0) := vm_dD b_Reader_miss_0 0 rfl rfl
theorem d_Reader_miss_1 : vm_D q_Reader_miss.2.1 1 1 2 (.iload_n 1) := vm_dD b_Reader_miss_0 1 rfl rfl
theorem d_Reader_miss_2 : vm_D q_Reader_miss.2.1 2 3 5 (.putfield 22) := vm_dD b_Reader_miss_0 2 rfl rfl
theorem d_Reader_miss_5 : vm_D q_Reader_miss.2.1 5 1 6 (.iconst 0) := vm_dD b_Reader_miss_0 3 rfl rfl
theorem d_Reader_miss_6 : vm_D q_Reader_miss.2.1 6 1 7 (.ireturn) := vm_dD b_Reader_miss_0 4 rfl rfl
def q_Tape_isSmall : vm_Y := ("RepeatFree$Tape", cX8_isSmall, 1, false, [])
def t_Tape_isSmall_0 : List (Nat × Instr × Nat) := [(0, .iload_n 0, 1), (1, .bipush 97, 2), (3, .if_icmp .lt 13, 3), (6, .iload_n 0, 1), (7, .bipush 122, 2), (9, .if_icmp .gt 7, 3), (12, .iconst 1, 1), (13, .goto 4, 3), (16, .iconst 0, 1), (17, .ireturn, 1)]
theorem b_Tape_isSmall_0 : (t_Tape_isSmall_0.all fun q => decide (decode q_Tape_isSmall.2.1 q.1 = .ok (q.2.1, q.2.2))) = true := by decide +kernel
theorem d_Tape_isSmall_0 : vm_D q_Tape_isSmall.2.1 0 1 1 (.iload_n 0) := vm_dD b_Tape_isSmall_0 0 rfl rfl
theorem d_Tape_isSmall_1 : vm_D q_Tape_isSmall.2.1 1 2 3 (.bipush 97) := vm_dD b_Tape_isSmall_0 1 rfl rfl
theorem d_Tape_isSmall_3 : vm_B q_Tape_isSmall.2.1 3 6 16 (fun o => .if_icmp .lt o) := ⟨13, vm_db b_Tape_isSmall_0 (i := 2) rfl, rfl, by decide⟩
theorem d_Tape_isSmall_16 : vm_D q_Tape_isSmall.2.1 16 1 17 (.iconst 0) := vm_dD b_Tape_isSmall_0 8 rfl rfl
theorem d_Tape_isSmall_17 : vm_D q_Tape_isSmall.2.1 17 1 18 (.ireturn) := vm_dD b_Tape_isSmall_0 9 rfl rfl
theorem d_Tape_isSmall_6 : vm_D q_Tape_isSmall.2.1 6 1 7 (.iload_n 0) := vm_dD b_Tape_isSmall_0 3 rfl rfl
theorem d_Tape_isSmall_7 : vm_D q_Tape_isSmall.2.1 7 2 9 (.bipush 122) := vm_dD b_Tape_isSmall_0 4 rfl rfl
theorem d_Tape_isSmall_9 : vm_B q_Tape_isSmall.2.1 9 12 16 (fun o => .if_icmp .gt o) := ⟨7, vm_db b_Tape_isSmall_0 (i := 5) rfl, rfl, by decide⟩
theorem d_Tape_isSmall_12 : vm_D q_Tape_isSmall.2.1 12 1 13 (.iconst 1) := vm_dD b_Tape_isSmall_0 6 rfl rfl
theorem d_Tape_isSmall_13 : ∃ off : Int, decode q_Tape_isSmall.2.1 13 = .ok (.goto off, 3) ∧ ((13 : Nat) : Int) + off = ((17 : Nat) : Int) := ⟨4, vm_db b_Tape_isSmall_0 (i := 7) rfl, by decide⟩
def q_Reader_takesWord : vm_Y := ("RepeatFree$Reader", cX4_takesWord, 1, false, [])
def t_Reader_takesWord_0 : List (Nat × Instr × Nat) := [(0, .aload_n 0, 1), (1, .invokevirtual 55, 3), (4, .aload_n 0, 1), (5, .aload_n 0, 1), (6, .getfield 18, 3), (9, .putfield 25, 3), (12, .aload_n 0, 1), (13, .getfield 18, 3), (16, .aload_n 0, 1), (17, .getfield 12, 3), (20, .getfield 58, 3), (23, .if_icmp .ge 33, 3), (26, .aload_n 0, 1), (27, .getfield 12, 3), (30, .aload_n 0, 1), (31, .getfield 18, 3), (34, .invokevirtual 68, 3), (37, .invokestatic 71, 3), (40, .ifCond .eq 16, 3), (43, .aload_n 0, 1), (44, .dup, 1), (45, .getfield 18, 3), (48, .iconst 1, 1), (49, .iadd, 1), (50, .putfield 18, 3), (53, .goto (-41), 3), (56, .aload_n 0, 1), (57, .getfield 18, 3), (60, .aload_n 0, 1), (61, .getfield 25, 3), (64, .if_icmp .gt 14, 3), (67, .aload_n 0, 1), (68, .aload_n 0, 1), (69, .getfield 25, 3), (72, .invokevirtual 75, 3), (75, .ifCond .eq 7, 3), (78, .iconst 1, 1), (79, .goto 4, 3), (82, .iconst 0, 1), (83, .ireturn, 1)]
theorem b_Reader_takesWord_0 : (t_Reader_takesWord_0.all fun q => decide (decode q_Reader_takesWord.2.1 q.1 = .ok (q.2.1, q.2.2))) = true := by decide +kernel
theorem d_Reader_takesWord_0 : vm_D q_Reader_takesWord.2.1 0 1 1 (.aload_n 0) := vm_dD b_Reader_takesWord_0 0 rfl rfl
theorem d_Reader_takesWord_1 : vm_D q_Reader_takesWord.2.1 1 3 4 (.invokevirtual 55) := vm_dD b_Reader_takesWord_0 1 rfl rfl
theorem d_Reader_takesWord_4 : vm_D q_Reader_takesWord.2.1 4 1 5 (.aload_n 0) := vm_dD b_Reader_takesWord_0 2 rfl rfl
theorem d_Reader_takesWord_5 : vm_D q_Reader_takesWord.2.1 5 1 6 (.aload_n 0) := vm_dD b_Reader_takesWord_0 3 rfl rfl
theorem d_Reader_takesWord_6 : vm_D q_Reader_takesWord.2.1 6 3 9 (.getfield 18) := vm_dD b_Reader_takesWord_0 4 rfl rfl
theorem d_Reader_takesWord_9 : vm_D q_Reader_takesWord.2.1 9 3 12 (.putfield 25) := vm_dD b_Reader_takesWord_0 5 rfl rfl
theorem d_Reader_takesWord_12 : vm_D q_Reader_takesWord.2.1 12 1 13 (.aload_n 0) := vm_dD b_Reader_takesWord_0 6 rfl rfl
theorem d_Reader_takesWord_13 : vm_D q_Reader_takesWord.2.1 13 3 16 (.getfield 18) := vm_dD b_Reader_takesWord_0 7 rfl rfl
theorem d_Reader_takesWord_16 : vm_D q_Reader_takesWord.2.1 16 1 17 (.aload_n 0) := vm_dD b_Reader_takesWord_0 8 rfl rfl
theorem d_Reader_takesWord_17 : vm_D q_Reader_takesWord.2.1 17 3 20 (.getfield 12) := vm_dD b_Reader_takesWord_0 9 rfl rfl
theorem d_Reader_takesWord_20 : vm_D q_Reader_takesWord.2.1 20 3 23 (.getfield 58) := vm_dD b_Reader_takesWord_0 10 rfl rfl
theorem d_Reader_takesWord_23 : vm_B q_Reader_takesWord.2.1 23 26 56 (fun o => .if_icmp .ge o) := ⟨33, vm_db b_Reader_takesWord_0 (i := 11) rfl, rfl, by decide⟩
theorem d_Reader_takesWord_26 : vm_D q_Reader_takesWord.2.1 26 1 27 (.aload_n 0) := vm_dD b_Reader_takesWord_0 12 rfl rfl
theorem d_Reader_takesWord_27 : vm_D q_Reader_takesWord.2.1 27 3 30 (.getfield 12) := vm_dD b_Reader_takesWord_0 13 rfl rfl
theorem d_Reader_takesWord_30 : vm_D q_Reader_takesWord.2.1 30 1 31 (.aload_n 0) := vm_dD b_Reader_takesWord_0 14 rfl rfl
theorem d_Reader_takesWord_31 : vm_D q_Reader_takesWord.2.1 31 3 34 (.getfield 18) := vm_dD b_Reader_takesWord_0 15 rfl rfl
theorem d_Reader_takesWord_34 : vm_D q_Reader_takesWord.2.1 34 3 37 (.invokevirtual 68) := vm_dD b_Reader_takesWord_0 16 rfl rfl
theorem d_Reader_takesWord_37 : vm_D q_Reader_takesWord.2.1 37 3 40 (.invokestatic 71) := vm_dD b_Reader_takesWord_0 17 rfl rfl
theorem d_Reader_takesWord_40 : vm_B q_Reader_takesWord.2.1 40 43 56 (fun o => .ifCond .eq o) := ⟨16, vm_db b_Reader_takesWord_0 (i := 18) rfl, rfl, by decide⟩
theorem d_Reader_takesWord_43 : vm_D q_Reader_takesWord.2.1 43 1 44 (.aload_n 0) := vm_dD b_Reader_takesWord_0 19 rfl rfl
theorem d_Reader_takesWord_44 : vm_D q_Reader_takesWord.2.1 44 1 45 (.dup) := vm_dD b_Reader_takesWord_0 20 rfl rfl
theorem d_Reader_takesWord_45 : vm_D q_Reader_takesWord.2.1 45 3 48 (.getfield 18) := vm_dD b_Reader_takesWord_0 21 rfl rfl
theorem d_Reader_takesWord_48 : vm_D q_Reader_takesWord.2.1 48 1 49 (.iconst 1) := vm_dD b_Reader_takesWord_0 22 rfl rfl
theorem d_Reader_takesWord_49 : vm_D q_Reader_takesWord.2.1 49 1 50 (.iadd) := vm_dD b_Reader_takesWord_0 23 rfl rfl
theorem d_Reader_takesWord_50 : vm_D q_Reader_takesWord.2.1 50 3 53 (.putfield 18) := vm_dD b_Reader_takesWord_0 24 rfl rfl
theorem d_Reader_takesWord_53 : ∃ off : Int, decode q_Reader_takesWord.2.1 53 = .ok (.goto off, 3) ∧ ((53 : Nat) : Int) + off = ((12 : Nat) : Int) := ⟨-41, vm_db b_Reader_takesWord_0 (i := 25) rfl, by decide⟩
theorem d_Reader_takesWord_56 : vm_D q_Reader_takesWord.2.1 56 1 57 (.aload_n 0) := vm_dD b_Reader_takesWord_0 26 rfl rfl
theorem d_Reader_takesWord_57 : vm_D q_Reader_takesWord.2.1 57 3 60 (.getfield 18) := vm_dD b_Reader_takesWord_0 27 rfl rfl
theorem d_Reader_takesWord_60 : vm_D q_Reader_takesWord.2.1 60 1 61 (.aload_n 0) := vm_dD b_Reader_takesWord_0 28 rfl rfl
theorem d_Reader_takesWord_61 : vm_D q_Reader_takesWord.2.1 61 3 64 (.getfield 25) := vm_dD b_Reader_takesWord_0 29 rfl rfl
theorem d_Reader_takesWord_64 : vm_B q_Reader_takesWord.2.1 64 67 78 (fun o => .if_icmp .gt o) := ⟨14, vm_db b_Reader_takesWord_0 (i := 30) rfl, rfl, by decide⟩
theorem d_Reader_takesWord_78 : vm_D q_Reader_takesWord.2.1 78 1 79 (.iconst 1) := vm_dD b_Reader_takesWord_0 36 rfl rfl
theorem d_Reader_takesWord_79 : ∃ off : Int, decode q_Reader_takesWord.2.1 79 = .ok (.goto off, 3) ∧ ((79 : Nat) : Int) + off = ((83 : Nat) : Int) := ⟨4, vm_db b_Reader_takesWord_0 (i := 37) rfl, by decide⟩
theorem d_Reader_takesWord_83 : vm_D q_Reader_takesWord.2.1 83 1 84 (.ireturn) := vm_dD b_Reader_takesWord_0 39 rfl rfl
theorem d_Reader_takesWord_67 : vm_D q_Reader_takesWord.2.1 67 1 68 (.aload_n 0) := vm_dD b_Reader_takesWord_0 31 rfl rfl
theorem d_Reader_takesWord_68 : vm_D q_Reader_takesWord.2.1 68 1 69 (.aload_n 0) := vm_dD b_Reader_takesWord_0 32 rfl rfl
theorem d_Reader_takesWord_69 : vm_D q_Reader_takesWord.2.1 69 3 72 (.getfield 25) := vm_dD b_Reader_takesWord_0 33 rfl rfl
theorem d_Reader_takesWord_72 : vm_D q_Reader_takesWord.2.1 72 3 75 (.invokevirtual 75) := vm_dD b_Reader_takesWord_0 34 rfl rfl
theorem d_Reader_takesWord_75 : vm_B q_Reader_takesWord.2.1 75 78 82 (fun o => .ifCond .eq o) := ⟨7, vm_db b_Reader_takesWord_0 (i := 35) rfl, rfl, by decide⟩
theorem d_Reader_takesWord_82 : vm_D q_Reader_takesWord.2.1 82 1 83 (.iconst 0) := vm_dD b_Reader_takesWord_0 38 rfl rfl
def q_Reader_takesKeyword : vm_Y := ("RepeatFree$Reader", cX4_takesKeyword, 2, false, [])
def t_Reader_takesKeyword_0 : List (Nat × Instr × Nat) := [(0, .aload_n 0, 1), (1, .invokevirtual 95, 3), (4, .ifCond .eq 26, 3), (7, .aload_n 0, 1), (8, .aload_n 1, 1), (9, .invokevirtual 99, 3), (12, .ifCond .ne 14, 3), (15, .aload_n 0, 1), (16, .aload_n 0, 1), (17, .getfield 25, 3), (20, .invokevirtual 75, 3), (23, .ifCond .eq 7, 3), (26, .iconst 1, 1), (27, .goto 4, 3), (30, .iconst 0, 1), (31, .ireturn, 1)]
theorem b_Reader_takesKeyword_0 : (t_Reader_takesKeyword_0.all fun q => decide (decode q_Reader_takesKeyword.2.1 q.1 = .ok (q.2.1, q.2.2))) = true := by decide +kernel
theorem d_Reader_takesKeyword_0 : vm_D q_Reader_takesKeyword.2.1 0 1 1 (.aload_n 0) := vm_dD b_Reader_takesKeyword_0 0 rfl rfl
theorem d_Reader_takesKeyword_1 : vm_D q_Reader_takesKeyword.2.1 1 3 4 (.invokevirtual 95) := vm_dD b_Reader_takesKeyword_0 1 rfl rfl
theorem d_Reader_takesKeyword_4 : vm_B q_Reader_takesKeyword.2.1 4 7 30 (fun o => .ifCond .eq o) := ⟨26, vm_db b_Reader_takesKeyword_0 (i := 2) rfl, rfl, by decide⟩
theorem d_Reader_takesKeyword_30 : vm_D q_Reader_takesKeyword.2.1 30 1 31 (.iconst 0) := vm_dD b_Reader_takesKeyword_0 14 rfl rfl
theorem d_Reader_takesKeyword_31 : vm_D q_Reader_takesKeyword.2.1 31 1 32 (.ireturn) := vm_dD b_Reader_takesKeyword_0 15 rfl rfl
theorem d_Reader_takesKeyword_7 : vm_D q_Reader_takesKeyword.2.1 7 1 8 (.aload_n 0) := vm_dD b_Reader_takesKeyword_0 3 rfl rfl
theorem d_Reader_takesKeyword_8 : vm_D q_Reader_takesKeyword.2.1 8 1 9 (.aload_n 1) := vm_dD b_Reader_takesKeyword_0 4 rfl rfl
theorem d_Reader_takesKeyword_9 : vm_D q_Reader_takesKeyword.2.1 9 3 12 (.invokevirtual 99) := vm_dD b_Reader_takesKeyword_0 5 rfl rfl
theorem d_Reader_takesKeyword_12 : vm_B q_Reader_takesKeyword.2.1 12 15 26 (fun o => .ifCond .ne o) := ⟨14, vm_db b_Reader_takesKeyword_0 (i := 6) rfl, rfl, by decide⟩
theorem d_Reader_takesKeyword_26 : vm_D q_Reader_takesKeyword.2.1 26 1 27 (.iconst 1) := vm_dD b_Reader_takesKeyword_0 12 rfl rfl
theorem d_Reader_takesKeyword_27 : ∃ off : Int, decode q_Reader_takesKeyword.2.1 27 = .ok (.goto off, 3) ∧ ((27 : Nat) : Int) + off = ((31 : Nat) : Int) := ⟨4, vm_db b_Reader_takesKeyword_0 (i := 13) rfl, by decide⟩
theorem d_Reader_takesKeyword_15 : vm_D q_Reader_takesKeyword.2.1 15 1 16 (.aload_n 0) := vm_dD b_Reader_takesKeyword_0 7 rfl rfl
theorem d_Reader_takesKeyword_16 : vm_D q_Reader_takesKeyword.2.1 16 1 17 (.aload_n 0) := vm_dD b_Reader_takesKeyword_0 8 rfl rfl
theorem d_Reader_takesKeyword_17 : vm_D q_Reader_takesKeyword.2.1 17 3 20 (.getfield 25) := vm_dD b_Reader_takesKeyword_0 9 rfl rfl
theorem d_Reader_takesKeyword_20 : vm_D q_Reader_takesKeyword.2.1 20 3 23 (.invokevirtual 75) := vm_dD b_Reader_takesKeyword_0 10 rfl rfl
theorem d_Reader_takesKeyword_23 : vm_B q_Reader_takesKeyword.2.1 23 26 30 (fun o => .ifCond .eq o) := ⟨7, vm_db b_Reader_takesKeyword_0 (i := 11) rfl, rfl, by decide⟩
def q_Name_isAt : vm_Y := ("RepeatFree$Name", cX3_isAt, 5, false, [])
def t_Name_isAt_0 : List (Nat × Instr × Nat) := [(0, .iload_n 3, 1), (1, .iload_n 2, 1), (2, .isub, 1), (3, .aload_n 0, 1), (4, .getfield 15, 3), (7, .if_icmp .eq 5, 3), (10, .iconst 0, 1), (11, .ireturn, 1), (12, .iconst 0, 1), (13, .istore 4, 2), (15, .iload 4, 2), (17, .aload_n 0, 1), (18, .getfield 15, 3), (21, .if_icmp .ge 39, 3), (24, .iload 4, 2), (26, .aload_n 0, 1), (27, .getfield 9, 3), (30, .arraylength, 1), (31, .if_icmp .ge 29, 3), (34, .aload_n 0, 1), (35, .getfield 9, 3), (38, .iload 4, 2), (40, .iaload, 1), (41, .aload_n 1, 1), (42, .iload_n 2, 1), (43, .iload 4, 2), (45, .iadd, 1), (46, .invokevirtual 19, 3), (49, .if_icmp .eq 5, 3), (52, .iconst 0, 1), (53, .ireturn, 1), (54, .iinc 4 1, 3), (57, .goto (-42), 3), (60, .iconst 1, 1), (61, .ireturn, 1)]
theorem b_Name_isAt_0 : (t_Name_isAt_0.all fun q => decide (decode q_Name_isAt.2.1 q.1 = .ok (q.2.1, q.2.2))) = true := by decide +kernel
theorem d_Name_isAt_0 : vm_D q_Name_isAt.2.1 0 1 1 (.iload_n 3) := vm_dD b_Name_isAt_0 0 rfl rfl
theorem d_Name_isAt_1 : vm_D q_Name_isAt.2.1 1 1 2 (.iload_n 2) := vm_dD b_Name_isAt_0 1 rfl rfl
theorem d_Name_isAt_2 : vm_D q_Name_isAt.2.1 2 1 3 (.isub) := vm_dD b_Name_isAt_0 2 rfl rfl
theorem d_Name_isAt_3 : vm_D q_Name_isAt.2.1 3 1 4 (.aload_n 0) := vm_dD b_Name_isAt_0 3 rfl rfl
theorem d_Name_isAt_4 : vm_D q_Name_isAt.2.1 4 3 7 (.getfield 15) := vm_dD b_Name_isAt_0 4 rfl rfl
theorem d_Name_isAt_7 : vm_B q_Name_isAt.2.1 7 10 12 (fun o => .if_icmp .eq o) := ⟨5, vm_db b_Name_isAt_0 (i := 5) rfl, rfl, by decide⟩
theorem d_Name_isAt_12 : vm_D q_Name_isAt.2.1 12 1 13 (.iconst 0) := vm_dD b_Name_isAt_0 8 rfl rfl
theorem d_Name_isAt_13 : vm_D q_Name_isAt.2.1 13 2 15 (.istore 4) := vm_dD b_Name_isAt_0 9 rfl rfl
theorem d_Name_isAt_15 : vm_D q_Name_isAt.2.1 15 2 17 (.iload 4) := vm_dD b_Name_isAt_0 10 rfl rfl
theorem d_Name_isAt_17 : vm_D q_Name_isAt.2.1 17 1 18 (.aload_n 0) := vm_dD b_Name_isAt_0 11 rfl rfl
theorem d_Name_isAt_18 : vm_D q_Name_isAt.2.1 18 3 21 (.getfield 15) := vm_dD b_Name_isAt_0 12 rfl rfl
theorem d_Name_isAt_21 : vm_B q_Name_isAt.2.1 21 24 60 (fun o => .if_icmp .ge o) := ⟨39, vm_db b_Name_isAt_0 (i := 13) rfl, rfl, by decide⟩
theorem d_Name_isAt_24 : vm_D q_Name_isAt.2.1 24 2 26 (.iload 4) := vm_dD b_Name_isAt_0 14 rfl rfl
theorem d_Name_isAt_26 : vm_D q_Name_isAt.2.1 26 1 27 (.aload_n 0) := vm_dD b_Name_isAt_0 15 rfl rfl
theorem d_Name_isAt_27 : vm_D q_Name_isAt.2.1 27 3 30 (.getfield 9) := vm_dD b_Name_isAt_0 16 rfl rfl
theorem d_Name_isAt_30 : vm_D q_Name_isAt.2.1 30 1 31 (.arraylength) := vm_dD b_Name_isAt_0 17 rfl rfl
theorem d_Name_isAt_31 : vm_B q_Name_isAt.2.1 31 34 60 (fun o => .if_icmp .ge o) := ⟨29, vm_db b_Name_isAt_0 (i := 18) rfl, rfl, by decide⟩
theorem d_Name_isAt_34 : vm_D q_Name_isAt.2.1 34 1 35 (.aload_n 0) := vm_dD b_Name_isAt_0 19 rfl rfl
theorem d_Name_isAt_35 : vm_D q_Name_isAt.2.1 35 3 38 (.getfield 9) := vm_dD b_Name_isAt_0 20 rfl rfl
theorem d_Name_isAt_38 : vm_D q_Name_isAt.2.1 38 2 40 (.iload 4) := vm_dD b_Name_isAt_0 21 rfl rfl
theorem d_Name_isAt_40 : vm_D q_Name_isAt.2.1 40 1 41 (.iaload) := vm_dD b_Name_isAt_0 22 rfl rfl
theorem d_Name_isAt_41 : vm_D q_Name_isAt.2.1 41 1 42 (.aload_n 1) := vm_dD b_Name_isAt_0 23 rfl rfl
theorem d_Name_isAt_42 : vm_D q_Name_isAt.2.1 42 1 43 (.iload_n 2) := vm_dD b_Name_isAt_0 24 rfl rfl
theorem d_Name_isAt_43 : vm_D q_Name_isAt.2.1 43 2 45 (.iload 4) := vm_dD b_Name_isAt_0 25 rfl rfl
theorem d_Name_isAt_45 : vm_D q_Name_isAt.2.1 45 1 46 (.iadd) := vm_dD b_Name_isAt_0 26 rfl rfl
theorem d_Name_isAt_46 : vm_D q_Name_isAt.2.1 46 3 49 (.invokevirtual 19) := vm_dD b_Name_isAt_0 27 rfl rfl
theorem d_Name_isAt_49 : vm_B q_Name_isAt.2.1 49 52 54 (fun o => .if_icmp .eq o) := ⟨5, vm_db b_Name_isAt_0 (i := 28) rfl, rfl, by decide⟩
theorem d_Name_isAt_54 : vm_D q_Name_isAt.2.1 54 3 57 (.iinc 4 1) := vm_dD b_Name_isAt_0 31 rfl rfl
theorem d_Name_isAt_57 : ∃ off : Int, decode q_Name_isAt.2.1 57 = .ok (.goto off, 3) ∧ ((57 : Nat) : Int) + off = ((15 : Nat) : Int) := ⟨-42, vm_db b_Name_isAt_0 (i := 32) rfl, by decide⟩
theorem d_Name_isAt_52 : vm_D q_Name_isAt.2.1 52 1 53 (.iconst 0) := vm_dD b_Name_isAt_0 29 rfl rfl
theorem d_Name_isAt_53 : vm_D q_Name_isAt.2.1 53 1 54 (.ireturn) := vm_dD b_Name_isAt_0 30 rfl rfl
theorem d_Name_isAt_60 : vm_D q_Name_isAt.2.1 60 1 61 (.iconst 1) := vm_dD b_Name_isAt_0 33 rfl rfl
theorem d_Name_isAt_61 : vm_D q_Name_isAt.2.1 61 1 62 (.ireturn) := vm_dD b_Name_isAt_0 34 rfl rfl
theorem d_Name_isAt_10 : vm_D q_Name_isAt.2.1 10 1 11 (.iconst 0) := vm_dD b_Name_isAt_0 6 rfl rfl
theorem d_Name_isAt_11 : vm_D q_Name_isAt.2.1 11 1 12 (.ireturn) := vm_dD b_Name_isAt_0 7 rfl rfl
def q_Told_shapeAt : vm_Y := ("RepeatFree$Told", cX9_shapeAt, 2, false, [])
def t_Told_shapeAt_0 : List (Nat × Instr × Nat) := [(0, .iload_n 1, 1), (1, .ifCond .lt 21, 3), (4, .iload_n 1, 1), (5, .aload_n 0, 1), (6, .getfield 19, 3), (9, .arraylength, 1), (10, .if_icmp .ge 12, 3), (13, .aload_n 0, 1), (14, .getfield 19, 3), (17, .iload_n 1, 1), (18, .aaload, 1), (19, .goto 4, 3), (22, .aconst_null, 1), (23, .areturn, 1)]
theorem b_Told_shapeAt_0 : (t_Told_shapeAt_0.all fun q => decide (decode q_Told_shapeAt.2.1 q.1 = .ok (q.2.1, q.2.2))) = true := by decide +kernel
theorem d_Told_shapeAt_0 : vm_D q_Told_shapeAt.2.1 0 1 1 (.iload_n 1) := vm_dD b_Told_shapeAt_0 0 rfl rfl
theorem d_Told_shapeAt_1 : vm_B q_Told_shapeAt.2.1 1 4 22 (fun o => .ifCond .lt o) := ⟨21, vm_db b_Told_shapeAt_0 (i := 1) rfl, rfl, by decide⟩
theorem d_Told_shapeAt_22 : vm_D q_Told_shapeAt.2.1 22 1 23 (.aconst_null) := vm_dD b_Told_shapeAt_0 12 rfl rfl
theorem d_Told_shapeAt_23 : vm_D q_Told_shapeAt.2.1 23 1 24 (.areturn) := vm_dD b_Told_shapeAt_0 13 rfl rfl
theorem d_Told_shapeAt_4 : vm_D q_Told_shapeAt.2.1 4 1 5 (.iload_n 1) := vm_dD b_Told_shapeAt_0 2 rfl rfl
theorem d_Told_shapeAt_5 : vm_D q_Told_shapeAt.2.1 5 1 6 (.aload_n 0) := vm_dD b_Told_shapeAt_0 3 rfl rfl
theorem d_Told_shapeAt_6 : vm_D q_Told_shapeAt.2.1 6 3 9 (.getfield 19) := vm_dD b_Told_shapeAt_0 4 rfl rfl
theorem d_Told_shapeAt_9 : vm_D q_Told_shapeAt.2.1 9 1 10 (.arraylength) := vm_dD b_Told_shapeAt_0 5 rfl rfl
theorem d_Told_shapeAt_10 : vm_B q_Told_shapeAt.2.1 10 13 22 (fun o => .if_icmp .ge o) := ⟨12, vm_db b_Told_shapeAt_0 (i := 6) rfl, rfl, by decide⟩
theorem d_Told_shapeAt_13 : vm_D q_Told_shapeAt.2.1 13 1 14 (.aload_n 0) := vm_dD b_Told_shapeAt_0 7 rfl rfl
theorem d_Told_shapeAt_14 : vm_D q_Told_shapeAt.2.1 14 3 17 (.getfield 19) := vm_dD b_Told_shapeAt_0 8 rfl rfl
theorem d_Told_shapeAt_17 : vm_D q_Told_shapeAt.2.1 17 1 18 (.iload_n 1) := vm_dD b_Told_shapeAt_0 9 rfl rfl
theorem d_Told_shapeAt_18 : vm_D q_Told_shapeAt.2.1 18 1 19 (.aaload) := vm_dD b_Told_shapeAt_0 10 rfl rfl
theorem d_Told_shapeAt_19 : ∃ off : Int, decode q_Told_shapeAt.2.1 19 = .ok (.goto off, 3) ∧ ((19 : Nat) : Int) + off = ((23 : Nat) : Int) := ⟨4, vm_db b_Told_shapeAt_0 (i := 11) rfl, by decide⟩
def q_Reader_takesAvoid : vm_Y := ("RepeatFree$Reader", cX4_takesAvoid, 4, false, [])
def t_Reader_takesAvoid_0 : List (Nat × Instr × Nat) := [(0, .aload_n 0, 1), (1, .invokevirtual 95, 3), (4, .ifCond .ne 5, 3), (7, .iconst 0, 1), (8, .ireturn, 1), (9, .iconst 0, 1), (10, .istore_n 2, 1), (11, .iload_n 2, 1), (12, .aload_n 1, 1), (13, .getfield 175, 3), (16, .if_icmp .ge 55, 3), (19, .aload_n 1, 1), (20, .iload_n 2, 1), (21, .invokevirtual 178, 3), (24, .astore_n 3, 1), (25, .aload_n 3, 1), (26, .ifnull 39, 3), (29, .aload_n 3, 1), (30, .getfield 186, 3), (33, .ifCond .ne 32, 3), (36, .aload_n 3, 1), (37, .getfield 182, 3), (40, .aload_n 0, 1), (41, .getfield 12, 3), (44, .aload_n 0, 1), (45, .getfield 25, 3), (48, .aload_n 0, 1), (49, .getfield 18, 3), (52, .invokevirtual 190, 3), (55, .ifCond .eq 10, 3), (58, .aload_n 3, 1), (59, .iconst 1, 1), (60, .putfield 186, 3), (63, .iconst 1, 1), (64, .ireturn, 1), (65, .iinc 2 1, 3), (68, .goto (-57), 3), (71, .aload_n 0, 1), (72, .aload_n 0, 1), (73, .getfield 25, 3), (76, .invokevirtual 75, 3), (79, .ireturn, 1)]
theorem b_Reader_takesAvoid_0 : (t_Reader_takesAvoid_0.all fun q => decide (decode q_Reader_takesAvoid.2.1 q.1 = .ok (q.2.1, q.2.2))) = true := by decide +kernel
theorem d_Reader_takesAvoid_0 : vm_D q_Reader_takesAvoid.2.1 0 1 1 (.aload_n 0) := vm_dD b_Reader_takesAvoid_0 0 rfl rfl
theorem d_Reader_takesAvoid_1 : vm_D q_Reader_takesAvoid.2.1 1 3 4 (.invokevirtual 95) := vm_dD b_Reader_takesAvoid_0 1 rfl rfl
theorem d_Reader_takesAvoid_4 : vm_B q_Reader_takesAvoid.2.1 4 7 9 (fun o => .ifCond .ne o) := ⟨5, vm_db b_Reader_takesAvoid_0 (i := 2) rfl, rfl, by decide⟩
theorem d_Reader_takesAvoid_9 : vm_D q_Reader_takesAvoid.2.1 9 1 10 (.iconst 0) := vm_dD b_Reader_takesAvoid_0 5 rfl rfl
theorem d_Reader_takesAvoid_10 : vm_D q_Reader_takesAvoid.2.1 10 1 11 (.istore_n 2) := vm_dD b_Reader_takesAvoid_0 6 rfl rfl
theorem d_Reader_takesAvoid_11 : vm_D q_Reader_takesAvoid.2.1 11 1 12 (.iload_n 2) := vm_dD b_Reader_takesAvoid_0 7 rfl rfl
theorem d_Reader_takesAvoid_12 : vm_D q_Reader_takesAvoid.2.1 12 1 13 (.aload_n 1) := vm_dD b_Reader_takesAvoid_0 8 rfl rfl
theorem d_Reader_takesAvoid_13 : vm_D q_Reader_takesAvoid.2.1 13 3 16 (.getfield 175) := vm_dD b_Reader_takesAvoid_0 9 rfl rfl
theorem d_Reader_takesAvoid_16 : vm_B q_Reader_takesAvoid.2.1 16 19 71 (fun o => .if_icmp .ge o) := ⟨55, vm_db b_Reader_takesAvoid_0 (i := 10) rfl, rfl, by decide⟩
theorem d_Reader_takesAvoid_19 : vm_D q_Reader_takesAvoid.2.1 19 1 20 (.aload_n 1) := vm_dD b_Reader_takesAvoid_0 11 rfl rfl
theorem d_Reader_takesAvoid_20 : vm_D q_Reader_takesAvoid.2.1 20 1 21 (.iload_n 2) := vm_dD b_Reader_takesAvoid_0 12 rfl rfl
theorem d_Reader_takesAvoid_21 : vm_D q_Reader_takesAvoid.2.1 21 3 24 (.invokevirtual 178) := vm_dD b_Reader_takesAvoid_0 13 rfl rfl
theorem d_Reader_takesAvoid_24 : vm_D q_Reader_takesAvoid.2.1 24 1 25 (.astore_n 3) := vm_dD b_Reader_takesAvoid_0 14 rfl rfl
theorem d_Reader_takesAvoid_25 : vm_D q_Reader_takesAvoid.2.1 25 1 26 (.aload_n 3) := vm_dD b_Reader_takesAvoid_0 15 rfl rfl
theorem d_Reader_takesAvoid_26 : vm_B q_Reader_takesAvoid.2.1 26 29 65 (fun o => .ifnull o) := ⟨39, vm_db b_Reader_takesAvoid_0 (i := 16) rfl, rfl, by decide⟩
theorem d_Reader_takesAvoid_65 : vm_D q_Reader_takesAvoid.2.1 65 3 68 (.iinc 2 1) := vm_dD b_Reader_takesAvoid_0 35 rfl rfl
theorem d_Reader_takesAvoid_68 : ∃ off : Int, decode q_Reader_takesAvoid.2.1 68 = .ok (.goto off, 3) ∧ ((68 : Nat) : Int) + off = ((11 : Nat) : Int) := ⟨-57, vm_db b_Reader_takesAvoid_0 (i := 36) rfl, by decide⟩
theorem d_Reader_takesAvoid_29 : vm_D q_Reader_takesAvoid.2.1 29 1 30 (.aload_n 3) := vm_dD b_Reader_takesAvoid_0 17 rfl rfl
theorem d_Reader_takesAvoid_30 : vm_D q_Reader_takesAvoid.2.1 30 3 33 (.getfield 186) := vm_dD b_Reader_takesAvoid_0 18 rfl rfl
theorem d_Reader_takesAvoid_33 : vm_B q_Reader_takesAvoid.2.1 33 36 65 (fun o => .ifCond .ne o) := ⟨32, vm_db b_Reader_takesAvoid_0 (i := 19) rfl, rfl, by decide⟩
theorem d_Reader_takesAvoid_36 : vm_D q_Reader_takesAvoid.2.1 36 1 37 (.aload_n 3) := vm_dD b_Reader_takesAvoid_0 20 rfl rfl
theorem d_Reader_takesAvoid_37 : vm_D q_Reader_takesAvoid.2.1 37 3 40 (.getfield 182) := vm_dD b_Reader_takesAvoid_0 21 rfl rfl
theorem d_Reader_takesAvoid_40 : vm_D q_Reader_takesAvoid.2.1 40 1 41 (.aload_n 0) := vm_dD b_Reader_takesAvoid_0 22 rfl rfl
theorem d_Reader_takesAvoid_41 : vm_D q_Reader_takesAvoid.2.1 41 3 44 (.getfield 12) := vm_dD b_Reader_takesAvoid_0 23 rfl rfl
theorem d_Reader_takesAvoid_44 : vm_D q_Reader_takesAvoid.2.1 44 1 45 (.aload_n 0) := vm_dD b_Reader_takesAvoid_0 24 rfl rfl
theorem d_Reader_takesAvoid_45 : vm_D q_Reader_takesAvoid.2.1 45 3 48 (.getfield 25) := vm_dD b_Reader_takesAvoid_0 25 rfl rfl
theorem d_Reader_takesAvoid_48 : vm_D q_Reader_takesAvoid.2.1 48 1 49 (.aload_n 0) := vm_dD b_Reader_takesAvoid_0 26 rfl rfl
theorem d_Reader_takesAvoid_49 : vm_D q_Reader_takesAvoid.2.1 49 3 52 (.getfield 18) := vm_dD b_Reader_takesAvoid_0 27 rfl rfl
theorem d_Reader_takesAvoid_52 : vm_D q_Reader_takesAvoid.2.1 52 3 55 (.invokevirtual 190) := vm_dD b_Reader_takesAvoid_0 28 rfl rfl
theorem d_Reader_takesAvoid_55 : vm_B q_Reader_takesAvoid.2.1 55 58 65 (fun o => .ifCond .eq o) := ⟨10, vm_db b_Reader_takesAvoid_0 (i := 29) rfl, rfl, by decide⟩
theorem d_Reader_takesAvoid_58 : vm_D q_Reader_takesAvoid.2.1 58 1 59 (.aload_n 3) := vm_dD b_Reader_takesAvoid_0 30 rfl rfl
theorem d_Reader_takesAvoid_59 : vm_D q_Reader_takesAvoid.2.1 59 1 60 (.iconst 1) := vm_dD b_Reader_takesAvoid_0 31 rfl rfl
theorem d_Reader_takesAvoid_60 : vm_D q_Reader_takesAvoid.2.1 60 3 63 (.putfield 186) := vm_dD b_Reader_takesAvoid_0 32 rfl rfl
theorem d_Reader_takesAvoid_63 : vm_D q_Reader_takesAvoid.2.1 63 1 64 (.iconst 1) := vm_dD b_Reader_takesAvoid_0 33 rfl rfl
theorem d_Reader_takesAvoid_64 : vm_D q_Reader_takesAvoid.2.1 64 1 65 (.ireturn) := vm_dD b_Reader_takesAvoid_0 34 rfl rfl
theorem d_Reader_takesAvoid_71 : vm_D q_Reader_takesAvoid.2.1 71 1 72 (.aload_n 0) := vm_dD b_Reader_takesAvoid_0 37 rfl rfl
theorem d_Reader_takesAvoid_72 : vm_D q_Reader_takesAvoid.2.1 72 1 73 (.aload_n 0) := vm_dD b_Reader_takesAvoid_0 38 rfl rfl
theorem d_Reader_takesAvoid_73 : vm_D q_Reader_takesAvoid.2.1 73 3 76 (.getfield 25) := vm_dD b_Reader_takesAvoid_0 39 rfl rfl
theorem d_Reader_takesAvoid_76 : vm_D q_Reader_takesAvoid.2.1 76 3 79 (.invokevirtual 75) := vm_dD b_Reader_takesAvoid_0 40 rfl rfl
theorem d_Reader_takesAvoid_79 : vm_D q_Reader_takesAvoid.2.1 79 1 80 (.ireturn) := vm_dD b_Reader_takesAvoid_0 41 rfl rfl
theorem d_Reader_takesAvoid_7 : vm_D q_Reader_takesAvoid.2.1 7 1 8 (.iconst 0) := vm_dD b_Reader_takesAvoid_0 3 rfl rfl
theorem d_Reader_takesAvoid_8 : vm_D q_Reader_takesAvoid.2.1 8 1 9 (.ireturn) := vm_dD b_Reader_takesAvoid_0 4 rfl rfl
def q_Tape_isDigit : vm_Y := ("RepeatFree$Tape", cX8_isDigit, 1, false, [])
def t_Tape_isDigit_0 : List (Nat × Instr × Nat) := [(0, .iload_n 0, 1), (1, .bipush 48, 2), (3, .if_icmp .lt 13, 3), (6, .iload_n 0, 1), (7, .bipush 57, 2), (9, .if_icmp .gt 7, 3), (12, .iconst 1, 1), (13, .goto 4, 3), (16, .iconst 0, 1), (17, .ireturn, 1)]
theorem b_Tape_isDigit_0 : (t_Tape_isDigit_0.all fun q => decide (decode q_Tape_isDigit.2.1 q.1 = .ok (q.2.1, q.2.2))) = true := by decide +kernel
theorem d_Tape_isDigit_0 : vm_D q_Tape_isDigit.2.1 0 1 1 (.iload_n 0) := vm_dD b_Tape_isDigit_0 0 rfl rfl
theorem d_Tape_isDigit_1 : vm_D q_Tape_isDigit.2.1 1 2 3 (.bipush 48) := vm_dD b_Tape_isDigit_0 1 rfl rfl
theorem d_Tape_isDigit_3 : vm_B q_Tape_isDigit.2.1 3 6 16 (fun o => .if_icmp .lt o) := ⟨13, vm_db b_Tape_isDigit_0 (i := 2) rfl, rfl, by decide⟩
theorem d_Tape_isDigit_16 : vm_D q_Tape_isDigit.2.1 16 1 17 (.iconst 0) := vm_dD b_Tape_isDigit_0 8 rfl rfl
theorem d_Tape_isDigit_17 : vm_D q_Tape_isDigit.2.1 17 1 18 (.ireturn) := vm_dD b_Tape_isDigit_0 9 rfl rfl
theorem d_Tape_isDigit_6 : vm_D q_Tape_isDigit.2.1 6 1 7 (.iload_n 0) := vm_dD b_Tape_isDigit_0 3 rfl rfl
theorem d_Tape_isDigit_7 : vm_D q_Tape_isDigit.2.1 7 2 9 (.bipush 57) := vm_dD b_Tape_isDigit_0 4 rfl rfl
theorem d_Tape_isDigit_9 : vm_B q_Tape_isDigit.2.1 9 12 16 (fun o => .if_icmp .gt o) := ⟨7, vm_db b_Tape_isDigit_0 (i := 5) rfl, rfl, by decide⟩
theorem d_Tape_isDigit_12 : vm_D q_Tape_isDigit.2.1 12 1 13 (.iconst 1) := vm_dD b_Tape_isDigit_0 6 rfl rfl
theorem d_Tape_isDigit_13 : ∃ off : Int, decode q_Tape_isDigit.2.1 13 = .ok (.goto off, 3) ∧ ((13 : Nat) : Int) + off = ((17 : Nat) : Int) := ⟨4, vm_db b_Tape_isDigit_0 (i := 7) rfl, by decide⟩
def q_Reader_takesNumber : vm_Y := ("RepeatFree$Reader", cX4_takesNumber, 4, false, [])
def t_Reader_takesNumber_0 : List (Nat × Instr × Nat) := [(0, .aload_n 0, 1), (1, .invokevirtual 55, 3), (4, .aload_n 0, 1), (5, .aload_n 0, 1), (6, .getfield 18, 3), (9, .putfield 25, 3), (12, .aload_n 0, 1), (13, .iconst 0, 1), (14, .putfield 28, 3), (17, .aload_n 0, 1), (18, .getfield 18, 3), (21, .aload_n 0, 1), (22, .getfield 12, 3), (25, .getfield 58, 3), (28, .if_icmp .ge 72, 3), (31, .aload_n 0, 1), (32, .getfield 12, 3), (35, .aload_n 0, 1), (36, .getfield 18, 3), (39, .invokevirtual 68, 3), (42, .invokestatic 102, 3), (45, .ifCond .eq 55, 3), (48, .aload_n 0, 1), (49, .getfield 18, 3), (52, .aload_n 0, 1), (53, .getfield 25, 3), (56, .isub, 1), (57, .iconst 2, 1), (58, .if_icmp .ge 29, 3), (61, .aload_n 0, 1), (62, .bipush 10, 2), (64, .aload_n 0, 1), (65, .getfield 28, 3), (68, .imul, 1), (69, .aload_n 0, 1), (70, .getfield 12, 3), (73, .aload_n 0, 1), (74, .getfield 18, 3), (77, .invokevirtual 68, 3), (80, .iadd, 1), (81, .bipush 48, 2), (83, .isub, 1), (84, .putfield 28, 3), (87, .aload_n 0, 1), (88, .dup, 1), (89, .getfield 18, 3), (92, .iconst 1, 1), (93, .iadd, 1), (94, .putfield 18, 3), (97, .goto (-80), 3), (100, .aload_n 0, 1), (101, .getfield 18, 3), (104, .aload_n 0, 1), (105, .getfield 25, 3), (108, .if_icmp .le 36, 3), (111, .aload_n 0, 1), (112, .getfield 18, 3), (115, .aload_n 0, 1), (116, .getfield 25, 3), (119, .isub, 1)]
theorem b_Reader_takesNumber_0 : (t_Reader_takesNumber_0.all fun q => decide (decode q_Reader_takesNumber.2.1 q.1 = .ok (q.2.1, q.2.2))) = true := by decide +kernel
def t_Reader_takesNumber_1 : List (Nat × Instr × Nat) := [(120, .iconst 2, 1), (121, .if_icmp .gt 23, 3), (124, .aload_n 0, 1), (125, .getfield 28, 3), (128, .iload_n 1, 1), (129, .if_icmp .lt 15, 3), (132, .aload_n 0, 1), (133, .getfield 28, 3), (136, .iload_n 2, 1), (137, .if_icmp .gt 7, 3), (140, .iconst 1, 1), (141, .goto 4, 3), (144, .iconst 0, 1), (145, .istore_n 3, 1), (146, .iload_n 3, 1), (147, .ifCond .ne 14, 3), (150, .aload_n 0, 1), (151, .aload_n 0, 1), (152, .getfield 25, 3), (155, .invokevirtual 75, 3), (158, .ifCond .eq 7, 3), (161, .iconst 1, 1), (162, .goto 4, 3), (165, .iconst 0, 1), (166, .ireturn, 1)]
theorem b_Reader_takesNumber_1 : (t_Reader_takesNumber_1.all fun q => decide (decode q_Reader_takesNumber.2.1 q.1 = .ok (q.2.1, q.2.2))) = true := by decide +kernel
theorem d_Reader_takesNumber_0 : vm_D q_Reader_takesNumber.2.1 0 1 1 (.aload_n 0) := vm_dD b_Reader_takesNumber_0 0 rfl rfl
theorem d_Reader_takesNumber_1 : vm_D q_Reader_takesNumber.2.1 1 3 4 (.invokevirtual 55) := vm_dD b_Reader_takesNumber_0 1 rfl rfl
theorem d_Reader_takesNumber_4 : vm_D q_Reader_takesNumber.2.1 4 1 5 (.aload_n 0) := vm_dD b_Reader_takesNumber_0 2 rfl rfl
theorem d_Reader_takesNumber_5 : vm_D q_Reader_takesNumber.2.1 5 1 6 (.aload_n 0) := vm_dD b_Reader_takesNumber_0 3 rfl rfl
theorem d_Reader_takesNumber_6 : vm_D q_Reader_takesNumber.2.1 6 3 9 (.getfield 18) := vm_dD b_Reader_takesNumber_0 4 rfl rfl
theorem d_Reader_takesNumber_9 : vm_D q_Reader_takesNumber.2.1 9 3 12 (.putfield 25) := vm_dD b_Reader_takesNumber_0 5 rfl rfl
theorem d_Reader_takesNumber_12 : vm_D q_Reader_takesNumber.2.1 12 1 13 (.aload_n 0) := vm_dD b_Reader_takesNumber_0 6 rfl rfl
theorem d_Reader_takesNumber_13 : vm_D q_Reader_takesNumber.2.1 13 1 14 (.iconst 0) := vm_dD b_Reader_takesNumber_0 7 rfl rfl
theorem d_Reader_takesNumber_14 : vm_D q_Reader_takesNumber.2.1 14 3 17 (.putfield 28) := vm_dD b_Reader_takesNumber_0 8 rfl rfl
theorem d_Reader_takesNumber_17 : vm_D q_Reader_takesNumber.2.1 17 1 18 (.aload_n 0) := vm_dD b_Reader_takesNumber_0 9 rfl rfl
theorem d_Reader_takesNumber_18 : vm_D q_Reader_takesNumber.2.1 18 3 21 (.getfield 18) := vm_dD b_Reader_takesNumber_0 10 rfl rfl
theorem d_Reader_takesNumber_21 : vm_D q_Reader_takesNumber.2.1 21 1 22 (.aload_n 0) := vm_dD b_Reader_takesNumber_0 11 rfl rfl
theorem d_Reader_takesNumber_22 : vm_D q_Reader_takesNumber.2.1 22 3 25 (.getfield 12) := vm_dD b_Reader_takesNumber_0 12 rfl rfl
theorem d_Reader_takesNumber_25 : vm_D q_Reader_takesNumber.2.1 25 3 28 (.getfield 58) := vm_dD b_Reader_takesNumber_0 13 rfl rfl
theorem d_Reader_takesNumber_28 : vm_B q_Reader_takesNumber.2.1 28 31 100 (fun o => .if_icmp .ge o) := ⟨72, vm_db b_Reader_takesNumber_0 (i := 14) rfl, rfl, by decide⟩
theorem d_Reader_takesNumber_31 : vm_D q_Reader_takesNumber.2.1 31 1 32 (.aload_n 0) := vm_dD b_Reader_takesNumber_0 15 rfl rfl
theorem d_Reader_takesNumber_32 : vm_D q_Reader_takesNumber.2.1 32 3 35 (.getfield 12) := vm_dD b_Reader_takesNumber_0 16 rfl rfl
theorem d_Reader_takesNumber_35 : vm_D q_Reader_takesNumber.2.1 35 1 36 (.aload_n 0) := vm_dD b_Reader_takesNumber_0 17 rfl rfl
theorem d_Reader_takesNumber_36 : vm_D q_Reader_takesNumber.2.1 36 3 39 (.getfield 18) := vm_dD b_Reader_takesNumber_0 18 rfl rfl
theorem d_Reader_takesNumber_39 : vm_D q_Reader_takesNumber.2.1 39 3 42 (.invokevirtual 68) := vm_dD b_Reader_takesNumber_0 19 rfl rfl
theorem d_Reader_takesNumber_42 : vm_D q_Reader_takesNumber.2.1 42 3 45 (.invokestatic 102) := vm_dD b_Reader_takesNumber_0 20 rfl rfl
theorem d_Reader_takesNumber_45 : vm_B q_Reader_takesNumber.2.1 45 48 100 (fun o => .ifCond .eq o) := ⟨55, vm_db b_Reader_takesNumber_0 (i := 21) rfl, rfl, by decide⟩
theorem d_Reader_takesNumber_48 : vm_D q_Reader_takesNumber.2.1 48 1 49 (.aload_n 0) := vm_dD b_Reader_takesNumber_0 22 rfl rfl
theorem d_Reader_takesNumber_49 : vm_D q_Reader_takesNumber.2.1 49 3 52 (.getfield 18) := vm_dD b_Reader_takesNumber_0 23 rfl rfl
theorem d_Reader_takesNumber_52 : vm_D q_Reader_takesNumber.2.1 52 1 53 (.aload_n 0) := vm_dD b_Reader_takesNumber_0 24 rfl rfl
theorem d_Reader_takesNumber_53 : vm_D q_Reader_takesNumber.2.1 53 3 56 (.getfield 25) := vm_dD b_Reader_takesNumber_0 25 rfl rfl
theorem d_Reader_takesNumber_56 : vm_D q_Reader_takesNumber.2.1 56 1 57 (.isub) := vm_dD b_Reader_takesNumber_0 26 rfl rfl
theorem d_Reader_takesNumber_57 : vm_D q_Reader_takesNumber.2.1 57 1 58 (.iconst 2) := vm_dD b_Reader_takesNumber_0 27 rfl rfl
theorem d_Reader_takesNumber_58 : vm_B q_Reader_takesNumber.2.1 58 61 87 (fun o => .if_icmp .ge o) := ⟨29, vm_db b_Reader_takesNumber_0 (i := 28) rfl, rfl, by decide⟩
theorem d_Reader_takesNumber_87 : vm_D q_Reader_takesNumber.2.1 87 1 88 (.aload_n 0) := vm_dD b_Reader_takesNumber_0 43 rfl rfl
theorem d_Reader_takesNumber_88 : vm_D q_Reader_takesNumber.2.1 88 1 89 (.dup) := vm_dD b_Reader_takesNumber_0 44 rfl rfl
theorem d_Reader_takesNumber_89 : vm_D q_Reader_takesNumber.2.1 89 3 92 (.getfield 18) := vm_dD b_Reader_takesNumber_0 45 rfl rfl
theorem d_Reader_takesNumber_92 : vm_D q_Reader_takesNumber.2.1 92 1 93 (.iconst 1) := vm_dD b_Reader_takesNumber_0 46 rfl rfl
theorem d_Reader_takesNumber_93 : vm_D q_Reader_takesNumber.2.1 93 1 94 (.iadd) := vm_dD b_Reader_takesNumber_0 47 rfl rfl
theorem d_Reader_takesNumber_94 : vm_D q_Reader_takesNumber.2.1 94 3 97 (.putfield 18) := vm_dD b_Reader_takesNumber_0 48 rfl rfl
theorem d_Reader_takesNumber_97 : ∃ off : Int, decode q_Reader_takesNumber.2.1 97 = .ok (.goto off, 3) ∧ ((97 : Nat) : Int) + off = ((17 : Nat) : Int) := ⟨-80, vm_db b_Reader_takesNumber_0 (i := 49) rfl, by decide⟩
theorem d_Reader_takesNumber_61 : vm_D q_Reader_takesNumber.2.1 61 1 62 (.aload_n 0) := vm_dD b_Reader_takesNumber_0 29 rfl rfl
theorem d_Reader_takesNumber_62 : vm_D q_Reader_takesNumber.2.1 62 2 64 (.bipush 10) := vm_dD b_Reader_takesNumber_0 30 rfl rfl
theorem d_Reader_takesNumber_64 : vm_D q_Reader_takesNumber.2.1 64 1 65 (.aload_n 0) := vm_dD b_Reader_takesNumber_0 31 rfl rfl
theorem d_Reader_takesNumber_65 : vm_D q_Reader_takesNumber.2.1 65 3 68 (.getfield 28) := vm_dD b_Reader_takesNumber_0 32 rfl rfl
theorem d_Reader_takesNumber_68 : vm_D q_Reader_takesNumber.2.1 68 1 69 (.imul) := vm_dD b_Reader_takesNumber_0 33 rfl rfl
theorem d_Reader_takesNumber_69 : vm_D q_Reader_takesNumber.2.1 69 1 70 (.aload_n 0) := vm_dD b_Reader_takesNumber_0 34 rfl rfl
theorem d_Reader_takesNumber_70 : vm_D q_Reader_takesNumber.2.1 70 3 73 (.getfield 12) := vm_dD b_Reader_takesNumber_0 35 rfl rfl
theorem d_Reader_takesNumber_73 : vm_D q_Reader_takesNumber.2.1 73 1 74 (.aload_n 0) := vm_dD b_Reader_takesNumber_0 36 rfl rfl
theorem d_Reader_takesNumber_74 : vm_D q_Reader_takesNumber.2.1 74 3 77 (.getfield 18) := vm_dD b_Reader_takesNumber_0 37 rfl rfl
theorem d_Reader_takesNumber_77 : vm_D q_Reader_takesNumber.2.1 77 3 80 (.invokevirtual 68) := vm_dD b_Reader_takesNumber_0 38 rfl rfl
theorem d_Reader_takesNumber_80 : vm_D q_Reader_takesNumber.2.1 80 1 81 (.iadd) := vm_dD b_Reader_takesNumber_0 39 rfl rfl
theorem d_Reader_takesNumber_81 : vm_D q_Reader_takesNumber.2.1 81 2 83 (.bipush 48) := vm_dD b_Reader_takesNumber_0 40 rfl rfl
theorem d_Reader_takesNumber_83 : vm_D q_Reader_takesNumber.2.1 83 1 84 (.isub) := vm_dD b_Reader_takesNumber_0 41 rfl rfl
theorem d_Reader_takesNumber_84 : vm_D q_Reader_takesNumber.2.1 84 3 87 (.putfield 28) := vm_dD b_Reader_takesNumber_0 42 rfl rfl
theorem d_Reader_takesNumber_100 : vm_D q_Reader_takesNumber.2.1 100 1 101 (.aload_n 0) := vm_dD b_Reader_takesNumber_0 50 rfl rfl
theorem d_Reader_takesNumber_101 : vm_D q_Reader_takesNumber.2.1 101 3 104 (.getfield 18) := vm_dD b_Reader_takesNumber_0 51 rfl rfl
theorem d_Reader_takesNumber_104 : vm_D q_Reader_takesNumber.2.1 104 1 105 (.aload_n 0) := vm_dD b_Reader_takesNumber_0 52 rfl rfl
theorem d_Reader_takesNumber_105 : vm_D q_Reader_takesNumber.2.1 105 3 108 (.getfield 25) := vm_dD b_Reader_takesNumber_0 53 rfl rfl
theorem d_Reader_takesNumber_108 : vm_B q_Reader_takesNumber.2.1 108 111 144 (fun o => .if_icmp .le o) := ⟨36, vm_db b_Reader_takesNumber_0 (i := 54) rfl, rfl, by decide⟩
theorem d_Reader_takesNumber_145 : vm_D q_Reader_takesNumber.2.1 145 1 146 (.istore_n 3) := vm_dD b_Reader_takesNumber_1 13 rfl rfl
theorem d_Reader_takesNumber_146 : vm_D q_Reader_takesNumber.2.1 146 1 147 (.iload_n 3) := vm_dD b_Reader_takesNumber_1 14 rfl rfl
theorem d_Reader_takesNumber_147 : vm_B q_Reader_takesNumber.2.1 147 150 161 (fun o => .ifCond .ne o) := ⟨14, vm_db b_Reader_takesNumber_1 (i := 15) rfl, rfl, by decide⟩
theorem d_Reader_takesNumber_161 : vm_D q_Reader_takesNumber.2.1 161 1 162 (.iconst 1) := vm_dD b_Reader_takesNumber_1 21 rfl rfl
theorem d_Reader_takesNumber_162 : ∃ off : Int, decode q_Reader_takesNumber.2.1 162 = .ok (.goto off, 3) ∧ ((162 : Nat) : Int) + off = ((166 : Nat) : Int) := ⟨4, vm_db b_Reader_takesNumber_1 (i := 22) rfl, by decide⟩
theorem d_Reader_takesNumber_166 : vm_D q_Reader_takesNumber.2.1 166 1 167 (.ireturn) := vm_dD b_Reader_takesNumber_1 24 rfl rfl
theorem d_Reader_takesNumber_150 : vm_D q_Reader_takesNumber.2.1 150 1 151 (.aload_n 0) := vm_dD b_Reader_takesNumber_1 16 rfl rfl
theorem d_Reader_takesNumber_151 : vm_D q_Reader_takesNumber.2.1 151 1 152 (.aload_n 0) := vm_dD b_Reader_takesNumber_1 17 rfl rfl
theorem d_Reader_takesNumber_152 : vm_D q_Reader_takesNumber.2.1 152 3 155 (.getfield 25) := vm_dD b_Reader_takesNumber_1 18 rfl rfl
theorem d_Reader_takesNumber_155 : vm_D q_Reader_takesNumber.2.1 155 3 158 (.invokevirtual 75) := vm_dD b_Reader_takesNumber_1 19 rfl rfl
theorem d_Reader_takesNumber_158 : vm_B q_Reader_takesNumber.2.1 158 161 165 (fun o => .ifCond .eq o) := ⟨7, vm_db b_Reader_takesNumber_1 (i := 20) rfl, rfl, by decide⟩
theorem d_Reader_takesNumber_165 : vm_D q_Reader_takesNumber.2.1 165 1 166 (.iconst 0) := vm_dD b_Reader_takesNumber_1 23 rfl rfl
theorem d_Reader_takesNumber_144 : vm_D q_Reader_takesNumber.2.1 144 1 145 (.iconst 0) := vm_dD b_Reader_takesNumber_1 12 rfl rfl
theorem d_Reader_takesNumber_111 : vm_D q_Reader_takesNumber.2.1 111 1 112 (.aload_n 0) := vm_dD b_Reader_takesNumber_0 55 rfl rfl
theorem d_Reader_takesNumber_112 : vm_D q_Reader_takesNumber.2.1 112 3 115 (.getfield 18) := vm_dD b_Reader_takesNumber_0 56 rfl rfl
theorem d_Reader_takesNumber_115 : vm_D q_Reader_takesNumber.2.1 115 1 116 (.aload_n 0) := vm_dD b_Reader_takesNumber_0 57 rfl rfl
theorem d_Reader_takesNumber_116 : vm_D q_Reader_takesNumber.2.1 116 3 119 (.getfield 25) := vm_dD b_Reader_takesNumber_0 58 rfl rfl
theorem d_Reader_takesNumber_119 : vm_D q_Reader_takesNumber.2.1 119 1 120 (.isub) := vm_dD b_Reader_takesNumber_0 59 rfl rfl
theorem d_Reader_takesNumber_120 : vm_D q_Reader_takesNumber.2.1 120 1 121 (.iconst 2) := vm_dD b_Reader_takesNumber_1 0 rfl rfl
theorem d_Reader_takesNumber_121 : vm_B q_Reader_takesNumber.2.1 121 124 144 (fun o => .if_icmp .gt o) := ⟨23, vm_db b_Reader_takesNumber_1 (i := 1) rfl, rfl, by decide⟩
theorem d_Reader_takesNumber_124 : vm_D q_Reader_takesNumber.2.1 124 1 125 (.aload_n 0) := vm_dD b_Reader_takesNumber_1 2 rfl rfl
theorem d_Reader_takesNumber_125 : vm_D q_Reader_takesNumber.2.1 125 3 128 (.getfield 28) := vm_dD b_Reader_takesNumber_1 3 rfl rfl
theorem d_Reader_takesNumber_128 : vm_D q_Reader_takesNumber.2.1 128 1 129 (.iload_n 1) := vm_dD b_Reader_takesNumber_1 4 rfl rfl
theorem d_Reader_takesNumber_129 : vm_B q_Reader_takesNumber.2.1 129 132 144 (fun o => .if_icmp .lt o) := ⟨15, vm_db b_Reader_takesNumber_1 (i := 5) rfl, rfl, by decide⟩
theorem d_Reader_takesNumber_132 : vm_D q_Reader_takesNumber.2.1 132 1 133 (.aload_n 0) := vm_dD b_Reader_takesNumber_1 6 rfl rfl
theorem d_Reader_takesNumber_133 : vm_D q_Reader_takesNumber.2.1 133 3 136 (.getfield 28) := vm_dD b_Reader_takesNumber_1 7 rfl rfl
theorem d_Reader_takesNumber_136 : vm_D q_Reader_takesNumber.2.1 136 1 137 (.iload_n 2) := vm_dD b_Reader_takesNumber_1 8 rfl rfl
theorem d_Reader_takesNumber_137 : vm_B q_Reader_takesNumber.2.1 137 140 144 (fun o => .if_icmp .gt o) := ⟨7, vm_db b_Reader_takesNumber_1 (i := 9) rfl, rfl, by decide⟩
theorem d_Reader_takesNumber_140 : vm_D q_Reader_takesNumber.2.1 140 1 141 (.iconst 1) := vm_dD b_Reader_takesNumber_1 10 rfl rfl
theorem d_Reader_takesNumber_141 : ∃ off : Int, decode q_Reader_takesNumber.2.1 141 = .ok (.goto off, 3) ∧ ((141 : Nat) : Int) + off = ((145 : Nat) : Int) := ⟨4, vm_db b_Reader_takesNumber_1 (i := 11) rfl, by decide⟩
def q_Told_setLimit : vm_Y := ("RepeatFree$Told", cX9_setLimit, 4, false, [])
def t_Told_setLimit_0 : List (Nat × Instr × Nat) := [(0, .aload_n 0, 1), (1, .iload_n 1, 1), (2, .putfield 27, 3), (5, .aload_n 0, 1), (6, .iload_n 1, 1), (7, .ifCond .ne 7, 3), (10, .iconst 0, 1), (11, .goto 4, 3), (14, .iload_n 2, 1), (15, .putfield 30, 3), (18, .aload_n 0, 1), (19, .iload_n 1, 1), (20, .ifCond .ne 7, 3), (23, .iconst 0, 1), (24, .goto 4, 3), (27, .iload_n 3, 1), (28, .putfield 33, 3), (31, .return_, 1)]
theorem b_Told_setLimit_0 : (t_Told_setLimit_0.all fun q => decide (decode q_Told_setLimit.2.1 q.1 = .ok (q.2.1, q.2.2))) = true := by decide +kernel
theorem d_Told_setLimit_0 : vm_D q_Told_setLimit.2.1 0 1 1 (.aload_n 0) := vm_dD b_Told_setLimit_0 0 rfl rfl
theorem d_Told_setLimit_1 : vm_D q_Told_setLimit.2.1 1 1 2 (.iload_n 1) := vm_dD b_Told_setLimit_0 1 rfl rfl
theorem d_Told_setLimit_2 : vm_D q_Told_setLimit.2.1 2 3 5 (.putfield 27) := vm_dD b_Told_setLimit_0 2 rfl rfl
theorem d_Told_setLimit_5 : vm_D q_Told_setLimit.2.1 5 1 6 (.aload_n 0) := vm_dD b_Told_setLimit_0 3 rfl rfl
theorem d_Told_setLimit_6 : vm_D q_Told_setLimit.2.1 6 1 7 (.iload_n 1) := vm_dD b_Told_setLimit_0 4 rfl rfl
theorem d_Told_setLimit_7 : vm_B q_Told_setLimit.2.1 7 10 14 (fun o => .ifCond .ne o) := ⟨7, vm_db b_Told_setLimit_0 (i := 5) rfl, rfl, by decide⟩
theorem d_Told_setLimit_15 : vm_D q_Told_setLimit.2.1 15 3 18 (.putfield 30) := vm_dD b_Told_setLimit_0 9 rfl rfl
theorem d_Told_setLimit_18 : vm_D q_Told_setLimit.2.1 18 1 19 (.aload_n 0) := vm_dD b_Told_setLimit_0 10 rfl rfl
theorem d_Told_setLimit_19 : vm_D q_Told_setLimit.2.1 19 1 20 (.iload_n 1) := vm_dD b_Told_setLimit_0 11 rfl rfl
theorem d_Told_setLimit_20 : vm_B q_Told_setLimit.2.1 20 23 27 (fun o => .ifCond .ne o) := ⟨7, vm_db b_Told_setLimit_0 (i := 12) rfl, rfl, by decide⟩
theorem d_Told_setLimit_28 : vm_D q_Told_setLimit.2.1 28 3 31 (.putfield 33) := vm_dD b_Told_setLimit_0 16 rfl rfl
theorem d_Told_setLimit_31 : vm_D q_Told_setLimit.2.1 31 1 32 (.return_) := vm_dD b_Told_setLimit_0 17 rfl rfl
theorem d_Told_setLimit_27 : vm_D q_Told_setLimit.2.1 27 1 28 (.iload_n 3) := vm_dD b_Told_setLimit_0 15 rfl rfl
theorem d_Told_setLimit_23 : vm_D q_Told_setLimit.2.1 23 1 24 (.iconst 0) := vm_dD b_Told_setLimit_0 13 rfl rfl
theorem d_Told_setLimit_24 : ∃ off : Int, decode q_Told_setLimit.2.1 24 = .ok (.goto off, 3) ∧ ((24 : Nat) : Int) + off = ((28 : Nat) : Int) := ⟨4, vm_db b_Told_setLimit_0 (i := 14) rfl, by decide⟩
theorem d_Told_setLimit_14 : vm_D q_Told_setLimit.2.1 14 1 15 (.iload_n 2) := vm_dD b_Told_setLimit_0 8 rfl rfl
theorem d_Told_setLimit_10 : vm_D q_Told_setLimit.2.1 10 1 11 (.iconst 0) := vm_dD b_Told_setLimit_0 6 rfl rfl
theorem d_Told_setLimit_11 : ∃ off : Int, decode q_Told_setLimit.2.1 11 = .ok (.goto off, 3) ∧ ((11 : Nat) : Int) + off = ((15 : Nat) : Int) := ⟨4, vm_db b_Told_setLimit_0 (i := 7) rfl, by decide⟩
def q_Reader_takesLimit : vm_Y := ("RepeatFree$Reader", cX4_takesLimit, 4, false, [])
def t_Reader_takesLimit_0 : List (Nat × Instr × Nat) := [(0, .aload_n 0, 1), (1, .invokevirtual 95, 3), (4, .ifCond .ne 5, 3), (7, .iconst 0, 1), (8, .ireturn, 1), (9, .aload_n 0, 1), (10, .ldc 128, 2), (12, .invokevirtual 99, 3), (15, .ifCond .eq 7, 3), (18, .iconst 1, 1), (19, .goto 17, 3), (22, .aload_n 0, 1), (23, .ldc 130, 2), (25, .invokevirtual 99, 3), (28, .ifCond .eq 7, 3), (31, .iconst 2, 1), (32, .goto 4, 3), (35, .iconst 0, 1), (36, .istore_n 2, 1), (37, .iload_n 2, 1), (38, .ifCond .ne 12, 3), (41, .aload_n 0, 1), (42, .aload_n 0, 1), (43, .getfield 25, 3), (46, .invokevirtual 75, 3), (49, .ireturn, 1), (50, .aload_n 0, 1), (51, .iconst 1, 1), (52, .bipush 99, 2), (54, .invokevirtual 45, 3), (57, .ifCond .ne 5, 3), (60, .iconst 0, 1), (61, .ireturn, 1), (62, .aload_n 0, 1), (63, .getfield 28, 3), (66, .istore_n 3, 1), (67, .aload_n 0, 1), (68, .ldc 132, 2), (70, .invokevirtual 41, 3), (73, .ifCond .eq 13, 3), (76, .aload_n 0, 1), (77, .iconst 1, 1), (78, .bipush 9, 2), (80, .invokevirtual 45, 3), (83, .ifCond .ne 5, 3), (86, .iconst 0, 1), (87, .ireturn, 1), (88, .aload_n 1, 1), (89, .iload_n 2, 1), (90, .iload_n 3, 1), (91, .aload_n 0, 1), (92, .getfield 28, 3), (95, .invokevirtual 134, 3), (98, .iconst 1, 1), (99, .ireturn, 1)]
theorem b_Reader_takesLimit_0 : (t_Reader_takesLimit_0.all fun q => decide (decode q_Reader_takesLimit.2.1 q.1 = .ok (q.2.1, q.2.2))) = true := by decide +kernel
theorem d_Reader_takesLimit_0 : vm_D q_Reader_takesLimit.2.1 0 1 1 (.aload_n 0) := vm_dD b_Reader_takesLimit_0 0 rfl rfl
theorem d_Reader_takesLimit_1 : vm_D q_Reader_takesLimit.2.1 1 3 4 (.invokevirtual 95) := vm_dD b_Reader_takesLimit_0 1 rfl rfl
theorem d_Reader_takesLimit_4 : vm_B q_Reader_takesLimit.2.1 4 7 9 (fun o => .ifCond .ne o) := ⟨5, vm_db b_Reader_takesLimit_0 (i := 2) rfl, rfl, by decide⟩
theorem d_Reader_takesLimit_9 : vm_D q_Reader_takesLimit.2.1 9 1 10 (.aload_n 0) := vm_dD b_Reader_takesLimit_0 5 rfl rfl
theorem d_Reader_takesLimit_10 : vm_D q_Reader_takesLimit.2.1 10 2 12 (.ldc 128) := vm_dD b_Reader_takesLimit_0 6 rfl rfl
theorem d_Reader_takesLimit_12 : vm_D q_Reader_takesLimit.2.1 12 3 15 (.invokevirtual 99) := vm_dD b_Reader_takesLimit_0 7 rfl rfl
theorem d_Reader_takesLimit_15 : vm_B q_Reader_takesLimit.2.1 15 18 22 (fun o => .ifCond .eq o) := ⟨7, vm_db b_Reader_takesLimit_0 (i := 8) rfl, rfl, by decide⟩
theorem d_Reader_takesLimit_36 : vm_D q_Reader_takesLimit.2.1 36 1 37 (.istore_n 2) := vm_dD b_Reader_takesLimit_0 18 rfl rfl
theorem d_Reader_takesLimit_37 : vm_D q_Reader_takesLimit.2.1 37 1 38 (.iload_n 2) := vm_dD b_Reader_takesLimit_0 19 rfl rfl
theorem d_Reader_takesLimit_38 : vm_B q_Reader_takesLimit.2.1 38 41 50 (fun o => .ifCond .ne o) := ⟨12, vm_db b_Reader_takesLimit_0 (i := 20) rfl, rfl, by decide⟩
theorem d_Reader_takesLimit_50 : vm_D q_Reader_takesLimit.2.1 50 1 51 (.aload_n 0) := vm_dD b_Reader_takesLimit_0 26 rfl rfl
theorem d_Reader_takesLimit_51 : vm_D q_Reader_takesLimit.2.1 51 1 52 (.iconst 1) := vm_dD b_Reader_takesLimit_0 27 rfl rfl
theorem d_Reader_takesLimit_52 : vm_D q_Reader_takesLimit.2.1 52 2 54 (.bipush 99) := vm_dD b_Reader_takesLimit_0 28 rfl rfl
theorem d_Reader_takesLimit_54 : vm_D q_Reader_takesLimit.2.1 54 3 57 (.invokevirtual 45) := vm_dD b_Reader_takesLimit_0 29 rfl rfl
theorem d_Reader_takesLimit_57 : vm_B q_Reader_takesLimit.2.1 57 60 62 (fun o => .ifCond .ne o) := ⟨5, vm_db b_Reader_takesLimit_0 (i := 30) rfl, rfl, by decide⟩
theorem d_Reader_takesLimit_62 : vm_D q_Reader_takesLimit.2.1 62 1 63 (.aload_n 0) := vm_dD b_Reader_takesLimit_0 33 rfl rfl
theorem d_Reader_takesLimit_63 : vm_D q_Reader_takesLimit.2.1 63 3 66 (.getfield 28) := vm_dD b_Reader_takesLimit_0 34 rfl rfl
theorem d_Reader_takesLimit_66 : vm_D q_Reader_takesLimit.2.1 66 1 67 (.istore_n 3) := vm_dD b_Reader_takesLimit_0 35 rfl rfl
theorem d_Reader_takesLimit_67 : vm_D q_Reader_takesLimit.2.1 67 1 68 (.aload_n 0) := vm_dD b_Reader_takesLimit_0 36 rfl rfl
theorem d_Reader_takesLimit_68 : vm_D q_Reader_takesLimit.2.1 68 2 70 (.ldc 132) := vm_dD b_Reader_takesLimit_0 37 rfl rfl
theorem d_Reader_takesLimit_70 : vm_D q_Reader_takesLimit.2.1 70 3 73 (.invokevirtual 41) := vm_dD b_Reader_takesLimit_0 38 rfl rfl
theorem d_Reader_takesLimit_73 : vm_B q_Reader_takesLimit.2.1 73 76 86 (fun o => .ifCond .eq o) := ⟨13, vm_db b_Reader_takesLimit_0 (i := 39) rfl, rfl, by decide⟩
theorem d_Reader_takesLimit_86 : vm_D q_Reader_takesLimit.2.1 86 1 87 (.iconst 0) := vm_dD b_Reader_takesLimit_0 45 rfl rfl
theorem d_Reader_takesLimit_87 : vm_D q_Reader_takesLimit.2.1 87 1 88 (.ireturn) := vm_dD b_Reader_takesLimit_0 46 rfl rfl
theorem d_Reader_takesLimit_76 : vm_D q_Reader_takesLimit.2.1 76 1 77 (.aload_n 0) := vm_dD b_Reader_takesLimit_0 40 rfl rfl
theorem d_Reader_takesLimit_77 : vm_D q_Reader_takesLimit.2.1 77 1 78 (.iconst 1) := vm_dD b_Reader_takesLimit_0 41 rfl rfl
theorem d_Reader_takesLimit_78 : vm_D q_Reader_takesLimit.2.1 78 2 80 (.bipush 9) := vm_dD b_Reader_takesLimit_0 42 rfl rfl
theorem d_Reader_takesLimit_80 : vm_D q_Reader_takesLimit.2.1 80 3 83 (.invokevirtual 45) := vm_dD b_Reader_takesLimit_0 43 rfl rfl
theorem d_Reader_takesLimit_83 : vm_B q_Reader_takesLimit.2.1 83 86 88 (fun o => .ifCond .ne o) := ⟨5, vm_db b_Reader_takesLimit_0 (i := 44) rfl, rfl, by decide⟩
theorem d_Reader_takesLimit_88 : vm_D q_Reader_takesLimit.2.1 88 1 89 (.aload_n 1) := vm_dD b_Reader_takesLimit_0 47 rfl rfl
theorem d_Reader_takesLimit_89 : vm_D q_Reader_takesLimit.2.1 89 1 90 (.iload_n 2) := vm_dD b_Reader_takesLimit_0 48 rfl rfl
theorem d_Reader_takesLimit_90 : vm_D q_Reader_takesLimit.2.1 90 1 91 (.iload_n 3) := vm_dD b_Reader_takesLimit_0 49 rfl rfl
theorem d_Reader_takesLimit_91 : vm_D q_Reader_takesLimit.2.1 91 1 92 (.aload_n 0) := vm_dD b_Reader_takesLimit_0 50 rfl rfl
theorem d_Reader_takesLimit_92 : vm_D q_Reader_takesLimit.2.1 92 3 95 (.getfield 28) := vm_dD b_Reader_takesLimit_0 51 rfl rfl
theorem d_Reader_takesLimit_95 : vm_D q_Reader_takesLimit.2.1 95 3 98 (.invokevirtual 134) := vm_dD b_Reader_takesLimit_0 52 rfl rfl
theorem d_Reader_takesLimit_98 : vm_D q_Reader_takesLimit.2.1 98 1 99 (.iconst 1) := vm_dD b_Reader_takesLimit_0 53 rfl rfl
theorem d_Reader_takesLimit_99 : vm_D q_Reader_takesLimit.2.1 99 1 100 (.ireturn) := vm_dD b_Reader_takesLimit_0 54 rfl rfl
theorem d_Reader_takesLimit_60 : vm_D q_Reader_takesLimit.2.1 60 1 61 (.iconst 0) := vm_dD b_Reader_takesLimit_0 31 rfl rfl
theorem d_Reader_takesLimit_61 : vm_D q_Reader_takesLimit.2.1 61 1 62 (.ireturn) := vm_dD b_Reader_takesLimit_0 32 rfl rfl
theorem d_Reader_takesLimit_41 : vm_D q_Reader_takesLimit.2.1 41 1 42 (.aload_n 0) := vm_dD b_Reader_takesLimit_0 21 rfl rfl
theorem d_Reader_takesLimit_42 : vm_D q_Reader_takesLimit.2.1 42 1 43 (.aload_n 0) := vm_dD b_Reader_takesLimit_0 22 rfl rfl
theorem d_Reader_takesLimit_43 : vm_D q_Reader_takesLimit.2.1 43 3 46 (.getfield 25) := vm_dD b_Reader_takesLimit_0 23 rfl rfl
theorem d_Reader_takesLimit_46 : vm_D q_Reader_takesLimit.2.1 46 3 49 (.invokevirtual 75) := vm_dD b_Reader_takesLimit_0 24 rfl rfl
theorem d_Reader_takesLimit_49 : vm_D q_Reader_takesLimit.2.1 49 1 50 (.ireturn) := vm_dD b_Reader_takesLimit_0 25 rfl rfl
theorem d_Reader_takesLimit_22 : vm_D q_Reader_takesLimit.2.1 22 1 23 (.aload_n 0) := vm_dD b_Reader_takesLimit_0 11 rfl rfl
theorem d_Reader_takesLimit_23 : vm_D q_Reader_takesLimit.2.1 23 2 25 (.ldc 130) := vm_dD b_Reader_takesLimit_0 12 rfl rfl
theorem d_Reader_takesLimit_25 : vm_D q_Reader_takesLimit.2.1 25 3 28 (.invokevirtual 99) := vm_dD b_Reader_takesLimit_0 13 rfl rfl
theorem d_Reader_takesLimit_28 : vm_B q_Reader_takesLimit.2.1 28 31 35 (fun o => .ifCond .eq o) := ⟨7, vm_db b_Reader_takesLimit_0 (i := 14) rfl, rfl, by decide⟩
theorem d_Reader_takesLimit_35 : vm_D q_Reader_takesLimit.2.1 35 1 36 (.iconst 0) := vm_dD b_Reader_takesLimit_0 17 rfl rfl
theorem d_Reader_takesLimit_31 : vm_D q_Reader_takesLimit.2.1 31 1 32 (.iconst 2) := vm_dD b_Reader_takesLimit_0 15 rfl rfl
theorem d_Reader_takesLimit_32 : ∃ off : Int, decode q_Reader_takesLimit.2.1 32 = .ok (.goto off, 3) ∧ ((32 : Nat) : Int) + off = ((36 : Nat) : Int) := ⟨4, vm_db b_Reader_takesLimit_0 (i := 16) rfl, by decide⟩
theorem d_Reader_takesLimit_18 : vm_D q_Reader_takesLimit.2.1 18 1 19 (.iconst 1) := vm_dD b_Reader_takesLimit_0 9 rfl rfl
theorem d_Reader_takesLimit_19 : ∃ off : Int, decode q_Reader_takesLimit.2.1 19 = .ok (.goto off, 3) ∧ ((19 : Nat) : Int) + off = ((36 : Nat) : Int) := ⟨17, vm_db b_Reader_takesLimit_0 (i := 10) rfl, by decide⟩
theorem d_Reader_takesLimit_7 : vm_D q_Reader_takesLimit.2.1 7 1 8 (.iconst 0) := vm_dD b_Reader_takesLimit_0 3 rfl rfl
theorem d_Reader_takesLimit_8 : vm_D q_Reader_takesLimit.2.1 8 1 9 (.ireturn) := vm_dD b_Reader_takesLimit_0 4 rfl rfl
def q_Morph_put : vm_Y := ("RepeatFree$Morph", cX2_put, 7, false, [])
def t_Morph_put_0 : List (Nat × Instr × Nat) := [(0, .iload_n 1, 1), (1, .ifCond .lt 8, 3), (4, .iload_n 1, 1), (5, .iconst 4, 1), (6, .if_icmp .lt 4, 3), (9, .return_, 1), (10, .iconst 0, 1), (11, .istore 5, 2), (13, .iload_n 3, 1), (14, .istore 6, 2), (16, .iload 6, 2), (18, .iload 4, 2), (20, .if_icmp .ge 37, 3), (23, .iload 5, 2), (25, .bipush 6, 2), (27, .if_icmp .ge 30, 3), (30, .aload_n 0, 1), (31, .getfield 20, 3), (34, .iload_n 1, 1), (35, .aaload, 1), (36, .iload 5, 2), (38, .aload_n 2, 1), (39, .iload 6, 2), (41, .invokevirtual 27, 3), (44, .bipush 97, 2), (46, .isub, 1), (47, .iastore, 1), (48, .iinc 5 1, 3), (51, .iinc 6 1, 3), (54, .goto (-38), 3), (57, .aload_n 0, 1), (58, .getfield 23, 3), (61, .iload_n 1, 1), (62, .iload 5, 2), (64, .iastore, 1), (65, .return_, 1)]
theorem b_Morph_put_0 : (t_Morph_put_0.all fun q => decide (decode q_Morph_put.2.1 q.1 = .ok (q.2.1, q.2.2))) = true := by decide +kernel
theorem d_Morph_put_0 : vm_D q_Morph_put.2.1 0 1 1 (.iload_n 1) := vm_dD b_Morph_put_0 0 rfl rfl
theorem d_Morph_put_1 : vm_B q_Morph_put.2.1 1 4 9 (fun o => .ifCond .lt o) := ⟨8, vm_db b_Morph_put_0 (i := 1) rfl, rfl, by decide⟩
theorem d_Morph_put_9 : vm_D q_Morph_put.2.1 9 1 10 (.return_) := vm_dD b_Morph_put_0 5 rfl rfl
theorem d_Morph_put_4 : vm_D q_Morph_put.2.1 4 1 5 (.iload_n 1) := vm_dD b_Morph_put_0 2 rfl rfl
theorem d_Morph_put_5 : vm_D q_Morph_put.2.1 5 1 6 (.iconst 4) := vm_dD b_Morph_put_0 3 rfl rfl
theorem d_Morph_put_6 : vm_B q_Morph_put.2.1 6 9 10 (fun o => .if_icmp .lt o) := ⟨4, vm_db b_Morph_put_0 (i := 4) rfl, rfl, by decide⟩
theorem d_Morph_put_10 : vm_D q_Morph_put.2.1 10 1 11 (.iconst 0) := vm_dD b_Morph_put_0 6 rfl rfl
theorem d_Morph_put_11 : vm_D q_Morph_put.2.1 11 2 13 (.istore 5) := vm_dD b_Morph_put_0 7 rfl rfl
theorem d_Morph_put_13 : vm_D q_Morph_put.2.1 13 1 14 (.iload_n 3) := vm_dD b_Morph_put_0 8 rfl rfl
theorem d_Morph_put_14 : vm_D q_Morph_put.2.1 14 2 16 (.istore 6) := vm_dD b_Morph_put_0 9 rfl rfl
theorem d_Morph_put_16 : vm_D q_Morph_put.2.1 16 2 18 (.iload 6) := vm_dD b_Morph_put_0 10 rfl rfl
theorem d_Morph_put_18 : vm_D q_Morph_put.2.1 18 2 20 (.iload 4) := vm_dD b_Morph_put_0 11 rfl rfl
theorem d_Morph_put_20 : vm_B q_Morph_put.2.1 20 23 57 (fun o => .if_icmp .ge o) := ⟨37, vm_db b_Morph_put_0 (i := 12) rfl, rfl, by decide⟩
theorem d_Morph_put_23 : vm_D q_Morph_put.2.1 23 2 25 (.iload 5) := vm_dD b_Morph_put_0 13 rfl rfl
theorem d_Morph_put_25 : vm_D q_Morph_put.2.1 25 2 27 (.bipush 6) := vm_dD b_Morph_put_0 14 rfl rfl
theorem d_Morph_put_27 : vm_B q_Morph_put.2.1 27 30 57 (fun o => .if_icmp .ge o) := ⟨30, vm_db b_Morph_put_0 (i := 15) rfl, rfl, by decide⟩
theorem d_Morph_put_30 : vm_D q_Morph_put.2.1 30 1 31 (.aload_n 0) := vm_dD b_Morph_put_0 16 rfl rfl
theorem d_Morph_put_31 : vm_D q_Morph_put.2.1 31 3 34 (.getfield 20) := vm_dD b_Morph_put_0 17 rfl rfl
theorem d_Morph_put_34 : vm_D q_Morph_put.2.1 34 1 35 (.iload_n 1) := vm_dD b_Morph_put_0 18 rfl rfl
theorem d_Morph_put_35 : vm_D q_Morph_put.2.1 35 1 36 (.aaload) := vm_dD b_Morph_put_0 19 rfl rfl
theorem d_Morph_put_36 : vm_D q_Morph_put.2.1 36 2 38 (.iload 5) := vm_dD b_Morph_put_0 20 rfl rfl
theorem d_Morph_put_38 : vm_D q_Morph_put.2.1 38 1 39 (.aload_n 2) := vm_dD b_Morph_put_0 21 rfl rfl
theorem d_Morph_put_39 : vm_D q_Morph_put.2.1 39 2 41 (.iload 6) := vm_dD b_Morph_put_0 22 rfl rfl
theorem d_Morph_put_41 : vm_D q_Morph_put.2.1 41 3 44 (.invokevirtual 27) := vm_dD b_Morph_put_0 23 rfl rfl
theorem d_Morph_put_44 : vm_D q_Morph_put.2.1 44 2 46 (.bipush 97) := vm_dD b_Morph_put_0 24 rfl rfl
theorem d_Morph_put_46 : vm_D q_Morph_put.2.1 46 1 47 (.isub) := vm_dD b_Morph_put_0 25 rfl rfl
theorem d_Morph_put_47 : vm_D q_Morph_put.2.1 47 1 48 (.iastore) := vm_dD b_Morph_put_0 26 rfl rfl
theorem d_Morph_put_48 : vm_D q_Morph_put.2.1 48 3 51 (.iinc 5 1) := vm_dD b_Morph_put_0 27 rfl rfl
theorem d_Morph_put_51 : vm_D q_Morph_put.2.1 51 3 54 (.iinc 6 1) := vm_dD b_Morph_put_0 28 rfl rfl
theorem d_Morph_put_54 : ∃ off : Int, decode q_Morph_put.2.1 54 = .ok (.goto off, 3) ∧ ((54 : Nat) : Int) + off = ((16 : Nat) : Int) := ⟨-38, vm_db b_Morph_put_0 (i := 29) rfl, by decide⟩
theorem d_Morph_put_57 : vm_D q_Morph_put.2.1 57 1 58 (.aload_n 0) := vm_dD b_Morph_put_0 30 rfl rfl
theorem d_Morph_put_58 : vm_D q_Morph_put.2.1 58 3 61 (.getfield 23) := vm_dD b_Morph_put_0 31 rfl rfl
theorem d_Morph_put_61 : vm_D q_Morph_put.2.1 61 1 62 (.iload_n 1) := vm_dD b_Morph_put_0 32 rfl rfl
theorem d_Morph_put_62 : vm_D q_Morph_put.2.1 62 2 64 (.iload 5) := vm_dD b_Morph_put_0 33 rfl rfl
theorem d_Morph_put_64 : vm_D q_Morph_put.2.1 64 1 65 (.iastore) := vm_dD b_Morph_put_0 34 rfl rfl
theorem d_Morph_put_65 : vm_D q_Morph_put.2.1 65 1 66 (.return_) := vm_dD b_Morph_put_0 35 rfl rfl
def q_Name_put : vm_Y := ("RepeatFree$Name", cX3_put, 5, false, [])
def t_Name_put_0 : List (Nat × Instr × Nat) := [(0, .aload_n 0, 1), (1, .iconst 0, 1), (2, .putfield 15, 3), (5, .iload_n 2, 1), (6, .istore 4, 2), (8, .iload 4, 2), (10, .iload_n 3, 1), (11, .if_icmp .ge 46, 3), (14, .aload_n 0, 1), (15, .getfield 15, 3), (18, .aload_n 0, 1), (19, .getfield 9, 3), (22, .arraylength, 1), (23, .if_icmp .ge 34, 3), (26, .aload_n 0, 1), (27, .getfield 9, 3), (30, .aload_n 0, 1), (31, .getfield 15, 3), (34, .aload_n 1, 1), (35, .iload 4, 2), (37, .invokevirtual 19, 3), (40, .iastore, 1), (41, .aload_n 0, 1), (42, .dup, 1), (43, .getfield 15, 3), (46, .iconst 1, 1), (47, .iadd, 1), (48, .putfield 15, 3), (51, .iinc 4 1, 3), (54, .goto (-46), 3), (57, .return_, 1)]
theorem b_Name_put_0 : (t_Name_put_0.all fun q => decide (decode q_Name_put.2.1 q.1 = .ok (q.2.1, q.2.2))) = true := by decide +kernel
theorem d_Name_put_0 : vm_D q_Name_put.2.1 0 1 1 (.aload_n 0) := vm_dD b_Name_put_0 0 rfl rfl
theorem d_Name_put_1 : vm_D q_Name_put.2.1 1 1 2 (.iconst 0) := vm_dD b_Name_put_0 1 rfl rfl
theorem d_Name_put_2 : vm_D q_Name_put.2.1 2 3 5 (.putfield 15) := vm_dD b_Name_put_0 2 rfl rfl
theorem d_Name_put_5 : vm_D q_Name_put.2.1 5 1 6 (.iload_n 2) := vm_dD b_Name_put_0 3 rfl rfl
theorem d_Name_put_6 : vm_D q_Name_put.2.1 6 2 8 (.istore 4) := vm_dD b_Name_put_0 4 rfl rfl
theorem d_Name_put_8 : vm_D q_Name_put.2.1 8 2 10 (.iload 4) := vm_dD b_Name_put_0 5 rfl rfl
theorem d_Name_put_10 : vm_D q_Name_put.2.1 10 1 11 (.iload_n 3) := vm_dD b_Name_put_0 6 rfl rfl
theorem d_Name_put_11 : vm_B q_Name_put.2.1 11 14 57 (fun o => .if_icmp .ge o) := ⟨46, vm_db b_Name_put_0 (i := 7) rfl, rfl, by decide⟩
theorem d_Name_put_14 : vm_D q_Name_put.2.1 14 1 15 (.aload_n 0) := vm_dD b_Name_put_0 8 rfl rfl
theorem d_Name_put_15 : vm_D q_Name_put.2.1 15 3 18 (.getfield 15) := vm_dD b_Name_put_0 9 rfl rfl
theorem d_Name_put_18 : vm_D q_Name_put.2.1 18 1 19 (.aload_n 0) := vm_dD b_Name_put_0 10 rfl rfl
theorem d_Name_put_19 : vm_D q_Name_put.2.1 19 3 22 (.getfield 9) := vm_dD b_Name_put_0 11 rfl rfl
theorem d_Name_put_22 : vm_D q_Name_put.2.1 22 1 23 (.arraylength) := vm_dD b_Name_put_0 12 rfl rfl
theorem d_Name_put_23 : vm_B q_Name_put.2.1 23 26 57 (fun o => .if_icmp .ge o) := ⟨34, vm_db b_Name_put_0 (i := 13) rfl, rfl, by decide⟩
theorem d_Name_put_26 : vm_D q_Name_put.2.1 26 1 27 (.aload_n 0) := vm_dD b_Name_put_0 14 rfl rfl
theorem d_Name_put_27 : vm_D q_Name_put.2.1 27 3 30 (.getfield 9) := vm_dD b_Name_put_0 15 rfl rfl
theorem d_Name_put_30 : vm_D q_Name_put.2.1 30 1 31 (.aload_n 0) := vm_dD b_Name_put_0 16 rfl rfl
theorem d_Name_put_31 : vm_D q_Name_put.2.1 31 3 34 (.getfield 15) := vm_dD b_Name_put_0 17 rfl rfl
theorem d_Name_put_34 : vm_D q_Name_put.2.1 34 1 35 (.aload_n 1) := vm_dD b_Name_put_0 18 rfl rfl
theorem d_Name_put_35 : vm_D q_Name_put.2.1 35 2 37 (.iload 4) := vm_dD b_Name_put_0 19 rfl rfl
theorem d_Name_put_37 : vm_D q_Name_put.2.1 37 3 40 (.invokevirtual 19) := vm_dD b_Name_put_0 20 rfl rfl
theorem d_Name_put_40 : vm_D q_Name_put.2.1 40 1 41 (.iastore) := vm_dD b_Name_put_0 21 rfl rfl
theorem d_Name_put_41 : vm_D q_Name_put.2.1 41 1 42 (.aload_n 0) := vm_dD b_Name_put_0 22 rfl rfl
theorem d_Name_put_42 : vm_D q_Name_put.2.1 42 1 43 (.dup) := vm_dD b_Name_put_0 23 rfl rfl
theorem d_Name_put_43 : vm_D q_Name_put.2.1 43 3 46 (.getfield 15) := vm_dD b_Name_put_0 24 rfl rfl
theorem d_Name_put_46 : vm_D q_Name_put.2.1 46 1 47 (.iconst 1) := vm_dD b_Name_put_0 25 rfl rfl
theorem d_Name_put_47 : vm_D q_Name_put.2.1 47 1 48 (.iadd) := vm_dD b_Name_put_0 26 rfl rfl
theorem d_Name_put_48 : vm_D q_Name_put.2.1 48 3 51 (.putfield 15) := vm_dD b_Name_put_0 27 rfl rfl
theorem d_Name_put_51 : vm_D q_Name_put.2.1 51 3 54 (.iinc 4 1) := vm_dD b_Name_put_0 28 rfl rfl
theorem d_Name_put_54 : ∃ off : Int, decode q_Name_put.2.1 54 = .ok (.goto off, 3) ∧ ((54 : Nat) : Int) + off = ((8 : Nat) : Int) := ⟨-46, vm_db b_Name_put_0 (i := 29) rfl, by decide⟩
theorem d_Name_put_57 : vm_D q_Name_put.2.1 57 1 58 (.return_) := vm_dD b_Name_put_0 30 rfl rfl
def q_Reader_isReserved : vm_Y := ("RepeatFree$Reader", cX4_isReserved, 1, false, [])
def t_Reader_isReserved_0 : List (Nat × Instr × Nat) := [(0, .aload_n 0, 1), (1, .ldc 39, 2), (3, .invokevirtual 99, 3), (6, .ifCond .ne 66, 3), (9, .aload_n 0, 1), (10, .ldc 105, 2), (12, .invokevirtual 99, 3), (15, .ifCond .ne 57, 3), (18, .aload_n 0, 1), (19, .ldc 128, 2), (21, .invokevirtual 99, 3), (24, .ifCond .ne 48, 3), (27, .aload_n 0, 1), (28, .ldc 130, 2), (30, .invokevirtual 99, 3), (33, .ifCond .ne 39, 3), (36, .aload_n 0, 1), (37, .ldc 132, 2), (39, .invokevirtual 99, 3), (42, .ifCond .ne 30, 3), (45, .aload_n 0, 1), (46, .ldc 113, 2), (48, .invokevirtual 99, 3), (51, .ifCond .ne 21, 3), (54, .aload_n 0, 1), (55, .ldc 118, 2), (57, .invokevirtual 99, 3), (60, .ifCond .ne 12, 3), (63, .aload_n 0, 1), (64, .ldc 123, 2), (66, .invokevirtual 99, 3), (69, .ifCond .eq 7, 3), (72, .iconst 1, 1), (73, .goto 4, 3), (76, .iconst 0, 1), (77, .ireturn, 1)]
theorem b_Reader_isReserved_0 : (t_Reader_isReserved_0.all fun q => decide (decode q_Reader_isReserved.2.1 q.1 = .ok (q.2.1, q.2.2))) = true := by decide +kernel
theorem d_Reader_isReserved_0 : vm_D q_Reader_isReserved.2.1 0 1 1 (.aload_n 0) := vm_dD b_Reader_isReserved_0 0 rfl rfl
theorem d_Reader_isReserved_1 : vm_D q_Reader_isReserved.2.1 1 2 3 (.ldc 39) := vm_dD b_Reader_isReserved_0 1 rfl rfl
theorem d_Reader_isReserved_3 : vm_D q_Reader_isReserved.2.1 3 3 6 (.invokevirtual 99) := vm_dD b_Reader_isReserved_0 2 rfl rfl
theorem d_Reader_isReserved_6 : vm_B q_Reader_isReserved.2.1 6 9 72 (fun o => .ifCond .ne o) := ⟨66, vm_db b_Reader_isReserved_0 (i := 3) rfl, rfl, by decide⟩
theorem d_Reader_isReserved_72 : vm_D q_Reader_isReserved.2.1 72 1 73 (.iconst 1) := vm_dD b_Reader_isReserved_0 32 rfl rfl
theorem d_Reader_isReserved_73 : ∃ off : Int, decode q_Reader_isReserved.2.1 73 = .ok (.goto off, 3) ∧ ((73 : Nat) : Int) + off = ((77 : Nat) : Int) := ⟨4, vm_db b_Reader_isReserved_0 (i := 33) rfl, by decide⟩
theorem d_Reader_isReserved_77 : vm_D q_Reader_isReserved.2.1 77 1 78 (.ireturn) := vm_dD b_Reader_isReserved_0 35 rfl rfl
theorem d_Reader_isReserved_9 : vm_D q_Reader_isReserved.2.1 9 1 10 (.aload_n 0) := vm_dD b_Reader_isReserved_0 4 rfl rfl
theorem d_Reader_isReserved_10 : vm_D q_Reader_isReserved.2.1 10 2 12 (.ldc 105) := vm_dD b_Reader_isReserved_0 5 rfl rfl
theorem d_Reader_isReserved_12 : vm_D q_Reader_isReserved.2.1 12 3 15 (.invokevirtual 99) := vm_dD b_Reader_isReserved_0 6 rfl rfl
theorem d_Reader_isReserved_15 : vm_B q_Reader_isReserved.2.1 15 18 72 (fun o => .ifCond .ne o) := ⟨57, vm_db b_Reader_isReserved_0 (i := 7) rfl, rfl, by decide⟩
theorem d_Reader_isReserved_18 : vm_D q_Reader_isReserved.2.1 18 1 19 (.aload_n 0) := vm_dD b_Reader_isReserved_0 8 rfl rfl
theorem d_Reader_isReserved_19 : vm_D q_Reader_isReserved.2.1 19 2 21 (.ldc 128) := vm_dD b_Reader_isReserved_0 9 rfl rfl
theorem d_Reader_isReserved_21 : vm_D q_Reader_isReserved.2.1 21 3 24 (.invokevirtual 99) := vm_dD b_Reader_isReserved_0 10 rfl rfl
theorem d_Reader_isReserved_24 : vm_B q_Reader_isReserved.2.1 24 27 72 (fun o => .ifCond .ne o) := ⟨48, vm_db b_Reader_isReserved_0 (i := 11) rfl, rfl, by decide⟩
theorem d_Reader_isReserved_27 : vm_D q_Reader_isReserved.2.1 27 1 28 (.aload_n 0) := vm_dD b_Reader_isReserved_0 12 rfl rfl
theorem d_Reader_isReserved_28 : vm_D q_Reader_isReserved.2.1 28 2 30 (.ldc 130) := vm_dD b_Reader_isReserved_0 13 rfl rfl
theorem d_Reader_isReserved_30 : vm_D q_Reader_isReserved.2.1 30 3 33 (.invokevirtual 99) := vm_dD b_Reader_isReserved_0 14 rfl rfl
theorem d_Reader_isReserved_33 : vm_B q_Reader_isReserved.2.1 33 36 72 (fun o => .ifCond .ne o) := ⟨39, vm_db b_Reader_isReserved_0 (i := 15) rfl, rfl, by decide⟩
theorem d_Reader_isReserved_36 : vm_D q_Reader_isReserved.2.1 36 1 37 (.aload_n 0) := vm_dD b_Reader_isReserved_0 16 rfl rfl
theorem d_Reader_isReserved_37 : vm_D q_Reader_isReserved.2.1 37 2 39 (.ldc 132) := vm_dD b_Reader_isReserved_0 17 rfl rfl
theorem d_Reader_isReserved_39 : vm_D q_Reader_isReserved.2.1 39 3 42 (.invokevirtual 99) := vm_dD b_Reader_isReserved_0 18 rfl rfl
theorem d_Reader_isReserved_42 : vm_B q_Reader_isReserved.2.1 42 45 72 (fun o => .ifCond .ne o) := ⟨30, vm_db b_Reader_isReserved_0 (i := 19) rfl, rfl, by decide⟩
theorem d_Reader_isReserved_45 : vm_D q_Reader_isReserved.2.1 45 1 46 (.aload_n 0) := vm_dD b_Reader_isReserved_0 20 rfl rfl
theorem d_Reader_isReserved_46 : vm_D q_Reader_isReserved.2.1 46 2 48 (.ldc 113) := vm_dD b_Reader_isReserved_0 21 rfl rfl
theorem d_Reader_isReserved_48 : vm_D q_Reader_isReserved.2.1 48 3 51 (.invokevirtual 99) := vm_dD b_Reader_isReserved_0 22 rfl rfl
theorem d_Reader_isReserved_51 : vm_B q_Reader_isReserved.2.1 51 54 72 (fun o => .ifCond .ne o) := ⟨21, vm_db b_Reader_isReserved_0 (i := 23) rfl, rfl, by decide⟩
theorem d_Reader_isReserved_54 : vm_D q_Reader_isReserved.2.1 54 1 55 (.aload_n 0) := vm_dD b_Reader_isReserved_0 24 rfl rfl
theorem d_Reader_isReserved_55 : vm_D q_Reader_isReserved.2.1 55 2 57 (.ldc 118) := vm_dD b_Reader_isReserved_0 25 rfl rfl
theorem d_Reader_isReserved_57 : vm_D q_Reader_isReserved.2.1 57 3 60 (.invokevirtual 99) := vm_dD b_Reader_isReserved_0 26 rfl rfl
theorem d_Reader_isReserved_60 : vm_B q_Reader_isReserved.2.1 60 63 72 (fun o => .ifCond .ne o) := ⟨12, vm_db b_Reader_isReserved_0 (i := 27) rfl, rfl, by decide⟩
theorem d_Reader_isReserved_63 : vm_D q_Reader_isReserved.2.1 63 1 64 (.aload_n 0) := vm_dD b_Reader_isReserved_0 28 rfl rfl
theorem d_Reader_isReserved_64 : vm_D q_Reader_isReserved.2.1 64 2 66 (.ldc 123) := vm_dD b_Reader_isReserved_0 29 rfl rfl
theorem d_Reader_isReserved_66 : vm_D q_Reader_isReserved.2.1 66 3 69 (.invokevirtual 99) := vm_dD b_Reader_isReserved_0 30 rfl rfl
theorem d_Reader_isReserved_69 : vm_B q_Reader_isReserved.2.1 69 72 76 (fun o => .ifCond .eq o) := ⟨7, vm_db b_Reader_isReserved_0 (i := 31) rfl, rfl, by decide⟩
theorem d_Reader_isReserved_76 : vm_D q_Reader_isReserved.2.1 76 1 77 (.iconst 0) := vm_dD b_Reader_isReserved_0 34 rfl rfl
def q_Told_mapAt : vm_Y := ("RepeatFree$Told", cX9_mapAt, 2, false, [])
def t_Told_mapAt_0 : List (Nat × Instr × Nat) := [(0, .iload_n 1, 1), (1, .ifCond .lt 21, 3), (4, .iload_n 1, 1), (5, .aload_n 0, 1), (6, .getfield 11, 3), (9, .arraylength, 1), (10, .if_icmp .ge 12, 3), (13, .aload_n 0, 1), (14, .getfield 11, 3), (17, .iload_n 1, 1), (18, .aaload, 1), (19, .goto 4, 3), (22, .aconst_null, 1), (23, .areturn, 1)]
theorem b_Told_mapAt_0 : (t_Told_mapAt_0.all fun q => decide (decode q_Told_mapAt.2.1 q.1 = .ok (q.2.1, q.2.2))) = true := by decide +kernel
theorem d_Told_mapAt_0 : vm_D q_Told_mapAt.2.1 0 1 1 (.iload_n 1) := vm_dD b_Told_mapAt_0 0 rfl rfl
theorem d_Told_mapAt_1 : vm_B q_Told_mapAt.2.1 1 4 22 (fun o => .ifCond .lt o) := ⟨21, vm_db b_Told_mapAt_0 (i := 1) rfl, rfl, by decide⟩
theorem d_Told_mapAt_22 : vm_D q_Told_mapAt.2.1 22 1 23 (.aconst_null) := vm_dD b_Told_mapAt_0 12 rfl rfl
theorem d_Told_mapAt_23 : vm_D q_Told_mapAt.2.1 23 1 24 (.areturn) := vm_dD b_Told_mapAt_0 13 rfl rfl
theorem d_Told_mapAt_4 : vm_D q_Told_mapAt.2.1 4 1 5 (.iload_n 1) := vm_dD b_Told_mapAt_0 2 rfl rfl
theorem d_Told_mapAt_5 : vm_D q_Told_mapAt.2.1 5 1 6 (.aload_n 0) := vm_dD b_Told_mapAt_0 3 rfl rfl
theorem d_Told_mapAt_6 : vm_D q_Told_mapAt.2.1 6 3 9 (.getfield 11) := vm_dD b_Told_mapAt_0 4 rfl rfl
theorem d_Told_mapAt_9 : vm_D q_Told_mapAt.2.1 9 1 10 (.arraylength) := vm_dD b_Told_mapAt_0 5 rfl rfl
theorem d_Told_mapAt_10 : vm_B q_Told_mapAt.2.1 10 13 22 (fun o => .if_icmp .ge o) := ⟨12, vm_db b_Told_mapAt_0 (i := 6) rfl, rfl, by decide⟩
theorem d_Told_mapAt_13 : vm_D q_Told_mapAt.2.1 13 1 14 (.aload_n 0) := vm_dD b_Told_mapAt_0 7 rfl rfl
theorem d_Told_mapAt_14 : vm_D q_Told_mapAt.2.1 14 3 17 (.getfield 11) := vm_dD b_Told_mapAt_0 8 rfl rfl
theorem d_Told_mapAt_17 : vm_D q_Told_mapAt.2.1 17 1 18 (.iload_n 1) := vm_dD b_Told_mapAt_0 9 rfl rfl
theorem d_Told_mapAt_18 : vm_D q_Told_mapAt.2.1 18 1 19 (.aaload) := vm_dD b_Told_mapAt_0 10 rfl rfl
theorem d_Told_mapAt_19 : ∃ off : Int, decode q_Told_mapAt.2.1 19 = .ok (.goto off, 3) ∧ ((19 : Nat) : Int) + off = ((23 : Nat) : Int) := ⟨4, vm_db b_Told_mapAt_0 (i := 11) rfl, by decide⟩
def q_Told_isNamed : vm_Y := ("RepeatFree$Told", cX9_isNamed, 6, false, [])
def t_Told_isNamed_0 : List (Nat × Instr × Nat) := [(0, .iconst 0, 1), (1, .istore 4, 2), (3, .iload 4, 2), (5, .aload_n 0, 1), (6, .getfield 36, 3), (9, .if_icmp .ge 38, 3), (12, .aload_n 0, 1), (13, .iload 4, 2), (15, .invokevirtual 48, 3), (18, .astore 5, 2), (20, .aload 5, 2), (22, .ifnull 19, 3), (25, .aload 5, 2), (27, .getfield 52, 3), (30, .aload_n 1, 1), (31, .iload_n 2, 1), (32, .iload_n 3, 1), (33, .invokevirtual 56, 3), (36, .ifCond .eq 5, 3), (39, .iconst 1, 1), (40, .ireturn, 1), (41, .iinc 4 1, 3), (44, .goto (-41), 3), (47, .iconst 0, 1), (48, .istore 4, 2), (50, .iload 4, 2), (52, .aload_n 0, 1), (53, .getfield 39, 3), (56, .if_icmp .ge 38, 3), (59, .aload_n 0, 1), (60, .iload 4, 2), (62, .invokevirtual 62, 3), (65, .astore 5, 2), (67, .aload 5, 2), (69, .ifnull 19, 3), (72, .aload 5, 2), (74, .getfield 66, 3), (77, .aload_n 1, 1), (78, .iload_n 2, 1), (79, .iload_n 3, 1), (80, .invokevirtual 56, 3), (83, .ifCond .eq 5, 3), (86, .iconst 1, 1), (87, .ireturn, 1), (88, .iinc 4 1, 3), (91, .goto (-41), 3), (94, .iconst 0, 1), (95, .ireturn, 1)]
theorem b_Told_isNamed_0 : (t_Told_isNamed_0.all fun q => decide (decode q_Told_isNamed.2.1 q.1 = .ok (q.2.1, q.2.2))) = true := by decide +kernel
theorem d_Told_isNamed_0 : vm_D q_Told_isNamed.2.1 0 1 1 (.iconst 0) := vm_dD b_Told_isNamed_0 0 rfl rfl
theorem d_Told_isNamed_1 : vm_D q_Told_isNamed.2.1 1 2 3 (.istore 4) := vm_dD b_Told_isNamed_0 1 rfl rfl
theorem d_Told_isNamed_3 : vm_D q_Told_isNamed.2.1 3 2 5 (.iload 4) := vm_dD b_Told_isNamed_0 2 rfl rfl
theorem d_Told_isNamed_5 : vm_D q_Told_isNamed.2.1 5 1 6 (.aload_n 0) := vm_dD b_Told_isNamed_0 3 rfl rfl
theorem d_Told_isNamed_6 : vm_D q_Told_isNamed.2.1 6 3 9 (.getfield 36) := vm_dD b_Told_isNamed_0 4 rfl rfl
theorem d_Told_isNamed_9 : vm_B q_Told_isNamed.2.1 9 12 47 (fun o => .if_icmp .ge o) := ⟨38, vm_db b_Told_isNamed_0 (i := 5) rfl, rfl, by decide⟩
theorem d_Told_isNamed_12 : vm_D q_Told_isNamed.2.1 12 1 13 (.aload_n 0) := vm_dD b_Told_isNamed_0 6 rfl rfl
theorem d_Told_isNamed_13 : vm_D q_Told_isNamed.2.1 13 2 15 (.iload 4) := vm_dD b_Told_isNamed_0 7 rfl rfl
theorem d_Told_isNamed_15 : vm_D q_Told_isNamed.2.1 15 3 18 (.invokevirtual 48) := vm_dD b_Told_isNamed_0 8 rfl rfl
theorem d_Told_isNamed_18 : vm_D q_Told_isNamed.2.1 18 2 20 (.astore 5) := vm_dD b_Told_isNamed_0 9 rfl rfl
theorem d_Told_isNamed_20 : vm_D q_Told_isNamed.2.1 20 2 22 (.aload 5) := vm_dD b_Told_isNamed_0 10 rfl rfl
theorem d_Told_isNamed_22 : vm_B q_Told_isNamed.2.1 22 25 41 (fun o => .ifnull o) := ⟨19, vm_db b_Told_isNamed_0 (i := 11) rfl, rfl, by decide⟩
theorem d_Told_isNamed_41 : vm_D q_Told_isNamed.2.1 41 3 44 (.iinc 4 1) := vm_dD b_Told_isNamed_0 21 rfl rfl
theorem d_Told_isNamed_44 : ∃ off : Int, decode q_Told_isNamed.2.1 44 = .ok (.goto off, 3) ∧ ((44 : Nat) : Int) + off = ((3 : Nat) : Int) := ⟨-41, vm_db b_Told_isNamed_0 (i := 22) rfl, by decide⟩
theorem d_Told_isNamed_25 : vm_D q_Told_isNamed.2.1 25 2 27 (.aload 5) := vm_dD b_Told_isNamed_0 12 rfl rfl
theorem d_Told_isNamed_27 : vm_D q_Told_isNamed.2.1 27 3 30 (.getfield 52) := vm_dD b_Told_isNamed_0 13 rfl rfl
theorem d_Told_isNamed_30 : vm_D q_Told_isNamed.2.1 30 1 31 (.aload_n 1) := vm_dD b_Told_isNamed_0 14 rfl rfl
theorem d_Told_isNamed_31 : vm_D q_Told_isNamed.2.1 31 1 32 (.iload_n 2) := vm_dD b_Told_isNamed_0 15 rfl rfl
theorem d_Told_isNamed_32 : vm_D q_Told_isNamed.2.1 32 1 33 (.iload_n 3) := vm_dD b_Told_isNamed_0 16 rfl rfl
theorem d_Told_isNamed_33 : vm_D q_Told_isNamed.2.1 33 3 36 (.invokevirtual 56) := vm_dD b_Told_isNamed_0 17 rfl rfl
theorem d_Told_isNamed_36 : vm_B q_Told_isNamed.2.1 36 39 41 (fun o => .ifCond .eq o) := ⟨5, vm_db b_Told_isNamed_0 (i := 18) rfl, rfl, by decide⟩
theorem d_Told_isNamed_39 : vm_D q_Told_isNamed.2.1 39 1 40 (.iconst 1) := vm_dD b_Told_isNamed_0 19 rfl rfl
theorem d_Told_isNamed_40 : vm_D q_Told_isNamed.2.1 40 1 41 (.ireturn) := vm_dD b_Told_isNamed_0 20 rfl rfl
theorem d_Told_isNamed_47 : vm_D q_Told_isNamed.2.1 47 1 48 (.iconst 0) := vm_dD b_Told_isNamed_0 23 rfl rfl
theorem d_Told_isNamed_48 : vm_D q_Told_isNamed.2.1 48 2 50 (.istore 4) := vm_dD b_Told_isNamed_0 24 rfl rfl
theorem d_Told_isNamed_50 : vm_D q_Told_isNamed.2.1 50 2 52 (.iload 4) := vm_dD b_Told_isNamed_0 25 rfl rfl
theorem d_Told_isNamed_52 : vm_D q_Told_isNamed.2.1 52 1 53 (.aload_n 0) := vm_dD b_Told_isNamed_0 26 rfl rfl
theorem d_Told_isNamed_53 : vm_D q_Told_isNamed.2.1 53 3 56 (.getfield 39) := vm_dD b_Told_isNamed_0 27 rfl rfl
theorem d_Told_isNamed_56 : vm_B q_Told_isNamed.2.1 56 59 94 (fun o => .if_icmp .ge o) := ⟨38, vm_db b_Told_isNamed_0 (i := 28) rfl, rfl, by decide⟩
theorem d_Told_isNamed_59 : vm_D q_Told_isNamed.2.1 59 1 60 (.aload_n 0) := vm_dD b_Told_isNamed_0 29 rfl rfl
theorem d_Told_isNamed_60 : vm_D q_Told_isNamed.2.1 60 2 62 (.iload 4) := vm_dD b_Told_isNamed_0 30 rfl rfl
theorem d_Told_isNamed_62 : vm_D q_Told_isNamed.2.1 62 3 65 (.invokevirtual 62) := vm_dD b_Told_isNamed_0 31 rfl rfl
theorem d_Told_isNamed_65 : vm_D q_Told_isNamed.2.1 65 2 67 (.astore 5) := vm_dD b_Told_isNamed_0 32 rfl rfl
theorem d_Told_isNamed_67 : vm_D q_Told_isNamed.2.1 67 2 69 (.aload 5) := vm_dD b_Told_isNamed_0 33 rfl rfl
theorem d_Told_isNamed_69 : vm_B q_Told_isNamed.2.1 69 72 88 (fun o => .ifnull o) := ⟨19, vm_db b_Told_isNamed_0 (i := 34) rfl, rfl, by decide⟩
theorem d_Told_isNamed_88 : vm_D q_Told_isNamed.2.1 88 3 91 (.iinc 4 1) := vm_dD b_Told_isNamed_0 44 rfl rfl
theorem d_Told_isNamed_91 : ∃ off : Int, decode q_Told_isNamed.2.1 91 = .ok (.goto off, 3) ∧ ((91 : Nat) : Int) + off = ((50 : Nat) : Int) := ⟨-41, vm_db b_Told_isNamed_0 (i := 45) rfl, by decide⟩
theorem d_Told_isNamed_72 : vm_D q_Told_isNamed.2.1 72 2 74 (.aload 5) := vm_dD b_Told_isNamed_0 35 rfl rfl
theorem d_Told_isNamed_74 : vm_D q_Told_isNamed.2.1 74 3 77 (.getfield 66) := vm_dD b_Told_isNamed_0 36 rfl rfl
theorem d_Told_isNamed_77 : vm_D q_Told_isNamed.2.1 77 1 78 (.aload_n 1) := vm_dD b_Told_isNamed_0 37 rfl rfl
theorem d_Told_isNamed_78 : vm_D q_Told_isNamed.2.1 78 1 79 (.iload_n 2) := vm_dD b_Told_isNamed_0 38 rfl rfl
theorem d_Told_isNamed_79 : vm_D q_Told_isNamed.2.1 79 1 80 (.iload_n 3) := vm_dD b_Told_isNamed_0 39 rfl rfl
theorem d_Told_isNamed_80 : vm_D q_Told_isNamed.2.1 80 3 83 (.invokevirtual 56) := vm_dD b_Told_isNamed_0 40 rfl rfl
theorem d_Told_isNamed_83 : vm_B q_Told_isNamed.2.1 83 86 88 (fun o => .ifCond .eq o) := ⟨5, vm_db b_Told_isNamed_0 (i := 41) rfl, rfl, by decide⟩
theorem d_Told_isNamed_86 : vm_D q_Told_isNamed.2.1 86 1 87 (.iconst 1) := vm_dD b_Told_isNamed_0 42 rfl rfl
theorem d_Told_isNamed_87 : vm_D q_Told_isNamed.2.1 87 1 88 (.ireturn) := vm_dD b_Told_isNamed_0 43 rfl rfl
theorem d_Told_isNamed_94 : vm_D q_Told_isNamed.2.1 94 1 95 (.iconst 0) := vm_dD b_Told_isNamed_0 46 rfl rfl
theorem d_Told_isNamed_95 : vm_D q_Told_isNamed.2.1 95 1 96 (.ireturn) := vm_dD b_Told_isNamed_0 47 rfl rfl
def q_Reader_takesNewName : vm_Y := ("RepeatFree$Reader", cX4_takesNewName, 3, false, [])
def t_Reader_takesNewName_0 : List (Nat × Instr × Nat) := [(0, .aload_n 0, 1), (1, .invokevirtual 95, 3), (4, .ifCond .ne 5, 3), (7, .iconst 0, 1), (8, .ireturn, 1), (9, .aload_n 0, 1), (10, .getfield 18, 3), (13, .aload_n 0, 1), (14, .getfield 25, 3), (17, .isub, 1), (18, .bipush 6, 2), (20, .if_icmp .gt 29, 3), (23, .aload_n 0, 1), (24, .invokevirtual 138, 3), (27, .ifCond .ne 22, 3), (30, .aload_n 1, 1), (31, .aload_n 0, 1), (32, .getfield 12, 3), (35, .aload_n 0, 1), (36, .getfield 25, 3), (39, .aload_n 0, 1), (40, .getfield 18, 3), (43, .invokevirtual 141, 3), (46, .ifCond .eq 12, 3), (49, .aload_n 0, 1), (50, .aload_n 0, 1), (51, .getfield 25, 3), (54, .invokevirtual 75, 3), (57, .ireturn, 1), (58, .aload_n 2, 1), (59, .aload_n 0, 1), (60, .getfield 12, 3), (63, .aload_n 0, 1), (64, .getfield 25, 3), (67, .aload_n 0, 1), (68, .getfield 18, 3), (71, .invokevirtual 145, 3), (74, .iconst 1, 1), (75, .ireturn, 1)]
theorem b_Reader_takesNewName_0 : (t_Reader_takesNewName_0.all fun q => decide (decode q_Reader_takesNewName.2.1 q.1 = .ok (q.2.1, q.2.2))) = true := by decide +kernel
theorem d_Reader_takesNewName_0 : vm_D q_Reader_takesNewName.2.1 0 1 1 (.aload_n 0) := vm_dD b_Reader_takesNewName_0 0 rfl rfl
theorem d_Reader_takesNewName_1 : vm_D q_Reader_takesNewName.2.1 1 3 4 (.invokevirtual 95) := vm_dD b_Reader_takesNewName_0 1 rfl rfl
theorem d_Reader_takesNewName_4 : vm_B q_Reader_takesNewName.2.1 4 7 9 (fun o => .ifCond .ne o) := ⟨5, vm_db b_Reader_takesNewName_0 (i := 2) rfl, rfl, by decide⟩
theorem d_Reader_takesNewName_9 : vm_D q_Reader_takesNewName.2.1 9 1 10 (.aload_n 0) := vm_dD b_Reader_takesNewName_0 5 rfl rfl
theorem d_Reader_takesNewName_10 : vm_D q_Reader_takesNewName.2.1 10 3 13 (.getfield 18) := vm_dD b_Reader_takesNewName_0 6 rfl rfl
theorem d_Reader_takesNewName_13 : vm_D q_Reader_takesNewName.2.1 13 1 14 (.aload_n 0) := vm_dD b_Reader_takesNewName_0 7 rfl rfl
theorem d_Reader_takesNewName_14 : vm_D q_Reader_takesNewName.2.1 14 3 17 (.getfield 25) := vm_dD b_Reader_takesNewName_0 8 rfl rfl
theorem d_Reader_takesNewName_17 : vm_D q_Reader_takesNewName.2.1 17 1 18 (.isub) := vm_dD b_Reader_takesNewName_0 9 rfl rfl
theorem d_Reader_takesNewName_18 : vm_D q_Reader_takesNewName.2.1 18 2 20 (.bipush 6) := vm_dD b_Reader_takesNewName_0 10 rfl rfl
theorem d_Reader_takesNewName_20 : vm_B q_Reader_takesNewName.2.1 20 23 49 (fun o => .if_icmp .gt o) := ⟨29, vm_db b_Reader_takesNewName_0 (i := 11) rfl, rfl, by decide⟩
theorem d_Reader_takesNewName_49 : vm_D q_Reader_takesNewName.2.1 49 1 50 (.aload_n 0) := vm_dD b_Reader_takesNewName_0 24 rfl rfl
theorem d_Reader_takesNewName_50 : vm_D q_Reader_takesNewName.2.1 50 1 51 (.aload_n 0) := vm_dD b_Reader_takesNewName_0 25 rfl rfl
theorem d_Reader_takesNewName_51 : vm_D q_Reader_takesNewName.2.1 51 3 54 (.getfield 25) := vm_dD b_Reader_takesNewName_0 26 rfl rfl
theorem d_Reader_takesNewName_54 : vm_D q_Reader_takesNewName.2.1 54 3 57 (.invokevirtual 75) := vm_dD b_Reader_takesNewName_0 27 rfl rfl
theorem d_Reader_takesNewName_57 : vm_D q_Reader_takesNewName.2.1 57 1 58 (.ireturn) := vm_dD b_Reader_takesNewName_0 28 rfl rfl
theorem d_Reader_takesNewName_23 : vm_D q_Reader_takesNewName.2.1 23 1 24 (.aload_n 0) := vm_dD b_Reader_takesNewName_0 12 rfl rfl
theorem d_Reader_takesNewName_24 : vm_D q_Reader_takesNewName.2.1 24 3 27 (.invokevirtual 138) := vm_dD b_Reader_takesNewName_0 13 rfl rfl
theorem d_Reader_takesNewName_27 : vm_B q_Reader_takesNewName.2.1 27 30 49 (fun o => .ifCond .ne o) := ⟨22, vm_db b_Reader_takesNewName_0 (i := 14) rfl, rfl, by decide⟩
theorem d_Reader_takesNewName_30 : vm_D q_Reader_takesNewName.2.1 30 1 31 (.aload_n 1) := vm_dD b_Reader_takesNewName_0 15 rfl rfl
theorem d_Reader_takesNewName_31 : vm_D q_Reader_takesNewName.2.1 31 1 32 (.aload_n 0) := vm_dD b_Reader_takesNewName_0 16 rfl rfl
theorem d_Reader_takesNewName_32 : vm_D q_Reader_takesNewName.2.1 32 3 35 (.getfield 12) := vm_dD b_Reader_takesNewName_0 17 rfl rfl
theorem d_Reader_takesNewName_35 : vm_D q_Reader_takesNewName.2.1 35 1 36 (.aload_n 0) := vm_dD b_Reader_takesNewName_0 18 rfl rfl
theorem d_Reader_takesNewName_36 : vm_D q_Reader_takesNewName.2.1 36 3 39 (.getfield 25) := vm_dD b_Reader_takesNewName_0 19 rfl rfl
theorem d_Reader_takesNewName_39 : vm_D q_Reader_takesNewName.2.1 39 1 40 (.aload_n 0) := vm_dD b_Reader_takesNewName_0 20 rfl rfl
theorem d_Reader_takesNewName_40 : vm_D q_Reader_takesNewName.2.1 40 3 43 (.getfield 18) := vm_dD b_Reader_takesNewName_0 21 rfl rfl
theorem d_Reader_takesNewName_43 : vm_D q_Reader_takesNewName.2.1 43 3 46 (.invokevirtual 141) := vm_dD b_Reader_takesNewName_0 22 rfl rfl
theorem d_Reader_takesNewName_46 : vm_B q_Reader_takesNewName.2.1 46 49 58 (fun o => .ifCond .eq o) := ⟨12, vm_db b_Reader_takesNewName_0 (i := 23) rfl, rfl, by decide⟩
theorem d_Reader_takesNewName_58 : vm_D q_Reader_takesNewName.2.1 58 1 59 (.aload_n 2) := vm_dD b_Reader_takesNewName_0 29 rfl rfl
theorem d_Reader_takesNewName_59 : vm_D q_Reader_takesNewName.2.1 59 1 60 (.aload_n 0) := vm_dD b_Reader_takesNewName_0 30 rfl rfl
theorem d_Reader_takesNewName_60 : vm_D q_Reader_takesNewName.2.1 60 3 63 (.getfield 12) := vm_dD b_Reader_takesNewName_0 31 rfl rfl
theorem d_Reader_takesNewName_63 : vm_D q_Reader_takesNewName.2.1 63 1 64 (.aload_n 0) := vm_dD b_Reader_takesNewName_0 32 rfl rfl
theorem d_Reader_takesNewName_64 : vm_D q_Reader_takesNewName.2.1 64 3 67 (.getfield 25) := vm_dD b_Reader_takesNewName_0 33 rfl rfl
theorem d_Reader_takesNewName_67 : vm_D q_Reader_takesNewName.2.1 67 1 68 (.aload_n 0) := vm_dD b_Reader_takesNewName_0 34 rfl rfl
theorem d_Reader_takesNewName_68 : vm_D q_Reader_takesNewName.2.1 68 3 71 (.getfield 18) := vm_dD b_Reader_takesNewName_0 35 rfl rfl
theorem d_Reader_takesNewName_71 : vm_D q_Reader_takesNewName.2.1 71 3 74 (.invokevirtual 145) := vm_dD b_Reader_takesNewName_0 36 rfl rfl
theorem d_Reader_takesNewName_74 : vm_D q_Reader_takesNewName.2.1 74 1 75 (.iconst 1) := vm_dD b_Reader_takesNewName_0 37 rfl rfl
theorem d_Reader_takesNewName_75 : vm_D q_Reader_takesNewName.2.1 75 1 76 (.ireturn) := vm_dD b_Reader_takesNewName_0 38 rfl rfl
theorem d_Reader_takesNewName_7 : vm_D q_Reader_takesNewName.2.1 7 1 8 (.iconst 0) := vm_dD b_Reader_takesNewName_0 3 rfl rfl
theorem d_Reader_takesNewName_8 : vm_D q_Reader_takesNewName.2.1 8 1 9 (.ireturn) := vm_dD b_Reader_takesNewName_0 4 rfl rfl
def q_Reader_takesPart : vm_Y := ("RepeatFree$Reader", cX4_takesPart, 7, false, [])
def t_Reader_takesPart_0 : List (Nat × Instr × Nat) := [(0, .aload_n 0, 1), (1, .invokevirtual 95, 3), (4, .ifCond .ne 5, 3), (7, .iconst 0, 1), (8, .ireturn, 1), (9, .aload_n 0, 1), (10, .getfield 18, 3), (13, .aload_n 0, 1), (14, .getfield 25, 3), (17, .isub, 1), (18, .iload_n 3, 1), (19, .if_icmp .gt 7, 3), (22, .iconst 1, 1), (23, .goto 4, 3), (26, .iconst 0, 1), (27, .istore 4, 2), (29, .aload_n 0, 1), (30, .getfield 25, 3), (33, .istore 5, 2), (35, .iload 5, 2), (37, .aload_n 0, 1), (38, .getfield 18, 3), (41, .if_icmp .ge 46, 3), (44, .aload_n 0, 1), (45, .getfield 12, 3), (48, .iload 5, 2), (50, .invokevirtual 68, 3), (53, .istore 6, 2), (55, .iload 4, 2), (57, .ifCond .eq 21, 3), (60, .iload 6, 2), (62, .iload_n 1, 1), (63, .if_icmp .lt 15, 3), (66, .iload 6, 2), (68, .iload_n 1, 1), (69, .iload_n 2, 1), (70, .iadd, 1), (71, .if_icmp .ge 7, 3), (74, .iconst 1, 1), (75, .goto 4, 3), (78, .iconst 0, 1), (79, .istore 4, 2), (81, .iinc 5 1, 3), (84, .goto (-49), 3), (87, .iload 4, 2), (89, .ifCond .ne 14, 3), (92, .aload_n 0, 1), (93, .aload_n 0, 1), (94, .getfield 25, 3), (97, .invokevirtual 75, 3), (100, .ifCond .eq 7, 3), (103, .iconst 1, 1), (104, .goto 4, 3), (107, .iconst 0, 1), (108, .ireturn, 1)]
theorem b_Reader_takesPart_0 : (t_Reader_takesPart_0.all fun q => decide (decode q_Reader_takesPart.2.1 q.1 = .ok (q.2.1, q.2.2))) = true := by decide +kernel
theorem d_Reader_takesPart_0 : vm_D q_Reader_takesPart.2.1 0 1 1 (.aload_n 0) := vm_dD b_Reader_takesPart_0 0 rfl rfl
theorem d_Reader_takesPart_1 : vm_D q_Reader_takesPart.2.1 1 3 4 (.invokevirtual 95) := vm_dD b_Reader_takesPart_0 1 rfl rfl
theorem d_Reader_takesPart_4 : vm_B q_Reader_takesPart.2.1 4 7 9 (fun o => .ifCond .ne o) := ⟨5, vm_db b_Reader_takesPart_0 (i := 2) rfl, rfl, by decide⟩
theorem d_Reader_takesPart_9 : vm_D q_Reader_takesPart.2.1 9 1 10 (.aload_n 0) := vm_dD b_Reader_takesPart_0 5 rfl rfl
theorem d_Reader_takesPart_10 : vm_D q_Reader_takesPart.2.1 10 3 13 (.getfield 18) := vm_dD b_Reader_takesPart_0 6 rfl rfl
theorem d_Reader_takesPart_13 : vm_D q_Reader_takesPart.2.1 13 1 14 (.aload_n 0) := vm_dD b_Reader_takesPart_0 7 rfl rfl
theorem d_Reader_takesPart_14 : vm_D q_Reader_takesPart.2.1 14 3 17 (.getfield 25) := vm_dD b_Reader_takesPart_0 8 rfl rfl
theorem d_Reader_takesPart_17 : vm_D q_Reader_takesPart.2.1 17 1 18 (.isub) := vm_dD b_Reader_takesPart_0 9 rfl rfl
theorem d_Reader_takesPart_18 : vm_D q_Reader_takesPart.2.1 18 1 19 (.iload_n 3) := vm_dD b_Reader_takesPart_0 10 rfl rfl
theorem d_Reader_takesPart_19 : vm_B q_Reader_takesPart.2.1 19 22 26 (fun o => .if_icmp .gt o) := ⟨7, vm_db b_Reader_takesPart_0 (i := 11) rfl, rfl, by decide⟩
theorem d_Reader_takesPart_27 : vm_D q_Reader_takesPart.2.1 27 2 29 (.istore 4) := vm_dD b_Reader_takesPart_0 15 rfl rfl
theorem d_Reader_takesPart_29 : vm_D q_Reader_takesPart.2.1 29 1 30 (.aload_n 0) := vm_dD b_Reader_takesPart_0 16 rfl rfl
theorem d_Reader_takesPart_30 : vm_D q_Reader_takesPart.2.1 30 3 33 (.getfield 25) := vm_dD b_Reader_takesPart_0 17 rfl rfl
theorem d_Reader_takesPart_33 : vm_D q_Reader_takesPart.2.1 33 2 35 (.istore 5) := vm_dD b_Reader_takesPart_0 18 rfl rfl
theorem d_Reader_takesPart_35 : vm_D q_Reader_takesPart.2.1 35 2 37 (.iload 5) := vm_dD b_Reader_takesPart_0 19 rfl rfl
theorem d_Reader_takesPart_37 : vm_D q_Reader_takesPart.2.1 37 1 38 (.aload_n 0) := vm_dD b_Reader_takesPart_0 20 rfl rfl
theorem d_Reader_takesPart_38 : vm_D q_Reader_takesPart.2.1 38 3 41 (.getfield 18) := vm_dD b_Reader_takesPart_0 21 rfl rfl
theorem d_Reader_takesPart_41 : vm_B q_Reader_takesPart.2.1 41 44 87 (fun o => .if_icmp .ge o) := ⟨46, vm_db b_Reader_takesPart_0 (i := 22) rfl, rfl, by decide⟩
theorem d_Reader_takesPart_44 : vm_D q_Reader_takesPart.2.1 44 1 45 (.aload_n 0) := vm_dD b_Reader_takesPart_0 23 rfl rfl
theorem d_Reader_takesPart_45 : vm_D q_Reader_takesPart.2.1 45 3 48 (.getfield 12) := vm_dD b_Reader_takesPart_0 24 rfl rfl
theorem d_Reader_takesPart_48 : vm_D q_Reader_takesPart.2.1 48 2 50 (.iload 5) := vm_dD b_Reader_takesPart_0 25 rfl rfl
theorem d_Reader_takesPart_50 : vm_D q_Reader_takesPart.2.1 50 3 53 (.invokevirtual 68) := vm_dD b_Reader_takesPart_0 26 rfl rfl
theorem d_Reader_takesPart_53 : vm_D q_Reader_takesPart.2.1 53 2 55 (.istore 6) := vm_dD b_Reader_takesPart_0 27 rfl rfl
theorem d_Reader_takesPart_55 : vm_D q_Reader_takesPart.2.1 55 2 57 (.iload 4) := vm_dD b_Reader_takesPart_0 28 rfl rfl
theorem d_Reader_takesPart_57 : vm_B q_Reader_takesPart.2.1 57 60 78 (fun o => .ifCond .eq o) := ⟨21, vm_db b_Reader_takesPart_0 (i := 29) rfl, rfl, by decide⟩
theorem d_Reader_takesPart_79 : vm_D q_Reader_takesPart.2.1 79 2 81 (.istore 4) := vm_dD b_Reader_takesPart_0 41 rfl rfl
theorem d_Reader_takesPart_81 : vm_D q_Reader_takesPart.2.1 81 3 84 (.iinc 5 1) := vm_dD b_Reader_takesPart_0 42 rfl rfl
theorem d_Reader_takesPart_84 : ∃ off : Int, decode q_Reader_takesPart.2.1 84 = .ok (.goto off, 3) ∧ ((84 : Nat) : Int) + off = ((35 : Nat) : Int) := ⟨-49, vm_db b_Reader_takesPart_0 (i := 43) rfl, by decide⟩
theorem d_Reader_takesPart_78 : vm_D q_Reader_takesPart.2.1 78 1 79 (.iconst 0) := vm_dD b_Reader_takesPart_0 40 rfl rfl
theorem d_Reader_takesPart_60 : vm_D q_Reader_takesPart.2.1 60 2 62 (.iload 6) := vm_dD b_Reader_takesPart_0 30 rfl rfl
theorem d_Reader_takesPart_62 : vm_D q_Reader_takesPart.2.1 62 1 63 (.iload_n 1) := vm_dD b_Reader_takesPart_0 31 rfl rfl
theorem d_Reader_takesPart_63 : vm_B q_Reader_takesPart.2.1 63 66 78 (fun o => .if_icmp .lt o) := ⟨15, vm_db b_Reader_takesPart_0 (i := 32) rfl, rfl, by decide⟩
theorem d_Reader_takesPart_66 : vm_D q_Reader_takesPart.2.1 66 2 68 (.iload 6) := vm_dD b_Reader_takesPart_0 33 rfl rfl
theorem d_Reader_takesPart_68 : vm_D q_Reader_takesPart.2.1 68 1 69 (.iload_n 1) := vm_dD b_Reader_takesPart_0 34 rfl rfl
theorem d_Reader_takesPart_69 : vm_D q_Reader_takesPart.2.1 69 1 70 (.iload_n 2) := vm_dD b_Reader_takesPart_0 35 rfl rfl
theorem d_Reader_takesPart_70 : vm_D q_Reader_takesPart.2.1 70 1 71 (.iadd) := vm_dD b_Reader_takesPart_0 36 rfl rfl
theorem d_Reader_takesPart_71 : vm_B q_Reader_takesPart.2.1 71 74 78 (fun o => .if_icmp .ge o) := ⟨7, vm_db b_Reader_takesPart_0 (i := 37) rfl, rfl, by decide⟩
theorem d_Reader_takesPart_74 : vm_D q_Reader_takesPart.2.1 74 1 75 (.iconst 1) := vm_dD b_Reader_takesPart_0 38 rfl rfl
theorem d_Reader_takesPart_75 : ∃ off : Int, decode q_Reader_takesPart.2.1 75 = .ok (.goto off, 3) ∧ ((75 : Nat) : Int) + off = ((79 : Nat) : Int) := ⟨4, vm_db b_Reader_takesPart_0 (i := 39) rfl, by decide⟩
theorem d_Reader_takesPart_87 : vm_D q_Reader_takesPart.2.1 87 2 89 (.iload 4) := vm_dD b_Reader_takesPart_0 44 rfl rfl
theorem d_Reader_takesPart_89 : vm_B q_Reader_takesPart.2.1 89 92 103 (fun o => .ifCond .ne o) := ⟨14, vm_db b_Reader_takesPart_0 (i := 45) rfl, rfl, by decide⟩
theorem d_Reader_takesPart_103 : vm_D q_Reader_takesPart.2.1 103 1 104 (.iconst 1) := vm_dD b_Reader_takesPart_0 51 rfl rfl
theorem d_Reader_takesPart_104 : ∃ off : Int, decode q_Reader_takesPart.2.1 104 = .ok (.goto off, 3) ∧ ((104 : Nat) : Int) + off = ((108 : Nat) : Int) := ⟨4, vm_db b_Reader_takesPart_0 (i := 52) rfl, by decide⟩
theorem d_Reader_takesPart_108 : vm_D q_Reader_takesPart.2.1 108 1 109 (.ireturn) := vm_dD b_Reader_takesPart_0 54 rfl rfl
theorem d_Reader_takesPart_92 : vm_D q_Reader_takesPart.2.1 92 1 93 (.aload_n 0) := vm_dD b_Reader_takesPart_0 46 rfl rfl
theorem d_Reader_takesPart_93 : vm_D q_Reader_takesPart.2.1 93 1 94 (.aload_n 0) := vm_dD b_Reader_takesPart_0 47 rfl rfl
theorem d_Reader_takesPart_94 : vm_D q_Reader_takesPart.2.1 94 3 97 (.getfield 25) := vm_dD b_Reader_takesPart_0 48 rfl rfl
theorem d_Reader_takesPart_97 : vm_D q_Reader_takesPart.2.1 97 3 100 (.invokevirtual 75) := vm_dD b_Reader_takesPart_0 49 rfl rfl
theorem d_Reader_takesPart_100 : vm_B q_Reader_takesPart.2.1 100 103 107 (fun o => .ifCond .eq o) := ⟨7, vm_db b_Reader_takesPart_0 (i := 50) rfl, rfl, by decide⟩
theorem d_Reader_takesPart_107 : vm_D q_Reader_takesPart.2.1 107 1 108 (.iconst 0) := vm_dD b_Reader_takesPart_0 53 rfl rfl
theorem d_Reader_takesPart_26 : vm_D q_Reader_takesPart.2.1 26 1 27 (.iconst 0) := vm_dD b_Reader_takesPart_0 14 rfl rfl
theorem d_Reader_takesPart_22 : vm_D q_Reader_takesPart.2.1 22 1 23 (.iconst 1) := vm_dD b_Reader_takesPart_0 12 rfl rfl
theorem d_Reader_takesPart_23 : ∃ off : Int, decode q_Reader_takesPart.2.1 23 = .ok (.goto off, 3) ∧ ((23 : Nat) : Int) + off = ((27 : Nat) : Int) := ⟨4, vm_db b_Reader_takesPart_0 (i := 13) rfl, by decide⟩
theorem d_Reader_takesPart_7 : vm_D q_Reader_takesPart.2.1 7 1 8 (.iconst 0) := vm_dD b_Reader_takesPart_0 3 rfl rfl
theorem d_Reader_takesPart_8 : vm_D q_Reader_takesPart.2.1 8 1 9 (.ireturn) := vm_dD b_Reader_takesPart_0 4 rfl rfl
def q_Reader_takesMap : vm_Y := ("RepeatFree$Reader", cX4_takesMap, 4, false, [])
def t_Reader_takesMap_0 : List (Nat × Instr × Nat) := [(0, .aload_n 1, 1), (1, .aload_n 1, 1), (2, .getfield 151, 3), (5, .invokevirtual 154, 3), (8, .astore_n 2, 1), (9, .aload_n 2, 1), (10, .ifnonnull 12, 3), (13, .aload_n 0, 1), (14, .aload_n 0, 1), (15, .getfield 25, 3), (18, .invokevirtual 75, 3), (21, .ireturn, 1), (22, .aload_n 0, 1), (23, .aload_n 1, 1), (24, .aload_n 2, 1), (25, .getfield 158, 3), (28, .invokevirtual 164, 3), (31, .ifCond .ne 5, 3), (34, .iconst 0, 1), (35, .ireturn, 1), (36, .iconst 0, 1), (37, .istore_n 3, 1), (38, .iload_n 3, 1), (39, .aload_n 1, 1), (40, .getfield 49, 3), (43, .if_icmp .ge 56, 3), (46, .aload_n 0, 1), (47, .bipush 97, 2), (49, .iload_n 3, 1), (50, .iadd, 1), (51, .iconst 1, 1), (52, .iconst 1, 1), (53, .invokevirtual 168, 3), (56, .ifCond .eq 18, 3), (59, .aload_n 0, 1), (60, .bipush 97, 2), (62, .aload_n 1, 1), (63, .getfield 49, 3), (66, .bipush 6, 2), (68, .invokevirtual 168, 3), (71, .ifCond .ne 5, 3), (74, .iconst 0, 1), (75, .ireturn, 1), (76, .aload_n 2, 1), (77, .iload_n 3, 1), (78, .aload_n 0, 1), (79, .getfield 12, 3), (82, .aload_n 0, 1), (83, .getfield 25, 3), (86, .aload_n 0, 1), (87, .getfield 18, 3), (90, .invokevirtual 172, 3), (93, .iinc 3 1, 3), (96, .goto (-58), 3), (99, .aload_n 1, 1), (100, .dup, 1), (101, .getfield 151, 3), (104, .iconst 1, 1), (105, .iadd, 1), (106, .putfield 151, 3)]
theorem b_Reader_takesMap_0 : (t_Reader_takesMap_0.all fun q => decide (decode q_Reader_takesMap.2.1 q.1 = .ok (q.2.1, q.2.2))) = true := by decide +kernel
def t_Reader_takesMap_1 : List (Nat × Instr × Nat) := [(109, .iconst 1, 1), (110, .ireturn, 1)]
theorem b_Reader_takesMap_1 : (t_Reader_takesMap_1.all fun q => decide (decode q_Reader_takesMap.2.1 q.1 = .ok (q.2.1, q.2.2))) = true := by decide +kernel
theorem d_Reader_takesMap_0 : vm_D q_Reader_takesMap.2.1 0 1 1 (.aload_n 1) := vm_dD b_Reader_takesMap_0 0 rfl rfl
theorem d_Reader_takesMap_1 : vm_D q_Reader_takesMap.2.1 1 1 2 (.aload_n 1) := vm_dD b_Reader_takesMap_0 1 rfl rfl
theorem d_Reader_takesMap_2 : vm_D q_Reader_takesMap.2.1 2 3 5 (.getfield 151) := vm_dD b_Reader_takesMap_0 2 rfl rfl
theorem d_Reader_takesMap_5 : vm_D q_Reader_takesMap.2.1 5 3 8 (.invokevirtual 154) := vm_dD b_Reader_takesMap_0 3 rfl rfl
theorem d_Reader_takesMap_8 : vm_D q_Reader_takesMap.2.1 8 1 9 (.astore_n 2) := vm_dD b_Reader_takesMap_0 4 rfl rfl
theorem d_Reader_takesMap_9 : vm_D q_Reader_takesMap.2.1 9 1 10 (.aload_n 2) := vm_dD b_Reader_takesMap_0 5 rfl rfl
theorem d_Reader_takesMap_10 : vm_B q_Reader_takesMap.2.1 10 13 22 (fun o => .ifnonnull o) := ⟨12, vm_db b_Reader_takesMap_0 (i := 6) rfl, rfl, by decide⟩
theorem d_Reader_takesMap_22 : vm_D q_Reader_takesMap.2.1 22 1 23 (.aload_n 0) := vm_dD b_Reader_takesMap_0 12 rfl rfl
theorem d_Reader_takesMap_23 : vm_D q_Reader_takesMap.2.1 23 1 24 (.aload_n 1) := vm_dD b_Reader_takesMap_0 13 rfl rfl
theorem d_Reader_takesMap_24 : vm_D q_Reader_takesMap.2.1 24 1 25 (.aload_n 2) := vm_dD b_Reader_takesMap_0 14 rfl rfl
theorem d_Reader_takesMap_25 : vm_D q_Reader_takesMap.2.1 25 3 28 (.getfield 158) := vm_dD b_Reader_takesMap_0 15 rfl rfl
theorem d_Reader_takesMap_28 : vm_D q_Reader_takesMap.2.1 28 3 31 (.invokevirtual 164) := vm_dD b_Reader_takesMap_0 16 rfl rfl
theorem d_Reader_takesMap_31 : vm_B q_Reader_takesMap.2.1 31 34 36 (fun o => .ifCond .ne o) := ⟨5, vm_db b_Reader_takesMap_0 (i := 17) rfl, rfl, by decide⟩
theorem d_Reader_takesMap_36 : vm_D q_Reader_takesMap.2.1 36 1 37 (.iconst 0) := vm_dD b_Reader_takesMap_0 20 rfl rfl
theorem d_Reader_takesMap_37 : vm_D q_Reader_takesMap.2.1 37 1 38 (.istore_n 3) := vm_dD b_Reader_takesMap_0 21 rfl rfl
theorem d_Reader_takesMap_38 : vm_D q_Reader_takesMap.2.1 38 1 39 (.iload_n 3) := vm_dD b_Reader_takesMap_0 22 rfl rfl
theorem d_Reader_takesMap_39 : vm_D q_Reader_takesMap.2.1 39 1 40 (.aload_n 1) := vm_dD b_Reader_takesMap_0 23 rfl rfl
theorem d_Reader_takesMap_40 : vm_D q_Reader_takesMap.2.1 40 3 43 (.getfield 49) := vm_dD b_Reader_takesMap_0 24 rfl rfl
theorem d_Reader_takesMap_43 : vm_B q_Reader_takesMap.2.1 43 46 99 (fun o => .if_icmp .ge o) := ⟨56, vm_db b_Reader_takesMap_0 (i := 25) rfl, rfl, by decide⟩
theorem d_Reader_takesMap_46 : vm_D q_Reader_takesMap.2.1 46 1 47 (.aload_n 0) := vm_dD b_Reader_takesMap_0 26 rfl rfl
theorem d_Reader_takesMap_47 : vm_D q_Reader_takesMap.2.1 47 2 49 (.bipush 97) := vm_dD b_Reader_takesMap_0 27 rfl rfl
theorem d_Reader_takesMap_49 : vm_D q_Reader_takesMap.2.1 49 1 50 (.iload_n 3) := vm_dD b_Reader_takesMap_0 28 rfl rfl
theorem d_Reader_takesMap_50 : vm_D q_Reader_takesMap.2.1 50 1 51 (.iadd) := vm_dD b_Reader_takesMap_0 29 rfl rfl
theorem d_Reader_takesMap_51 : vm_D q_Reader_takesMap.2.1 51 1 52 (.iconst 1) := vm_dD b_Reader_takesMap_0 30 rfl rfl
theorem d_Reader_takesMap_52 : vm_D q_Reader_takesMap.2.1 52 1 53 (.iconst 1) := vm_dD b_Reader_takesMap_0 31 rfl rfl
theorem d_Reader_takesMap_53 : vm_D q_Reader_takesMap.2.1 53 3 56 (.invokevirtual 168) := vm_dD b_Reader_takesMap_0 32 rfl rfl
theorem d_Reader_takesMap_56 : vm_B q_Reader_takesMap.2.1 56 59 74 (fun o => .ifCond .eq o) := ⟨18, vm_db b_Reader_takesMap_0 (i := 33) rfl, rfl, by decide⟩
theorem d_Reader_takesMap_74 : vm_D q_Reader_takesMap.2.1 74 1 75 (.iconst 0) := vm_dD b_Reader_takesMap_0 41 rfl rfl
theorem d_Reader_takesMap_75 : vm_D q_Reader_takesMap.2.1 75 1 76 (.ireturn) := vm_dD b_Reader_takesMap_0 42 rfl rfl
theorem d_Reader_takesMap_59 : vm_D q_Reader_takesMap.2.1 59 1 60 (.aload_n 0) := vm_dD b_Reader_takesMap_0 34 rfl rfl
theorem d_Reader_takesMap_60 : vm_D q_Reader_takesMap.2.1 60 2 62 (.bipush 97) := vm_dD b_Reader_takesMap_0 35 rfl rfl
theorem d_Reader_takesMap_62 : vm_D q_Reader_takesMap.2.1 62 1 63 (.aload_n 1) := vm_dD b_Reader_takesMap_0 36 rfl rfl
theorem d_Reader_takesMap_63 : vm_D q_Reader_takesMap.2.1 63 3 66 (.getfield 49) := vm_dD b_Reader_takesMap_0 37 rfl rfl
theorem d_Reader_takesMap_66 : vm_D q_Reader_takesMap.2.1 66 2 68 (.bipush 6) := vm_dD b_Reader_takesMap_0 38 rfl rfl
theorem d_Reader_takesMap_68 : vm_D q_Reader_takesMap.2.1 68 3 71 (.invokevirtual 168) := vm_dD b_Reader_takesMap_0 39 rfl rfl
theorem d_Reader_takesMap_71 : vm_B q_Reader_takesMap.2.1 71 74 76 (fun o => .ifCond .ne o) := ⟨5, vm_db b_Reader_takesMap_0 (i := 40) rfl, rfl, by decide⟩
theorem d_Reader_takesMap_76 : vm_D q_Reader_takesMap.2.1 76 1 77 (.aload_n 2) := vm_dD b_Reader_takesMap_0 43 rfl rfl
theorem d_Reader_takesMap_77 : vm_D q_Reader_takesMap.2.1 77 1 78 (.iload_n 3) := vm_dD b_Reader_takesMap_0 44 rfl rfl
theorem d_Reader_takesMap_78 : vm_D q_Reader_takesMap.2.1 78 1 79 (.aload_n 0) := vm_dD b_Reader_takesMap_0 45 rfl rfl
theorem d_Reader_takesMap_79 : vm_D q_Reader_takesMap.2.1 79 3 82 (.getfield 12) := vm_dD b_Reader_takesMap_0 46 rfl rfl
theorem d_Reader_takesMap_82 : vm_D q_Reader_takesMap.2.1 82 1 83 (.aload_n 0) := vm_dD b_Reader_takesMap_0 47 rfl rfl
theorem d_Reader_takesMap_83 : vm_D q_Reader_takesMap.2.1 83 3 86 (.getfield 25) := vm_dD b_Reader_takesMap_0 48 rfl rfl
theorem d_Reader_takesMap_86 : vm_D q_Reader_takesMap.2.1 86 1 87 (.aload_n 0) := vm_dD b_Reader_takesMap_0 49 rfl rfl
theorem d_Reader_takesMap_87 : vm_D q_Reader_takesMap.2.1 87 3 90 (.getfield 18) := vm_dD b_Reader_takesMap_0 50 rfl rfl
theorem d_Reader_takesMap_90 : vm_D q_Reader_takesMap.2.1 90 3 93 (.invokevirtual 172) := vm_dD b_Reader_takesMap_0 51 rfl rfl
theorem d_Reader_takesMap_93 : vm_D q_Reader_takesMap.2.1 93 3 96 (.iinc 3 1) := vm_dD b_Reader_takesMap_0 52 rfl rfl
theorem d_Reader_takesMap_96 : ∃ off : Int, decode q_Reader_takesMap.2.1 96 = .ok (.goto off, 3) ∧ ((96 : Nat) : Int) + off = ((38 : Nat) : Int) := ⟨-58, vm_db b_Reader_takesMap_0 (i := 53) rfl, by decide⟩
theorem d_Reader_takesMap_99 : vm_D q_Reader_takesMap.2.1 99 1 100 (.aload_n 1) := vm_dD b_Reader_takesMap_0 54 rfl rfl
theorem d_Reader_takesMap_100 : vm_D q_Reader_takesMap.2.1 100 1 101 (.dup) := vm_dD b_Reader_takesMap_0 55 rfl rfl
theorem d_Reader_takesMap_101 : vm_D q_Reader_takesMap.2.1 101 3 104 (.getfield 151) := vm_dD b_Reader_takesMap_0 56 rfl rfl
theorem d_Reader_takesMap_104 : vm_D q_Reader_takesMap.2.1 104 1 105 (.iconst 1) := vm_dD b_Reader_takesMap_0 57 rfl rfl
theorem d_Reader_takesMap_105 : vm_D q_Reader_takesMap.2.1 105 1 106 (.iadd) := vm_dD b_Reader_takesMap_0 58 rfl rfl
theorem d_Reader_takesMap_106 : vm_D q_Reader_takesMap.2.1 106 3 109 (.putfield 151) := vm_dD b_Reader_takesMap_0 59 rfl rfl
theorem d_Reader_takesMap_109 : vm_D q_Reader_takesMap.2.1 109 1 110 (.iconst 1) := vm_dD b_Reader_takesMap_1 0 rfl rfl
theorem d_Reader_takesMap_110 : vm_D q_Reader_takesMap.2.1 110 1 111 (.ireturn) := vm_dD b_Reader_takesMap_1 1 rfl rfl
theorem d_Reader_takesMap_34 : vm_D q_Reader_takesMap.2.1 34 1 35 (.iconst 0) := vm_dD b_Reader_takesMap_0 18 rfl rfl
theorem d_Reader_takesMap_35 : vm_D q_Reader_takesMap.2.1 35 1 36 (.ireturn) := vm_dD b_Reader_takesMap_0 19 rfl rfl
theorem d_Reader_takesMap_13 : vm_D q_Reader_takesMap.2.1 13 1 14 (.aload_n 0) := vm_dD b_Reader_takesMap_0 7 rfl rfl
theorem d_Reader_takesMap_14 : vm_D q_Reader_takesMap.2.1 14 1 15 (.aload_n 0) := vm_dD b_Reader_takesMap_0 8 rfl rfl
theorem d_Reader_takesMap_15 : vm_D q_Reader_takesMap.2.1 15 3 18 (.getfield 25) := vm_dD b_Reader_takesMap_0 9 rfl rfl
theorem d_Reader_takesMap_18 : vm_D q_Reader_takesMap.2.1 18 3 21 (.invokevirtual 75) := vm_dD b_Reader_takesMap_0 10 rfl rfl
theorem d_Reader_takesMap_21 : vm_D q_Reader_takesMap.2.1 21 1 22 (.ireturn) := vm_dD b_Reader_takesMap_0 11 rfl rfl
def q_Shape_at : vm_Y := ("RepeatFree$Shape", cX6_at, 2, false, [])
def t_Shape_at_0 : List (Nat × Instr × Nat) := [(0, .iload_n 1, 1), (1, .ifCond .lt 29, 3), (4, .iload_n 1, 1), (5, .aload_n 0, 1), (6, .getfield 22, 3), (9, .if_icmp .ge 21, 3), (12, .iload_n 1, 1), (13, .aload_n 0, 1), (14, .getfield 18, 3), (17, .arraylength, 1), (18, .if_icmp .ge 12, 3), (21, .aload_n 0, 1), (22, .getfield 18, 3), (25, .iload_n 1, 1), (26, .iaload, 1), (27, .goto 4, 3), (30, .iconst 0, 1), (31, .ireturn, 1)]
theorem b_Shape_at_0 : (t_Shape_at_0.all fun q => decide (decode q_Shape_at.2.1 q.1 = .ok (q.2.1, q.2.2))) = true := by decide +kernel
theorem d_Shape_at_0 : vm_D q_Shape_at.2.1 0 1 1 (.iload_n 1) := vm_dD b_Shape_at_0 0 rfl rfl
theorem d_Shape_at_1 : vm_B q_Shape_at.2.1 1 4 30 (fun o => .ifCond .lt o) := ⟨29, vm_db b_Shape_at_0 (i := 1) rfl, rfl, by decide⟩
theorem d_Shape_at_30 : vm_D q_Shape_at.2.1 30 1 31 (.iconst 0) := vm_dD b_Shape_at_0 16 rfl rfl
theorem d_Shape_at_31 : vm_D q_Shape_at.2.1 31 1 32 (.ireturn) := vm_dD b_Shape_at_0 17 rfl rfl
theorem d_Shape_at_4 : vm_D q_Shape_at.2.1 4 1 5 (.iload_n 1) := vm_dD b_Shape_at_0 2 rfl rfl
theorem d_Shape_at_5 : vm_D q_Shape_at.2.1 5 1 6 (.aload_n 0) := vm_dD b_Shape_at_0 3 rfl rfl
theorem d_Shape_at_6 : vm_D q_Shape_at.2.1 6 3 9 (.getfield 22) := vm_dD b_Shape_at_0 4 rfl rfl
theorem d_Shape_at_9 : vm_B q_Shape_at.2.1 9 12 30 (fun o => .if_icmp .ge o) := ⟨21, vm_db b_Shape_at_0 (i := 5) rfl, rfl, by decide⟩
theorem d_Shape_at_12 : vm_D q_Shape_at.2.1 12 1 13 (.iload_n 1) := vm_dD b_Shape_at_0 6 rfl rfl
theorem d_Shape_at_13 : vm_D q_Shape_at.2.1 13 1 14 (.aload_n 0) := vm_dD b_Shape_at_0 7 rfl rfl
theorem d_Shape_at_14 : vm_D q_Shape_at.2.1 14 3 17 (.getfield 18) := vm_dD b_Shape_at_0 8 rfl rfl
theorem d_Shape_at_17 : vm_D q_Shape_at.2.1 17 1 18 (.arraylength) := vm_dD b_Shape_at_0 9 rfl rfl
theorem d_Shape_at_18 : vm_B q_Shape_at.2.1 18 21 30 (fun o => .if_icmp .ge o) := ⟨12, vm_db b_Shape_at_0 (i := 10) rfl, rfl, by decide⟩
theorem d_Shape_at_21 : vm_D q_Shape_at.2.1 21 1 22 (.aload_n 0) := vm_dD b_Shape_at_0 11 rfl rfl
theorem d_Shape_at_22 : vm_D q_Shape_at.2.1 22 3 25 (.getfield 18) := vm_dD b_Shape_at_0 12 rfl rfl
theorem d_Shape_at_25 : vm_D q_Shape_at.2.1 25 1 26 (.iload_n 1) := vm_dD b_Shape_at_0 13 rfl rfl
theorem d_Shape_at_26 : vm_D q_Shape_at.2.1 26 1 27 (.iaload) := vm_dD b_Shape_at_0 14 rfl rfl
theorem d_Shape_at_27 : ∃ off : Int, decode q_Shape_at.2.1 27 = .ok (.goto off, 3) ∧ ((27 : Nat) : Int) + off = ((31 : Nat) : Int) := ⟨4, vm_db b_Shape_at_0 (i := 15) rfl, by decide⟩
def q_Shape_times : vm_Y := ("RepeatFree$Shape", cX6_times, 4, false, [])
def t_Shape_times_0 : List (Nat × Instr × Nat) := [(0, .iconst 0, 1), (1, .istore_n 2, 1), (2, .iconst 0, 1), (3, .istore_n 3, 1), (4, .iload_n 3, 1), (5, .aload_n 0, 1), (6, .getfield 22, 3), (9, .if_icmp .ge 21, 3), (12, .aload_n 0, 1), (13, .iload_n 3, 1), (14, .invokevirtual 43, 3), (17, .iload_n 1, 1), (18, .if_icmp .ne 6, 3), (21, .iinc 2 1, 3), (24, .iinc 3 1, 3), (27, .goto (-23), 3), (30, .iload_n 2, 1), (31, .ireturn, 1)]
theorem b_Shape_times_0 : (t_Shape_times_0.all fun q => decide (decode q_Shape_times.2.1 q.1 = .ok (q.2.1, q.2.2))) = true := by decide +kernel
theorem d_Shape_times_0 : vm_D q_Shape_times.2.1 0 1 1 (.iconst 0) := vm_dD b_Shape_times_0 0 rfl rfl
theorem d_Shape_times_1 : vm_D q_Shape_times.2.1 1 1 2 (.istore_n 2) := vm_dD b_Shape_times_0 1 rfl rfl
theorem d_Shape_times_2 : vm_D q_Shape_times.2.1 2 1 3 (.iconst 0) := vm_dD b_Shape_times_0 2 rfl rfl
theorem d_Shape_times_3 : vm_D q_Shape_times.2.1 3 1 4 (.istore_n 3) := vm_dD b_Shape_times_0 3 rfl rfl
theorem d_Shape_times_4 : vm_D q_Shape_times.2.1 4 1 5 (.iload_n 3) := vm_dD b_Shape_times_0 4 rfl rfl
theorem d_Shape_times_5 : vm_D q_Shape_times.2.1 5 1 6 (.aload_n 0) := vm_dD b_Shape_times_0 5 rfl rfl
theorem d_Shape_times_6 : vm_D q_Shape_times.2.1 6 3 9 (.getfield 22) := vm_dD b_Shape_times_0 6 rfl rfl
theorem d_Shape_times_9 : vm_B q_Shape_times.2.1 9 12 30 (fun o => .if_icmp .ge o) := ⟨21, vm_db b_Shape_times_0 (i := 7) rfl, rfl, by decide⟩
theorem d_Shape_times_12 : vm_D q_Shape_times.2.1 12 1 13 (.aload_n 0) := vm_dD b_Shape_times_0 8 rfl rfl
theorem d_Shape_times_13 : vm_D q_Shape_times.2.1 13 1 14 (.iload_n 3) := vm_dD b_Shape_times_0 9 rfl rfl
theorem d_Shape_times_14 : vm_D q_Shape_times.2.1 14 3 17 (.invokevirtual 43) := vm_dD b_Shape_times_0 10 rfl rfl
theorem d_Shape_times_17 : vm_D q_Shape_times.2.1 17 1 18 (.iload_n 1) := vm_dD b_Shape_times_0 11 rfl rfl
theorem d_Shape_times_18 : vm_B q_Shape_times.2.1 18 21 24 (fun o => .if_icmp .ne o) := ⟨6, vm_db b_Shape_times_0 (i := 12) rfl, rfl, by decide⟩
theorem d_Shape_times_24 : vm_D q_Shape_times.2.1 24 3 27 (.iinc 3 1) := vm_dD b_Shape_times_0 14 rfl rfl
theorem d_Shape_times_27 : ∃ off : Int, decode q_Shape_times.2.1 27 = .ok (.goto off, 3) ∧ ((27 : Nat) : Int) + off = ((4 : Nat) : Int) := ⟨-23, vm_db b_Shape_times_0 (i := 15) rfl, by decide⟩
theorem d_Shape_times_21 : vm_D q_Shape_times.2.1 21 3 24 (.iinc 2 1) := vm_dD b_Shape_times_0 13 rfl rfl
theorem d_Shape_times_30 : vm_D q_Shape_times.2.1 30 1 31 (.iload_n 2) := vm_dD b_Shape_times_0 16 rfl rfl
theorem d_Shape_times_31 : vm_D q_Shape_times.2.1 31 1 32 (.ireturn) := vm_dD b_Shape_times_0 17 rfl rfl
def q_Shape_needingOne : vm_Y := ("RepeatFree$Shape", cX6_needingOne, 4, false, [])
def t_Shape_needingOne_0 : List (Nat × Instr × Nat) := [(0, .iconst 0, 1), (1, .istore_n 1, 1), (2, .iconst 0, 1), (3, .istore_n 2, 1), (4, .iload_n 2, 1), (5, .aload_n 0, 1), (6, .getfield 22, 3), (9, .if_icmp .ge 32, 3), (12, .iload_n 1, 1), (13, .aload_n 0, 1), (14, .aload_n 0, 1), (15, .iload_n 2, 1), (16, .invokevirtual 43, 3), (19, .invokevirtual 44, 3), (22, .iconst 1, 1), (23, .if_icmp .ne 9, 3), (26, .iconst 1, 1), (27, .iload_n 2, 1), (28, .ishl, 1), (29, .goto 4, 3), (32, .iconst 0, 1), (33, .ior, 1), (34, .istore_n 1, 1), (35, .iinc 2 1, 3), (38, .goto (-34), 3), (41, .iload_n 1, 1), (42, .iload_n 1, 1), (43, .iconst 1, 1), (44, .ishl, 1), (45, .iand, 1), (46, .istore_n 2, 1), (47, .iconst 0, 1), (48, .istore_n 3, 1), (49, .iload_n 3, 1), (50, .aload_n 0, 1), (51, .getfield 22, 3), (54, .if_icmp .ge 23, 3), (57, .iload_n 1, 1), (58, .iload_n 3, 1), (59, .ishr, 1), (60, .iconst 1, 1), (61, .iand, 1), (62, .ifCond .eq 15, 3), (65, .iload_n 2, 1), (66, .iconst 1, 1), (67, .iload_n 3, 1), (68, .ishl, 1), (69, .ior, 1), (70, .istore_n 2, 1), (71, .iinc 3 1, 3), (74, .goto (-25), 3), (77, .aload_n 0, 1), (78, .getfield 22, 3), (81, .iconst 1, 1), (82, .isub, 1), (83, .istore_n 3, 1), (84, .iload_n 3, 1), (85, .ifCond .lt 23, 3), (88, .iload_n 1, 1), (89, .iload_n 3, 1)]
theorem b_Shape_needingOne_0 : (t_Shape_needingOne_0.all fun q => decide (decode q_Shape_needingOne.2.1 q.1 = .ok (q.2.1, q.2.2))) = true := by decide +kernel
def t_Shape_needingOne_1 : List (Nat × Instr × Nat) := [(90, .ishr, 1), (91, .iconst 1, 1), (92, .iand, 1), (93, .ifCond .eq 15, 3), (96, .iload_n 2, 1), (97, .iconst 1, 1), (98, .iload_n 3, 1), (99, .ishl, 1), (100, .ior, 1), (101, .istore_n 2, 1), (102, .iinc 3 (-1), 3), (105, .goto (-21), 3), (108, .iload_n 2, 1), (109, .ireturn, 1)]
theorem b_Shape_needingOne_1 : (t_Shape_needingOne_1.all fun q => decide (decode q_Shape_needingOne.2.1 q.1 = .ok (q.2.1, q.2.2))) = true := by decide +kernel
theorem d_Shape_needingOne_0 : vm_D q_Shape_needingOne.2.1 0 1 1 (.iconst 0) := vm_dD b_Shape_needingOne_0 0 rfl rfl
theorem d_Shape_needingOne_1 : vm_D q_Shape_needingOne.2.1 1 1 2 (.istore_n 1) := vm_dD b_Shape_needingOne_0 1 rfl rfl
theorem d_Shape_needingOne_2 : vm_D q_Shape_needingOne.2.1 2 1 3 (.iconst 0) := vm_dD b_Shape_needingOne_0 2 rfl rfl
theorem d_Shape_needingOne_3 : vm_D q_Shape_needingOne.2.1 3 1 4 (.istore_n 2) := vm_dD b_Shape_needingOne_0 3 rfl rfl
theorem d_Shape_needingOne_4 : vm_D q_Shape_needingOne.2.1 4 1 5 (.iload_n 2) := vm_dD b_Shape_needingOne_0 4 rfl rfl
theorem d_Shape_needingOne_5 : vm_D q_Shape_needingOne.2.1 5 1 6 (.aload_n 0) := vm_dD b_Shape_needingOne_0 5 rfl rfl
theorem d_Shape_needingOne_6 : vm_D q_Shape_needingOne.2.1 6 3 9 (.getfield 22) := vm_dD b_Shape_needingOne_0 6 rfl rfl
theorem d_Shape_needingOne_9 : vm_B q_Shape_needingOne.2.1 9 12 41 (fun o => .if_icmp .ge o) := ⟨32, vm_db b_Shape_needingOne_0 (i := 7) rfl, rfl, by decide⟩
theorem d_Shape_needingOne_12 : vm_D q_Shape_needingOne.2.1 12 1 13 (.iload_n 1) := vm_dD b_Shape_needingOne_0 8 rfl rfl
theorem d_Shape_needingOne_13 : vm_D q_Shape_needingOne.2.1 13 1 14 (.aload_n 0) := vm_dD b_Shape_needingOne_0 9 rfl rfl
theorem d_Shape_needingOne_14 : vm_D q_Shape_needingOne.2.1 14 1 15 (.aload_n 0) := vm_dD b_Shape_needingOne_0 10 rfl rfl
theorem d_Shape_needingOne_15 : vm_D q_Shape_needingOne.2.1 15 1 16 (.iload_n 2) := vm_dD b_Shape_needingOne_0 11 rfl rfl
theorem d_Shape_needingOne_16 : vm_D q_Shape_needingOne.2.1 16 3 19 (.invokevirtual 43) := vm_dD b_Shape_needingOne_0 12 rfl rfl
theorem d_Shape_needingOne_19 : vm_D q_Shape_needingOne.2.1 19 3 22 (.invokevirtual 44) := vm_dD b_Shape_needingOne_0 13 rfl rfl
theorem d_Shape_needingOne_22 : vm_D q_Shape_needingOne.2.1 22 1 23 (.iconst 1) := vm_dD b_Shape_needingOne_0 14 rfl rfl
theorem d_Shape_needingOne_23 : vm_B q_Shape_needingOne.2.1 23 26 32 (fun o => .if_icmp .ne o) := ⟨9, vm_db b_Shape_needingOne_0 (i := 15) rfl, rfl, by decide⟩
theorem d_Shape_needingOne_33 : vm_D q_Shape_needingOne.2.1 33 1 34 (.ior) := vm_dD b_Shape_needingOne_0 21 rfl rfl
theorem d_Shape_needingOne_34 : vm_D q_Shape_needingOne.2.1 34 1 35 (.istore_n 1) := vm_dD b_Shape_needingOne_0 22 rfl rfl
theorem d_Shape_needingOne_35 : vm_D q_Shape_needingOne.2.1 35 3 38 (.iinc 2 1) := vm_dD b_Shape_needingOne_0 23 rfl rfl
theorem d_Shape_needingOne_38 : ∃ off : Int, decode q_Shape_needingOne.2.1 38 = .ok (.goto off, 3) ∧ ((38 : Nat) : Int) + off = ((4 : Nat) : Int) := ⟨-34, vm_db b_Shape_needingOne_0 (i := 24) rfl, by decide⟩
theorem d_Shape_needingOne_32 : vm_D q_Shape_needingOne.2.1 32 1 33 (.iconst 0) := vm_dD b_Shape_needingOne_0 20 rfl rfl
theorem d_Shape_needingOne_26 : vm_D q_Shape_needingOne.2.1 26 1 27 (.iconst 1) := vm_dD b_Shape_needingOne_0 16 rfl rfl
theorem d_Shape_needingOne_27 : vm_D q_Shape_needingOne.2.1 27 1 28 (.iload_n 2) := vm_dD b_Shape_needingOne_0 17 rfl rfl
theorem d_Shape_needingOne_28 : vm_D q_Shape_needingOne.2.1 28 1 29 (.ishl) := vm_dD b_Shape_needingOne_0 18 rfl rfl
theorem d_Shape_needingOne_29 : ∃ off : Int, decode q_Shape_needingOne.2.1 29 = .ok (.goto off, 3) ∧ ((29 : Nat) : Int) + off = ((33 : Nat) : Int) := ⟨4, vm_db b_Shape_needingOne_0 (i := 19) rfl, by decide⟩
theorem d_Shape_needingOne_41 : vm_D q_Shape_needingOne.2.1 41 1 42 (.iload_n 1) := vm_dD b_Shape_needingOne_0 25 rfl rfl
theorem d_Shape_needingOne_42 : vm_D q_Shape_needingOne.2.1 42 1 43 (.iload_n 1) := vm_dD b_Shape_needingOne_0 26 rfl rfl
theorem d_Shape_needingOne_43 : vm_D q_Shape_needingOne.2.1 43 1 44 (.iconst 1) := vm_dD b_Shape_needingOne_0 27 rfl rfl
theorem d_Shape_needingOne_44 : vm_D q_Shape_needingOne.2.1 44 1 45 (.ishl) := vm_dD b_Shape_needingOne_0 28 rfl rfl
theorem d_Shape_needingOne_45 : vm_D q_Shape_needingOne.2.1 45 1 46 (.iand) := vm_dD b_Shape_needingOne_0 29 rfl rfl
theorem d_Shape_needingOne_46 : vm_D q_Shape_needingOne.2.1 46 1 47 (.istore_n 2) := vm_dD b_Shape_needingOne_0 30 rfl rfl
theorem d_Shape_needingOne_47 : vm_D q_Shape_needingOne.2.1 47 1 48 (.iconst 0) := vm_dD b_Shape_needingOne_0 31 rfl rfl
theorem d_Shape_needingOne_48 : vm_D q_Shape_needingOne.2.1 48 1 49 (.istore_n 3) := vm_dD b_Shape_needingOne_0 32 rfl rfl
theorem d_Shape_needingOne_49 : vm_D q_Shape_needingOne.2.1 49 1 50 (.iload_n 3) := vm_dD b_Shape_needingOne_0 33 rfl rfl
theorem d_Shape_needingOne_50 : vm_D q_Shape_needingOne.2.1 50 1 51 (.aload_n 0) := vm_dD b_Shape_needingOne_0 34 rfl rfl
theorem d_Shape_needingOne_51 : vm_D q_Shape_needingOne.2.1 51 3 54 (.getfield 22) := vm_dD b_Shape_needingOne_0 35 rfl rfl
theorem d_Shape_needingOne_54 : vm_B q_Shape_needingOne.2.1 54 57 77 (fun o => .if_icmp .ge o) := ⟨23, vm_db b_Shape_needingOne_0 (i := 36) rfl, rfl, by decide⟩
theorem d_Shape_needingOne_57 : vm_D q_Shape_needingOne.2.1 57 1 58 (.iload_n 1) := vm_dD b_Shape_needingOne_0 37 rfl rfl
theorem d_Shape_needingOne_58 : vm_D q_Shape_needingOne.2.1 58 1 59 (.iload_n 3) := vm_dD b_Shape_needingOne_0 38 rfl rfl
theorem d_Shape_needingOne_59 : vm_D q_Shape_needingOne.2.1 59 1 60 (.ishr) := vm_dD b_Shape_needingOne_0 39 rfl rfl
theorem d_Shape_needingOne_60 : vm_D q_Shape_needingOne.2.1 60 1 61 (.iconst 1) := vm_dD b_Shape_needingOne_0 40 rfl rfl
theorem d_Shape_needingOne_61 : vm_D q_Shape_needingOne.2.1 61 1 62 (.iand) := vm_dD b_Shape_needingOne_0 41 rfl rfl
theorem d_Shape_needingOne_62 : vm_B q_Shape_needingOne.2.1 62 65 77 (fun o => .ifCond .eq o) := ⟨15, vm_db b_Shape_needingOne_0 (i := 42) rfl, rfl, by decide⟩
theorem d_Shape_needingOne_65 : vm_D q_Shape_needingOne.2.1 65 1 66 (.iload_n 2) := vm_dD b_Shape_needingOne_0 43 rfl rfl
theorem d_Shape_needingOne_66 : vm_D q_Shape_needingOne.2.1 66 1 67 (.iconst 1) := vm_dD b_Shape_needingOne_0 44 rfl rfl
theorem d_Shape_needingOne_67 : vm_D q_Shape_needingOne.2.1 67 1 68 (.iload_n 3) := vm_dD b_Shape_needingOne_0 45 rfl rfl
theorem d_Shape_needingOne_68 : vm_D q_Shape_needingOne.2.1 68 1 69 (.ishl) := vm_dD b_Shape_needingOne_0 46 rfl rfl
theorem d_Shape_needingOne_69 : vm_D q_Shape_needingOne.2.1 69 1 70 (.ior) := vm_dD b_Shape_needingOne_0 47 rfl rfl
theorem d_Shape_needingOne_70 : vm_D q_Shape_needingOne.2.1 70 1 71 (.istore_n 2) := vm_dD b_Shape_needingOne_0 48 rfl rfl
theorem d_Shape_needingOne_71 : vm_D q_Shape_needingOne.2.1 71 3 74 (.iinc 3 1) := vm_dD b_Shape_needingOne_0 49 rfl rfl
theorem d_Shape_needingOne_74 : ∃ off : Int, decode q_Shape_needingOne.2.1 74 = .ok (.goto off, 3) ∧ ((74 : Nat) : Int) + off = ((49 : Nat) : Int) := ⟨-25, vm_db b_Shape_needingOne_0 (i := 50) rfl, by decide⟩
theorem d_Shape_needingOne_77 : vm_D q_Shape_needingOne.2.1 77 1 78 (.aload_n 0) := vm_dD b_Shape_needingOne_0 51 rfl rfl
theorem d_Shape_needingOne_78 : vm_D q_Shape_needingOne.2.1 78 3 81 (.getfield 22) := vm_dD b_Shape_needingOne_0 52 rfl rfl
theorem d_Shape_needingOne_81 : vm_D q_Shape_needingOne.2.1 81 1 82 (.iconst 1) := vm_dD b_Shape_needingOne_0 53 rfl rfl
theorem d_Shape_needingOne_82 : vm_D q_Shape_needingOne.2.1 82 1 83 (.isub) := vm_dD b_Shape_needingOne_0 54 rfl rfl
theorem d_Shape_needingOne_83 : vm_D q_Shape_needingOne.2.1 83 1 84 (.istore_n 3) := vm_dD b_Shape_needingOne_0 55 rfl rfl
theorem d_Shape_needingOne_84 : vm_D q_Shape_needingOne.2.1 84 1 85 (.iload_n 3) := vm_dD b_Shape_needingOne_0 56 rfl rfl
theorem d_Shape_needingOne_85 : vm_B q_Shape_needingOne.2.1 85 88 108 (fun o => .ifCond .lt o) := ⟨23, vm_db b_Shape_needingOne_0 (i := 57) rfl, rfl, by decide⟩
theorem d_Shape_needingOne_88 : vm_D q_Shape_needingOne.2.1 88 1 89 (.iload_n 1) := vm_dD b_Shape_needingOne_0 58 rfl rfl
theorem d_Shape_needingOne_89 : vm_D q_Shape_needingOne.2.1 89 1 90 (.iload_n 3) := vm_dD b_Shape_needingOne_0 59 rfl rfl
theorem d_Shape_needingOne_90 : vm_D q_Shape_needingOne.2.1 90 1 91 (.ishr) := vm_dD b_Shape_needingOne_1 0 rfl rfl
theorem d_Shape_needingOne_91 : vm_D q_Shape_needingOne.2.1 91 1 92 (.iconst 1) := vm_dD b_Shape_needingOne_1 1 rfl rfl
theorem d_Shape_needingOne_92 : vm_D q_Shape_needingOne.2.1 92 1 93 (.iand) := vm_dD b_Shape_needingOne_1 2 rfl rfl
theorem d_Shape_needingOne_93 : vm_B q_Shape_needingOne.2.1 93 96 108 (fun o => .ifCond .eq o) := ⟨15, vm_db b_Shape_needingOne_1 (i := 3) rfl, rfl, by decide⟩
theorem d_Shape_needingOne_96 : vm_D q_Shape_needingOne.2.1 96 1 97 (.iload_n 2) := vm_dD b_Shape_needingOne_1 4 rfl rfl
theorem d_Shape_needingOne_97 : vm_D q_Shape_needingOne.2.1 97 1 98 (.iconst 1) := vm_dD b_Shape_needingOne_1 5 rfl rfl
theorem d_Shape_needingOne_98 : vm_D q_Shape_needingOne.2.1 98 1 99 (.iload_n 3) := vm_dD b_Shape_needingOne_1 6 rfl rfl
theorem d_Shape_needingOne_99 : vm_D q_Shape_needingOne.2.1 99 1 100 (.ishl) := vm_dD b_Shape_needingOne_1 7 rfl rfl
theorem d_Shape_needingOne_100 : vm_D q_Shape_needingOne.2.1 100 1 101 (.ior) := vm_dD b_Shape_needingOne_1 8 rfl rfl
theorem d_Shape_needingOne_101 : vm_D q_Shape_needingOne.2.1 101 1 102 (.istore_n 2) := vm_dD b_Shape_needingOne_1 9 rfl rfl
theorem d_Shape_needingOne_102 : vm_D q_Shape_needingOne.2.1 102 3 105 (.iinc 3 (-1)) := vm_dD b_Shape_needingOne_1 10 rfl rfl
theorem d_Shape_needingOne_105 : ∃ off : Int, decode q_Shape_needingOne.2.1 105 = .ok (.goto off, 3) ∧ ((105 : Nat) : Int) + off = ((84 : Nat) : Int) := ⟨-21, vm_db b_Shape_needingOne_1 (i := 11) rfl, by decide⟩
theorem d_Shape_needingOne_108 : vm_D q_Shape_needingOne.2.1 108 1 109 (.iload_n 2) := vm_dD b_Shape_needingOne_1 12 rfl rfl
theorem d_Shape_needingOne_109 : vm_D q_Shape_needingOne.2.1 109 1 110 (.ireturn) := vm_dD b_Shape_needingOne_1 13 rfl rfl
def q_Shape_put : vm_Y := ("RepeatFree$Shape", cX6_put, 5, false, [])
def t_Shape_put_0 : List (Nat × Instr × Nat) := [(0, .aload_n 0, 1), (1, .iconst 0, 1), (2, .putfield 22, 3), (5, .aload_n 0, 1), (6, .iconst 0, 1), (7, .putfield 29, 3), (10, .iload_n 2, 1), (11, .istore 4, 2), (13, .iload 4, 2), (15, .iload_n 3, 1), (16, .if_icmp .ge 49, 3), (19, .aload_n 0, 1), (20, .getfield 22, 3), (23, .aload_n 0, 1), (24, .getfield 18, 3), (27, .arraylength, 1), (28, .if_icmp .ge 37, 3), (31, .aload_n 0, 1), (32, .getfield 18, 3), (35, .aload_n 0, 1), (36, .getfield 22, 3), (39, .aload_n 1, 1), (40, .iload 4, 2), (42, .invokevirtual 33, 3), (45, .bipush 120, 2), (47, .isub, 1), (48, .iastore, 1), (49, .aload_n 0, 1), (50, .dup, 1), (51, .getfield 22, 3), (54, .iconst 1, 1), (55, .iadd, 1), (56, .putfield 22, 3), (59, .iinc 4 1, 3), (62, .goto (-49), 3), (65, .aload_n 0, 1), (66, .aload_n 0, 1), (67, .invokevirtual 39, 3), (70, .putfield 26, 3), (73, .return_, 1)]
theorem b_Shape_put_0 : (t_Shape_put_0.all fun q => decide (decode q_Shape_put.2.1 q.1 = .ok (q.2.1, q.2.2))) = true := by decide +kernel
theorem d_Shape_put_0 : vm_D q_Shape_put.2.1 0 1 1 (.aload_n 0) := vm_dD b_Shape_put_0 0 rfl rfl
theorem d_Shape_put_1 : vm_D q_Shape_put.2.1 1 1 2 (.iconst 0) := vm_dD b_Shape_put_0 1 rfl rfl
theorem d_Shape_put_2 : vm_D q_Shape_put.2.1 2 3 5 (.putfield 22) := vm_dD b_Shape_put_0 2 rfl rfl
theorem d_Shape_put_5 : vm_D q_Shape_put.2.1 5 1 6 (.aload_n 0) := vm_dD b_Shape_put_0 3 rfl rfl
theorem d_Shape_put_6 : vm_D q_Shape_put.2.1 6 1 7 (.iconst 0) := vm_dD b_Shape_put_0 4 rfl rfl
theorem d_Shape_put_7 : vm_D q_Shape_put.2.1 7 3 10 (.putfield 29) := vm_dD b_Shape_put_0 5 rfl rfl
theorem d_Shape_put_10 : vm_D q_Shape_put.2.1 10 1 11 (.iload_n 2) := vm_dD b_Shape_put_0 6 rfl rfl
theorem d_Shape_put_11 : vm_D q_Shape_put.2.1 11 2 13 (.istore 4) := vm_dD b_Shape_put_0 7 rfl rfl
theorem d_Shape_put_13 : vm_D q_Shape_put.2.1 13 2 15 (.iload 4) := vm_dD b_Shape_put_0 8 rfl rfl
theorem d_Shape_put_15 : vm_D q_Shape_put.2.1 15 1 16 (.iload_n 3) := vm_dD b_Shape_put_0 9 rfl rfl
theorem d_Shape_put_16 : vm_B q_Shape_put.2.1 16 19 65 (fun o => .if_icmp .ge o) := ⟨49, vm_db b_Shape_put_0 (i := 10) rfl, rfl, by decide⟩
theorem d_Shape_put_19 : vm_D q_Shape_put.2.1 19 1 20 (.aload_n 0) := vm_dD b_Shape_put_0 11 rfl rfl
theorem d_Shape_put_20 : vm_D q_Shape_put.2.1 20 3 23 (.getfield 22) := vm_dD b_Shape_put_0 12 rfl rfl
theorem d_Shape_put_23 : vm_D q_Shape_put.2.1 23 1 24 (.aload_n 0) := vm_dD b_Shape_put_0 13 rfl rfl
theorem d_Shape_put_24 : vm_D q_Shape_put.2.1 24 3 27 (.getfield 18) := vm_dD b_Shape_put_0 14 rfl rfl
theorem d_Shape_put_27 : vm_D q_Shape_put.2.1 27 1 28 (.arraylength) := vm_dD b_Shape_put_0 15 rfl rfl
theorem d_Shape_put_28 : vm_B q_Shape_put.2.1 28 31 65 (fun o => .if_icmp .ge o) := ⟨37, vm_db b_Shape_put_0 (i := 16) rfl, rfl, by decide⟩
theorem d_Shape_put_31 : vm_D q_Shape_put.2.1 31 1 32 (.aload_n 0) := vm_dD b_Shape_put_0 17 rfl rfl
theorem d_Shape_put_32 : vm_D q_Shape_put.2.1 32 3 35 (.getfield 18) := vm_dD b_Shape_put_0 18 rfl rfl
theorem d_Shape_put_35 : vm_D q_Shape_put.2.1 35 1 36 (.aload_n 0) := vm_dD b_Shape_put_0 19 rfl rfl
theorem d_Shape_put_36 : vm_D q_Shape_put.2.1 36 3 39 (.getfield 22) := vm_dD b_Shape_put_0 20 rfl rfl
theorem d_Shape_put_39 : vm_D q_Shape_put.2.1 39 1 40 (.aload_n 1) := vm_dD b_Shape_put_0 21 rfl rfl
theorem d_Shape_put_40 : vm_D q_Shape_put.2.1 40 2 42 (.iload 4) := vm_dD b_Shape_put_0 22 rfl rfl
theorem d_Shape_put_42 : vm_D q_Shape_put.2.1 42 3 45 (.invokevirtual 33) := vm_dD b_Shape_put_0 23 rfl rfl
theorem d_Shape_put_45 : vm_D q_Shape_put.2.1 45 2 47 (.bipush 120) := vm_dD b_Shape_put_0 24 rfl rfl
theorem d_Shape_put_47 : vm_D q_Shape_put.2.1 47 1 48 (.isub) := vm_dD b_Shape_put_0 25 rfl rfl
theorem d_Shape_put_48 : vm_D q_Shape_put.2.1 48 1 49 (.iastore) := vm_dD b_Shape_put_0 26 rfl rfl
theorem d_Shape_put_49 : vm_D q_Shape_put.2.1 49 1 50 (.aload_n 0) := vm_dD b_Shape_put_0 27 rfl rfl
theorem d_Shape_put_50 : vm_D q_Shape_put.2.1 50 1 51 (.dup) := vm_dD b_Shape_put_0 28 rfl rfl
theorem d_Shape_put_51 : vm_D q_Shape_put.2.1 51 3 54 (.getfield 22) := vm_dD b_Shape_put_0 29 rfl rfl
theorem d_Shape_put_54 : vm_D q_Shape_put.2.1 54 1 55 (.iconst 1) := vm_dD b_Shape_put_0 30 rfl rfl
theorem d_Shape_put_55 : vm_D q_Shape_put.2.1 55 1 56 (.iadd) := vm_dD b_Shape_put_0 31 rfl rfl
theorem d_Shape_put_56 : vm_D q_Shape_put.2.1 56 3 59 (.putfield 22) := vm_dD b_Shape_put_0 32 rfl rfl
theorem d_Shape_put_59 : vm_D q_Shape_put.2.1 59 3 62 (.iinc 4 1) := vm_dD b_Shape_put_0 33 rfl rfl
theorem d_Shape_put_62 : ∃ off : Int, decode q_Shape_put.2.1 62 = .ok (.goto off, 3) ∧ ((62 : Nat) : Int) + off = ((13 : Nat) : Int) := ⟨-49, vm_db b_Shape_put_0 (i := 34) rfl, by decide⟩
theorem d_Shape_put_65 : vm_D q_Shape_put.2.1 65 1 66 (.aload_n 0) := vm_dD b_Shape_put_0 35 rfl rfl
theorem d_Shape_put_66 : vm_D q_Shape_put.2.1 66 1 67 (.aload_n 0) := vm_dD b_Shape_put_0 36 rfl rfl
theorem d_Shape_put_67 : vm_D q_Shape_put.2.1 67 3 70 (.invokevirtual 39) := vm_dD b_Shape_put_0 37 rfl rfl
theorem d_Shape_put_70 : vm_D q_Shape_put.2.1 70 3 73 (.putfield 26) := vm_dD b_Shape_put_0 38 rfl rfl
theorem d_Shape_put_73 : vm_D q_Shape_put.2.1 73 1 74 (.return_) := vm_dD b_Shape_put_0 39 rfl rfl
def q_Reader_takesShape : vm_Y := ("RepeatFree$Reader", cX4_takesShape, 3, false, [])
def t_Reader_takesShape_0 : List (Nat × Instr × Nat) := [(0, .aload_n 1, 1), (1, .aload_n 1, 1), (2, .getfield 175, 3), (5, .invokevirtual 178, 3), (8, .astore_n 2, 1), (9, .aload_n 2, 1), (10, .ifnonnull 12, 3), (13, .aload_n 0, 1), (14, .aload_n 0, 1), (15, .getfield 25, 3), (18, .invokevirtual 75, 3), (21, .ireturn, 1), (22, .aload_n 0, 1), (23, .aload_n 1, 1), (24, .aload_n 2, 1), (25, .getfield 182, 3), (28, .invokevirtual 164, 3), (31, .ifCond .eq 15, 3), (34, .aload_n 0, 1), (35, .bipush 120, 2), (37, .iconst 3, 1), (38, .bipush 6, 2), (40, .invokevirtual 168, 3), (43, .ifCond .ne 5, 3), (46, .iconst 0, 1), (47, .ireturn, 1), (48, .aload_n 2, 1), (49, .aload_n 0, 1), (50, .getfield 12, 3), (53, .aload_n 0, 1), (54, .getfield 25, 3), (57, .aload_n 0, 1), (58, .getfield 18, 3), (61, .invokevirtual 185, 3), (64, .aload_n 1, 1), (65, .dup, 1), (66, .getfield 175, 3), (69, .iconst 1, 1), (70, .iadd, 1), (71, .putfield 175, 3), (74, .iconst 1, 1), (75, .ireturn, 1)]
theorem b_Reader_takesShape_0 : (t_Reader_takesShape_0.all fun q => decide (decode q_Reader_takesShape.2.1 q.1 = .ok (q.2.1, q.2.2))) = true := by decide +kernel
theorem d_Reader_takesShape_0 : vm_D q_Reader_takesShape.2.1 0 1 1 (.aload_n 1) := vm_dD b_Reader_takesShape_0 0 rfl rfl
theorem d_Reader_takesShape_1 : vm_D q_Reader_takesShape.2.1 1 1 2 (.aload_n 1) := vm_dD b_Reader_takesShape_0 1 rfl rfl
theorem d_Reader_takesShape_2 : vm_D q_Reader_takesShape.2.1 2 3 5 (.getfield 175) := vm_dD b_Reader_takesShape_0 2 rfl rfl
theorem d_Reader_takesShape_5 : vm_D q_Reader_takesShape.2.1 5 3 8 (.invokevirtual 178) := vm_dD b_Reader_takesShape_0 3 rfl rfl
theorem d_Reader_takesShape_8 : vm_D q_Reader_takesShape.2.1 8 1 9 (.astore_n 2) := vm_dD b_Reader_takesShape_0 4 rfl rfl
theorem d_Reader_takesShape_9 : vm_D q_Reader_takesShape.2.1 9 1 10 (.aload_n 2) := vm_dD b_Reader_takesShape_0 5 rfl rfl
theorem d_Reader_takesShape_10 : vm_B q_Reader_takesShape.2.1 10 13 22 (fun o => .ifnonnull o) := ⟨12, vm_db b_Reader_takesShape_0 (i := 6) rfl, rfl, by decide⟩
theorem d_Reader_takesShape_22 : vm_D q_Reader_takesShape.2.1 22 1 23 (.aload_n 0) := vm_dD b_Reader_takesShape_0 12 rfl rfl
theorem d_Reader_takesShape_23 : vm_D q_Reader_takesShape.2.1 23 1 24 (.aload_n 1) := vm_dD b_Reader_takesShape_0 13 rfl rfl
theorem d_Reader_takesShape_24 : vm_D q_Reader_takesShape.2.1 24 1 25 (.aload_n 2) := vm_dD b_Reader_takesShape_0 14 rfl rfl
theorem d_Reader_takesShape_25 : vm_D q_Reader_takesShape.2.1 25 3 28 (.getfield 182) := vm_dD b_Reader_takesShape_0 15 rfl rfl
theorem d_Reader_takesShape_28 : vm_D q_Reader_takesShape.2.1 28 3 31 (.invokevirtual 164) := vm_dD b_Reader_takesShape_0 16 rfl rfl
theorem d_Reader_takesShape_31 : vm_B q_Reader_takesShape.2.1 31 34 46 (fun o => .ifCond .eq o) := ⟨15, vm_db b_Reader_takesShape_0 (i := 17) rfl, rfl, by decide⟩
theorem d_Reader_takesShape_46 : vm_D q_Reader_takesShape.2.1 46 1 47 (.iconst 0) := vm_dD b_Reader_takesShape_0 24 rfl rfl
theorem d_Reader_takesShape_47 : vm_D q_Reader_takesShape.2.1 47 1 48 (.ireturn) := vm_dD b_Reader_takesShape_0 25 rfl rfl
theorem d_Reader_takesShape_34 : vm_D q_Reader_takesShape.2.1 34 1 35 (.aload_n 0) := vm_dD b_Reader_takesShape_0 18 rfl rfl
theorem d_Reader_takesShape_35 : vm_D q_Reader_takesShape.2.1 35 2 37 (.bipush 120) := vm_dD b_Reader_takesShape_0 19 rfl rfl
theorem d_Reader_takesShape_37 : vm_D q_Reader_takesShape.2.1 37 1 38 (.iconst 3) := vm_dD b_Reader_takesShape_0 20 rfl rfl
theorem d_Reader_takesShape_38 : vm_D q_Reader_takesShape.2.1 38 2 40 (.bipush 6) := vm_dD b_Reader_takesShape_0 21 rfl rfl
theorem d_Reader_takesShape_40 : vm_D q_Reader_takesShape.2.1 40 3 43 (.invokevirtual 168) := vm_dD b_Reader_takesShape_0 22 rfl rfl
theorem d_Reader_takesShape_43 : vm_B q_Reader_takesShape.2.1 43 46 48 (fun o => .ifCond .ne o) := ⟨5, vm_db b_Reader_takesShape_0 (i := 23) rfl, rfl, by decide⟩
theorem d_Reader_takesShape_48 : vm_D q_Reader_takesShape.2.1 48 1 49 (.aload_n 2) := vm_dD b_Reader_takesShape_0 26 rfl rfl
theorem d_Reader_takesShape_49 : vm_D q_Reader_takesShape.2.1 49 1 50 (.aload_n 0) := vm_dD b_Reader_takesShape_0 27 rfl rfl
theorem d_Reader_takesShape_50 : vm_D q_Reader_takesShape.2.1 50 3 53 (.getfield 12) := vm_dD b_Reader_takesShape_0 28 rfl rfl
theorem d_Reader_takesShape_53 : vm_D q_Reader_takesShape.2.1 53 1 54 (.aload_n 0) := vm_dD b_Reader_takesShape_0 29 rfl rfl
theorem d_Reader_takesShape_54 : vm_D q_Reader_takesShape.2.1 54 3 57 (.getfield 25) := vm_dD b_Reader_takesShape_0 30 rfl rfl
theorem d_Reader_takesShape_57 : vm_D q_Reader_takesShape.2.1 57 1 58 (.aload_n 0) := vm_dD b_Reader_takesShape_0 31 rfl rfl
theorem d_Reader_takesShape_58 : vm_D q_Reader_takesShape.2.1 58 3 61 (.getfield 18) := vm_dD b_Reader_takesShape_0 32 rfl rfl
theorem d_Reader_takesShape_61 : vm_D q_Reader_takesShape.2.1 61 3 64 (.invokevirtual 185) := vm_dD b_Reader_takesShape_0 33 rfl rfl
theorem d_Reader_takesShape_64 : vm_D q_Reader_takesShape.2.1 64 1 65 (.aload_n 1) := vm_dD b_Reader_takesShape_0 34 rfl rfl
theorem d_Reader_takesShape_65 : vm_D q_Reader_takesShape.2.1 65 1 66 (.dup) := vm_dD b_Reader_takesShape_0 35 rfl rfl
theorem d_Reader_takesShape_66 : vm_D q_Reader_takesShape.2.1 66 3 69 (.getfield 175) := vm_dD b_Reader_takesShape_0 36 rfl rfl
theorem d_Reader_takesShape_69 : vm_D q_Reader_takesShape.2.1 69 1 70 (.iconst 1) := vm_dD b_Reader_takesShape_0 37 rfl rfl
theorem d_Reader_takesShape_70 : vm_D q_Reader_takesShape.2.1 70 1 71 (.iadd) := vm_dD b_Reader_takesShape_0 38 rfl rfl
theorem d_Reader_takesShape_71 : vm_D q_Reader_takesShape.2.1 71 3 74 (.putfield 175) := vm_dD b_Reader_takesShape_0 39 rfl rfl
theorem d_Reader_takesShape_74 : vm_D q_Reader_takesShape.2.1 74 1 75 (.iconst 1) := vm_dD b_Reader_takesShape_0 40 rfl rfl
theorem d_Reader_takesShape_75 : vm_D q_Reader_takesShape.2.1 75 1 76 (.ireturn) := vm_dD b_Reader_takesShape_0 41 rfl rfl
theorem d_Reader_takesShape_13 : vm_D q_Reader_takesShape.2.1 13 1 14 (.aload_n 0) := vm_dD b_Reader_takesShape_0 7 rfl rfl
theorem d_Reader_takesShape_14 : vm_D q_Reader_takesShape.2.1 14 1 15 (.aload_n 0) := vm_dD b_Reader_takesShape_0 8 rfl rfl
theorem d_Reader_takesShape_15 : vm_D q_Reader_takesShape.2.1 15 3 18 (.getfield 25) := vm_dD b_Reader_takesShape_0 9 rfl rfl
theorem d_Reader_takesShape_18 : vm_D q_Reader_takesShape.2.1 18 3 21 (.invokevirtual 75) := vm_dD b_Reader_takesShape_0 10 rfl rfl
theorem d_Reader_takesShape_21 : vm_D q_Reader_takesShape.2.1 21 1 22 (.ireturn) := vm_dD b_Reader_takesShape_0 11 rfl rfl
def q_Reader_takesLine : vm_Y := ("RepeatFree$Reader", cX4_takesLine, 2, false, [])
def t_Reader_takesLine_0 : List (Nat × Instr × Nat) := [(0, .aload_n 0, 1), (1, .invokevirtual 95, 3), (4, .ifCond .ne 5, 3), (7, .iconst 0, 1), (8, .ireturn, 1), (9, .aload_n 0, 1), (10, .ldc 105, 2), (12, .invokevirtual 99, 3), (15, .ifCond .eq 16, 3), (18, .aload_n 1, 1), (19, .getfield 107, 3), (22, .ifCond .ne 9, 3), (25, .aload_n 0, 1), (26, .aload_n 1, 1), (27, .invokevirtual 110, 3), (30, .ireturn, 1), (31, .aload_n 0, 1), (32, .ldc 113, 2), (34, .invokevirtual 99, 3), (37, .ifCond .eq 9, 3), (40, .aload_n 0, 1), (41, .aload_n 1, 1), (42, .invokevirtual 115, 3), (45, .ireturn, 1), (46, .aload_n 0, 1), (47, .ldc 118, 2), (49, .invokevirtual 99, 3), (52, .ifCond .eq 9, 3), (55, .aload_n 0, 1), (56, .aload_n 1, 1), (57, .invokevirtual 120, 3), (60, .ireturn, 1), (61, .aload_n 0, 1), (62, .ldc 123, 2), (64, .invokevirtual 99, 3), (67, .ifCond .eq 11, 3), (70, .aload_n 0, 1), (71, .aload_n 1, 1), (72, .invokevirtual 125, 3), (75, .goto 11, 3), (78, .aload_n 0, 1), (79, .aload_n 0, 1), (80, .getfield 25, 3), (83, .invokevirtual 75, 3), (86, .ireturn, 1)]
theorem b_Reader_takesLine_0 : (t_Reader_takesLine_0.all fun q => decide (decode q_Reader_takesLine.2.1 q.1 = .ok (q.2.1, q.2.2))) = true := by decide +kernel
theorem d_Reader_takesLine_0 : vm_D q_Reader_takesLine.2.1 0 1 1 (.aload_n 0) := vm_dD b_Reader_takesLine_0 0 rfl rfl
theorem d_Reader_takesLine_1 : vm_D q_Reader_takesLine.2.1 1 3 4 (.invokevirtual 95) := vm_dD b_Reader_takesLine_0 1 rfl rfl
theorem d_Reader_takesLine_4 : vm_B q_Reader_takesLine.2.1 4 7 9 (fun o => .ifCond .ne o) := ⟨5, vm_db b_Reader_takesLine_0 (i := 2) rfl, rfl, by decide⟩
theorem d_Reader_takesLine_9 : vm_D q_Reader_takesLine.2.1 9 1 10 (.aload_n 0) := vm_dD b_Reader_takesLine_0 5 rfl rfl
theorem d_Reader_takesLine_10 : vm_D q_Reader_takesLine.2.1 10 2 12 (.ldc 105) := vm_dD b_Reader_takesLine_0 6 rfl rfl
theorem d_Reader_takesLine_12 : vm_D q_Reader_takesLine.2.1 12 3 15 (.invokevirtual 99) := vm_dD b_Reader_takesLine_0 7 rfl rfl
theorem d_Reader_takesLine_15 : vm_B q_Reader_takesLine.2.1 15 18 31 (fun o => .ifCond .eq o) := ⟨16, vm_db b_Reader_takesLine_0 (i := 8) rfl, rfl, by decide⟩
theorem d_Reader_takesLine_31 : vm_D q_Reader_takesLine.2.1 31 1 32 (.aload_n 0) := vm_dD b_Reader_takesLine_0 16 rfl rfl
theorem d_Reader_takesLine_32 : vm_D q_Reader_takesLine.2.1 32 2 34 (.ldc 113) := vm_dD b_Reader_takesLine_0 17 rfl rfl
theorem d_Reader_takesLine_34 : vm_D q_Reader_takesLine.2.1 34 3 37 (.invokevirtual 99) := vm_dD b_Reader_takesLine_0 18 rfl rfl
theorem d_Reader_takesLine_37 : vm_B q_Reader_takesLine.2.1 37 40 46 (fun o => .ifCond .eq o) := ⟨9, vm_db b_Reader_takesLine_0 (i := 19) rfl, rfl, by decide⟩
theorem d_Reader_takesLine_46 : vm_D q_Reader_takesLine.2.1 46 1 47 (.aload_n 0) := vm_dD b_Reader_takesLine_0 24 rfl rfl
theorem d_Reader_takesLine_47 : vm_D q_Reader_takesLine.2.1 47 2 49 (.ldc 118) := vm_dD b_Reader_takesLine_0 25 rfl rfl
theorem d_Reader_takesLine_49 : vm_D q_Reader_takesLine.2.1 49 3 52 (.invokevirtual 99) := vm_dD b_Reader_takesLine_0 26 rfl rfl
theorem d_Reader_takesLine_52 : vm_B q_Reader_takesLine.2.1 52 55 61 (fun o => .ifCond .eq o) := ⟨9, vm_db b_Reader_takesLine_0 (i := 27) rfl, rfl, by decide⟩
theorem d_Reader_takesLine_61 : vm_D q_Reader_takesLine.2.1 61 1 62 (.aload_n 0) := vm_dD b_Reader_takesLine_0 32 rfl rfl
theorem d_Reader_takesLine_62 : vm_D q_Reader_takesLine.2.1 62 2 64 (.ldc 123) := vm_dD b_Reader_takesLine_0 33 rfl rfl
theorem d_Reader_takesLine_64 : vm_D q_Reader_takesLine.2.1 64 3 67 (.invokevirtual 99) := vm_dD b_Reader_takesLine_0 34 rfl rfl
theorem d_Reader_takesLine_67 : vm_B q_Reader_takesLine.2.1 67 70 78 (fun o => .ifCond .eq o) := ⟨11, vm_db b_Reader_takesLine_0 (i := 35) rfl, rfl, by decide⟩
theorem d_Reader_takesLine_78 : vm_D q_Reader_takesLine.2.1 78 1 79 (.aload_n 0) := vm_dD b_Reader_takesLine_0 40 rfl rfl
theorem d_Reader_takesLine_79 : vm_D q_Reader_takesLine.2.1 79 1 80 (.aload_n 0) := vm_dD b_Reader_takesLine_0 41 rfl rfl
theorem d_Reader_takesLine_80 : vm_D q_Reader_takesLine.2.1 80 3 83 (.getfield 25) := vm_dD b_Reader_takesLine_0 42 rfl rfl
theorem d_Reader_takesLine_83 : vm_D q_Reader_takesLine.2.1 83 3 86 (.invokevirtual 75) := vm_dD b_Reader_takesLine_0 43 rfl rfl
theorem d_Reader_takesLine_86 : vm_D q_Reader_takesLine.2.1 86 1 87 (.ireturn) := vm_dD b_Reader_takesLine_0 44 rfl rfl
theorem d_Reader_takesLine_70 : vm_D q_Reader_takesLine.2.1 70 1 71 (.aload_n 0) := vm_dD b_Reader_takesLine_0 36 rfl rfl
theorem d_Reader_takesLine_71 : vm_D q_Reader_takesLine.2.1 71 1 72 (.aload_n 1) := vm_dD b_Reader_takesLine_0 37 rfl rfl
theorem d_Reader_takesLine_72 : vm_D q_Reader_takesLine.2.1 72 3 75 (.invokevirtual 125) := vm_dD b_Reader_takesLine_0 38 rfl rfl
theorem d_Reader_takesLine_75 : ∃ off : Int, decode q_Reader_takesLine.2.1 75 = .ok (.goto off, 3) ∧ ((75 : Nat) : Int) + off = ((86 : Nat) : Int) := ⟨11, vm_db b_Reader_takesLine_0 (i := 39) rfl, by decide⟩
theorem d_Reader_takesLine_55 : vm_D q_Reader_takesLine.2.1 55 1 56 (.aload_n 0) := vm_dD b_Reader_takesLine_0 28 rfl rfl
theorem d_Reader_takesLine_56 : vm_D q_Reader_takesLine.2.1 56 1 57 (.aload_n 1) := vm_dD b_Reader_takesLine_0 29 rfl rfl
theorem d_Reader_takesLine_57 : vm_D q_Reader_takesLine.2.1 57 3 60 (.invokevirtual 120) := vm_dD b_Reader_takesLine_0 30 rfl rfl
theorem d_Reader_takesLine_60 : vm_D q_Reader_takesLine.2.1 60 1 61 (.ireturn) := vm_dD b_Reader_takesLine_0 31 rfl rfl
theorem d_Reader_takesLine_40 : vm_D q_Reader_takesLine.2.1 40 1 41 (.aload_n 0) := vm_dD b_Reader_takesLine_0 20 rfl rfl
theorem d_Reader_takesLine_41 : vm_D q_Reader_takesLine.2.1 41 1 42 (.aload_n 1) := vm_dD b_Reader_takesLine_0 21 rfl rfl
theorem d_Reader_takesLine_42 : vm_D q_Reader_takesLine.2.1 42 3 45 (.invokevirtual 115) := vm_dD b_Reader_takesLine_0 22 rfl rfl
theorem d_Reader_takesLine_45 : vm_D q_Reader_takesLine.2.1 45 1 46 (.ireturn) := vm_dD b_Reader_takesLine_0 23 rfl rfl
theorem d_Reader_takesLine_18 : vm_D q_Reader_takesLine.2.1 18 1 19 (.aload_n 1) := vm_dD b_Reader_takesLine_0 9 rfl rfl
theorem d_Reader_takesLine_19 : vm_D q_Reader_takesLine.2.1 19 3 22 (.getfield 107) := vm_dD b_Reader_takesLine_0 10 rfl rfl
theorem d_Reader_takesLine_22 : vm_B q_Reader_takesLine.2.1 22 25 31 (fun o => .ifCond .ne o) := ⟨9, vm_db b_Reader_takesLine_0 (i := 11) rfl, rfl, by decide⟩
theorem d_Reader_takesLine_25 : vm_D q_Reader_takesLine.2.1 25 1 26 (.aload_n 0) := vm_dD b_Reader_takesLine_0 12 rfl rfl
theorem d_Reader_takesLine_26 : vm_D q_Reader_takesLine.2.1 26 1 27 (.aload_n 1) := vm_dD b_Reader_takesLine_0 13 rfl rfl
theorem d_Reader_takesLine_27 : vm_D q_Reader_takesLine.2.1 27 3 30 (.invokevirtual 110) := vm_dD b_Reader_takesLine_0 14 rfl rfl
theorem d_Reader_takesLine_30 : vm_D q_Reader_takesLine.2.1 30 1 31 (.ireturn) := vm_dD b_Reader_takesLine_0 15 rfl rfl
theorem d_Reader_takesLine_7 : vm_D q_Reader_takesLine.2.1 7 1 8 (.iconst 0) := vm_dD b_Reader_takesLine_0 3 rfl rfl
theorem d_Reader_takesLine_8 : vm_D q_Reader_takesLine.2.1 8 1 9 (.ireturn) := vm_dD b_Reader_takesLine_0 4 rfl rfl
def q_Reader_takesSign : vm_Y := ("RepeatFree$Reader", cX4_takesSign, 2, false, [])
def t_Reader_takesSign_0 : List (Nat × Instr × Nat) := [(0, .aload_n 0, 1), (1, .invokevirtual 55, 3), (4, .aload_n 0, 1), (5, .getfield 12, 3), (8, .aload_n 0, 1), (9, .getfield 18, 3), (12, .invokevirtual 68, 3), (15, .iload_n 1, 1), (16, .if_icmp .eq 12, 3), (19, .aload_n 0, 1), (20, .aload_n 0, 1), (21, .getfield 18, 3), (24, .invokevirtual 75, 3), (27, .ireturn, 1), (28, .aload_n 0, 1), (29, .dup, 1), (30, .getfield 18, 3), (33, .iconst 1, 1), (34, .iadd, 1), (35, .putfield 18, 3), (38, .iconst 1, 1), (39, .ireturn, 1)]
theorem b_Reader_takesSign_0 : (t_Reader_takesSign_0.all fun q => decide (decode q_Reader_takesSign.2.1 q.1 = .ok (q.2.1, q.2.2))) = true := by decide +kernel
theorem d_Reader_takesSign_0 : vm_D q_Reader_takesSign.2.1 0 1 1 (.aload_n 0) := vm_dD b_Reader_takesSign_0 0 rfl rfl
theorem d_Reader_takesSign_1 : vm_D q_Reader_takesSign.2.1 1 3 4 (.invokevirtual 55) := vm_dD b_Reader_takesSign_0 1 rfl rfl
theorem d_Reader_takesSign_4 : vm_D q_Reader_takesSign.2.1 4 1 5 (.aload_n 0) := vm_dD b_Reader_takesSign_0 2 rfl rfl
theorem d_Reader_takesSign_5 : vm_D q_Reader_takesSign.2.1 5 3 8 (.getfield 12) := vm_dD b_Reader_takesSign_0 3 rfl rfl
theorem d_Reader_takesSign_8 : vm_D q_Reader_takesSign.2.1 8 1 9 (.aload_n 0) := vm_dD b_Reader_takesSign_0 4 rfl rfl
theorem d_Reader_takesSign_9 : vm_D q_Reader_takesSign.2.1 9 3 12 (.getfield 18) := vm_dD b_Reader_takesSign_0 5 rfl rfl
theorem d_Reader_takesSign_12 : vm_D q_Reader_takesSign.2.1 12 3 15 (.invokevirtual 68) := vm_dD b_Reader_takesSign_0 6 rfl rfl
theorem d_Reader_takesSign_15 : vm_D q_Reader_takesSign.2.1 15 1 16 (.iload_n 1) := vm_dD b_Reader_takesSign_0 7 rfl rfl
theorem d_Reader_takesSign_16 : vm_B q_Reader_takesSign.2.1 16 19 28 (fun o => .if_icmp .eq o) := ⟨12, vm_db b_Reader_takesSign_0 (i := 8) rfl, rfl, by decide⟩
theorem d_Reader_takesSign_28 : vm_D q_Reader_takesSign.2.1 28 1 29 (.aload_n 0) := vm_dD b_Reader_takesSign_0 14 rfl rfl
theorem d_Reader_takesSign_29 : vm_D q_Reader_takesSign.2.1 29 1 30 (.dup) := vm_dD b_Reader_takesSign_0 15 rfl rfl
theorem d_Reader_takesSign_30 : vm_D q_Reader_takesSign.2.1 30 3 33 (.getfield 18) := vm_dD b_Reader_takesSign_0 16 rfl rfl
theorem d_Reader_takesSign_33 : vm_D q_Reader_takesSign.2.1 33 1 34 (.iconst 1) := vm_dD b_Reader_takesSign_0 17 rfl rfl
theorem d_Reader_takesSign_34 : vm_D q_Reader_takesSign.2.1 34 1 35 (.iadd) := vm_dD b_Reader_takesSign_0 18 rfl rfl
theorem d_Reader_takesSign_35 : vm_D q_Reader_takesSign.2.1 35 3 38 (.putfield 18) := vm_dD b_Reader_takesSign_0 19 rfl rfl
theorem d_Reader_takesSign_38 : vm_D q_Reader_takesSign.2.1 38 1 39 (.iconst 1) := vm_dD b_Reader_takesSign_0 20 rfl rfl
theorem d_Reader_takesSign_39 : vm_D q_Reader_takesSign.2.1 39 1 40 (.ireturn) := vm_dD b_Reader_takesSign_0 21 rfl rfl
theorem d_Reader_takesSign_19 : vm_D q_Reader_takesSign.2.1 19 1 20 (.aload_n 0) := vm_dD b_Reader_takesSign_0 9 rfl rfl
theorem d_Reader_takesSign_20 : vm_D q_Reader_takesSign.2.1 20 1 21 (.aload_n 0) := vm_dD b_Reader_takesSign_0 10 rfl rfl
theorem d_Reader_takesSign_21 : vm_D q_Reader_takesSign.2.1 21 3 24 (.getfield 18) := vm_dD b_Reader_takesSign_0 11 rfl rfl
theorem d_Reader_takesSign_24 : vm_D q_Reader_takesSign.2.1 24 3 27 (.invokevirtual 75) := vm_dD b_Reader_takesSign_0 12 rfl rfl
theorem d_Reader_takesSign_27 : vm_D q_Reader_takesSign.2.1 27 1 28 (.ireturn) := vm_dD b_Reader_takesSign_0 13 rfl rfl
def q_Told_clear : vm_Y := ("RepeatFree$Told", cX9_clear, 1, false, [])
def t_Told_clear_0 : List (Nat × Instr × Nat) := [(0, .aload_n 0, 1), (1, .iconst 2, 1), (2, .putfield 23, 3), (5, .aload_n 0, 1), (6, .iconst 0, 1), (7, .iconst 0, 1), (8, .iconst 0, 1), (9, .invokevirtual 44, 3), (12, .aload_n 0, 1), (13, .iconst 0, 1), (14, .putfield 36, 3), (17, .aload_n 0, 1), (18, .iconst 0, 1), (19, .putfield 39, 3), (22, .return_, 1)]
theorem b_Told_clear_0 : (t_Told_clear_0.all fun q => decide (decode q_Told_clear.2.1 q.1 = .ok (q.2.1, q.2.2))) = true := by decide +kernel
theorem d_Told_clear_0 : vm_D q_Told_clear.2.1 0 1 1 (.aload_n 0) := vm_dD b_Told_clear_0 0 rfl rfl
theorem d_Told_clear_1 : vm_D q_Told_clear.2.1 1 1 2 (.iconst 2) := vm_dD b_Told_clear_0 1 rfl rfl
theorem d_Told_clear_2 : vm_D q_Told_clear.2.1 2 3 5 (.putfield 23) := vm_dD b_Told_clear_0 2 rfl rfl
theorem d_Told_clear_5 : vm_D q_Told_clear.2.1 5 1 6 (.aload_n 0) := vm_dD b_Told_clear_0 3 rfl rfl
theorem d_Told_clear_6 : vm_D q_Told_clear.2.1 6 1 7 (.iconst 0) := vm_dD b_Told_clear_0 4 rfl rfl
theorem d_Told_clear_7 : vm_D q_Told_clear.2.1 7 1 8 (.iconst 0) := vm_dD b_Told_clear_0 5 rfl rfl
theorem d_Told_clear_8 : vm_D q_Told_clear.2.1 8 1 9 (.iconst 0) := vm_dD b_Told_clear_0 6 rfl rfl
theorem d_Told_clear_9 : vm_D q_Told_clear.2.1 9 3 12 (.invokevirtual 44) := vm_dD b_Told_clear_0 7 rfl rfl
theorem d_Told_clear_12 : vm_D q_Told_clear.2.1 12 1 13 (.aload_n 0) := vm_dD b_Told_clear_0 8 rfl rfl
theorem d_Told_clear_13 : vm_D q_Told_clear.2.1 13 1 14 (.iconst 0) := vm_dD b_Told_clear_0 9 rfl rfl
theorem d_Told_clear_14 : vm_D q_Told_clear.2.1 14 3 17 (.putfield 36) := vm_dD b_Told_clear_0 10 rfl rfl
theorem d_Told_clear_17 : vm_D q_Told_clear.2.1 17 1 18 (.aload_n 0) := vm_dD b_Told_clear_0 11 rfl rfl
theorem d_Told_clear_18 : vm_D q_Told_clear.2.1 18 1 19 (.iconst 0) := vm_dD b_Told_clear_0 12 rfl rfl
theorem d_Told_clear_19 : vm_D q_Told_clear.2.1 19 3 22 (.putfield 39) := vm_dD b_Told_clear_0 13 rfl rfl
theorem d_Told_clear_22 : vm_D q_Told_clear.2.1 22 1 23 (.return_) := vm_dD b_Told_clear_0 14 rfl rfl
def q_Reader_takesText : vm_Y := ("RepeatFree$Reader", cX4_takesText, 4, false, [])
def t_Reader_takesText_0 : List (Nat × Instr × Nat) := [(0, .aload_n 0, 1), (1, .invokevirtual 31, 3), (4, .aload_n 1, 1), (5, .invokevirtual 34, 3), (8, .aload_n 0, 1), (9, .ldc 39, 2), (11, .invokevirtual 41, 3), (14, .ifCond .eq 12, 3), (17, .aload_n 0, 1), (18, .iconst 2, 1), (19, .iconst 4, 1), (20, .invokevirtual 45, 3), (23, .ifCond .ne 5, 3), (26, .iconst 0, 1), (27, .ireturn, 1), (28, .aload_n 1, 1), (29, .aload_n 0, 1), (30, .getfield 28, 3), (33, .putfield 49, 3), (36, .aload_n 0, 1), (37, .bipush 59, 2), (39, .invokevirtual 51, 3), (42, .istore_n 2, 1), (43, .aload_n 0, 1), (44, .invokevirtual 55, 3), (47, .iconst 0, 1), (48, .istore_n 3, 1), (49, .iload_n 3, 1), (50, .sipush 400, 3), (53, .if_icmp .ge 54, 3), (56, .iload_n 2, 1), (57, .ifCond .eq 50, 3), (60, .aload_n 0, 1), (61, .getfield 18, 3), (64, .aload_n 0, 1), (65, .getfield 12, 3), (68, .getfield 58, 3), (71, .if_icmp .ge 36, 3), (74, .aload_n 0, 1), (75, .aload_n 1, 1), (76, .invokevirtual 61, 3), (79, .ifCond .eq 16, 3), (82, .aload_n 0, 1), (83, .bipush 59, 2), (85, .invokevirtual 51, 3), (88, .ifCond .eq 7, 3), (91, .iconst 1, 1), (92, .goto 4, 3), (95, .iconst 0, 1), (96, .istore_n 2, 1), (97, .aload_n 0, 1), (98, .invokevirtual 55, 3), (101, .iinc 3 1, 3), (104, .goto (-55), 3), (107, .iload_n 2, 1), (108, .ireturn, 1)]
theorem b_Reader_takesText_0 : (t_Reader_takesText_0.all fun q => decide (decode q_Reader_takesText.2.1 q.1 = .ok (q.2.1, q.2.2))) = true := by decide +kernel
theorem d_Reader_takesText_0 : vm_D q_Reader_takesText.2.1 0 1 1 (.aload_n 0) := vm_dD b_Reader_takesText_0 0 rfl rfl
theorem d_Reader_takesText_1 : vm_D q_Reader_takesText.2.1 1 3 4 (.invokevirtual 31) := vm_dD b_Reader_takesText_0 1 rfl rfl
theorem d_Reader_takesText_4 : vm_D q_Reader_takesText.2.1 4 1 5 (.aload_n 1) := vm_dD b_Reader_takesText_0 2 rfl rfl
theorem d_Reader_takesText_5 : vm_D q_Reader_takesText.2.1 5 3 8 (.invokevirtual 34) := vm_dD b_Reader_takesText_0 3 rfl rfl
theorem d_Reader_takesText_8 : vm_D q_Reader_takesText.2.1 8 1 9 (.aload_n 0) := vm_dD b_Reader_takesText_0 4 rfl rfl
theorem d_Reader_takesText_9 : vm_D q_Reader_takesText.2.1 9 2 11 (.ldc 39) := vm_dD b_Reader_takesText_0 5 rfl rfl
theorem d_Reader_takesText_11 : vm_D q_Reader_takesText.2.1 11 3 14 (.invokevirtual 41) := vm_dD b_Reader_takesText_0 6 rfl rfl
theorem d_Reader_takesText_14 : vm_B q_Reader_takesText.2.1 14 17 26 (fun o => .ifCond .eq o) := ⟨12, vm_db b_Reader_takesText_0 (i := 7) rfl, rfl, by decide⟩
theorem d_Reader_takesText_26 : vm_D q_Reader_takesText.2.1 26 1 27 (.iconst 0) := vm_dD b_Reader_takesText_0 13 rfl rfl
theorem d_Reader_takesText_27 : vm_D q_Reader_takesText.2.1 27 1 28 (.ireturn) := vm_dD b_Reader_takesText_0 14 rfl rfl
theorem d_Reader_takesText_17 : vm_D q_Reader_takesText.2.1 17 1 18 (.aload_n 0) := vm_dD b_Reader_takesText_0 8 rfl rfl
theorem d_Reader_takesText_18 : vm_D q_Reader_takesText.2.1 18 1 19 (.iconst 2) := vm_dD b_Reader_takesText_0 9 rfl rfl
theorem d_Reader_takesText_19 : vm_D q_Reader_takesText.2.1 19 1 20 (.iconst 4) := vm_dD b_Reader_takesText_0 10 rfl rfl
theorem d_Reader_takesText_20 : vm_D q_Reader_takesText.2.1 20 3 23 (.invokevirtual 45) := vm_dD b_Reader_takesText_0 11 rfl rfl
theorem d_Reader_takesText_23 : vm_B q_Reader_takesText.2.1 23 26 28 (fun o => .ifCond .ne o) := ⟨5, vm_db b_Reader_takesText_0 (i := 12) rfl, rfl, by decide⟩
theorem d_Reader_takesText_28 : vm_D q_Reader_takesText.2.1 28 1 29 (.aload_n 1) := vm_dD b_Reader_takesText_0 15 rfl rfl
theorem d_Reader_takesText_29 : vm_D q_Reader_takesText.2.1 29 1 30 (.aload_n 0) := vm_dD b_Reader_takesText_0 16 rfl rfl
theorem d_Reader_takesText_30 : vm_D q_Reader_takesText.2.1 30 3 33 (.getfield 28) := vm_dD b_Reader_takesText_0 17 rfl rfl
theorem d_Reader_takesText_33 : vm_D q_Reader_takesText.2.1 33 3 36 (.putfield 49) := vm_dD b_Reader_takesText_0 18 rfl rfl
theorem d_Reader_takesText_36 : vm_D q_Reader_takesText.2.1 36 1 37 (.aload_n 0) := vm_dD b_Reader_takesText_0 19 rfl rfl
theorem d_Reader_takesText_37 : vm_D q_Reader_takesText.2.1 37 2 39 (.bipush 59) := vm_dD b_Reader_takesText_0 20 rfl rfl
theorem d_Reader_takesText_39 : vm_D q_Reader_takesText.2.1 39 3 42 (.invokevirtual 51) := vm_dD b_Reader_takesText_0 21 rfl rfl
theorem d_Reader_takesText_42 : vm_D q_Reader_takesText.2.1 42 1 43 (.istore_n 2) := vm_dD b_Reader_takesText_0 22 rfl rfl
theorem d_Reader_takesText_43 : vm_D q_Reader_takesText.2.1 43 1 44 (.aload_n 0) := vm_dD b_Reader_takesText_0 23 rfl rfl
theorem d_Reader_takesText_44 : vm_D q_Reader_takesText.2.1 44 3 47 (.invokevirtual 55) := vm_dD b_Reader_takesText_0 24 rfl rfl
theorem d_Reader_takesText_47 : vm_D q_Reader_takesText.2.1 47 1 48 (.iconst 0) := vm_dD b_Reader_takesText_0 25 rfl rfl
theorem d_Reader_takesText_48 : vm_D q_Reader_takesText.2.1 48 1 49 (.istore_n 3) := vm_dD b_Reader_takesText_0 26 rfl rfl
theorem d_Reader_takesText_49 : vm_D q_Reader_takesText.2.1 49 1 50 (.iload_n 3) := vm_dD b_Reader_takesText_0 27 rfl rfl
theorem d_Reader_takesText_50 : vm_D q_Reader_takesText.2.1 50 3 53 (.sipush 400) := vm_dD b_Reader_takesText_0 28 rfl rfl
theorem d_Reader_takesText_53 : vm_B q_Reader_takesText.2.1 53 56 107 (fun o => .if_icmp .ge o) := ⟨54, vm_db b_Reader_takesText_0 (i := 29) rfl, rfl, by decide⟩
theorem d_Reader_takesText_56 : vm_D q_Reader_takesText.2.1 56 1 57 (.iload_n 2) := vm_dD b_Reader_takesText_0 30 rfl rfl
theorem d_Reader_takesText_57 : vm_B q_Reader_takesText.2.1 57 60 107 (fun o => .ifCond .eq o) := ⟨50, vm_db b_Reader_takesText_0 (i := 31) rfl, rfl, by decide⟩
theorem d_Reader_takesText_60 : vm_D q_Reader_takesText.2.1 60 1 61 (.aload_n 0) := vm_dD b_Reader_takesText_0 32 rfl rfl
theorem d_Reader_takesText_61 : vm_D q_Reader_takesText.2.1 61 3 64 (.getfield 18) := vm_dD b_Reader_takesText_0 33 rfl rfl
theorem d_Reader_takesText_64 : vm_D q_Reader_takesText.2.1 64 1 65 (.aload_n 0) := vm_dD b_Reader_takesText_0 34 rfl rfl
theorem d_Reader_takesText_65 : vm_D q_Reader_takesText.2.1 65 3 68 (.getfield 12) := vm_dD b_Reader_takesText_0 35 rfl rfl
theorem d_Reader_takesText_68 : vm_D q_Reader_takesText.2.1 68 3 71 (.getfield 58) := vm_dD b_Reader_takesText_0 36 rfl rfl
theorem d_Reader_takesText_71 : vm_B q_Reader_takesText.2.1 71 74 107 (fun o => .if_icmp .ge o) := ⟨36, vm_db b_Reader_takesText_0 (i := 37) rfl, rfl, by decide⟩
theorem d_Reader_takesText_74 : vm_D q_Reader_takesText.2.1 74 1 75 (.aload_n 0) := vm_dD b_Reader_takesText_0 38 rfl rfl
theorem d_Reader_takesText_75 : vm_D q_Reader_takesText.2.1 75 1 76 (.aload_n 1) := vm_dD b_Reader_takesText_0 39 rfl rfl
theorem d_Reader_takesText_76 : vm_D q_Reader_takesText.2.1 76 3 79 (.invokevirtual 61) := vm_dD b_Reader_takesText_0 40 rfl rfl
theorem d_Reader_takesText_79 : vm_B q_Reader_takesText.2.1 79 82 95 (fun o => .ifCond .eq o) := ⟨16, vm_db b_Reader_takesText_0 (i := 41) rfl, rfl, by decide⟩
theorem d_Reader_takesText_96 : vm_D q_Reader_takesText.2.1 96 1 97 (.istore_n 2) := vm_dD b_Reader_takesText_0 49 rfl rfl
theorem d_Reader_takesText_97 : vm_D q_Reader_takesText.2.1 97 1 98 (.aload_n 0) := vm_dD b_Reader_takesText_0 50 rfl rfl
theorem d_Reader_takesText_98 : vm_D q_Reader_takesText.2.1 98 3 101 (.invokevirtual 55) := vm_dD b_Reader_takesText_0 51 rfl rfl
theorem d_Reader_takesText_101 : vm_D q_Reader_takesText.2.1 101 3 104 (.iinc 3 1) := vm_dD b_Reader_takesText_0 52 rfl rfl
theorem d_Reader_takesText_104 : ∃ off : Int, decode q_Reader_takesText.2.1 104 = .ok (.goto off, 3) ∧ ((104 : Nat) : Int) + off = ((49 : Nat) : Int) := ⟨-55, vm_db b_Reader_takesText_0 (i := 53) rfl, by decide⟩
theorem d_Reader_takesText_95 : vm_D q_Reader_takesText.2.1 95 1 96 (.iconst 0) := vm_dD b_Reader_takesText_0 48 rfl rfl
theorem d_Reader_takesText_82 : vm_D q_Reader_takesText.2.1 82 1 83 (.aload_n 0) := vm_dD b_Reader_takesText_0 42 rfl rfl
theorem d_Reader_takesText_83 : vm_D q_Reader_takesText.2.1 83 2 85 (.bipush 59) := vm_dD b_Reader_takesText_0 43 rfl rfl
theorem d_Reader_takesText_85 : vm_D q_Reader_takesText.2.1 85 3 88 (.invokevirtual 51) := vm_dD b_Reader_takesText_0 44 rfl rfl
theorem d_Reader_takesText_88 : vm_B q_Reader_takesText.2.1 88 91 95 (fun o => .ifCond .eq o) := ⟨7, vm_db b_Reader_takesText_0 (i := 45) rfl, rfl, by decide⟩
theorem d_Reader_takesText_91 : vm_D q_Reader_takesText.2.1 91 1 92 (.iconst 1) := vm_dD b_Reader_takesText_0 46 rfl rfl
theorem d_Reader_takesText_92 : ∃ off : Int, decode q_Reader_takesText.2.1 92 = .ok (.goto off, 3) ∧ ((92 : Nat) : Int) + off = ((96 : Nat) : Int) := ⟨4, vm_db b_Reader_takesText_0 (i := 47) rfl, by decide⟩
theorem d_Reader_takesText_107 : vm_D q_Reader_takesText.2.1 107 1 108 (.iload_n 2) := vm_dD b_Reader_takesText_0 54 rfl rfl
theorem d_Reader_takesText_108 : vm_D q_Reader_takesText.2.1 108 1 109 (.ireturn) := vm_dD b_Reader_takesText_0 55 rfl rfl
def q_Line_at : vm_Y := ("RepeatFree$Line", cX1_at, 2, false, [])
def t_Line_at_0 : List (Nat × Instr × Nat) := [(0, .iload_n 1, 1), (1, .ifCond .lt 29, 3), (4, .iload_n 1, 1), (5, .aload_n 0, 1), (6, .getfield 30, 3), (9, .if_icmp .ge 21, 3), (12, .iload_n 1, 1), (13, .aload_n 0, 1), (14, .getfield 9, 3), (17, .arraylength, 1), (18, .if_icmp .ge 12, 3), (21, .aload_n 0, 1), (22, .getfield 9, 3), (25, .iload_n 1, 1), (26, .iaload, 1), (27, .goto 4, 3), (30, .iconst (-1), 1), (31, .ireturn, 1)]
theorem b_Line_at_0 : (t_Line_at_0.all fun q => decide (decode q_Line_at.2.1 q.1 = .ok (q.2.1, q.2.2))) = true := by decide +kernel
theorem d_Line_at_0 : vm_D q_Line_at.2.1 0 1 1 (.iload_n 1) := vm_dD b_Line_at_0 0 rfl rfl
theorem d_Line_at_1 : vm_B q_Line_at.2.1 1 4 30 (fun o => .ifCond .lt o) := ⟨29, vm_db b_Line_at_0 (i := 1) rfl, rfl, by decide⟩
theorem d_Line_at_30 : vm_D q_Line_at.2.1 30 1 31 (.iconst (-1)) := vm_dD b_Line_at_0 16 rfl rfl
theorem d_Line_at_31 : vm_D q_Line_at.2.1 31 1 32 (.ireturn) := vm_dD b_Line_at_0 17 rfl rfl
theorem d_Line_at_4 : vm_D q_Line_at.2.1 4 1 5 (.iload_n 1) := vm_dD b_Line_at_0 2 rfl rfl
theorem d_Line_at_5 : vm_D q_Line_at.2.1 5 1 6 (.aload_n 0) := vm_dD b_Line_at_0 3 rfl rfl
theorem d_Line_at_6 : vm_D q_Line_at.2.1 6 3 9 (.getfield 30) := vm_dD b_Line_at_0 4 rfl rfl
theorem d_Line_at_9 : vm_B q_Line_at.2.1 9 12 30 (fun o => .if_icmp .ge o) := ⟨21, vm_db b_Line_at_0 (i := 5) rfl, rfl, by decide⟩
theorem d_Line_at_12 : vm_D q_Line_at.2.1 12 1 13 (.iload_n 1) := vm_dD b_Line_at_0 6 rfl rfl
theorem d_Line_at_13 : vm_D q_Line_at.2.1 13 1 14 (.aload_n 0) := vm_dD b_Line_at_0 7 rfl rfl
theorem d_Line_at_14 : vm_D q_Line_at.2.1 14 3 17 (.getfield 9) := vm_dD b_Line_at_0 8 rfl rfl
theorem d_Line_at_17 : vm_D q_Line_at.2.1 17 1 18 (.arraylength) := vm_dD b_Line_at_0 9 rfl rfl
theorem d_Line_at_18 : vm_B q_Line_at.2.1 18 21 30 (fun o => .if_icmp .ge o) := ⟨12, vm_db b_Line_at_0 (i := 10) rfl, rfl, by decide⟩
theorem d_Line_at_21 : vm_D q_Line_at.2.1 21 1 22 (.aload_n 0) := vm_dD b_Line_at_0 11 rfl rfl
theorem d_Line_at_22 : vm_D q_Line_at.2.1 22 3 25 (.getfield 9) := vm_dD b_Line_at_0 12 rfl rfl
theorem d_Line_at_25 : vm_D q_Line_at.2.1 25 1 26 (.iload_n 1) := vm_dD b_Line_at_0 13 rfl rfl
theorem d_Line_at_26 : vm_D q_Line_at.2.1 26 1 27 (.iaload) := vm_dD b_Line_at_0 14 rfl rfl
theorem d_Line_at_27 : ∃ off : Int, decode q_Line_at.2.1 27 = .ok (.goto off, 3) ∧ ((27 : Nat) : Int) + off = ((31 : Nat) : Int) := ⟨4, vm_db b_Line_at_0 (i := 15) rfl, by decide⟩
def q_Acts_keep : vm_Y := ("RepeatFree$Acts", cX0_keep, 4, false, [])
def t_Acts_keep_0 : List (Nat × Instr × Nat) := [(0, .aload_n 0, 1), (1, .getfield 20, 3), (4, .ifCond .lt 12, 3), (7, .aload_n 0, 1), (8, .getfield 20, 3), (11, .bipush 10, 2), (13, .if_icmp .lt 4, 3), (16, .return_, 1), (17, .aload_n 0, 1), (18, .getfield 11, 3), (21, .aload_n 0, 1), (22, .getfield 20, 3), (25, .aaload, 1), (26, .astore_n 2, 1), (27, .iconst 0, 1), (28, .istore_n 3, 1), (29, .iload_n 3, 1), (30, .aload_n 1, 1), (31, .getfield 27, 3), (34, .if_icmp .ge 23, 3), (37, .iload_n 3, 1), (38, .aload_n 2, 1), (39, .arraylength, 1), (40, .if_icmp .ge 17, 3), (43, .aload_n 2, 1), (44, .iload_n 3, 1), (45, .aload_n 1, 1), (46, .iload_n 3, 1), (47, .invokevirtual 32, 3), (50, .iastore, 1), (51, .iinc 3 1, 3), (54, .goto (-25), 3), (57, .aload_n 0, 1), (58, .getfield 16, 3), (61, .aload_n 0, 1), (62, .getfield 20, 3), (65, .aload_n 1, 1), (66, .getfield 27, 3), (69, .iastore, 1), (70, .aload_n 0, 1), (71, .aload_n 0, 1), (72, .getfield 20, 3), (75, .iconst 1, 1), (76, .iadd, 1), (77, .bipush 10, 2), (79, .irem, 1), (80, .putfield 20, 3), (83, .aload_n 0, 1), (84, .bipush 10, 2), (86, .aload_n 0, 1), (87, .getfield 24, 3), (90, .iconst 1, 1), (91, .iadd, 1), (92, .invokestatic 36, 3), (95, .putfield 24, 3), (98, .return_, 1)]
theorem b_Acts_keep_0 : (t_Acts_keep_0.all fun q => decide (decode q_Acts_keep.2.1 q.1 = .ok (q.2.1, q.2.2))) = true := by decide +kernel
theorem d_Acts_keep_0 : vm_D q_Acts_keep.2.1 0 1 1 (.aload_n 0) := vm_dD b_Acts_keep_0 0 rfl rfl
theorem d_Acts_keep_1 : vm_D q_Acts_keep.2.1 1 3 4 (.getfield 20) := vm_dD b_Acts_keep_0 1 rfl rfl
theorem d_Acts_keep_4 : vm_B q_Acts_keep.2.1 4 7 16 (fun o => .ifCond .lt o) := ⟨12, vm_db b_Acts_keep_0 (i := 2) rfl, rfl, by decide⟩
theorem d_Acts_keep_16 : vm_D q_Acts_keep.2.1 16 1 17 (.return_) := vm_dD b_Acts_keep_0 7 rfl rfl
theorem d_Acts_keep_7 : vm_D q_Acts_keep.2.1 7 1 8 (.aload_n 0) := vm_dD b_Acts_keep_0 3 rfl rfl
theorem d_Acts_keep_8 : vm_D q_Acts_keep.2.1 8 3 11 (.getfield 20) := vm_dD b_Acts_keep_0 4 rfl rfl
theorem d_Acts_keep_11 : vm_D q_Acts_keep.2.1 11 2 13 (.bipush 10) := vm_dD b_Acts_keep_0 5 rfl rfl
theorem d_Acts_keep_13 : vm_B q_Acts_keep.2.1 13 16 17 (fun o => .if_icmp .lt o) := ⟨4, vm_db b_Acts_keep_0 (i := 6) rfl, rfl, by decide⟩
theorem d_Acts_keep_17 : vm_D q_Acts_keep.2.1 17 1 18 (.aload_n 0) := vm_dD b_Acts_keep_0 8 rfl rfl
theorem d_Acts_keep_18 : vm_D q_Acts_keep.2.1 18 3 21 (.getfield 11) := vm_dD b_Acts_keep_0 9 rfl rfl
theorem d_Acts_keep_21 : vm_D q_Acts_keep.2.1 21 1 22 (.aload_n 0) := vm_dD b_Acts_keep_0 10 rfl rfl
theorem d_Acts_keep_22 : vm_D q_Acts_keep.2.1 22 3 25 (.getfield 20) := vm_dD b_Acts_keep_0 11 rfl rfl
theorem d_Acts_keep_25 : vm_D q_Acts_keep.2.1 25 1 26 (.aaload) := vm_dD b_Acts_keep_0 12 rfl rfl
theorem d_Acts_keep_26 : vm_D q_Acts_keep.2.1 26 1 27 (.astore_n 2) := vm_dD b_Acts_keep_0 13 rfl rfl
theorem d_Acts_keep_27 : vm_D q_Acts_keep.2.1 27 1 28 (.iconst 0) := vm_dD b_Acts_keep_0 14 rfl rfl
theorem d_Acts_keep_28 : vm_D q_Acts_keep.2.1 28 1 29 (.istore_n 3) := vm_dD b_Acts_keep_0 15 rfl rfl
theorem d_Acts_keep_29 : vm_D q_Acts_keep.2.1 29 1 30 (.iload_n 3) := vm_dD b_Acts_keep_0 16 rfl rfl
theorem d_Acts_keep_30 : vm_D q_Acts_keep.2.1 30 1 31 (.aload_n 1) := vm_dD b_Acts_keep_0 17 rfl rfl
theorem d_Acts_keep_31 : vm_D q_Acts_keep.2.1 31 3 34 (.getfield 27) := vm_dD b_Acts_keep_0 18 rfl rfl
theorem d_Acts_keep_34 : vm_B q_Acts_keep.2.1 34 37 57 (fun o => .if_icmp .ge o) := ⟨23, vm_db b_Acts_keep_0 (i := 19) rfl, rfl, by decide⟩
theorem d_Acts_keep_37 : vm_D q_Acts_keep.2.1 37 1 38 (.iload_n 3) := vm_dD b_Acts_keep_0 20 rfl rfl
theorem d_Acts_keep_38 : vm_D q_Acts_keep.2.1 38 1 39 (.aload_n 2) := vm_dD b_Acts_keep_0 21 rfl rfl
theorem d_Acts_keep_39 : vm_D q_Acts_keep.2.1 39 1 40 (.arraylength) := vm_dD b_Acts_keep_0 22 rfl rfl
theorem d_Acts_keep_40 : vm_B q_Acts_keep.2.1 40 43 57 (fun o => .if_icmp .ge o) := ⟨17, vm_db b_Acts_keep_0 (i := 23) rfl, rfl, by decide⟩
theorem d_Acts_keep_43 : vm_D q_Acts_keep.2.1 43 1 44 (.aload_n 2) := vm_dD b_Acts_keep_0 24 rfl rfl
theorem d_Acts_keep_44 : vm_D q_Acts_keep.2.1 44 1 45 (.iload_n 3) := vm_dD b_Acts_keep_0 25 rfl rfl
theorem d_Acts_keep_45 : vm_D q_Acts_keep.2.1 45 1 46 (.aload_n 1) := vm_dD b_Acts_keep_0 26 rfl rfl
theorem d_Acts_keep_46 : vm_D q_Acts_keep.2.1 46 1 47 (.iload_n 3) := vm_dD b_Acts_keep_0 27 rfl rfl
theorem d_Acts_keep_47 : vm_D q_Acts_keep.2.1 47 3 50 (.invokevirtual 32) := vm_dD b_Acts_keep_0 28 rfl rfl
theorem d_Acts_keep_50 : vm_D q_Acts_keep.2.1 50 1 51 (.iastore) := vm_dD b_Acts_keep_0 29 rfl rfl
theorem d_Acts_keep_51 : vm_D q_Acts_keep.2.1 51 3 54 (.iinc 3 1) := vm_dD b_Acts_keep_0 30 rfl rfl
theorem d_Acts_keep_54 : ∃ off : Int, decode q_Acts_keep.2.1 54 = .ok (.goto off, 3) ∧ ((54 : Nat) : Int) + off = ((29 : Nat) : Int) := ⟨-25, vm_db b_Acts_keep_0 (i := 31) rfl, by decide⟩
theorem d_Acts_keep_57 : vm_D q_Acts_keep.2.1 57 1 58 (.aload_n 0) := vm_dD b_Acts_keep_0 32 rfl rfl
theorem d_Acts_keep_58 : vm_D q_Acts_keep.2.1 58 3 61 (.getfield 16) := vm_dD b_Acts_keep_0 33 rfl rfl
theorem d_Acts_keep_61 : vm_D q_Acts_keep.2.1 61 1 62 (.aload_n 0) := vm_dD b_Acts_keep_0 34 rfl rfl
theorem d_Acts_keep_62 : vm_D q_Acts_keep.2.1 62 3 65 (.getfield 20) := vm_dD b_Acts_keep_0 35 rfl rfl
theorem d_Acts_keep_65 : vm_D q_Acts_keep.2.1 65 1 66 (.aload_n 1) := vm_dD b_Acts_keep_0 36 rfl rfl
theorem d_Acts_keep_66 : vm_D q_Acts_keep.2.1 66 3 69 (.getfield 27) := vm_dD b_Acts_keep_0 37 rfl rfl
theorem d_Acts_keep_69 : vm_D q_Acts_keep.2.1 69 1 70 (.iastore) := vm_dD b_Acts_keep_0 38 rfl rfl
theorem d_Acts_keep_70 : vm_D q_Acts_keep.2.1 70 1 71 (.aload_n 0) := vm_dD b_Acts_keep_0 39 rfl rfl
theorem d_Acts_keep_71 : vm_D q_Acts_keep.2.1 71 1 72 (.aload_n 0) := vm_dD b_Acts_keep_0 40 rfl rfl
theorem d_Acts_keep_72 : vm_D q_Acts_keep.2.1 72 3 75 (.getfield 20) := vm_dD b_Acts_keep_0 41 rfl rfl
theorem d_Acts_keep_75 : vm_D q_Acts_keep.2.1 75 1 76 (.iconst 1) := vm_dD b_Acts_keep_0 42 rfl rfl
theorem d_Acts_keep_76 : vm_D q_Acts_keep.2.1 76 1 77 (.iadd) := vm_dD b_Acts_keep_0 43 rfl rfl
theorem d_Acts_keep_77 : vm_D q_Acts_keep.2.1 77 2 79 (.bipush 10) := vm_dD b_Acts_keep_0 44 rfl rfl
theorem d_Acts_keep_79 : vm_D q_Acts_keep.2.1 79 1 80 (.irem) := vm_dD b_Acts_keep_0 45 rfl rfl
theorem d_Acts_keep_80 : vm_D q_Acts_keep.2.1 80 3 83 (.putfield 20) := vm_dD b_Acts_keep_0 46 rfl rfl
theorem d_Acts_keep_83 : vm_D q_Acts_keep.2.1 83 1 84 (.aload_n 0) := vm_dD b_Acts_keep_0 47 rfl rfl
theorem d_Acts_keep_84 : vm_D q_Acts_keep.2.1 84 2 86 (.bipush 10) := vm_dD b_Acts_keep_0 48 rfl rfl
theorem d_Acts_keep_86 : vm_D q_Acts_keep.2.1 86 1 87 (.aload_n 0) := vm_dD b_Acts_keep_0 49 rfl rfl
theorem d_Acts_keep_87 : vm_D q_Acts_keep.2.1 87 3 90 (.getfield 24) := vm_dD b_Acts_keep_0 50 rfl rfl
theorem d_Acts_keep_90 : vm_D q_Acts_keep.2.1 90 1 91 (.iconst 1) := vm_dD b_Acts_keep_0 51 rfl rfl
theorem d_Acts_keep_91 : vm_D q_Acts_keep.2.1 91 1 92 (.iadd) := vm_dD b_Acts_keep_0 52 rfl rfl
theorem d_Acts_keep_92 : vm_D q_Acts_keep.2.1 92 3 95 (.invokestatic 36) := vm_dD b_Acts_keep_0 53 rfl rfl
theorem d_Acts_keep_95 : vm_D q_Acts_keep.2.1 95 3 98 (.putfield 24) := vm_dD b_Acts_keep_0 54 rfl rfl
theorem d_Acts_keep_98 : vm_D q_Acts_keep.2.1 98 1 99 (.return_) := vm_dD b_Acts_keep_0 55 rfl rfl
def q_Line_add : vm_Y := ("RepeatFree$Line", cX1_add, 8, false, [])
def t_Line_add_0 : List (Nat × Instr × Nat) := [(0, .aload_n 0, 1), (1, .getfield 30, 3), (4, .istore_n 2, 1), (5, .iload_n 2, 1), (6, .ifCond .lt 9, 3), (9, .iload_n 2, 1), (10, .bipush 64, 2), (12, .if_icmp .lt 4, 3), (15, .return_, 1), (16, .aload_n 0, 1), (17, .getfield 9, 3), (20, .iload_n 2, 1), (21, .iload_n 1, 1), (22, .iastore, 1), (23, .aload_n 0, 1), (24, .getfield 17, 3), (27, .iload_n 2, 1), (28, .aaload, 1), (29, .astore_n 3, 1), (30, .aload_n 0, 1), (31, .getfield 17, 3), (34, .iconst 0, 1), (35, .iload_n 2, 1), (36, .iconst 1, 1), (37, .isub, 1), (38, .invokestatic 40, 3), (41, .aaload, 1), (42, .astore 4, 2), (44, .iconst 0, 1), (45, .istore 5, 2), (47, .iconst 0, 1), (48, .istore 6, 2), (50, .iload 6, 2), (52, .iload_n 2, 1), (53, .if_icmp .ge 60, 3), (56, .iconst 0, 1), (57, .istore 7, 2), (59, .aload_n 0, 1), (60, .getfield 9, 3), (63, .iload 6, 2), (65, .iaload, 1), (66, .iload_n 1, 1), (67, .if_icmp .ne 23, 3), (70, .iload 6, 2), (72, .ifCond .ne 7, 3), (75, .iconst 1, 1), (76, .goto 12, 3), (79, .aload 4, 2), (81, .iload 6, 2), (83, .iconst 1, 1), (84, .isub, 1), (85, .iaload, 1), (86, .iconst 1, 1), (87, .iadd, 1), (88, .istore 7, 2), (90, .aload_n 3, 1), (91, .iload 6, 2), (93, .iload 7, 2), (95, .iastore, 1), (96, .iload 7, 2)]
theorem b_Line_add_0 : (t_Line_add_0.all fun q => decide (decode q_Line_add.2.1 q.1 = .ok (q.2.1, q.2.2))) = true := by decide +kernel
def t_Line_add_1 : List (Nat × Instr × Nat) := [(98, .iload 5, 2), (100, .if_icmp .le 7, 3), (103, .iload 7, 2), (105, .istore 5, 2), (107, .iinc 6 1, 3), (110, .goto (-60), 3), (113, .aload_n 0, 1), (114, .getfield 20, 3), (117, .iload_n 2, 1), (118, .iload 5, 2), (120, .iastore, 1), (121, .aload_n 0, 1), (122, .iload_n 2, 1), (123, .iconst 1, 1), (124, .iadd, 1), (125, .putfield 30, 3), (128, .return_, 1)]
theorem b_Line_add_1 : (t_Line_add_1.all fun q => decide (decode q_Line_add.2.1 q.1 = .ok (q.2.1, q.2.2))) = true := by decide +kernel
theorem d_Line_add_0 : vm_D q_Line_add.2.1 0 1 1 (.aload_n 0) := vm_dD b_Line_add_0 0 rfl rfl
theorem d_Line_add_1 : vm_D q_Line_add.2.1 1 3 4 (.getfield 30) := vm_dD b_Line_add_0 1 rfl rfl
theorem d_Line_add_4 : vm_D q_Line_add.2.1 4 1 5 (.istore_n 2) := vm_dD b_Line_add_0 2 rfl rfl
theorem d_Line_add_5 : vm_D q_Line_add.2.1 5 1 6 (.iload_n 2) := vm_dD b_Line_add_0 3 rfl rfl
theorem d_Line_add_6 : vm_B q_Line_add.2.1 6 9 15 (fun o => .ifCond .lt o) := ⟨9, vm_db b_Line_add_0 (i := 4) rfl, rfl, by decide⟩
theorem d_Line_add_15 : vm_D q_Line_add.2.1 15 1 16 (.return_) := vm_dD b_Line_add_0 8 rfl rfl
theorem d_Line_add_9 : vm_D q_Line_add.2.1 9 1 10 (.iload_n 2) := vm_dD b_Line_add_0 5 rfl rfl
theorem d_Line_add_10 : vm_D q_Line_add.2.1 10 2 12 (.bipush 64) := vm_dD b_Line_add_0 6 rfl rfl
theorem d_Line_add_12 : vm_B q_Line_add.2.1 12 15 16 (fun o => .if_icmp .lt o) := ⟨4, vm_db b_Line_add_0 (i := 7) rfl, rfl, by decide⟩
theorem d_Line_add_16 : vm_D q_Line_add.2.1 16 1 17 (.aload_n 0) := vm_dD b_Line_add_0 9 rfl rfl
theorem d_Line_add_17 : vm_D q_Line_add.2.1 17 3 20 (.getfield 9) := vm_dD b_Line_add_0 10 rfl rfl
theorem d_Line_add_20 : vm_D q_Line_add.2.1 20 1 21 (.iload_n 2) := vm_dD b_Line_add_0 11 rfl rfl
theorem d_Line_add_21 : vm_D q_Line_add.2.1 21 1 22 (.iload_n 1) := vm_dD b_Line_add_0 12 rfl rfl
theorem d_Line_add_22 : vm_D q_Line_add.2.1 22 1 23 (.iastore) := vm_dD b_Line_add_0 13 rfl rfl
theorem d_Line_add_23 : vm_D q_Line_add.2.1 23 1 24 (.aload_n 0) := vm_dD b_Line_add_0 14 rfl rfl
theorem d_Line_add_24 : vm_D q_Line_add.2.1 24 3 27 (.getfield 17) := vm_dD b_Line_add_0 15 rfl rfl
theorem d_Line_add_27 : vm_D q_Line_add.2.1 27 1 28 (.iload_n 2) := vm_dD b_Line_add_0 16 rfl rfl
theorem d_Line_add_28 : vm_D q_Line_add.2.1 28 1 29 (.aaload) := vm_dD b_Line_add_0 17 rfl rfl
theorem d_Line_add_29 : vm_D q_Line_add.2.1 29 1 30 (.astore_n 3) := vm_dD b_Line_add_0 18 rfl rfl
theorem d_Line_add_30 : vm_D q_Line_add.2.1 30 1 31 (.aload_n 0) := vm_dD b_Line_add_0 19 rfl rfl
theorem d_Line_add_31 : vm_D q_Line_add.2.1 31 3 34 (.getfield 17) := vm_dD b_Line_add_0 20 rfl rfl
theorem d_Line_add_34 : vm_D q_Line_add.2.1 34 1 35 (.iconst 0) := vm_dD b_Line_add_0 21 rfl rfl
theorem d_Line_add_35 : vm_D q_Line_add.2.1 35 1 36 (.iload_n 2) := vm_dD b_Line_add_0 22 rfl rfl
theorem d_Line_add_36 : vm_D q_Line_add.2.1 36 1 37 (.iconst 1) := vm_dD b_Line_add_0 23 rfl rfl
theorem d_Line_add_37 : vm_D q_Line_add.2.1 37 1 38 (.isub) := vm_dD b_Line_add_0 24 rfl rfl
theorem d_Line_add_38 : vm_D q_Line_add.2.1 38 3 41 (.invokestatic 40) := vm_dD b_Line_add_0 25 rfl rfl
theorem d_Line_add_41 : vm_D q_Line_add.2.1 41 1 42 (.aaload) := vm_dD b_Line_add_0 26 rfl rfl
theorem d_Line_add_42 : vm_D q_Line_add.2.1 42 2 44 (.astore 4) := vm_dD b_Line_add_0 27 rfl rfl
theorem d_Line_add_44 : vm_D q_Line_add.2.1 44 1 45 (.iconst 0) := vm_dD b_Line_add_0 28 rfl rfl
theorem d_Line_add_45 : vm_D q_Line_add.2.1 45 2 47 (.istore 5) := vm_dD b_Line_add_0 29 rfl rfl
theorem d_Line_add_47 : vm_D q_Line_add.2.1 47 1 48 (.iconst 0) := vm_dD b_Line_add_0 30 rfl rfl
theorem d_Line_add_48 : vm_D q_Line_add.2.1 48 2 50 (.istore 6) := vm_dD b_Line_add_0 31 rfl rfl
theorem d_Line_add_50 : vm_D q_Line_add.2.1 50 2 52 (.iload 6) := vm_dD b_Line_add_0 32 rfl rfl
theorem d_Line_add_52 : vm_D q_Line_add.2.1 52 1 53 (.iload_n 2) := vm_dD b_Line_add_0 33 rfl rfl
theorem d_Line_add_53 : vm_B q_Line_add.2.1 53 56 113 (fun o => .if_icmp .ge o) := ⟨60, vm_db b_Line_add_0 (i := 34) rfl, rfl, by decide⟩
theorem d_Line_add_56 : vm_D q_Line_add.2.1 56 1 57 (.iconst 0) := vm_dD b_Line_add_0 35 rfl rfl
theorem d_Line_add_57 : vm_D q_Line_add.2.1 57 2 59 (.istore 7) := vm_dD b_Line_add_0 36 rfl rfl
theorem d_Line_add_59 : vm_D q_Line_add.2.1 59 1 60 (.aload_n 0) := vm_dD b_Line_add_0 37 rfl rfl
theorem d_Line_add_60 : vm_D q_Line_add.2.1 60 3 63 (.getfield 9) := vm_dD b_Line_add_0 38 rfl rfl
theorem d_Line_add_63 : vm_D q_Line_add.2.1 63 2 65 (.iload 6) := vm_dD b_Line_add_0 39 rfl rfl
theorem d_Line_add_65 : vm_D q_Line_add.2.1 65 1 66 (.iaload) := vm_dD b_Line_add_0 40 rfl rfl
theorem d_Line_add_66 : vm_D q_Line_add.2.1 66 1 67 (.iload_n 1) := vm_dD b_Line_add_0 41 rfl rfl
theorem d_Line_add_67 : vm_B q_Line_add.2.1 67 70 90 (fun o => .if_icmp .ne o) := ⟨23, vm_db b_Line_add_0 (i := 42) rfl, rfl, by decide⟩
theorem d_Line_add_90 : vm_D q_Line_add.2.1 90 1 91 (.aload_n 3) := vm_dD b_Line_add_0 55 rfl rfl
theorem d_Line_add_91 : vm_D q_Line_add.2.1 91 2 93 (.iload 6) := vm_dD b_Line_add_0 56 rfl rfl
theorem d_Line_add_93 : vm_D q_Line_add.2.1 93 2 95 (.iload 7) := vm_dD b_Line_add_0 57 rfl rfl
theorem d_Line_add_95 : vm_D q_Line_add.2.1 95 1 96 (.iastore) := vm_dD b_Line_add_0 58 rfl rfl
theorem d_Line_add_96 : vm_D q_Line_add.2.1 96 2 98 (.iload 7) := vm_dD b_Line_add_0 59 rfl rfl
theorem d_Line_add_98 : vm_D q_Line_add.2.1 98 2 100 (.iload 5) := vm_dD b_Line_add_1 0 rfl rfl
theorem d_Line_add_100 : vm_B q_Line_add.2.1 100 103 107 (fun o => .if_icmp .le o) := ⟨7, vm_db b_Line_add_1 (i := 1) rfl, rfl, by decide⟩
theorem d_Line_add_107 : vm_D q_Line_add.2.1 107 3 110 (.iinc 6 1) := vm_dD b_Line_add_1 4 rfl rfl
theorem d_Line_add_110 : ∃ off : Int, decode q_Line_add.2.1 110 = .ok (.goto off, 3) ∧ ((110 : Nat) : Int) + off = ((50 : Nat) : Int) := ⟨-60, vm_db b_Line_add_1 (i := 5) rfl, by decide⟩
theorem d_Line_add_103 : vm_D q_Line_add.2.1 103 2 105 (.iload 7) := vm_dD b_Line_add_1 2 rfl rfl
theorem d_Line_add_105 : vm_D q_Line_add.2.1 105 2 107 (.istore 5) := vm_dD b_Line_add_1 3 rfl rfl
theorem d_Line_add_70 : vm_D q_Line_add.2.1 70 2 72 (.iload 6) := vm_dD b_Line_add_0 43 rfl rfl
theorem d_Line_add_72 : vm_B q_Line_add.2.1 72 75 79 (fun o => .ifCond .ne o) := ⟨7, vm_db b_Line_add_0 (i := 44) rfl, rfl, by decide⟩
theorem d_Line_add_88 : vm_D q_Line_add.2.1 88 2 90 (.istore 7) := vm_dD b_Line_add_0 54 rfl rfl
theorem d_Line_add_79 : vm_D q_Line_add.2.1 79 2 81 (.aload 4) := vm_dD b_Line_add_0 47 rfl rfl
theorem d_Line_add_81 : vm_D q_Line_add.2.1 81 2 83 (.iload 6) := vm_dD b_Line_add_0 48 rfl rfl
theorem d_Line_add_83 : vm_D q_Line_add.2.1 83 1 84 (.iconst 1) := vm_dD b_Line_add_0 49 rfl rfl
theorem d_Line_add_84 : vm_D q_Line_add.2.1 84 1 85 (.isub) := vm_dD b_Line_add_0 50 rfl rfl
theorem d_Line_add_85 : vm_D q_Line_add.2.1 85 1 86 (.iaload) := vm_dD b_Line_add_0 51 rfl rfl
theorem d_Line_add_86 : vm_D q_Line_add.2.1 86 1 87 (.iconst 1) := vm_dD b_Line_add_0 52 rfl rfl
theorem d_Line_add_87 : vm_D q_Line_add.2.1 87 1 88 (.iadd) := vm_dD b_Line_add_0 53 rfl rfl
theorem d_Line_add_75 : vm_D q_Line_add.2.1 75 1 76 (.iconst 1) := vm_dD b_Line_add_0 45 rfl rfl
theorem d_Line_add_76 : ∃ off : Int, decode q_Line_add.2.1 76 = .ok (.goto off, 3) ∧ ((76 : Nat) : Int) + off = ((88 : Nat) : Int) := ⟨12, vm_db b_Line_add_0 (i := 46) rfl, by decide⟩
theorem d_Line_add_113 : vm_D q_Line_add.2.1 113 1 114 (.aload_n 0) := vm_dD b_Line_add_1 6 rfl rfl
theorem d_Line_add_114 : vm_D q_Line_add.2.1 114 3 117 (.getfield 20) := vm_dD b_Line_add_1 7 rfl rfl
theorem d_Line_add_117 : vm_D q_Line_add.2.1 117 1 118 (.iload_n 2) := vm_dD b_Line_add_1 8 rfl rfl
theorem d_Line_add_118 : vm_D q_Line_add.2.1 118 2 120 (.iload 5) := vm_dD b_Line_add_1 9 rfl rfl
theorem d_Line_add_120 : vm_D q_Line_add.2.1 120 1 121 (.iastore) := vm_dD b_Line_add_1 10 rfl rfl
theorem d_Line_add_121 : vm_D q_Line_add.2.1 121 1 122 (.aload_n 0) := vm_dD b_Line_add_1 11 rfl rfl
theorem d_Line_add_122 : vm_D q_Line_add.2.1 122 1 123 (.iload_n 2) := vm_dD b_Line_add_1 12 rfl rfl
theorem d_Line_add_123 : vm_D q_Line_add.2.1 123 1 124 (.iconst 1) := vm_dD b_Line_add_1 13 rfl rfl
theorem d_Line_add_124 : vm_D q_Line_add.2.1 124 1 125 (.iadd) := vm_dD b_Line_add_1 14 rfl rfl
theorem d_Line_add_125 : vm_D q_Line_add.2.1 125 3 128 (.putfield 30) := vm_dD b_Line_add_1 15 rfl rfl
theorem d_Line_add_128 : vm_D q_Line_add.2.1 128 1 129 (.return_) := vm_dD b_Line_add_1 16 rfl rfl
def q_Line_copy : vm_Y := ("RepeatFree$Line", cX1_copy, 4, false, [])
def t_Line_copy_0 : List (Nat × Instr × Nat) := [(0, .aload_n 0, 1), (1, .invokevirtual 54, 3), (4, .iconst 0, 1), (5, .istore_n 3, 1), (6, .iload_n 3, 1), (7, .iload_n 2, 1), (8, .if_icmp .ge 18, 3), (11, .aload_n 0, 1), (12, .aload_n 1, 1), (13, .iload_n 3, 1), (14, .invokevirtual 43, 3), (17, .invokevirtual 51, 3), (20, .iinc 3 1, 3), (23, .goto (-17), 3), (26, .return_, 1)]
theorem b_Line_copy_0 : (t_Line_copy_0.all fun q => decide (decode q_Line_copy.2.1 q.1 = .ok (q.2.1, q.2.2))) = true := by decide +kernel
theorem d_Line_copy_0 : vm_D q_Line_copy.2.1 0 1 1 (.aload_n 0) := vm_dD b_Line_copy_0 0 rfl rfl
theorem d_Line_copy_1 : vm_D q_Line_copy.2.1 1 3 4 (.invokevirtual 54) := vm_dD b_Line_copy_0 1 rfl rfl
theorem d_Line_copy_4 : vm_D q_Line_copy.2.1 4 1 5 (.iconst 0) := vm_dD b_Line_copy_0 2 rfl rfl
theorem d_Line_copy_5 : vm_D q_Line_copy.2.1 5 1 6 (.istore_n 3) := vm_dD b_Line_copy_0 3 rfl rfl
theorem d_Line_copy_6 : vm_D q_Line_copy.2.1 6 1 7 (.iload_n 3) := vm_dD b_Line_copy_0 4 rfl rfl
theorem d_Line_copy_7 : vm_D q_Line_copy.2.1 7 1 8 (.iload_n 2) := vm_dD b_Line_copy_0 5 rfl rfl
theorem d_Line_copy_8 : vm_B q_Line_copy.2.1 8 11 26 (fun o => .if_icmp .ge o) := ⟨18, vm_db b_Line_copy_0 (i := 6) rfl, rfl, by decide⟩
theorem d_Line_copy_11 : vm_D q_Line_copy.2.1 11 1 12 (.aload_n 0) := vm_dD b_Line_copy_0 7 rfl rfl
theorem d_Line_copy_12 : vm_D q_Line_copy.2.1 12 1 13 (.aload_n 1) := vm_dD b_Line_copy_0 8 rfl rfl
theorem d_Line_copy_13 : vm_D q_Line_copy.2.1 13 1 14 (.iload_n 3) := vm_dD b_Line_copy_0 9 rfl rfl
theorem d_Line_copy_14 : vm_D q_Line_copy.2.1 14 3 17 (.invokevirtual 43) := vm_dD b_Line_copy_0 10 rfl rfl
theorem d_Line_copy_17 : vm_D q_Line_copy.2.1 17 3 20 (.invokevirtual 51) := vm_dD b_Line_copy_0 11 rfl rfl
theorem d_Line_copy_20 : vm_D q_Line_copy.2.1 20 3 23 (.iinc 3 1) := vm_dD b_Line_copy_0 12 rfl rfl
theorem d_Line_copy_23 : ∃ off : Int, decode q_Line_copy.2.1 23 = .ok (.goto off, 3) ∧ ((23 : Nat) : Int) + off = ((6 : Nat) : Int) := ⟨-17, vm_db b_Line_copy_0 (i := 13) rfl, by decide⟩
theorem d_Line_copy_26 : vm_D q_Line_copy.2.1 26 1 27 (.return_) := vm_dD b_Line_copy_0 14 rfl rfl
def q_Reader_takesLetters : vm_Y := ("RepeatFree$Reader", cX4_takesLetters, 3, false, [])
def t_Reader_takesLetters_0 : List (Nat × Instr × Nat) := [(0, .aload_n 0, 1), (1, .invokevirtual 31, 3), (4, .aload_n 2, 1), (5, .invokevirtual 65, 3), (8, .aload_n 0, 1), (9, .invokevirtual 55, 3), (12, .aload_n 0, 1), (13, .getfield 18, 3), (16, .aload_n 0, 1), (17, .getfield 12, 3), (20, .getfield 58, 3), (23, .if_icmp .ge 87, 3), (26, .aload_n 0, 1), (27, .getfield 12, 3), (30, .aload_n 0, 1), (31, .getfield 18, 3), (34, .invokevirtual 68, 3), (37, .invokestatic 71, 3), (40, .ifCond .eq 70, 3), (43, .aload_n 0, 1), (44, .getfield 12, 3), (47, .aload_n 0, 1), (48, .getfield 18, 3), (51, .invokevirtual 68, 3), (54, .bipush 97, 2), (56, .isub, 1), (57, .iload_n 1, 1), (58, .if_icmp .ge 52, 3), (61, .aload_n 2, 1), (62, .getfield 74, 3), (65, .bipush 64, 2), (67, .if_icmp .lt 12, 3), (70, .aload_n 0, 1), (71, .aload_n 0, 1), (72, .getfield 18, 3), (75, .invokevirtual 75, 3), (78, .ireturn, 1), (79, .aload_n 2, 1), (80, .aload_n 0, 1), (81, .getfield 12, 3), (84, .aload_n 0, 1), (85, .getfield 18, 3), (88, .invokevirtual 68, 3), (91, .bipush 97, 2), (93, .isub, 1), (94, .invokevirtual 78, 3), (97, .aload_n 0, 1), (98, .dup, 1), (99, .getfield 18, 3), (102, .iconst 1, 1), (103, .iadd, 1), (104, .putfield 18, 3), (107, .goto (-95), 3), (110, .aload_n 0, 1), (111, .invokevirtual 55, 3), (114, .aload_n 0, 1), (115, .getfield 18, 3), (118, .aload_n 0, 1), (119, .getfield 12, 3), (122, .getfield 58, 3)]
theorem b_Reader_takesLetters_0 : (t_Reader_takesLetters_0.all fun q => decide (decode q_Reader_takesLetters.2.1 q.1 = .ok (q.2.1, q.2.2))) = true := by decide +kernel
def t_Reader_takesLetters_1 : List (Nat × Instr × Nat) := [(125, .if_icmp .ge 14, 3), (128, .aload_n 0, 1), (129, .aload_n 0, 1), (130, .getfield 18, 3), (133, .invokevirtual 75, 3), (136, .ifCond .eq 7, 3), (139, .iconst 1, 1), (140, .goto 4, 3), (143, .iconst 0, 1), (144, .ireturn, 1)]
theorem b_Reader_takesLetters_1 : (t_Reader_takesLetters_1.all fun q => decide (decode q_Reader_takesLetters.2.1 q.1 = .ok (q.2.1, q.2.2))) = true := by decide +kernel
theorem d_Reader_takesLetters_0 : vm_D q_Reader_takesLetters.2.1 0 1 1 (.aload_n 0) := vm_dD b_Reader_takesLetters_0 0 rfl rfl
theorem d_Reader_takesLetters_1 : vm_D q_Reader_takesLetters.2.1 1 3 4 (.invokevirtual 31) := vm_dD b_Reader_takesLetters_0 1 rfl rfl
theorem d_Reader_takesLetters_4 : vm_D q_Reader_takesLetters.2.1 4 1 5 (.aload_n 2) := vm_dD b_Reader_takesLetters_0 2 rfl rfl
theorem d_Reader_takesLetters_5 : vm_D q_Reader_takesLetters.2.1 5 3 8 (.invokevirtual 65) := vm_dD b_Reader_takesLetters_0 3 rfl rfl
theorem d_Reader_takesLetters_8 : vm_D q_Reader_takesLetters.2.1 8 1 9 (.aload_n 0) := vm_dD b_Reader_takesLetters_0 4 rfl rfl
theorem d_Reader_takesLetters_9 : vm_D q_Reader_takesLetters.2.1 9 3 12 (.invokevirtual 55) := vm_dD b_Reader_takesLetters_0 5 rfl rfl
theorem d_Reader_takesLetters_12 : vm_D q_Reader_takesLetters.2.1 12 1 13 (.aload_n 0) := vm_dD b_Reader_takesLetters_0 6 rfl rfl
theorem d_Reader_takesLetters_13 : vm_D q_Reader_takesLetters.2.1 13 3 16 (.getfield 18) := vm_dD b_Reader_takesLetters_0 7 rfl rfl
theorem d_Reader_takesLetters_16 : vm_D q_Reader_takesLetters.2.1 16 1 17 (.aload_n 0) := vm_dD b_Reader_takesLetters_0 8 rfl rfl
theorem d_Reader_takesLetters_17 : vm_D q_Reader_takesLetters.2.1 17 3 20 (.getfield 12) := vm_dD b_Reader_takesLetters_0 9 rfl rfl
theorem d_Reader_takesLetters_20 : vm_D q_Reader_takesLetters.2.1 20 3 23 (.getfield 58) := vm_dD b_Reader_takesLetters_0 10 rfl rfl
theorem d_Reader_takesLetters_23 : vm_B q_Reader_takesLetters.2.1 23 26 110 (fun o => .if_icmp .ge o) := ⟨87, vm_db b_Reader_takesLetters_0 (i := 11) rfl, rfl, by decide⟩
theorem d_Reader_takesLetters_26 : vm_D q_Reader_takesLetters.2.1 26 1 27 (.aload_n 0) := vm_dD b_Reader_takesLetters_0 12 rfl rfl
theorem d_Reader_takesLetters_27 : vm_D q_Reader_takesLetters.2.1 27 3 30 (.getfield 12) := vm_dD b_Reader_takesLetters_0 13 rfl rfl
theorem d_Reader_takesLetters_30 : vm_D q_Reader_takesLetters.2.1 30 1 31 (.aload_n 0) := vm_dD b_Reader_takesLetters_0 14 rfl rfl
theorem d_Reader_takesLetters_31 : vm_D q_Reader_takesLetters.2.1 31 3 34 (.getfield 18) := vm_dD b_Reader_takesLetters_0 15 rfl rfl
theorem d_Reader_takesLetters_34 : vm_D q_Reader_takesLetters.2.1 34 3 37 (.invokevirtual 68) := vm_dD b_Reader_takesLetters_0 16 rfl rfl
theorem d_Reader_takesLetters_37 : vm_D q_Reader_takesLetters.2.1 37 3 40 (.invokestatic 71) := vm_dD b_Reader_takesLetters_0 17 rfl rfl
theorem d_Reader_takesLetters_40 : vm_B q_Reader_takesLetters.2.1 40 43 110 (fun o => .ifCond .eq o) := ⟨70, vm_db b_Reader_takesLetters_0 (i := 18) rfl, rfl, by decide⟩
theorem d_Reader_takesLetters_43 : vm_D q_Reader_takesLetters.2.1 43 1 44 (.aload_n 0) := vm_dD b_Reader_takesLetters_0 19 rfl rfl
theorem d_Reader_takesLetters_44 : vm_D q_Reader_takesLetters.2.1 44 3 47 (.getfield 12) := vm_dD b_Reader_takesLetters_0 20 rfl rfl
theorem d_Reader_takesLetters_47 : vm_D q_Reader_takesLetters.2.1 47 1 48 (.aload_n 0) := vm_dD b_Reader_takesLetters_0 21 rfl rfl
theorem d_Reader_takesLetters_48 : vm_D q_Reader_takesLetters.2.1 48 3 51 (.getfield 18) := vm_dD b_Reader_takesLetters_0 22 rfl rfl
theorem d_Reader_takesLetters_51 : vm_D q_Reader_takesLetters.2.1 51 3 54 (.invokevirtual 68) := vm_dD b_Reader_takesLetters_0 23 rfl rfl
theorem d_Reader_takesLetters_54 : vm_D q_Reader_takesLetters.2.1 54 2 56 (.bipush 97) := vm_dD b_Reader_takesLetters_0 24 rfl rfl
theorem d_Reader_takesLetters_56 : vm_D q_Reader_takesLetters.2.1 56 1 57 (.isub) := vm_dD b_Reader_takesLetters_0 25 rfl rfl
theorem d_Reader_takesLetters_57 : vm_D q_Reader_takesLetters.2.1 57 1 58 (.iload_n 1) := vm_dD b_Reader_takesLetters_0 26 rfl rfl
theorem d_Reader_takesLetters_58 : vm_B q_Reader_takesLetters.2.1 58 61 110 (fun o => .if_icmp .ge o) := ⟨52, vm_db b_Reader_takesLetters_0 (i := 27) rfl, rfl, by decide⟩
theorem d_Reader_takesLetters_61 : vm_D q_Reader_takesLetters.2.1 61 1 62 (.aload_n 2) := vm_dD b_Reader_takesLetters_0 28 rfl rfl
theorem d_Reader_takesLetters_62 : vm_D q_Reader_takesLetters.2.1 62 3 65 (.getfield 74) := vm_dD b_Reader_takesLetters_0 29 rfl rfl
theorem d_Reader_takesLetters_65 : vm_D q_Reader_takesLetters.2.1 65 2 67 (.bipush 64) := vm_dD b_Reader_takesLetters_0 30 rfl rfl
theorem d_Reader_takesLetters_67 : vm_B q_Reader_takesLetters.2.1 67 70 79 (fun o => .if_icmp .lt o) := ⟨12, vm_db b_Reader_takesLetters_0 (i := 31) rfl, rfl, by decide⟩
theorem d_Reader_takesLetters_79 : vm_D q_Reader_takesLetters.2.1 79 1 80 (.aload_n 2) := vm_dD b_Reader_takesLetters_0 37 rfl rfl
theorem d_Reader_takesLetters_80 : vm_D q_Reader_takesLetters.2.1 80 1 81 (.aload_n 0) := vm_dD b_Reader_takesLetters_0 38 rfl rfl
theorem d_Reader_takesLetters_81 : vm_D q_Reader_takesLetters.2.1 81 3 84 (.getfield 12) := vm_dD b_Reader_takesLetters_0 39 rfl rfl
theorem d_Reader_takesLetters_84 : vm_D q_Reader_takesLetters.2.1 84 1 85 (.aload_n 0) := vm_dD b_Reader_takesLetters_0 40 rfl rfl
theorem d_Reader_takesLetters_85 : vm_D q_Reader_takesLetters.2.1 85 3 88 (.getfield 18) := vm_dD b_Reader_takesLetters_0 41 rfl rfl
theorem d_Reader_takesLetters_88 : vm_D q_Reader_takesLetters.2.1 88 3 91 (.invokevirtual 68) := vm_dD b_Reader_takesLetters_0 42 rfl rfl
theorem d_Reader_takesLetters_91 : vm_D q_Reader_takesLetters.2.1 91 2 93 (.bipush 97) := vm_dD b_Reader_takesLetters_0 43 rfl rfl
theorem d_Reader_takesLetters_93 : vm_D q_Reader_takesLetters.2.1 93 1 94 (.isub) := vm_dD b_Reader_takesLetters_0 44 rfl rfl
theorem d_Reader_takesLetters_94 : vm_D q_Reader_takesLetters.2.1 94 3 97 (.invokevirtual 78) := vm_dD b_Reader_takesLetters_0 45 rfl rfl
theorem d_Reader_takesLetters_97 : vm_D q_Reader_takesLetters.2.1 97 1 98 (.aload_n 0) := vm_dD b_Reader_takesLetters_0 46 rfl rfl
theorem d_Reader_takesLetters_98 : vm_D q_Reader_takesLetters.2.1 98 1 99 (.dup) := vm_dD b_Reader_takesLetters_0 47 rfl rfl
theorem d_Reader_takesLetters_99 : vm_D q_Reader_takesLetters.2.1 99 3 102 (.getfield 18) := vm_dD b_Reader_takesLetters_0 48 rfl rfl
theorem d_Reader_takesLetters_102 : vm_D q_Reader_takesLetters.2.1 102 1 103 (.iconst 1) := vm_dD b_Reader_takesLetters_0 49 rfl rfl
theorem d_Reader_takesLetters_103 : vm_D q_Reader_takesLetters.2.1 103 1 104 (.iadd) := vm_dD b_Reader_takesLetters_0 50 rfl rfl
theorem d_Reader_takesLetters_104 : vm_D q_Reader_takesLetters.2.1 104 3 107 (.putfield 18) := vm_dD b_Reader_takesLetters_0 51 rfl rfl
theorem d_Reader_takesLetters_107 : ∃ off : Int, decode q_Reader_takesLetters.2.1 107 = .ok (.goto off, 3) ∧ ((107 : Nat) : Int) + off = ((12 : Nat) : Int) := ⟨-95, vm_db b_Reader_takesLetters_0 (i := 52) rfl, by decide⟩
theorem d_Reader_takesLetters_70 : vm_D q_Reader_takesLetters.2.1 70 1 71 (.aload_n 0) := vm_dD b_Reader_takesLetters_0 32 rfl rfl
theorem d_Reader_takesLetters_71 : vm_D q_Reader_takesLetters.2.1 71 1 72 (.aload_n 0) := vm_dD b_Reader_takesLetters_0 33 rfl rfl
theorem d_Reader_takesLetters_72 : vm_D q_Reader_takesLetters.2.1 72 3 75 (.getfield 18) := vm_dD b_Reader_takesLetters_0 34 rfl rfl
theorem d_Reader_takesLetters_75 : vm_D q_Reader_takesLetters.2.1 75 3 78 (.invokevirtual 75) := vm_dD b_Reader_takesLetters_0 35 rfl rfl
theorem d_Reader_takesLetters_78 : vm_D q_Reader_takesLetters.2.1 78 1 79 (.ireturn) := vm_dD b_Reader_takesLetters_0 36 rfl rfl
theorem d_Reader_takesLetters_110 : vm_D q_Reader_takesLetters.2.1 110 1 111 (.aload_n 0) := vm_dD b_Reader_takesLetters_0 53 rfl rfl
theorem d_Reader_takesLetters_111 : vm_D q_Reader_takesLetters.2.1 111 3 114 (.invokevirtual 55) := vm_dD b_Reader_takesLetters_0 54 rfl rfl
theorem d_Reader_takesLetters_114 : vm_D q_Reader_takesLetters.2.1 114 1 115 (.aload_n 0) := vm_dD b_Reader_takesLetters_0 55 rfl rfl
theorem d_Reader_takesLetters_115 : vm_D q_Reader_takesLetters.2.1 115 3 118 (.getfield 18) := vm_dD b_Reader_takesLetters_0 56 rfl rfl
theorem d_Reader_takesLetters_118 : vm_D q_Reader_takesLetters.2.1 118 1 119 (.aload_n 0) := vm_dD b_Reader_takesLetters_0 57 rfl rfl
theorem d_Reader_takesLetters_119 : vm_D q_Reader_takesLetters.2.1 119 3 122 (.getfield 12) := vm_dD b_Reader_takesLetters_0 58 rfl rfl
theorem d_Reader_takesLetters_122 : vm_D q_Reader_takesLetters.2.1 122 3 125 (.getfield 58) := vm_dD b_Reader_takesLetters_0 59 rfl rfl
theorem d_Reader_takesLetters_125 : vm_B q_Reader_takesLetters.2.1 125 128 139 (fun o => .if_icmp .ge o) := ⟨14, vm_db b_Reader_takesLetters_1 (i := 0) rfl, rfl, by decide⟩
theorem d_Reader_takesLetters_139 : vm_D q_Reader_takesLetters.2.1 139 1 140 (.iconst 1) := vm_dD b_Reader_takesLetters_1 6 rfl rfl
theorem d_Reader_takesLetters_140 : ∃ off : Int, decode q_Reader_takesLetters.2.1 140 = .ok (.goto off, 3) ∧ ((140 : Nat) : Int) + off = ((144 : Nat) : Int) := ⟨4, vm_db b_Reader_takesLetters_1 (i := 7) rfl, by decide⟩
theorem d_Reader_takesLetters_144 : vm_D q_Reader_takesLetters.2.1 144 1 145 (.ireturn) := vm_dD b_Reader_takesLetters_1 9 rfl rfl
theorem d_Reader_takesLetters_128 : vm_D q_Reader_takesLetters.2.1 128 1 129 (.aload_n 0) := vm_dD b_Reader_takesLetters_1 1 rfl rfl
theorem d_Reader_takesLetters_129 : vm_D q_Reader_takesLetters.2.1 129 1 130 (.aload_n 0) := vm_dD b_Reader_takesLetters_1 2 rfl rfl
theorem d_Reader_takesLetters_130 : vm_D q_Reader_takesLetters.2.1 130 3 133 (.getfield 18) := vm_dD b_Reader_takesLetters_1 3 rfl rfl
theorem d_Reader_takesLetters_133 : vm_D q_Reader_takesLetters.2.1 133 3 136 (.invokevirtual 75) := vm_dD b_Reader_takesLetters_1 4 rfl rfl
theorem d_Reader_takesLetters_136 : vm_B q_Reader_takesLetters.2.1 136 139 143 (fun o => .ifCond .eq o) := ⟨7, vm_db b_Reader_takesLetters_1 (i := 5) rfl, rfl, by decide⟩
theorem d_Reader_takesLetters_143 : vm_D q_Reader_takesLetters.2.1 143 1 144 (.iconst 0) := vm_dD b_Reader_takesLetters_1 8 rfl rfl
def q_Line_cutTo : vm_Y := ("RepeatFree$Line", cX1_cutTo, 2, false, [])
def t_Line_cutTo_0 : List (Nat × Instr × Nat) := [(0, .aload_n 0, 1), (1, .iconst 0, 1), (2, .aload_n 0, 1), (3, .getfield 30, 3), (6, .iload_n 1, 1), (7, .invokestatic 34, 3), (10, .invokestatic 40, 3), (13, .putfield 30, 3), (16, .return_, 1)]
theorem b_Line_cutTo_0 : (t_Line_cutTo_0.all fun q => decide (decode q_Line_cutTo.2.1 q.1 = .ok (q.2.1, q.2.2))) = true := by decide +kernel
theorem d_Line_cutTo_0 : vm_D q_Line_cutTo.2.1 0 1 1 (.aload_n 0) := vm_dD b_Line_cutTo_0 0 rfl rfl
theorem d_Line_cutTo_1 : vm_D q_Line_cutTo.2.1 1 1 2 (.iconst 0) := vm_dD b_Line_cutTo_0 1 rfl rfl
theorem d_Line_cutTo_2 : vm_D q_Line_cutTo.2.1 2 1 3 (.aload_n 0) := vm_dD b_Line_cutTo_0 2 rfl rfl
theorem d_Line_cutTo_3 : vm_D q_Line_cutTo.2.1 3 3 6 (.getfield 30) := vm_dD b_Line_cutTo_0 3 rfl rfl
theorem d_Line_cutTo_6 : vm_D q_Line_cutTo.2.1 6 1 7 (.iload_n 1) := vm_dD b_Line_cutTo_0 4 rfl rfl
theorem d_Line_cutTo_7 : vm_D q_Line_cutTo.2.1 7 3 10 (.invokestatic 34) := vm_dD b_Line_cutTo_0 5 rfl rfl
theorem d_Line_cutTo_10 : vm_D q_Line_cutTo.2.1 10 3 13 (.invokestatic 40) := vm_dD b_Line_cutTo_0 6 rfl rfl
theorem d_Line_cutTo_13 : vm_D q_Line_cutTo.2.1 13 3 16 (.putfield 30) := vm_dD b_Line_cutTo_0 7 rfl rfl
theorem d_Line_cutTo_16 : vm_D q_Line_cutTo.2.1 16 1 17 (.return_) := vm_dD b_Line_cutTo_0 8 rfl rfl
def q_Line_dropLast : vm_Y := ("RepeatFree$Line", cX1_dropLast, 2, false, [])
def t_Line_dropLast_0 : List (Nat × Instr × Nat) := [(0, .aload_n 0, 1), (1, .aload_n 0, 1), (2, .getfield 30, 3), (5, .iconst 1, 1), (6, .isub, 1), (7, .invokevirtual 43, 3), (10, .istore_n 1, 1), (11, .aload_n 0, 1), (12, .aload_n 0, 1), (13, .getfield 30, 3), (16, .iconst 1, 1), (17, .isub, 1), (18, .invokevirtual 47, 3), (21, .iload_n 1, 1), (22, .ireturn, 1)]
theorem b_Line_dropLast_0 : (t_Line_dropLast_0.all fun q => decide (decode q_Line_dropLast.2.1 q.1 = .ok (q.2.1, q.2.2))) = true := by decide +kernel
theorem d_Line_dropLast_0 : vm_D q_Line_dropLast.2.1 0 1 1 (.aload_n 0) := vm_dD b_Line_dropLast_0 0 rfl rfl
theorem d_Line_dropLast_1 : vm_D q_Line_dropLast.2.1 1 1 2 (.aload_n 0) := vm_dD b_Line_dropLast_0 1 rfl rfl
theorem d_Line_dropLast_2 : vm_D q_Line_dropLast.2.1 2 3 5 (.getfield 30) := vm_dD b_Line_dropLast_0 2 rfl rfl
theorem d_Line_dropLast_5 : vm_D q_Line_dropLast.2.1 5 1 6 (.iconst 1) := vm_dD b_Line_dropLast_0 3 rfl rfl
theorem d_Line_dropLast_6 : vm_D q_Line_dropLast.2.1 6 1 7 (.isub) := vm_dD b_Line_dropLast_0 4 rfl rfl
theorem d_Line_dropLast_7 : vm_D q_Line_dropLast.2.1 7 3 10 (.invokevirtual 43) := vm_dD b_Line_dropLast_0 5 rfl rfl
theorem d_Line_dropLast_10 : vm_D q_Line_dropLast.2.1 10 1 11 (.istore_n 1) := vm_dD b_Line_dropLast_0 6 rfl rfl
theorem d_Line_dropLast_11 : vm_D q_Line_dropLast.2.1 11 1 12 (.aload_n 0) := vm_dD b_Line_dropLast_0 7 rfl rfl
theorem d_Line_dropLast_12 : vm_D q_Line_dropLast.2.1 12 1 13 (.aload_n 0) := vm_dD b_Line_dropLast_0 8 rfl rfl
theorem d_Line_dropLast_13 : vm_D q_Line_dropLast.2.1 13 3 16 (.getfield 30) := vm_dD b_Line_dropLast_0 9 rfl rfl
theorem d_Line_dropLast_16 : vm_D q_Line_dropLast.2.1 16 1 17 (.iconst 1) := vm_dD b_Line_dropLast_0 10 rfl rfl
theorem d_Line_dropLast_17 : vm_D q_Line_dropLast.2.1 17 1 18 (.isub) := vm_dD b_Line_dropLast_0 11 rfl rfl
theorem d_Line_dropLast_18 : vm_D q_Line_dropLast.2.1 18 3 21 (.invokevirtual 47) := vm_dD b_Line_dropLast_0 12 rfl rfl
theorem d_Line_dropLast_21 : vm_D q_Line_dropLast.2.1 21 1 22 (.iload_n 1) := vm_dD b_Line_dropLast_0 13 rfl rfl
theorem d_Line_dropLast_22 : vm_D q_Line_dropLast.2.1 22 1 23 (.ireturn) := vm_dD b_Line_dropLast_0 14 rfl rfl
def q_Acts_takeBack : vm_Y := ("RepeatFree$Acts", cX0_takeBack, 5, false, [])
def t_Acts_takeBack_0 : List (Nat × Instr × Nat) := [(0, .aload_n 0, 1), (1, .getfield 24, 3), (4, .ifCond .ne 5, 3), (7, .iconst 0, 1), (8, .ireturn, 1), (9, .aload_n 0, 1), (10, .getfield 20, 3), (13, .bipush 10, 2), (15, .iadd, 1), (16, .iconst 1, 1), (17, .isub, 1), (18, .bipush 10, 2), (20, .irem, 1), (21, .istore_n 2, 1), (22, .iload_n 2, 1), (23, .ifCond .lt 9, 3), (26, .iload_n 2, 1), (27, .bipush 10, 2), (29, .if_icmp .lt 5, 3), (32, .iconst 0, 1), (33, .ireturn, 1), (34, .aload_n 0, 1), (35, .getfield 11, 3), (38, .iload_n 2, 1), (39, .aaload, 1), (40, .astore_n 3, 1), (41, .aload_n 1, 1), (42, .invokevirtual 42, 3), (45, .iconst 0, 1), (46, .istore 4, 2), (48, .iload 4, 2), (50, .aload_n 0, 1), (51, .getfield 16, 3), (54, .iload_n 2, 1), (55, .iaload, 1), (56, .if_icmp .ge 24, 3), (59, .iload 4, 2), (61, .aload_n 3, 1), (62, .arraylength, 1), (63, .if_icmp .ge 17, 3), (66, .aload_n 1, 1), (67, .aload_n 3, 1), (68, .iload 4, 2), (70, .iaload, 1), (71, .invokevirtual 45, 3), (74, .iinc 4 1, 3), (77, .goto (-29), 3), (80, .aload_n 0, 1), (81, .iload_n 2, 1), (82, .putfield 20, 3), (85, .aload_n 0, 1), (86, .dup, 1), (87, .getfield 24, 3), (90, .iconst 1, 1), (91, .isub, 1), (92, .putfield 24, 3), (95, .iconst 1, 1), (96, .ireturn, 1)]
theorem b_Acts_takeBack_0 : (t_Acts_takeBack_0.all fun q => decide (decode q_Acts_takeBack.2.1 q.1 = .ok (q.2.1, q.2.2))) = true := by decide +kernel
theorem d_Acts_takeBack_0 : vm_D q_Acts_takeBack.2.1 0 1 1 (.aload_n 0) := vm_dD b_Acts_takeBack_0 0 rfl rfl
theorem d_Acts_takeBack_1 : vm_D q_Acts_takeBack.2.1 1 3 4 (.getfield 24) := vm_dD b_Acts_takeBack_0 1 rfl rfl
theorem d_Acts_takeBack_4 : vm_B q_Acts_takeBack.2.1 4 7 9 (fun o => .ifCond .ne o) := ⟨5, vm_db b_Acts_takeBack_0 (i := 2) rfl, rfl, by decide⟩
theorem d_Acts_takeBack_9 : vm_D q_Acts_takeBack.2.1 9 1 10 (.aload_n 0) := vm_dD b_Acts_takeBack_0 5 rfl rfl
theorem d_Acts_takeBack_10 : vm_D q_Acts_takeBack.2.1 10 3 13 (.getfield 20) := vm_dD b_Acts_takeBack_0 6 rfl rfl
theorem d_Acts_takeBack_13 : vm_D q_Acts_takeBack.2.1 13 2 15 (.bipush 10) := vm_dD b_Acts_takeBack_0 7 rfl rfl
theorem d_Acts_takeBack_15 : vm_D q_Acts_takeBack.2.1 15 1 16 (.iadd) := vm_dD b_Acts_takeBack_0 8 rfl rfl
theorem d_Acts_takeBack_16 : vm_D q_Acts_takeBack.2.1 16 1 17 (.iconst 1) := vm_dD b_Acts_takeBack_0 9 rfl rfl
theorem d_Acts_takeBack_17 : vm_D q_Acts_takeBack.2.1 17 1 18 (.isub) := vm_dD b_Acts_takeBack_0 10 rfl rfl
theorem d_Acts_takeBack_18 : vm_D q_Acts_takeBack.2.1 18 2 20 (.bipush 10) := vm_dD b_Acts_takeBack_0 11 rfl rfl
theorem d_Acts_takeBack_20 : vm_D q_Acts_takeBack.2.1 20 1 21 (.irem) := vm_dD b_Acts_takeBack_0 12 rfl rfl
theorem d_Acts_takeBack_21 : vm_D q_Acts_takeBack.2.1 21 1 22 (.istore_n 2) := vm_dD b_Acts_takeBack_0 13 rfl rfl
theorem d_Acts_takeBack_22 : vm_D q_Acts_takeBack.2.1 22 1 23 (.iload_n 2) := vm_dD b_Acts_takeBack_0 14 rfl rfl
theorem d_Acts_takeBack_23 : vm_B q_Acts_takeBack.2.1 23 26 32 (fun o => .ifCond .lt o) := ⟨9, vm_db b_Acts_takeBack_0 (i := 15) rfl, rfl, by decide⟩
theorem d_Acts_takeBack_32 : vm_D q_Acts_takeBack.2.1 32 1 33 (.iconst 0) := vm_dD b_Acts_takeBack_0 19 rfl rfl
theorem d_Acts_takeBack_33 : vm_D q_Acts_takeBack.2.1 33 1 34 (.ireturn) := vm_dD b_Acts_takeBack_0 20 rfl rfl
theorem d_Acts_takeBack_26 : vm_D q_Acts_takeBack.2.1 26 1 27 (.iload_n 2) := vm_dD b_Acts_takeBack_0 16 rfl rfl
theorem d_Acts_takeBack_27 : vm_D q_Acts_takeBack.2.1 27 2 29 (.bipush 10) := vm_dD b_Acts_takeBack_0 17 rfl rfl
theorem d_Acts_takeBack_29 : vm_B q_Acts_takeBack.2.1 29 32 34 (fun o => .if_icmp .lt o) := ⟨5, vm_db b_Acts_takeBack_0 (i := 18) rfl, rfl, by decide⟩
theorem d_Acts_takeBack_34 : vm_D q_Acts_takeBack.2.1 34 1 35 (.aload_n 0) := vm_dD b_Acts_takeBack_0 21 rfl rfl
theorem d_Acts_takeBack_35 : vm_D q_Acts_takeBack.2.1 35 3 38 (.getfield 11) := vm_dD b_Acts_takeBack_0 22 rfl rfl
theorem d_Acts_takeBack_38 : vm_D q_Acts_takeBack.2.1 38 1 39 (.iload_n 2) := vm_dD b_Acts_takeBack_0 23 rfl rfl
theorem d_Acts_takeBack_39 : vm_D q_Acts_takeBack.2.1 39 1 40 (.aaload) := vm_dD b_Acts_takeBack_0 24 rfl rfl
theorem d_Acts_takeBack_40 : vm_D q_Acts_takeBack.2.1 40 1 41 (.astore_n 3) := vm_dD b_Acts_takeBack_0 25 rfl rfl
theorem d_Acts_takeBack_41 : vm_D q_Acts_takeBack.2.1 41 1 42 (.aload_n 1) := vm_dD b_Acts_takeBack_0 26 rfl rfl
theorem d_Acts_takeBack_42 : vm_D q_Acts_takeBack.2.1 42 3 45 (.invokevirtual 42) := vm_dD b_Acts_takeBack_0 27 rfl rfl
theorem d_Acts_takeBack_45 : vm_D q_Acts_takeBack.2.1 45 1 46 (.iconst 0) := vm_dD b_Acts_takeBack_0 28 rfl rfl
theorem d_Acts_takeBack_46 : vm_D q_Acts_takeBack.2.1 46 2 48 (.istore 4) := vm_dD b_Acts_takeBack_0 29 rfl rfl
theorem d_Acts_takeBack_48 : vm_D q_Acts_takeBack.2.1 48 2 50 (.iload 4) := vm_dD b_Acts_takeBack_0 30 rfl rfl
theorem d_Acts_takeBack_50 : vm_D q_Acts_takeBack.2.1 50 1 51 (.aload_n 0) := vm_dD b_Acts_takeBack_0 31 rfl rfl
theorem d_Acts_takeBack_51 : vm_D q_Acts_takeBack.2.1 51 3 54 (.getfield 16) := vm_dD b_Acts_takeBack_0 32 rfl rfl
theorem d_Acts_takeBack_54 : vm_D q_Acts_takeBack.2.1 54 1 55 (.iload_n 2) := vm_dD b_Acts_takeBack_0 33 rfl rfl
theorem d_Acts_takeBack_55 : vm_D q_Acts_takeBack.2.1 55 1 56 (.iaload) := vm_dD b_Acts_takeBack_0 34 rfl rfl
theorem d_Acts_takeBack_56 : vm_B q_Acts_takeBack.2.1 56 59 80 (fun o => .if_icmp .ge o) := ⟨24, vm_db b_Acts_takeBack_0 (i := 35) rfl, rfl, by decide⟩
theorem d_Acts_takeBack_59 : vm_D q_Acts_takeBack.2.1 59 2 61 (.iload 4) := vm_dD b_Acts_takeBack_0 36 rfl rfl
theorem d_Acts_takeBack_61 : vm_D q_Acts_takeBack.2.1 61 1 62 (.aload_n 3) := vm_dD b_Acts_takeBack_0 37 rfl rfl
theorem d_Acts_takeBack_62 : vm_D q_Acts_takeBack.2.1 62 1 63 (.arraylength) := vm_dD b_Acts_takeBack_0 38 rfl rfl
theorem d_Acts_takeBack_63 : vm_B q_Acts_takeBack.2.1 63 66 80 (fun o => .if_icmp .ge o) := ⟨17, vm_db b_Acts_takeBack_0 (i := 39) rfl, rfl, by decide⟩
theorem d_Acts_takeBack_66 : vm_D q_Acts_takeBack.2.1 66 1 67 (.aload_n 1) := vm_dD b_Acts_takeBack_0 40 rfl rfl
theorem d_Acts_takeBack_67 : vm_D q_Acts_takeBack.2.1 67 1 68 (.aload_n 3) := vm_dD b_Acts_takeBack_0 41 rfl rfl
theorem d_Acts_takeBack_68 : vm_D q_Acts_takeBack.2.1 68 2 70 (.iload 4) := vm_dD b_Acts_takeBack_0 42 rfl rfl
theorem d_Acts_takeBack_70 : vm_D q_Acts_takeBack.2.1 70 1 71 (.iaload) := vm_dD b_Acts_takeBack_0 43 rfl rfl
theorem d_Acts_takeBack_71 : vm_D q_Acts_takeBack.2.1 71 3 74 (.invokevirtual 45) := vm_dD b_Acts_takeBack_0 44 rfl rfl
theorem d_Acts_takeBack_74 : vm_D q_Acts_takeBack.2.1 74 3 77 (.iinc 4 1) := vm_dD b_Acts_takeBack_0 45 rfl rfl
theorem d_Acts_takeBack_77 : ∃ off : Int, decode q_Acts_takeBack.2.1 77 = .ok (.goto off, 3) ∧ ((77 : Nat) : Int) + off = ((48 : Nat) : Int) := ⟨-29, vm_db b_Acts_takeBack_0 (i := 46) rfl, by decide⟩
theorem d_Acts_takeBack_80 : vm_D q_Acts_takeBack.2.1 80 1 81 (.aload_n 0) := vm_dD b_Acts_takeBack_0 47 rfl rfl
theorem d_Acts_takeBack_81 : vm_D q_Acts_takeBack.2.1 81 1 82 (.iload_n 2) := vm_dD b_Acts_takeBack_0 48 rfl rfl
theorem d_Acts_takeBack_82 : vm_D q_Acts_takeBack.2.1 82 3 85 (.putfield 20) := vm_dD b_Acts_takeBack_0 49 rfl rfl
theorem d_Acts_takeBack_85 : vm_D q_Acts_takeBack.2.1 85 1 86 (.aload_n 0) := vm_dD b_Acts_takeBack_0 50 rfl rfl
theorem d_Acts_takeBack_86 : vm_D q_Acts_takeBack.2.1 86 1 87 (.dup) := vm_dD b_Acts_takeBack_0 51 rfl rfl
theorem d_Acts_takeBack_87 : vm_D q_Acts_takeBack.2.1 87 3 90 (.getfield 24) := vm_dD b_Acts_takeBack_0 52 rfl rfl
theorem d_Acts_takeBack_90 : vm_D q_Acts_takeBack.2.1 90 1 91 (.iconst 1) := vm_dD b_Acts_takeBack_0 53 rfl rfl
theorem d_Acts_takeBack_91 : vm_D q_Acts_takeBack.2.1 91 1 92 (.isub) := vm_dD b_Acts_takeBack_0 54 rfl rfl
theorem d_Acts_takeBack_92 : vm_D q_Acts_takeBack.2.1 92 3 95 (.putfield 24) := vm_dD b_Acts_takeBack_0 55 rfl rfl
theorem d_Acts_takeBack_95 : vm_D q_Acts_takeBack.2.1 95 1 96 (.iconst 1) := vm_dD b_Acts_takeBack_0 56 rfl rfl
theorem d_Acts_takeBack_96 : vm_D q_Acts_takeBack.2.1 96 1 97 (.ireturn) := vm_dD b_Acts_takeBack_0 57 rfl rfl
theorem d_Acts_takeBack_7 : vm_D q_Acts_takeBack.2.1 7 1 8 (.iconst 0) := vm_dD b_Acts_takeBack_0 3 rfl rfl
theorem d_Acts_takeBack_8 : vm_D q_Acts_takeBack.2.1 8 1 9 (.ireturn) := vm_dD b_Acts_takeBack_0 4 rfl rfl
def q_Line_twiceAt : vm_Y := ("RepeatFree$Line", cX1_twiceAt, 2, false, [])
def t_Line_twiceAt_0 : List (Nat × Instr × Nat) := [(0, .iload_n 1, 1), (1, .ifCond .lt 29, 3), (4, .iload_n 1, 1), (5, .aload_n 0, 1), (6, .getfield 30, 3), (9, .if_icmp .ge 21, 3), (12, .iload_n 1, 1), (13, .aload_n 0, 1), (14, .getfield 20, 3), (17, .arraylength, 1), (18, .if_icmp .ge 12, 3), (21, .aload_n 0, 1), (22, .getfield 20, 3), (25, .iload_n 1, 1), (26, .iaload, 1), (27, .goto 4, 3), (30, .iconst 0, 1), (31, .ireturn, 1)]
theorem b_Line_twiceAt_0 : (t_Line_twiceAt_0.all fun q => decide (decode q_Line_twiceAt.2.1 q.1 = .ok (q.2.1, q.2.2))) = true := by decide +kernel
theorem d_Line_twiceAt_0 : vm_D q_Line_twiceAt.2.1 0 1 1 (.iload_n 1) := vm_dD b_Line_twiceAt_0 0 rfl rfl
theorem d_Line_twiceAt_1 : vm_B q_Line_twiceAt.2.1 1 4 30 (fun o => .ifCond .lt o) := ⟨29, vm_db b_Line_twiceAt_0 (i := 1) rfl, rfl, by decide⟩
theorem d_Line_twiceAt_30 : vm_D q_Line_twiceAt.2.1 30 1 31 (.iconst 0) := vm_dD b_Line_twiceAt_0 16 rfl rfl
theorem d_Line_twiceAt_31 : vm_D q_Line_twiceAt.2.1 31 1 32 (.ireturn) := vm_dD b_Line_twiceAt_0 17 rfl rfl
theorem d_Line_twiceAt_4 : vm_D q_Line_twiceAt.2.1 4 1 5 (.iload_n 1) := vm_dD b_Line_twiceAt_0 2 rfl rfl
theorem d_Line_twiceAt_5 : vm_D q_Line_twiceAt.2.1 5 1 6 (.aload_n 0) := vm_dD b_Line_twiceAt_0 3 rfl rfl
theorem d_Line_twiceAt_6 : vm_D q_Line_twiceAt.2.1 6 3 9 (.getfield 30) := vm_dD b_Line_twiceAt_0 4 rfl rfl
theorem d_Line_twiceAt_9 : vm_B q_Line_twiceAt.2.1 9 12 30 (fun o => .if_icmp .ge o) := ⟨21, vm_db b_Line_twiceAt_0 (i := 5) rfl, rfl, by decide⟩
theorem d_Line_twiceAt_12 : vm_D q_Line_twiceAt.2.1 12 1 13 (.iload_n 1) := vm_dD b_Line_twiceAt_0 6 rfl rfl
theorem d_Line_twiceAt_13 : vm_D q_Line_twiceAt.2.1 13 1 14 (.aload_n 0) := vm_dD b_Line_twiceAt_0 7 rfl rfl
theorem d_Line_twiceAt_14 : vm_D q_Line_twiceAt.2.1 14 3 17 (.getfield 20) := vm_dD b_Line_twiceAt_0 8 rfl rfl
theorem d_Line_twiceAt_17 : vm_D q_Line_twiceAt.2.1 17 1 18 (.arraylength) := vm_dD b_Line_twiceAt_0 9 rfl rfl
theorem d_Line_twiceAt_18 : vm_B q_Line_twiceAt.2.1 18 21 30 (fun o => .if_icmp .ge o) := ⟨12, vm_db b_Line_twiceAt_0 (i := 10) rfl, rfl, by decide⟩
theorem d_Line_twiceAt_21 : vm_D q_Line_twiceAt.2.1 21 1 22 (.aload_n 0) := vm_dD b_Line_twiceAt_0 11 rfl rfl
theorem d_Line_twiceAt_22 : vm_D q_Line_twiceAt.2.1 22 3 25 (.getfield 20) := vm_dD b_Line_twiceAt_0 12 rfl rfl
theorem d_Line_twiceAt_25 : vm_D q_Line_twiceAt.2.1 25 1 26 (.iload_n 1) := vm_dD b_Line_twiceAt_0 13 rfl rfl
theorem d_Line_twiceAt_26 : vm_D q_Line_twiceAt.2.1 26 1 27 (.iaload) := vm_dD b_Line_twiceAt_0 14 rfl rfl
theorem d_Line_twiceAt_27 : ∃ off : Int, decode q_Line_twiceAt.2.1 27 = .ok (.goto off, 3) ∧ ((27 : Nat) : Int) + off = ((31 : Nat) : Int) := ⟨4, vm_db b_Line_twiceAt_0 (i := 15) rfl, by decide⟩
def q_Shape_isShort : vm_Y := ("RepeatFree$Shape", cX6_isShort, 2, false, [])
def t_Shape_isShort_0 : List (Nat × Instr × Nat) := [(0, .iload_n 1, 1), (1, .ifCond .lt 18, 3), (4, .aload_n 0, 1), (5, .getfield 26, 3), (8, .iload_n 1, 1), (9, .ishr, 1), (10, .iconst 1, 1), (11, .iand, 1), (12, .ifCond .eq 7, 3), (15, .iconst 1, 1), (16, .goto 4, 3), (19, .iconst 0, 1), (20, .ireturn, 1)]
theorem b_Shape_isShort_0 : (t_Shape_isShort_0.all fun q => decide (decode q_Shape_isShort.2.1 q.1 = .ok (q.2.1, q.2.2))) = true := by decide +kernel
theorem d_Shape_isShort_0 : vm_D q_Shape_isShort.2.1 0 1 1 (.iload_n 1) := vm_dD b_Shape_isShort_0 0 rfl rfl
theorem d_Shape_isShort_1 : vm_B q_Shape_isShort.2.1 1 4 19 (fun o => .ifCond .lt o) := ⟨18, vm_db b_Shape_isShort_0 (i := 1) rfl, rfl, by decide⟩
theorem d_Shape_isShort_19 : vm_D q_Shape_isShort.2.1 19 1 20 (.iconst 0) := vm_dD b_Shape_isShort_0 11 rfl rfl
theorem d_Shape_isShort_20 : vm_D q_Shape_isShort.2.1 20 1 21 (.ireturn) := vm_dD b_Shape_isShort_0 12 rfl rfl
theorem d_Shape_isShort_4 : vm_D q_Shape_isShort.2.1 4 1 5 (.aload_n 0) := vm_dD b_Shape_isShort_0 2 rfl rfl
theorem d_Shape_isShort_5 : vm_D q_Shape_isShort.2.1 5 3 8 (.getfield 26) := vm_dD b_Shape_isShort_0 3 rfl rfl
theorem d_Shape_isShort_8 : vm_D q_Shape_isShort.2.1 8 1 9 (.iload_n 1) := vm_dD b_Shape_isShort_0 4 rfl rfl
theorem d_Shape_isShort_9 : vm_D q_Shape_isShort.2.1 9 1 10 (.ishr) := vm_dD b_Shape_isShort_0 5 rfl rfl
theorem d_Shape_isShort_10 : vm_D q_Shape_isShort.2.1 10 1 11 (.iconst 1) := vm_dD b_Shape_isShort_0 6 rfl rfl
theorem d_Shape_isShort_11 : vm_D q_Shape_isShort.2.1 11 1 12 (.iand) := vm_dD b_Shape_isShort_0 7 rfl rfl
theorem d_Shape_isShort_12 : vm_B q_Shape_isShort.2.1 12 15 19 (fun o => .ifCond .eq o) := ⟨7, vm_db b_Shape_isShort_0 (i := 8) rfl, rfl, by decide⟩
theorem d_Shape_isShort_15 : vm_D q_Shape_isShort.2.1 15 1 16 (.iconst 1) := vm_dD b_Shape_isShort_0 9 rfl rfl
theorem d_Shape_isShort_16 : ∃ off : Int, decode q_Shape_isShort.2.1 16 = .ok (.goto off, 3) ∧ ((16 : Nat) : Int) + off = ((20 : Nat) : Int) := ⟨4, vm_db b_Shape_isShort_0 (i := 10) rfl, by decide⟩
def q_Sizes_set : vm_Y := ("RepeatFree$Sizes", cX7_set, 4, false, [])
def t_Sizes_set_0 : List (Nat × Instr × Nat) := [(0, .iload_n 1, 1), (1, .ifCond .lt 22, 3), (4, .iload_n 1, 1), (5, .iconst 3, 1), (6, .if_icmp .ge 17, 3), (9, .aload_n 0, 1), (10, .getfield 9, 3), (13, .iload_n 1, 1), (14, .iload_n 2, 1), (15, .iastore, 1), (16, .aload_n 0, 1), (17, .getfield 15, 3), (20, .iload_n 1, 1), (21, .iload_n 3, 1), (22, .iastore, 1), (23, .return_, 1)]
theorem b_Sizes_set_0 : (t_Sizes_set_0.all fun q => decide (decode q_Sizes_set.2.1 q.1 = .ok (q.2.1, q.2.2))) = true := by decide +kernel
theorem d_Sizes_set_0 : vm_D q_Sizes_set.2.1 0 1 1 (.iload_n 1) := vm_dD b_Sizes_set_0 0 rfl rfl
theorem d_Sizes_set_1 : vm_B q_Sizes_set.2.1 1 4 23 (fun o => .ifCond .lt o) := ⟨22, vm_db b_Sizes_set_0 (i := 1) rfl, rfl, by decide⟩
theorem d_Sizes_set_23 : vm_D q_Sizes_set.2.1 23 1 24 (.return_) := vm_dD b_Sizes_set_0 15 rfl rfl
theorem d_Sizes_set_4 : vm_D q_Sizes_set.2.1 4 1 5 (.iload_n 1) := vm_dD b_Sizes_set_0 2 rfl rfl
theorem d_Sizes_set_5 : vm_D q_Sizes_set.2.1 5 1 6 (.iconst 3) := vm_dD b_Sizes_set_0 3 rfl rfl
theorem d_Sizes_set_6 : vm_B q_Sizes_set.2.1 6 9 23 (fun o => .if_icmp .ge o) := ⟨17, vm_db b_Sizes_set_0 (i := 4) rfl, rfl, by decide⟩
theorem d_Sizes_set_9 : vm_D q_Sizes_set.2.1 9 1 10 (.aload_n 0) := vm_dD b_Sizes_set_0 5 rfl rfl
theorem d_Sizes_set_10 : vm_D q_Sizes_set.2.1 10 3 13 (.getfield 9) := vm_dD b_Sizes_set_0 6 rfl rfl
theorem d_Sizes_set_13 : vm_D q_Sizes_set.2.1 13 1 14 (.iload_n 1) := vm_dD b_Sizes_set_0 7 rfl rfl
theorem d_Sizes_set_14 : vm_D q_Sizes_set.2.1 14 1 15 (.iload_n 2) := vm_dD b_Sizes_set_0 8 rfl rfl
theorem d_Sizes_set_15 : vm_D q_Sizes_set.2.1 15 1 16 (.iastore) := vm_dD b_Sizes_set_0 9 rfl rfl
theorem d_Sizes_set_16 : vm_D q_Sizes_set.2.1 16 1 17 (.aload_n 0) := vm_dD b_Sizes_set_0 10 rfl rfl
theorem d_Sizes_set_17 : vm_D q_Sizes_set.2.1 17 3 20 (.getfield 15) := vm_dD b_Sizes_set_0 11 rfl rfl
theorem d_Sizes_set_20 : vm_D q_Sizes_set.2.1 20 1 21 (.iload_n 1) := vm_dD b_Sizes_set_0 12 rfl rfl
theorem d_Sizes_set_21 : vm_D q_Sizes_set.2.1 21 1 22 (.iload_n 3) := vm_dD b_Sizes_set_0 13 rfl rfl
theorem d_Sizes_set_22 : vm_D q_Sizes_set.2.1 22 1 23 (.iastore) := vm_dD b_Sizes_set_0 14 rfl rfl
def q_Sizes_clear : vm_Y := ("RepeatFree$Sizes", cX7_clear, 2, false, [])
def t_Sizes_clear_0 : List (Nat × Instr × Nat) := [(0, .iconst 0, 1), (1, .istore_n 1, 1), (2, .iload_n 1, 1), (3, .iconst 3, 1), (4, .if_icmp .ge 16, 3), (7, .aload_n 0, 1), (8, .iload_n 1, 1), (9, .iconst 0, 1), (10, .iconst (-1), 1), (11, .invokevirtual 18, 3), (14, .iinc 1 1, 3), (17, .goto (-15), 3), (20, .return_, 1)]
theorem b_Sizes_clear_0 : (t_Sizes_clear_0.all fun q => decide (decode q_Sizes_clear.2.1 q.1 = .ok (q.2.1, q.2.2))) = true := by decide +kernel
theorem d_Sizes_clear_0 : vm_D q_Sizes_clear.2.1 0 1 1 (.iconst 0) := vm_dD b_Sizes_clear_0 0 rfl rfl
theorem d_Sizes_clear_1 : vm_D q_Sizes_clear.2.1 1 1 2 (.istore_n 1) := vm_dD b_Sizes_clear_0 1 rfl rfl
theorem d_Sizes_clear_2 : vm_D q_Sizes_clear.2.1 2 1 3 (.iload_n 1) := vm_dD b_Sizes_clear_0 2 rfl rfl
theorem d_Sizes_clear_3 : vm_D q_Sizes_clear.2.1 3 1 4 (.iconst 3) := vm_dD b_Sizes_clear_0 3 rfl rfl
theorem d_Sizes_clear_4 : vm_B q_Sizes_clear.2.1 4 7 20 (fun o => .if_icmp .ge o) := ⟨16, vm_db b_Sizes_clear_0 (i := 4) rfl, rfl, by decide⟩
theorem d_Sizes_clear_7 : vm_D q_Sizes_clear.2.1 7 1 8 (.aload_n 0) := vm_dD b_Sizes_clear_0 5 rfl rfl
theorem d_Sizes_clear_8 : vm_D q_Sizes_clear.2.1 8 1 9 (.iload_n 1) := vm_dD b_Sizes_clear_0 6 rfl rfl
theorem d_Sizes_clear_9 : vm_D q_Sizes_clear.2.1 9 1 10 (.iconst 0) := vm_dD b_Sizes_clear_0 7 rfl rfl
theorem d_Sizes_clear_10 : vm_D q_Sizes_clear.2.1 10 1 11 (.iconst (-1)) := vm_dD b_Sizes_clear_0 8 rfl rfl
theorem d_Sizes_clear_11 : vm_D q_Sizes_clear.2.1 11 3 14 (.invokevirtual 18) := vm_dD b_Sizes_clear_0 9 rfl rfl
theorem d_Sizes_clear_14 : vm_D q_Sizes_clear.2.1 14 3 17 (.iinc 1 1) := vm_dD b_Sizes_clear_0 10 rfl rfl
theorem d_Sizes_clear_17 : ∃ off : Int, decode q_Sizes_clear.2.1 17 = .ok (.goto off, 3) ∧ ((17 : Nat) : Int) + off = ((2 : Nat) : Int) := ⟨-15, vm_db b_Sizes_clear_0 (i := 11) rfl, by decide⟩
theorem d_Sizes_clear_20 : vm_D q_Sizes_clear.2.1 20 1 21 (.return_) := vm_dD b_Sizes_clear_0 12 rfl rfl
def q_Line_alike : vm_Y := ("RepeatFree$Line", cX1_alike, 5, false, [])
def t_Line_alike_0 : List (Nat × Instr × Nat) := [(0, .iload_n 1, 1), (1, .iload_n 2, 1), (2, .if_icmp .le 7, 3), (5, .iload_n 1, 1), (6, .goto 4, 3), (9, .iload_n 2, 1), (10, .istore_n 3, 1), (11, .iload_n 1, 1), (12, .iload_n 2, 1), (13, .if_icmp .le 7, 3), (16, .iload_n 2, 1), (17, .goto 4, 3), (20, .iload_n 1, 1), (21, .istore 4, 2), (23, .iload 4, 2), (25, .ifCond .lt 23, 3), (28, .iload 4, 2), (30, .iload_n 3, 1), (31, .if_icmp .ge 17, 3), (34, .iload_n 3, 1), (35, .aload_n 0, 1), (36, .getfield 30, 3), (39, .if_icmp .ge 9, 3), (42, .iload_n 3, 1), (43, .bipush 64, 2), (45, .if_icmp .lt 5, 3), (48, .iconst 0, 1), (49, .ireturn, 1), (50, .aload_n 0, 1), (51, .getfield 17, 3), (54, .iload_n 3, 1), (55, .aaload, 1), (56, .iload 4, 2), (58, .iaload, 1), (59, .ireturn, 1)]
theorem b_Line_alike_0 : (t_Line_alike_0.all fun q => decide (decode q_Line_alike.2.1 q.1 = .ok (q.2.1, q.2.2))) = true := by decide +kernel
theorem d_Line_alike_0 : vm_D q_Line_alike.2.1 0 1 1 (.iload_n 1) := vm_dD b_Line_alike_0 0 rfl rfl
theorem d_Line_alike_1 : vm_D q_Line_alike.2.1 1 1 2 (.iload_n 2) := vm_dD b_Line_alike_0 1 rfl rfl
theorem d_Line_alike_2 : vm_B q_Line_alike.2.1 2 5 9 (fun o => .if_icmp .le o) := ⟨7, vm_db b_Line_alike_0 (i := 2) rfl, rfl, by decide⟩
theorem d_Line_alike_10 : vm_D q_Line_alike.2.1 10 1 11 (.istore_n 3) := vm_dD b_Line_alike_0 6 rfl rfl
theorem d_Line_alike_11 : vm_D q_Line_alike.2.1 11 1 12 (.iload_n 1) := vm_dD b_Line_alike_0 7 rfl rfl
theorem d_Line_alike_12 : vm_D q_Line_alike.2.1 12 1 13 (.iload_n 2) := vm_dD b_Line_alike_0 8 rfl rfl
theorem d_Line_alike_13 : vm_B q_Line_alike.2.1 13 16 20 (fun o => .if_icmp .le o) := ⟨7, vm_db b_Line_alike_0 (i := 9) rfl, rfl, by decide⟩
theorem d_Line_alike_21 : vm_D q_Line_alike.2.1 21 2 23 (.istore 4) := vm_dD b_Line_alike_0 13 rfl rfl
theorem d_Line_alike_23 : vm_D q_Line_alike.2.1 23 2 25 (.iload 4) := vm_dD b_Line_alike_0 14 rfl rfl
theorem d_Line_alike_25 : vm_B q_Line_alike.2.1 25 28 48 (fun o => .ifCond .lt o) := ⟨23, vm_db b_Line_alike_0 (i := 15) rfl, rfl, by decide⟩
theorem d_Line_alike_48 : vm_D q_Line_alike.2.1 48 1 49 (.iconst 0) := vm_dD b_Line_alike_0 26 rfl rfl
theorem d_Line_alike_49 : vm_D q_Line_alike.2.1 49 1 50 (.ireturn) := vm_dD b_Line_alike_0 27 rfl rfl
theorem d_Line_alike_28 : vm_D q_Line_alike.2.1 28 2 30 (.iload 4) := vm_dD b_Line_alike_0 16 rfl rfl
theorem d_Line_alike_30 : vm_D q_Line_alike.2.1 30 1 31 (.iload_n 3) := vm_dD b_Line_alike_0 17 rfl rfl
theorem d_Line_alike_31 : vm_B q_Line_alike.2.1 31 34 48 (fun o => .if_icmp .ge o) := ⟨17, vm_db b_Line_alike_0 (i := 18) rfl, rfl, by decide⟩
theorem d_Line_alike_34 : vm_D q_Line_alike.2.1 34 1 35 (.iload_n 3) := vm_dD b_Line_alike_0 19 rfl rfl
theorem d_Line_alike_35 : vm_D q_Line_alike.2.1 35 1 36 (.aload_n 0) := vm_dD b_Line_alike_0 20 rfl rfl
theorem d_Line_alike_36 : vm_D q_Line_alike.2.1 36 3 39 (.getfield 30) := vm_dD b_Line_alike_0 21 rfl rfl
theorem d_Line_alike_39 : vm_B q_Line_alike.2.1 39 42 48 (fun o => .if_icmp .ge o) := ⟨9, vm_db b_Line_alike_0 (i := 22) rfl, rfl, by decide⟩
theorem d_Line_alike_42 : vm_D q_Line_alike.2.1 42 1 43 (.iload_n 3) := vm_dD b_Line_alike_0 23 rfl rfl
theorem d_Line_alike_43 : vm_D q_Line_alike.2.1 43 2 45 (.bipush 64) := vm_dD b_Line_alike_0 24 rfl rfl
theorem d_Line_alike_45 : vm_B q_Line_alike.2.1 45 48 50 (fun o => .if_icmp .lt o) := ⟨5, vm_db b_Line_alike_0 (i := 25) rfl, rfl, by decide⟩
theorem d_Line_alike_50 : vm_D q_Line_alike.2.1 50 1 51 (.aload_n 0) := vm_dD b_Line_alike_0 28 rfl rfl
theorem d_Line_alike_51 : vm_D q_Line_alike.2.1 51 3 54 (.getfield 17) := vm_dD b_Line_alike_0 29 rfl rfl
theorem d_Line_alike_54 : vm_D q_Line_alike.2.1 54 1 55 (.iload_n 3) := vm_dD b_Line_alike_0 30 rfl rfl
theorem d_Line_alike_55 : vm_D q_Line_alike.2.1 55 1 56 (.aaload) := vm_dD b_Line_alike_0 31 rfl rfl
theorem d_Line_alike_56 : vm_D q_Line_alike.2.1 56 2 58 (.iload 4) := vm_dD b_Line_alike_0 32 rfl rfl
theorem d_Line_alike_58 : vm_D q_Line_alike.2.1 58 1 59 (.iaload) := vm_dD b_Line_alike_0 33 rfl rfl
theorem d_Line_alike_59 : vm_D q_Line_alike.2.1 59 1 60 (.ireturn) := vm_dD b_Line_alike_0 34 rfl rfl
theorem d_Line_alike_20 : vm_D q_Line_alike.2.1 20 1 21 (.iload_n 1) := vm_dD b_Line_alike_0 12 rfl rfl
theorem d_Line_alike_16 : vm_D q_Line_alike.2.1 16 1 17 (.iload_n 2) := vm_dD b_Line_alike_0 10 rfl rfl
theorem d_Line_alike_17 : ∃ off : Int, decode q_Line_alike.2.1 17 = .ok (.goto off, 3) ∧ ((17 : Nat) : Int) + off = ((21 : Nat) : Int) := ⟨4, vm_db b_Line_alike_0 (i := 11) rfl, by decide⟩
theorem d_Line_alike_9 : vm_D q_Line_alike.2.1 9 1 10 (.iload_n 2) := vm_dD b_Line_alike_0 5 rfl rfl
theorem d_Line_alike_5 : vm_D q_Line_alike.2.1 5 1 6 (.iload_n 1) := vm_dD b_Line_alike_0 3 rfl rfl
theorem d_Line_alike_6 : ∃ off : Int, decode q_Line_alike.2.1 6 = .ok (.goto off, 3) ∧ ((6 : Nat) : Int) + off = ((10 : Nat) : Int) := ⟨4, vm_db b_Line_alike_0 (i := 4) rfl, by decide⟩
def q_Sizes_edge : vm_Y := ("RepeatFree$Sizes", cX7_edge, 2, false, [])
def t_Sizes_edge_0 : List (Nat × Instr × Nat) := [(0, .iload_n 1, 1), (1, .ifCond .lt 21, 3), (4, .iload_n 1, 1), (5, .aload_n 0, 1), (6, .getfield 15, 3), (9, .arraylength, 1), (10, .if_icmp .ge 12, 3), (13, .aload_n 0, 1), (14, .getfield 15, 3), (17, .iload_n 1, 1), (18, .iaload, 1), (19, .goto 4, 3), (22, .iconst (-1), 1), (23, .ireturn, 1)]
theorem b_Sizes_edge_0 : (t_Sizes_edge_0.all fun q => decide (decode q_Sizes_edge.2.1 q.1 = .ok (q.2.1, q.2.2))) = true := by decide +kernel
theorem d_Sizes_edge_0 : vm_D q_Sizes_edge.2.1 0 1 1 (.iload_n 1) := vm_dD b_Sizes_edge_0 0 rfl rfl
theorem d_Sizes_edge_1 : vm_B q_Sizes_edge.2.1 1 4 22 (fun o => .ifCond .lt o) := ⟨21, vm_db b_Sizes_edge_0 (i := 1) rfl, rfl, by decide⟩
theorem d_Sizes_edge_22 : vm_D q_Sizes_edge.2.1 22 1 23 (.iconst (-1)) := vm_dD b_Sizes_edge_0 12 rfl rfl
theorem d_Sizes_edge_23 : vm_D q_Sizes_edge.2.1 23 1 24 (.ireturn) := vm_dD b_Sizes_edge_0 13 rfl rfl
theorem d_Sizes_edge_4 : vm_D q_Sizes_edge.2.1 4 1 5 (.iload_n 1) := vm_dD b_Sizes_edge_0 2 rfl rfl
theorem d_Sizes_edge_5 : vm_D q_Sizes_edge.2.1 5 1 6 (.aload_n 0) := vm_dD b_Sizes_edge_0 3 rfl rfl
theorem d_Sizes_edge_6 : vm_D q_Sizes_edge.2.1 6 3 9 (.getfield 15) := vm_dD b_Sizes_edge_0 4 rfl rfl
theorem d_Sizes_edge_9 : vm_D q_Sizes_edge.2.1 9 1 10 (.arraylength) := vm_dD b_Sizes_edge_0 5 rfl rfl
theorem d_Sizes_edge_10 : vm_B q_Sizes_edge.2.1 10 13 22 (fun o => .if_icmp .ge o) := ⟨12, vm_db b_Sizes_edge_0 (i := 6) rfl, rfl, by decide⟩
theorem d_Sizes_edge_13 : vm_D q_Sizes_edge.2.1 13 1 14 (.aload_n 0) := vm_dD b_Sizes_edge_0 7 rfl rfl
theorem d_Sizes_edge_14 : vm_D q_Sizes_edge.2.1 14 3 17 (.getfield 15) := vm_dD b_Sizes_edge_0 8 rfl rfl
theorem d_Sizes_edge_17 : vm_D q_Sizes_edge.2.1 17 1 18 (.iload_n 1) := vm_dD b_Sizes_edge_0 9 rfl rfl
theorem d_Sizes_edge_18 : vm_D q_Sizes_edge.2.1 18 1 19 (.iaload) := vm_dD b_Sizes_edge_0 10 rfl rfl
theorem d_Sizes_edge_19 : ∃ off : Int, decode q_Sizes_edge.2.1 19 = .ok (.goto off, 3) ∧ ((19 : Nat) : Int) + off = ((23 : Nat) : Int) := ⟨4, vm_db b_Sizes_edge_0 (i := 11) rfl, by decide⟩
def q_Sizes_of : vm_Y := ("RepeatFree$Sizes", cX7_of, 2, false, [])
def t_Sizes_of_0 : List (Nat × Instr × Nat) := [(0, .iload_n 1, 1), (1, .ifCond .lt 21, 3), (4, .iload_n 1, 1), (5, .aload_n 0, 1), (6, .getfield 9, 3), (9, .arraylength, 1), (10, .if_icmp .ge 12, 3), (13, .aload_n 0, 1), (14, .getfield 9, 3), (17, .iload_n 1, 1), (18, .iaload, 1), (19, .goto 4, 3), (22, .iconst 0, 1), (23, .ireturn, 1)]
theorem b_Sizes_of_0 : (t_Sizes_of_0.all fun q => decide (decode q_Sizes_of.2.1 q.1 = .ok (q.2.1, q.2.2))) = true := by decide +kernel
theorem d_Sizes_of_0 : vm_D q_Sizes_of.2.1 0 1 1 (.iload_n 1) := vm_dD b_Sizes_of_0 0 rfl rfl
theorem d_Sizes_of_1 : vm_B q_Sizes_of.2.1 1 4 22 (fun o => .ifCond .lt o) := ⟨21, vm_db b_Sizes_of_0 (i := 1) rfl, rfl, by decide⟩
theorem d_Sizes_of_22 : vm_D q_Sizes_of.2.1 22 1 23 (.iconst 0) := vm_dD b_Sizes_of_0 12 rfl rfl
theorem d_Sizes_of_23 : vm_D q_Sizes_of.2.1 23 1 24 (.ireturn) := vm_dD b_Sizes_of_0 13 rfl rfl
theorem d_Sizes_of_4 : vm_D q_Sizes_of.2.1 4 1 5 (.iload_n 1) := vm_dD b_Sizes_of_0 2 rfl rfl
theorem d_Sizes_of_5 : vm_D q_Sizes_of.2.1 5 1 6 (.aload_n 0) := vm_dD b_Sizes_of_0 3 rfl rfl
theorem d_Sizes_of_6 : vm_D q_Sizes_of.2.1 6 3 9 (.getfield 9) := vm_dD b_Sizes_of_0 4 rfl rfl
theorem d_Sizes_of_9 : vm_D q_Sizes_of.2.1 9 1 10 (.arraylength) := vm_dD b_Sizes_of_0 5 rfl rfl
theorem d_Sizes_of_10 : vm_B q_Sizes_of.2.1 10 13 22 (fun o => .if_icmp .ge o) := ⟨12, vm_db b_Sizes_of_0 (i := 6) rfl, rfl, by decide⟩
theorem d_Sizes_of_13 : vm_D q_Sizes_of.2.1 13 1 14 (.aload_n 0) := vm_dD b_Sizes_of_0 7 rfl rfl
theorem d_Sizes_of_14 : vm_D q_Sizes_of.2.1 14 3 17 (.getfield 9) := vm_dD b_Sizes_of_0 8 rfl rfl
theorem d_Sizes_of_17 : vm_D q_Sizes_of.2.1 17 1 18 (.iload_n 1) := vm_dD b_Sizes_of_0 9 rfl rfl
theorem d_Sizes_of_18 : vm_D q_Sizes_of.2.1 18 1 19 (.iaload) := vm_dD b_Sizes_of_0 10 rfl rfl
theorem d_Sizes_of_19 : ∃ off : Int, decode q_Sizes_of.2.1 19 = .ok (.goto off, 3) ∧ ((19 : Nat) : Int) + off = ((23 : Nat) : Int) := ⟨4, vm_db b_Sizes_of_0 (i := 11) rfl, by decide⟩
def q_Sizes_isAgainAt : vm_Y := ("RepeatFree$Sizes", cX7_isAgainAt, 7, false, [])
def t_Sizes_isAgainAt_0 : List (Nat × Instr × Nat) := [(0, .aload_n 0, 1), (1, .iload_n 2, 1), (2, .invokevirtual 35, 3), (5, .istore 5, 2), (7, .iload 4, 2), (9, .ifCond .le 10, 3), (12, .iload 5, 2), (14, .iconst 1, 1), (15, .isub, 1), (16, .goto 4, 3), (19, .iconst 0, 1), (20, .istore 6, 2), (22, .aload_n 1, 1), (23, .aload_n 0, 1), (24, .iload_n 2, 1), (25, .invokevirtual 62, 3), (28, .iload 6, 2), (30, .iadd, 1), (31, .iload_n 3, 1), (32, .iload 6, 2), (34, .iadd, 1), (35, .invokevirtual 65, 3), (38, .iload 5, 2), (40, .if_icmp .lt 7, 3), (43, .iconst 1, 1), (44, .goto 4, 3), (47, .iconst 0, 1), (48, .ireturn, 1)]
theorem b_Sizes_isAgainAt_0 : (t_Sizes_isAgainAt_0.all fun q => decide (decode q_Sizes_isAgainAt.2.1 q.1 = .ok (q.2.1, q.2.2))) = true := by decide +kernel
theorem d_Sizes_isAgainAt_0 : vm_D q_Sizes_isAgainAt.2.1 0 1 1 (.aload_n 0) := vm_dD b_Sizes_isAgainAt_0 0 rfl rfl
theorem d_Sizes_isAgainAt_1 : vm_D q_Sizes_isAgainAt.2.1 1 1 2 (.iload_n 2) := vm_dD b_Sizes_isAgainAt_0 1 rfl rfl
theorem d_Sizes_isAgainAt_2 : vm_D q_Sizes_isAgainAt.2.1 2 3 5 (.invokevirtual 35) := vm_dD b_Sizes_isAgainAt_0 2 rfl rfl
theorem d_Sizes_isAgainAt_5 : vm_D q_Sizes_isAgainAt.2.1 5 2 7 (.istore 5) := vm_dD b_Sizes_isAgainAt_0 3 rfl rfl
theorem d_Sizes_isAgainAt_7 : vm_D q_Sizes_isAgainAt.2.1 7 2 9 (.iload 4) := vm_dD b_Sizes_isAgainAt_0 4 rfl rfl
theorem d_Sizes_isAgainAt_9 : vm_B q_Sizes_isAgainAt.2.1 9 12 19 (fun o => .ifCond .le o) := ⟨10, vm_db b_Sizes_isAgainAt_0 (i := 5) rfl, rfl, by decide⟩
theorem d_Sizes_isAgainAt_20 : vm_D q_Sizes_isAgainAt.2.1 20 2 22 (.istore 6) := vm_dD b_Sizes_isAgainAt_0 11 rfl rfl
theorem d_Sizes_isAgainAt_22 : vm_D q_Sizes_isAgainAt.2.1 22 1 23 (.aload_n 1) := vm_dD b_Sizes_isAgainAt_0 12 rfl rfl
theorem d_Sizes_isAgainAt_23 : vm_D q_Sizes_isAgainAt.2.1 23 1 24 (.aload_n 0) := vm_dD b_Sizes_isAgainAt_0 13 rfl rfl
theorem d_Sizes_isAgainAt_24 : vm_D q_Sizes_isAgainAt.2.1 24 1 25 (.iload_n 2) := vm_dD b_Sizes_isAgainAt_0 14 rfl rfl
theorem d_Sizes_isAgainAt_25 : vm_D q_Sizes_isAgainAt.2.1 25 3 28 (.invokevirtual 62) := vm_dD b_Sizes_isAgainAt_0 15 rfl rfl
theorem d_Sizes_isAgainAt_28 : vm_D q_Sizes_isAgainAt.2.1 28 2 30 (.iload 6) := vm_dD b_Sizes_isAgainAt_0 16 rfl rfl
theorem d_Sizes_isAgainAt_30 : vm_D q_Sizes_isAgainAt.2.1 30 1 31 (.iadd) := vm_dD b_Sizes_isAgainAt_0 17 rfl rfl
theorem d_Sizes_isAgainAt_31 : vm_D q_Sizes_isAgainAt.2.1 31 1 32 (.iload_n 3) := vm_dD b_Sizes_isAgainAt_0 18 rfl rfl
theorem d_Sizes_isAgainAt_32 : vm_D q_Sizes_isAgainAt.2.1 32 2 34 (.iload 6) := vm_dD b_Sizes_isAgainAt_0 19 rfl rfl
theorem d_Sizes_isAgainAt_34 : vm_D q_Sizes_isAgainAt.2.1 34 1 35 (.iadd) := vm_dD b_Sizes_isAgainAt_0 20 rfl rfl
theorem d_Sizes_isAgainAt_35 : vm_D q_Sizes_isAgainAt.2.1 35 3 38 (.invokevirtual 65) := vm_dD b_Sizes_isAgainAt_0 21 rfl rfl
theorem d_Sizes_isAgainAt_38 : vm_D q_Sizes_isAgainAt.2.1 38 2 40 (.iload 5) := vm_dD b_Sizes_isAgainAt_0 22 rfl rfl
theorem d_Sizes_isAgainAt_40 : vm_B q_Sizes_isAgainAt.2.1 40 43 47 (fun o => .if_icmp .lt o) := ⟨7, vm_db b_Sizes_isAgainAt_0 (i := 23) rfl, rfl, by decide⟩
theorem d_Sizes_isAgainAt_47 : vm_D q_Sizes_isAgainAt.2.1 47 1 48 (.iconst 0) := vm_dD b_Sizes_isAgainAt_0 26 rfl rfl
theorem d_Sizes_isAgainAt_48 : vm_D q_Sizes_isAgainAt.2.1 48 1 49 (.ireturn) := vm_dD b_Sizes_isAgainAt_0 27 rfl rfl
theorem d_Sizes_isAgainAt_43 : vm_D q_Sizes_isAgainAt.2.1 43 1 44 (.iconst 1) := vm_dD b_Sizes_isAgainAt_0 24 rfl rfl
theorem d_Sizes_isAgainAt_44 : ∃ off : Int, decode q_Sizes_isAgainAt.2.1 44 = .ok (.goto off, 3) ∧ ((44 : Nat) : Int) + off = ((48 : Nat) : Int) := ⟨4, vm_db b_Sizes_isAgainAt_0 (i := 25) rfl, by decide⟩
theorem d_Sizes_isAgainAt_19 : vm_D q_Sizes_isAgainAt.2.1 19 1 20 (.iconst 0) := vm_dD b_Sizes_isAgainAt_0 10 rfl rfl
theorem d_Sizes_isAgainAt_12 : vm_D q_Sizes_isAgainAt.2.1 12 2 14 (.iload 5) := vm_dD b_Sizes_isAgainAt_0 6 rfl rfl
theorem d_Sizes_isAgainAt_14 : vm_D q_Sizes_isAgainAt.2.1 14 1 15 (.iconst 1) := vm_dD b_Sizes_isAgainAt_0 7 rfl rfl
theorem d_Sizes_isAgainAt_15 : vm_D q_Sizes_isAgainAt.2.1 15 1 16 (.isub) := vm_dD b_Sizes_isAgainAt_0 8 rfl rfl
theorem d_Sizes_isAgainAt_16 : ∃ off : Int, decode q_Sizes_isAgainAt.2.1 16 = .ok (.goto off, 3) ∧ ((16 : Nat) : Int) + off = ((20 : Nat) : Int) := ⟨4, vm_db b_Sizes_isAgainAt_0 (i := 9) rfl, by decide⟩
def q_Sizes_lays : vm_Y := ("RepeatFree$Sizes", cX7_lays, 12, false, [])
def t_Sizes_lays_0 : List (Nat × Instr × Nat) := [(0, .iload_n 3, 1), (1, .aload_n 1, 1), (2, .getfield 22, 3), (5, .if_icmp .ge 9, 3), (8, .iload_n 3, 1), (9, .bipush 6, 2), (11, .if_icmp .lt 5, 3), (14, .iconst 1, 1), (15, .ireturn, 1), (16, .iload_n 3, 1), (17, .ifCond .ne 7, 3), (20, .aload_n 2, 1), (21, .invokevirtual 28, 3), (24, .aload_n 1, 1), (25, .iload 5, 2), (27, .ifCond .le 7, 3), (30, .iload_n 3, 1), (31, .goto 11, 3), (34, .aload_n 1, 1), (35, .getfield 22, 3), (38, .iconst 1, 1), (39, .isub, 1), (40, .iload_n 3, 1), (41, .isub, 1), (42, .invokevirtual 31, 3), (45, .istore 6, 2), (47, .aload_n 2, 1), (48, .iload 6, 2), (50, .invokevirtual 35, 3), (53, .istore 7, 2), (55, .iload 7, 2), (57, .ifCond .le 45, 3), (60, .aload_n 2, 1), (61, .aload_n 0, 1), (62, .iload 6, 2), (64, .iload 4, 2), (66, .iload 5, 2), (68, .invokevirtual 38, 3), (71, .ifCond .eq 29, 3), (74, .aload_n 0, 1), (75, .aload_n 1, 1), (76, .aload_n 2, 1), (77, .iload_n 3, 1), (78, .iconst 1, 1), (79, .iadd, 1), (80, .iload 4, 2), (82, .iload 5, 2), (84, .iload 7, 2), (86, .imul, 1), (87, .iadd, 1), (88, .iload 5, 2), (90, .invokestatic 42, 3), (93, .ifCond .eq 7, 3), (96, .iconst 1, 1), (97, .goto 4, 3), (100, .iconst 0, 1), (101, .ireturn, 1), (102, .iload 5, 2), (104, .ifCond .le 13, 3), (107, .aload_n 0, 1)]
theorem b_Sizes_lays_0 : (t_Sizes_lays_0.all fun q => decide (decode q_Sizes_lays.2.1 q.1 = .ok (q.2.1, q.2.2))) = true := by decide +kernel
def t_Sizes_lays_1 : List (Nat × Instr × Nat) := [(108, .getfield 46, 3), (111, .iload 4, 2), (113, .isub, 1), (114, .goto 7, 3), (117, .iload 4, 2), (119, .iconst 1, 1), (120, .iadd, 1), (121, .istore 8, 2), (123, .iconst 1, 1), (124, .istore 9, 2), (126, .iload_n 3, 1), (127, .iconst 1, 1), (128, .iadd, 1), (129, .istore 10, 2), (131, .iload 10, 2), (133, .aload_n 1, 1), (134, .getfield 22, 3), (137, .if_icmp .ge 62, 3), (140, .aload_n 1, 1), (141, .iload 5, 2), (143, .ifCond .le 8, 3), (146, .iload 10, 2), (148, .goto 12, 3), (151, .aload_n 1, 1), (152, .getfield 22, 3), (155, .iconst 1, 1), (156, .isub, 1), (157, .iload 10, 2), (159, .isub, 1), (160, .invokevirtual 31, 3), (163, .istore 11, 2), (165, .iload 11, 2), (167, .iload 6, 2), (169, .if_icmp .ne 9, 3), (172, .iinc 9 1, 3), (175, .goto 18, 3), (178, .iload 8, 2), (180, .iconst 1, 1), (181, .aload_n 2, 1), (182, .iload 11, 2), (184, .invokevirtual 35, 3), (187, .invokestatic 49, 3), (190, .isub, 1), (191, .istore 8, 2), (193, .iinc 10 1, 3), (196, .goto (-65), 3), (199, .iload 8, 2), (201, .istore 10, 2), (203, .iload 5, 2), (205, .ifCond .ge 41, 3), (208, .iload 9, 2), (210, .iconst 1, 1), (211, .if_icmp .le 12, 3), (214, .aload_n 0, 1), (215, .iload 4, 2), (217, .invokevirtual 55, 3), (220, .goto 24, 3), (223, .aload_n 1, 1), (224, .aload_n 1, 1), (225, .getfield 22, 3)]
theorem b_Sizes_lays_1 : (t_Sizes_lays_1.all fun q => decide (decode q_Sizes_lays.2.1 q.1 = .ok (q.2.1, q.2.2))) = true := by decide +kernel
def t_Sizes_lays_2 : List (Nat × Instr × Nat) := [(228, .iconst 1, 1), (229, .isub, 1), (230, .iload_n 3, 1), (231, .isub, 1), (232, .invokevirtual 58, 3), (235, .ifCond .eq 7, 3), (238, .iconst 1, 1), (239, .goto 5, 3), (242, .iload 8, 2), (244, .istore 10, 2), (246, .iconst 1, 1), (247, .istore 11, 2), (249, .iload 11, 2), (251, .iload 9, 2), (253, .imul, 1), (254, .iload 8, 2), (256, .if_icmp .gt 50, 3), (259, .iload 11, 2), (261, .iload 10, 2), (263, .if_icmp .gt 43, 3), (266, .aload_n 2, 1), (267, .iload 6, 2), (269, .iload 11, 2), (271, .iload 4, 2), (273, .invokevirtual 18, 3), (276, .aload_n 0, 1), (277, .aload_n 1, 1), (278, .aload_n 2, 1), (279, .iload_n 3, 1), (280, .iconst 1, 1), (281, .iadd, 1), (282, .iload 4, 2), (284, .iload 5, 2), (286, .iload 11, 2), (288, .imul, 1), (289, .iadd, 1), (290, .iload 5, 2), (292, .invokestatic 42, 3), (295, .ifCond .eq 5, 3), (298, .iconst 1, 1), (299, .ireturn, 1), (300, .iinc 11 1, 3), (303, .goto (-54), 3), (306, .aload_n 2, 1), (307, .iload 6, 2), (309, .iconst 0, 1), (310, .iconst (-1), 1), (311, .invokevirtual 18, 3), (314, .iconst 0, 1), (315, .ireturn, 1)]
theorem b_Sizes_lays_2 : (t_Sizes_lays_2.all fun q => decide (decode q_Sizes_lays.2.1 q.1 = .ok (q.2.1, q.2.2))) = true := by decide +kernel
theorem d_Sizes_lays_0 : vm_D q_Sizes_lays.2.1 0 1 1 (.iload_n 3) := vm_dD b_Sizes_lays_0 0 rfl rfl
theorem d_Sizes_lays_1 : vm_D q_Sizes_lays.2.1 1 1 2 (.aload_n 1) := vm_dD b_Sizes_lays_0 1 rfl rfl
theorem d_Sizes_lays_2 : vm_D q_Sizes_lays.2.1 2 3 5 (.getfield 22) := vm_dD b_Sizes_lays_0 2 rfl rfl
theorem d_Sizes_lays_5 : vm_B q_Sizes_lays.2.1 5 8 14 (fun o => .if_icmp .ge o) := ⟨9, vm_db b_Sizes_lays_0 (i := 3) rfl, rfl, by decide⟩
theorem d_Sizes_lays_14 : vm_D q_Sizes_lays.2.1 14 1 15 (.iconst 1) := vm_dD b_Sizes_lays_0 7 rfl rfl
theorem d_Sizes_lays_15 : vm_D q_Sizes_lays.2.1 15 1 16 (.ireturn) := vm_dD b_Sizes_lays_0 8 rfl rfl
theorem d_Sizes_lays_8 : vm_D q_Sizes_lays.2.1 8 1 9 (.iload_n 3) := vm_dD b_Sizes_lays_0 4 rfl rfl
theorem d_Sizes_lays_9 : vm_D q_Sizes_lays.2.1 9 2 11 (.bipush 6) := vm_dD b_Sizes_lays_0 5 rfl rfl
theorem d_Sizes_lays_11 : vm_B q_Sizes_lays.2.1 11 14 16 (fun o => .if_icmp .lt o) := ⟨5, vm_db b_Sizes_lays_0 (i := 6) rfl, rfl, by decide⟩
theorem d_Sizes_lays_16 : vm_D q_Sizes_lays.2.1 16 1 17 (.iload_n 3) := vm_dD b_Sizes_lays_0 9 rfl rfl
theorem d_Sizes_lays_17 : vm_B q_Sizes_lays.2.1 17 20 24 (fun o => .ifCond .ne o) := ⟨7, vm_db b_Sizes_lays_0 (i := 10) rfl, rfl, by decide⟩
theorem d_Sizes_lays_24 : vm_D q_Sizes_lays.2.1 24 1 25 (.aload_n 1) := vm_dD b_Sizes_lays_0 13 rfl rfl
theorem d_Sizes_lays_25 : vm_D q_Sizes_lays.2.1 25 2 27 (.iload 5) := vm_dD b_Sizes_lays_0 14 rfl rfl
theorem d_Sizes_lays_27 : vm_B q_Sizes_lays.2.1 27 30 34 (fun o => .ifCond .le o) := ⟨7, vm_db b_Sizes_lays_0 (i := 15) rfl, rfl, by decide⟩
theorem d_Sizes_lays_42 : vm_D q_Sizes_lays.2.1 42 3 45 (.invokevirtual 31) := vm_dD b_Sizes_lays_0 24 rfl rfl
theorem d_Sizes_lays_45 : vm_D q_Sizes_lays.2.1 45 2 47 (.istore 6) := vm_dD b_Sizes_lays_0 25 rfl rfl
theorem d_Sizes_lays_47 : vm_D q_Sizes_lays.2.1 47 1 48 (.aload_n 2) := vm_dD b_Sizes_lays_0 26 rfl rfl
theorem d_Sizes_lays_48 : vm_D q_Sizes_lays.2.1 48 2 50 (.iload 6) := vm_dD b_Sizes_lays_0 27 rfl rfl
theorem d_Sizes_lays_50 : vm_D q_Sizes_lays.2.1 50 3 53 (.invokevirtual 35) := vm_dD b_Sizes_lays_0 28 rfl rfl
theorem d_Sizes_lays_53 : vm_D q_Sizes_lays.2.1 53 2 55 (.istore 7) := vm_dD b_Sizes_lays_0 29 rfl rfl
theorem d_Sizes_lays_55 : vm_D q_Sizes_lays.2.1 55 2 57 (.iload 7) := vm_dD b_Sizes_lays_0 30 rfl rfl
theorem d_Sizes_lays_57 : vm_B q_Sizes_lays.2.1 57 60 102 (fun o => .ifCond .le o) := ⟨45, vm_db b_Sizes_lays_0 (i := 31) rfl, rfl, by decide⟩
theorem d_Sizes_lays_102 : vm_D q_Sizes_lays.2.1 102 2 104 (.iload 5) := vm_dD b_Sizes_lays_0 57 rfl rfl
theorem d_Sizes_lays_104 : vm_B q_Sizes_lays.2.1 104 107 117 (fun o => .ifCond .le o) := ⟨13, vm_db b_Sizes_lays_0 (i := 58) rfl, rfl, by decide⟩
theorem d_Sizes_lays_121 : vm_D q_Sizes_lays.2.1 121 2 123 (.istore 8) := vm_dD b_Sizes_lays_1 7 rfl rfl
theorem d_Sizes_lays_123 : vm_D q_Sizes_lays.2.1 123 1 124 (.iconst 1) := vm_dD b_Sizes_lays_1 8 rfl rfl
theorem d_Sizes_lays_124 : vm_D q_Sizes_lays.2.1 124 2 126 (.istore 9) := vm_dD b_Sizes_lays_1 9 rfl rfl
theorem d_Sizes_lays_126 : vm_D q_Sizes_lays.2.1 126 1 127 (.iload_n 3) := vm_dD b_Sizes_lays_1 10 rfl rfl
theorem d_Sizes_lays_127 : vm_D q_Sizes_lays.2.1 127 1 128 (.iconst 1) := vm_dD b_Sizes_lays_1 11 rfl rfl
theorem d_Sizes_lays_128 : vm_D q_Sizes_lays.2.1 128 1 129 (.iadd) := vm_dD b_Sizes_lays_1 12 rfl rfl
theorem d_Sizes_lays_129 : vm_D q_Sizes_lays.2.1 129 2 131 (.istore 10) := vm_dD b_Sizes_lays_1 13 rfl rfl
theorem d_Sizes_lays_131 : vm_D q_Sizes_lays.2.1 131 2 133 (.iload 10) := vm_dD b_Sizes_lays_1 14 rfl rfl
theorem d_Sizes_lays_133 : vm_D q_Sizes_lays.2.1 133 1 134 (.aload_n 1) := vm_dD b_Sizes_lays_1 15 rfl rfl
theorem d_Sizes_lays_134 : vm_D q_Sizes_lays.2.1 134 3 137 (.getfield 22) := vm_dD b_Sizes_lays_1 16 rfl rfl
theorem d_Sizes_lays_137 : vm_B q_Sizes_lays.2.1 137 140 199 (fun o => .if_icmp .ge o) := ⟨62, vm_db b_Sizes_lays_1 (i := 17) rfl, rfl, by decide⟩
theorem d_Sizes_lays_140 : vm_D q_Sizes_lays.2.1 140 1 141 (.aload_n 1) := vm_dD b_Sizes_lays_1 18 rfl rfl
theorem d_Sizes_lays_141 : vm_D q_Sizes_lays.2.1 141 2 143 (.iload 5) := vm_dD b_Sizes_lays_1 19 rfl rfl
theorem d_Sizes_lays_143 : vm_B q_Sizes_lays.2.1 143 146 151 (fun o => .ifCond .le o) := ⟨8, vm_db b_Sizes_lays_1 (i := 20) rfl, rfl, by decide⟩
theorem d_Sizes_lays_160 : vm_D q_Sizes_lays.2.1 160 3 163 (.invokevirtual 31) := vm_dD b_Sizes_lays_1 29 rfl rfl
theorem d_Sizes_lays_163 : vm_D q_Sizes_lays.2.1 163 2 165 (.istore 11) := vm_dD b_Sizes_lays_1 30 rfl rfl
theorem d_Sizes_lays_165 : vm_D q_Sizes_lays.2.1 165 2 167 (.iload 11) := vm_dD b_Sizes_lays_1 31 rfl rfl
theorem d_Sizes_lays_167 : vm_D q_Sizes_lays.2.1 167 2 169 (.iload 6) := vm_dD b_Sizes_lays_1 32 rfl rfl
theorem d_Sizes_lays_169 : vm_B q_Sizes_lays.2.1 169 172 178 (fun o => .if_icmp .ne o) := ⟨9, vm_db b_Sizes_lays_1 (i := 33) rfl, rfl, by decide⟩
theorem d_Sizes_lays_193 : vm_D q_Sizes_lays.2.1 193 3 196 (.iinc 10 1) := vm_dD b_Sizes_lays_1 44 rfl rfl
theorem d_Sizes_lays_196 : ∃ off : Int, decode q_Sizes_lays.2.1 196 = .ok (.goto off, 3) ∧ ((196 : Nat) : Int) + off = ((131 : Nat) : Int) := ⟨-65, vm_db b_Sizes_lays_1 (i := 45) rfl, by decide⟩
theorem d_Sizes_lays_178 : vm_D q_Sizes_lays.2.1 178 2 180 (.iload 8) := vm_dD b_Sizes_lays_1 36 rfl rfl
theorem d_Sizes_lays_180 : vm_D q_Sizes_lays.2.1 180 1 181 (.iconst 1) := vm_dD b_Sizes_lays_1 37 rfl rfl
theorem d_Sizes_lays_181 : vm_D q_Sizes_lays.2.1 181 1 182 (.aload_n 2) := vm_dD b_Sizes_lays_1 38 rfl rfl
theorem d_Sizes_lays_182 : vm_D q_Sizes_lays.2.1 182 2 184 (.iload 11) := vm_dD b_Sizes_lays_1 39 rfl rfl
theorem d_Sizes_lays_184 : vm_D q_Sizes_lays.2.1 184 3 187 (.invokevirtual 35) := vm_dD b_Sizes_lays_1 40 rfl rfl
theorem d_Sizes_lays_187 : vm_D q_Sizes_lays.2.1 187 3 190 (.invokestatic 49) := vm_dD b_Sizes_lays_1 41 rfl rfl
theorem d_Sizes_lays_190 : vm_D q_Sizes_lays.2.1 190 1 191 (.isub) := vm_dD b_Sizes_lays_1 42 rfl rfl
theorem d_Sizes_lays_191 : vm_D q_Sizes_lays.2.1 191 2 193 (.istore 8) := vm_dD b_Sizes_lays_1 43 rfl rfl
theorem d_Sizes_lays_172 : vm_D q_Sizes_lays.2.1 172 3 175 (.iinc 9 1) := vm_dD b_Sizes_lays_1 34 rfl rfl
theorem d_Sizes_lays_175 : ∃ off : Int, decode q_Sizes_lays.2.1 175 = .ok (.goto off, 3) ∧ ((175 : Nat) : Int) + off = ((193 : Nat) : Int) := ⟨18, vm_db b_Sizes_lays_1 (i := 35) rfl, by decide⟩
theorem d_Sizes_lays_151 : vm_D q_Sizes_lays.2.1 151 1 152 (.aload_n 1) := vm_dD b_Sizes_lays_1 23 rfl rfl
theorem d_Sizes_lays_152 : vm_D q_Sizes_lays.2.1 152 3 155 (.getfield 22) := vm_dD b_Sizes_lays_1 24 rfl rfl
theorem d_Sizes_lays_155 : vm_D q_Sizes_lays.2.1 155 1 156 (.iconst 1) := vm_dD b_Sizes_lays_1 25 rfl rfl
theorem d_Sizes_lays_156 : vm_D q_Sizes_lays.2.1 156 1 157 (.isub) := vm_dD b_Sizes_lays_1 26 rfl rfl
theorem d_Sizes_lays_157 : vm_D q_Sizes_lays.2.1 157 2 159 (.iload 10) := vm_dD b_Sizes_lays_1 27 rfl rfl
theorem d_Sizes_lays_159 : vm_D q_Sizes_lays.2.1 159 1 160 (.isub) := vm_dD b_Sizes_lays_1 28 rfl rfl
theorem d_Sizes_lays_146 : vm_D q_Sizes_lays.2.1 146 2 148 (.iload 10) := vm_dD b_Sizes_lays_1 21 rfl rfl
theorem d_Sizes_lays_148 : ∃ off : Int, decode q_Sizes_lays.2.1 148 = .ok (.goto off, 3) ∧ ((148 : Nat) : Int) + off = ((160 : Nat) : Int) := ⟨12, vm_db b_Sizes_lays_1 (i := 22) rfl, by decide⟩
theorem d_Sizes_lays_199 : vm_D q_Sizes_lays.2.1 199 2 201 (.iload 8) := vm_dD b_Sizes_lays_1 46 rfl rfl
theorem d_Sizes_lays_201 : vm_D q_Sizes_lays.2.1 201 2 203 (.istore 10) := vm_dD b_Sizes_lays_1 47 rfl rfl
theorem d_Sizes_lays_203 : vm_D q_Sizes_lays.2.1 203 2 205 (.iload 5) := vm_dD b_Sizes_lays_1 48 rfl rfl
theorem d_Sizes_lays_205 : vm_B q_Sizes_lays.2.1 205 208 246 (fun o => .ifCond .ge o) := ⟨41, vm_db b_Sizes_lays_1 (i := 49) rfl, rfl, by decide⟩
theorem d_Sizes_lays_246 : vm_D q_Sizes_lays.2.1 246 1 247 (.iconst 1) := vm_dD b_Sizes_lays_2 10 rfl rfl
theorem d_Sizes_lays_247 : vm_D q_Sizes_lays.2.1 247 2 249 (.istore 11) := vm_dD b_Sizes_lays_2 11 rfl rfl
theorem d_Sizes_lays_249 : vm_D q_Sizes_lays.2.1 249 2 251 (.iload 11) := vm_dD b_Sizes_lays_2 12 rfl rfl
theorem d_Sizes_lays_251 : vm_D q_Sizes_lays.2.1 251 2 253 (.iload 9) := vm_dD b_Sizes_lays_2 13 rfl rfl
theorem d_Sizes_lays_253 : vm_D q_Sizes_lays.2.1 253 1 254 (.imul) := vm_dD b_Sizes_lays_2 14 rfl rfl
theorem d_Sizes_lays_254 : vm_D q_Sizes_lays.2.1 254 2 256 (.iload 8) := vm_dD b_Sizes_lays_2 15 rfl rfl
theorem d_Sizes_lays_256 : vm_B q_Sizes_lays.2.1 256 259 306 (fun o => .if_icmp .gt o) := ⟨50, vm_db b_Sizes_lays_2 (i := 16) rfl, rfl, by decide⟩
theorem d_Sizes_lays_259 : vm_D q_Sizes_lays.2.1 259 2 261 (.iload 11) := vm_dD b_Sizes_lays_2 17 rfl rfl
theorem d_Sizes_lays_261 : vm_D q_Sizes_lays.2.1 261 2 263 (.iload 10) := vm_dD b_Sizes_lays_2 18 rfl rfl
theorem d_Sizes_lays_263 : vm_B q_Sizes_lays.2.1 263 266 306 (fun o => .if_icmp .gt o) := ⟨43, vm_db b_Sizes_lays_2 (i := 19) rfl, rfl, by decide⟩
theorem d_Sizes_lays_266 : vm_D q_Sizes_lays.2.1 266 1 267 (.aload_n 2) := vm_dD b_Sizes_lays_2 20 rfl rfl
theorem d_Sizes_lays_267 : vm_D q_Sizes_lays.2.1 267 2 269 (.iload 6) := vm_dD b_Sizes_lays_2 21 rfl rfl
theorem d_Sizes_lays_269 : vm_D q_Sizes_lays.2.1 269 2 271 (.iload 11) := vm_dD b_Sizes_lays_2 22 rfl rfl
theorem d_Sizes_lays_271 : vm_D q_Sizes_lays.2.1 271 2 273 (.iload 4) := vm_dD b_Sizes_lays_2 23 rfl rfl
theorem d_Sizes_lays_273 : vm_D q_Sizes_lays.2.1 273 3 276 (.invokevirtual 18) := vm_dD b_Sizes_lays_2 24 rfl rfl
theorem d_Sizes_lays_276 : vm_D q_Sizes_lays.2.1 276 1 277 (.aload_n 0) := vm_dD b_Sizes_lays_2 25 rfl rfl
theorem d_Sizes_lays_277 : vm_D q_Sizes_lays.2.1 277 1 278 (.aload_n 1) := vm_dD b_Sizes_lays_2 26 rfl rfl
theorem d_Sizes_lays_278 : vm_D q_Sizes_lays.2.1 278 1 279 (.aload_n 2) := vm_dD b_Sizes_lays_2 27 rfl rfl
theorem d_Sizes_lays_279 : vm_D q_Sizes_lays.2.1 279 1 280 (.iload_n 3) := vm_dD b_Sizes_lays_2 28 rfl rfl
theorem d_Sizes_lays_280 : vm_D q_Sizes_lays.2.1 280 1 281 (.iconst 1) := vm_dD b_Sizes_lays_2 29 rfl rfl
theorem d_Sizes_lays_281 : vm_D q_Sizes_lays.2.1 281 1 282 (.iadd) := vm_dD b_Sizes_lays_2 30 rfl rfl
theorem d_Sizes_lays_282 : vm_D q_Sizes_lays.2.1 282 2 284 (.iload 4) := vm_dD b_Sizes_lays_2 31 rfl rfl
theorem d_Sizes_lays_284 : vm_D q_Sizes_lays.2.1 284 2 286 (.iload 5) := vm_dD b_Sizes_lays_2 32 rfl rfl
theorem d_Sizes_lays_286 : vm_D q_Sizes_lays.2.1 286 2 288 (.iload 11) := vm_dD b_Sizes_lays_2 33 rfl rfl
theorem d_Sizes_lays_288 : vm_D q_Sizes_lays.2.1 288 1 289 (.imul) := vm_dD b_Sizes_lays_2 34 rfl rfl
theorem d_Sizes_lays_289 : vm_D q_Sizes_lays.2.1 289 1 290 (.iadd) := vm_dD b_Sizes_lays_2 35 rfl rfl
theorem d_Sizes_lays_290 : vm_D q_Sizes_lays.2.1 290 2 292 (.iload 5) := vm_dD b_Sizes_lays_2 36 rfl rfl
theorem d_Sizes_lays_292 : vm_D q_Sizes_lays.2.1 292 3 295 (.invokestatic 42) := vm_dD b_Sizes_lays_2 37 rfl rfl
theorem d_Sizes_lays_295 : vm_B q_Sizes_lays.2.1 295 298 300 (fun o => .ifCond .eq o) := ⟨5, vm_db b_Sizes_lays_2 (i := 38) rfl, rfl, by decide⟩
theorem d_Sizes_lays_300 : vm_D q_Sizes_lays.2.1 300 3 303 (.iinc 11 1) := vm_dD b_Sizes_lays_2 41 rfl rfl
theorem d_Sizes_lays_303 : ∃ off : Int, decode q_Sizes_lays.2.1 303 = .ok (.goto off, 3) ∧ ((303 : Nat) : Int) + off = ((249 : Nat) : Int) := ⟨-54, vm_db b_Sizes_lays_2 (i := 42) rfl, by decide⟩
theorem d_Sizes_lays_298 : vm_D q_Sizes_lays.2.1 298 1 299 (.iconst 1) := vm_dD b_Sizes_lays_2 39 rfl rfl
theorem d_Sizes_lays_299 : vm_D q_Sizes_lays.2.1 299 1 300 (.ireturn) := vm_dD b_Sizes_lays_2 40 rfl rfl
theorem d_Sizes_lays_306 : vm_D q_Sizes_lays.2.1 306 1 307 (.aload_n 2) := vm_dD b_Sizes_lays_2 43 rfl rfl
theorem d_Sizes_lays_307 : vm_D q_Sizes_lays.2.1 307 2 309 (.iload 6) := vm_dD b_Sizes_lays_2 44 rfl rfl
theorem d_Sizes_lays_309 : vm_D q_Sizes_lays.2.1 309 1 310 (.iconst 0) := vm_dD b_Sizes_lays_2 45 rfl rfl
theorem d_Sizes_lays_310 : vm_D q_Sizes_lays.2.1 310 1 311 (.iconst (-1)) := vm_dD b_Sizes_lays_2 46 rfl rfl
theorem d_Sizes_lays_311 : vm_D q_Sizes_lays.2.1 311 3 314 (.invokevirtual 18) := vm_dD b_Sizes_lays_2 47 rfl rfl
theorem d_Sizes_lays_314 : vm_D q_Sizes_lays.2.1 314 1 315 (.iconst 0) := vm_dD b_Sizes_lays_2 48 rfl rfl
theorem d_Sizes_lays_315 : vm_D q_Sizes_lays.2.1 315 1 316 (.ireturn) := vm_dD b_Sizes_lays_2 49 rfl rfl
theorem d_Sizes_lays_208 : vm_D q_Sizes_lays.2.1 208 2 210 (.iload 9) := vm_dD b_Sizes_lays_1 50 rfl rfl
theorem d_Sizes_lays_210 : vm_D q_Sizes_lays.2.1 210 1 211 (.iconst 1) := vm_dD b_Sizes_lays_1 51 rfl rfl
theorem d_Sizes_lays_211 : vm_B q_Sizes_lays.2.1 211 214 223 (fun o => .if_icmp .le o) := ⟨12, vm_db b_Sizes_lays_1 (i := 52) rfl, rfl, by decide⟩
theorem d_Sizes_lays_244 : vm_D q_Sizes_lays.2.1 244 2 246 (.istore 10) := vm_dD b_Sizes_lays_2 9 rfl rfl
theorem d_Sizes_lays_223 : vm_D q_Sizes_lays.2.1 223 1 224 (.aload_n 1) := vm_dD b_Sizes_lays_1 57 rfl rfl
theorem d_Sizes_lays_224 : vm_D q_Sizes_lays.2.1 224 1 225 (.aload_n 1) := vm_dD b_Sizes_lays_1 58 rfl rfl
theorem d_Sizes_lays_225 : vm_D q_Sizes_lays.2.1 225 3 228 (.getfield 22) := vm_dD b_Sizes_lays_1 59 rfl rfl
theorem d_Sizes_lays_228 : vm_D q_Sizes_lays.2.1 228 1 229 (.iconst 1) := vm_dD b_Sizes_lays_2 0 rfl rfl
theorem d_Sizes_lays_229 : vm_D q_Sizes_lays.2.1 229 1 230 (.isub) := vm_dD b_Sizes_lays_2 1 rfl rfl
theorem d_Sizes_lays_230 : vm_D q_Sizes_lays.2.1 230 1 231 (.iload_n 3) := vm_dD b_Sizes_lays_2 2 rfl rfl
theorem d_Sizes_lays_231 : vm_D q_Sizes_lays.2.1 231 1 232 (.isub) := vm_dD b_Sizes_lays_2 3 rfl rfl
theorem d_Sizes_lays_232 : vm_D q_Sizes_lays.2.1 232 3 235 (.invokevirtual 58) := vm_dD b_Sizes_lays_2 4 rfl rfl
theorem d_Sizes_lays_235 : vm_B q_Sizes_lays.2.1 235 238 242 (fun o => .ifCond .eq o) := ⟨7, vm_db b_Sizes_lays_2 (i := 5) rfl, rfl, by decide⟩
theorem d_Sizes_lays_242 : vm_D q_Sizes_lays.2.1 242 2 244 (.iload 8) := vm_dD b_Sizes_lays_2 8 rfl rfl
theorem d_Sizes_lays_238 : vm_D q_Sizes_lays.2.1 238 1 239 (.iconst 1) := vm_dD b_Sizes_lays_2 6 rfl rfl
theorem d_Sizes_lays_239 : ∃ off : Int, decode q_Sizes_lays.2.1 239 = .ok (.goto off, 3) ∧ ((239 : Nat) : Int) + off = ((244 : Nat) : Int) := ⟨5, vm_db b_Sizes_lays_2 (i := 7) rfl, by decide⟩
theorem d_Sizes_lays_214 : vm_D q_Sizes_lays.2.1 214 1 215 (.aload_n 0) := vm_dD b_Sizes_lays_1 53 rfl rfl
theorem d_Sizes_lays_215 : vm_D q_Sizes_lays.2.1 215 2 217 (.iload 4) := vm_dD b_Sizes_lays_1 54 rfl rfl
theorem d_Sizes_lays_217 : vm_D q_Sizes_lays.2.1 217 3 220 (.invokevirtual 55) := vm_dD b_Sizes_lays_1 55 rfl rfl
theorem d_Sizes_lays_220 : ∃ off : Int, decode q_Sizes_lays.2.1 220 = .ok (.goto off, 3) ∧ ((220 : Nat) : Int) + off = ((244 : Nat) : Int) := ⟨24, vm_db b_Sizes_lays_1 (i := 56) rfl, by decide⟩
theorem d_Sizes_lays_117 : vm_D q_Sizes_lays.2.1 117 2 119 (.iload 4) := vm_dD b_Sizes_lays_1 4 rfl rfl
theorem d_Sizes_lays_119 : vm_D q_Sizes_lays.2.1 119 1 120 (.iconst 1) := vm_dD b_Sizes_lays_1 5 rfl rfl
theorem d_Sizes_lays_120 : vm_D q_Sizes_lays.2.1 120 1 121 (.iadd) := vm_dD b_Sizes_lays_1 6 rfl rfl
theorem d_Sizes_lays_107 : vm_D q_Sizes_lays.2.1 107 1 108 (.aload_n 0) := vm_dD b_Sizes_lays_0 59 rfl rfl
theorem d_Sizes_lays_108 : vm_D q_Sizes_lays.2.1 108 3 111 (.getfield 46) := vm_dD b_Sizes_lays_1 0 rfl rfl
theorem d_Sizes_lays_111 : vm_D q_Sizes_lays.2.1 111 2 113 (.iload 4) := vm_dD b_Sizes_lays_1 1 rfl rfl
theorem d_Sizes_lays_113 : vm_D q_Sizes_lays.2.1 113 1 114 (.isub) := vm_dD b_Sizes_lays_1 2 rfl rfl
theorem d_Sizes_lays_114 : ∃ off : Int, decode q_Sizes_lays.2.1 114 = .ok (.goto off, 3) ∧ ((114 : Nat) : Int) + off = ((121 : Nat) : Int) := ⟨7, vm_db b_Sizes_lays_1 (i := 3) rfl, by decide⟩
theorem d_Sizes_lays_60 : vm_D q_Sizes_lays.2.1 60 1 61 (.aload_n 2) := vm_dD b_Sizes_lays_0 32 rfl rfl
theorem d_Sizes_lays_61 : vm_D q_Sizes_lays.2.1 61 1 62 (.aload_n 0) := vm_dD b_Sizes_lays_0 33 rfl rfl
theorem d_Sizes_lays_62 : vm_D q_Sizes_lays.2.1 62 2 64 (.iload 6) := vm_dD b_Sizes_lays_0 34 rfl rfl
theorem d_Sizes_lays_64 : vm_D q_Sizes_lays.2.1 64 2 66 (.iload 4) := vm_dD b_Sizes_lays_0 35 rfl rfl
theorem d_Sizes_lays_66 : vm_D q_Sizes_lays.2.1 66 2 68 (.iload 5) := vm_dD b_Sizes_lays_0 36 rfl rfl
theorem d_Sizes_lays_68 : vm_D q_Sizes_lays.2.1 68 3 71 (.invokevirtual 38) := vm_dD b_Sizes_lays_0 37 rfl rfl
theorem d_Sizes_lays_71 : vm_B q_Sizes_lays.2.1 71 74 100 (fun o => .ifCond .eq o) := ⟨29, vm_db b_Sizes_lays_0 (i := 38) rfl, rfl, by decide⟩
theorem d_Sizes_lays_100 : vm_D q_Sizes_lays.2.1 100 1 101 (.iconst 0) := vm_dD b_Sizes_lays_0 55 rfl rfl
theorem d_Sizes_lays_101 : vm_D q_Sizes_lays.2.1 101 1 102 (.ireturn) := vm_dD b_Sizes_lays_0 56 rfl rfl
theorem d_Sizes_lays_74 : vm_D q_Sizes_lays.2.1 74 1 75 (.aload_n 0) := vm_dD b_Sizes_lays_0 39 rfl rfl
theorem d_Sizes_lays_75 : vm_D q_Sizes_lays.2.1 75 1 76 (.aload_n 1) := vm_dD b_Sizes_lays_0 40 rfl rfl
theorem d_Sizes_lays_76 : vm_D q_Sizes_lays.2.1 76 1 77 (.aload_n 2) := vm_dD b_Sizes_lays_0 41 rfl rfl
theorem d_Sizes_lays_77 : vm_D q_Sizes_lays.2.1 77 1 78 (.iload_n 3) := vm_dD b_Sizes_lays_0 42 rfl rfl
theorem d_Sizes_lays_78 : vm_D q_Sizes_lays.2.1 78 1 79 (.iconst 1) := vm_dD b_Sizes_lays_0 43 rfl rfl
theorem d_Sizes_lays_79 : vm_D q_Sizes_lays.2.1 79 1 80 (.iadd) := vm_dD b_Sizes_lays_0 44 rfl rfl
theorem d_Sizes_lays_80 : vm_D q_Sizes_lays.2.1 80 2 82 (.iload 4) := vm_dD b_Sizes_lays_0 45 rfl rfl
theorem d_Sizes_lays_82 : vm_D q_Sizes_lays.2.1 82 2 84 (.iload 5) := vm_dD b_Sizes_lays_0 46 rfl rfl
theorem d_Sizes_lays_84 : vm_D q_Sizes_lays.2.1 84 2 86 (.iload 7) := vm_dD b_Sizes_lays_0 47 rfl rfl
theorem d_Sizes_lays_86 : vm_D q_Sizes_lays.2.1 86 1 87 (.imul) := vm_dD b_Sizes_lays_0 48 rfl rfl
theorem d_Sizes_lays_87 : vm_D q_Sizes_lays.2.1 87 1 88 (.iadd) := vm_dD b_Sizes_lays_0 49 rfl rfl
theorem d_Sizes_lays_88 : vm_D q_Sizes_lays.2.1 88 2 90 (.iload 5) := vm_dD b_Sizes_lays_0 50 rfl rfl
theorem d_Sizes_lays_90 : vm_D q_Sizes_lays.2.1 90 3 93 (.invokestatic 42) := vm_dD b_Sizes_lays_0 51 rfl rfl
theorem d_Sizes_lays_93 : vm_B q_Sizes_lays.2.1 93 96 100 (fun o => .ifCond .eq o) := ⟨7, vm_db b_Sizes_lays_0 (i := 52) rfl, rfl, by decide⟩
theorem d_Sizes_lays_96 : vm_D q_Sizes_lays.2.1 96 1 97 (.iconst 1) := vm_dD b_Sizes_lays_0 53 rfl rfl
theorem d_Sizes_lays_97 : ∃ off : Int, decode q_Sizes_lays.2.1 97 = .ok (.goto off, 3) ∧ ((97 : Nat) : Int) + off = ((101 : Nat) : Int) := ⟨4, vm_db b_Sizes_lays_0 (i := 54) rfl, by decide⟩
theorem d_Sizes_lays_34 : vm_D q_Sizes_lays.2.1 34 1 35 (.aload_n 1) := vm_dD b_Sizes_lays_0 18 rfl rfl
theorem d_Sizes_lays_35 : vm_D q_Sizes_lays.2.1 35 3 38 (.getfield 22) := vm_dD b_Sizes_lays_0 19 rfl rfl
theorem d_Sizes_lays_38 : vm_D q_Sizes_lays.2.1 38 1 39 (.iconst 1) := vm_dD b_Sizes_lays_0 20 rfl rfl
theorem d_Sizes_lays_39 : vm_D q_Sizes_lays.2.1 39 1 40 (.isub) := vm_dD b_Sizes_lays_0 21 rfl rfl
theorem d_Sizes_lays_40 : vm_D q_Sizes_lays.2.1 40 1 41 (.iload_n 3) := vm_dD b_Sizes_lays_0 22 rfl rfl
theorem d_Sizes_lays_41 : vm_D q_Sizes_lays.2.1 41 1 42 (.isub) := vm_dD b_Sizes_lays_0 23 rfl rfl
theorem d_Sizes_lays_30 : vm_D q_Sizes_lays.2.1 30 1 31 (.iload_n 3) := vm_dD b_Sizes_lays_0 16 rfl rfl
theorem d_Sizes_lays_31 : ∃ off : Int, decode q_Sizes_lays.2.1 31 = .ok (.goto off, 3) ∧ ((31 : Nat) : Int) + off = ((42 : Nat) : Int) := ⟨11, vm_db b_Sizes_lays_0 (i := 17) rfl, by decide⟩
theorem d_Sizes_lays_20 : vm_D q_Sizes_lays.2.1 20 1 21 (.aload_n 2) := vm_dD b_Sizes_lays_0 11 rfl rfl
theorem d_Sizes_lays_21 : vm_D q_Sizes_lays.2.1 21 3 24 (.invokevirtual 28) := vm_dD b_Sizes_lays_0 12 rfl rfl
def q_Told_isBeyond : vm_Y := ("RepeatFree$Told", cX9_isBeyond, 4, false, [])
def t_Told_isBeyond_0 : List (Nat × Instr × Nat) := [(0, .iload_n 1, 1), (1, .aload_n 0, 1), (2, .getfield 33, 3), (5, .imul, 1), (6, .aload_n 0, 1), (7, .getfield 30, 3), (10, .iload_n 2, 1), (11, .imul, 1), (12, .isub, 1), (13, .istore_n 3, 1), (14, .aload_n 0, 1), (15, .getfield 27, 3), (18, .iconst 1, 1), (19, .if_icmp .ne 7, 3), (22, .iload_n 3, 1), (23, .ifCond .ge 15, 3), (26, .aload_n 0, 1), (27, .getfield 27, 3), (30, .iconst 2, 1), (31, .if_icmp .ne 11, 3), (34, .iload_n 3, 1), (35, .ifCond .le 7, 3), (38, .iconst 1, 1), (39, .goto 4, 3), (42, .iconst 0, 1), (43, .ireturn, 1)]
theorem b_Told_isBeyond_0 : (t_Told_isBeyond_0.all fun q => decide (decode q_Told_isBeyond.2.1 q.1 = .ok (q.2.1, q.2.2))) = true := by decide +kernel
theorem d_Told_isBeyond_0 : vm_D q_Told_isBeyond.2.1 0 1 1 (.iload_n 1) := vm_dD b_Told_isBeyond_0 0 rfl rfl
theorem d_Told_isBeyond_1 : vm_D q_Told_isBeyond.2.1 1 1 2 (.aload_n 0) := vm_dD b_Told_isBeyond_0 1 rfl rfl
theorem d_Told_isBeyond_2 : vm_D q_Told_isBeyond.2.1 2 3 5 (.getfield 33) := vm_dD b_Told_isBeyond_0 2 rfl rfl
theorem d_Told_isBeyond_5 : vm_D q_Told_isBeyond.2.1 5 1 6 (.imul) := vm_dD b_Told_isBeyond_0 3 rfl rfl
theorem d_Told_isBeyond_6 : vm_D q_Told_isBeyond.2.1 6 1 7 (.aload_n 0) := vm_dD b_Told_isBeyond_0 4 rfl rfl
theorem d_Told_isBeyond_7 : vm_D q_Told_isBeyond.2.1 7 3 10 (.getfield 30) := vm_dD b_Told_isBeyond_0 5 rfl rfl
theorem d_Told_isBeyond_10 : vm_D q_Told_isBeyond.2.1 10 1 11 (.iload_n 2) := vm_dD b_Told_isBeyond_0 6 rfl rfl
theorem d_Told_isBeyond_11 : vm_D q_Told_isBeyond.2.1 11 1 12 (.imul) := vm_dD b_Told_isBeyond_0 7 rfl rfl
theorem d_Told_isBeyond_12 : vm_D q_Told_isBeyond.2.1 12 1 13 (.isub) := vm_dD b_Told_isBeyond_0 8 rfl rfl
theorem d_Told_isBeyond_13 : vm_D q_Told_isBeyond.2.1 13 1 14 (.istore_n 3) := vm_dD b_Told_isBeyond_0 9 rfl rfl
theorem d_Told_isBeyond_14 : vm_D q_Told_isBeyond.2.1 14 1 15 (.aload_n 0) := vm_dD b_Told_isBeyond_0 10 rfl rfl
theorem d_Told_isBeyond_15 : vm_D q_Told_isBeyond.2.1 15 3 18 (.getfield 27) := vm_dD b_Told_isBeyond_0 11 rfl rfl
theorem d_Told_isBeyond_18 : vm_D q_Told_isBeyond.2.1 18 1 19 (.iconst 1) := vm_dD b_Told_isBeyond_0 12 rfl rfl
theorem d_Told_isBeyond_19 : vm_B q_Told_isBeyond.2.1 19 22 26 (fun o => .if_icmp .ne o) := ⟨7, vm_db b_Told_isBeyond_0 (i := 13) rfl, rfl, by decide⟩
theorem d_Told_isBeyond_38 : vm_D q_Told_isBeyond.2.1 38 1 39 (.iconst 1) := vm_dD b_Told_isBeyond_0 22 rfl rfl
theorem d_Told_isBeyond_39 : ∃ off : Int, decode q_Told_isBeyond.2.1 39 = .ok (.goto off, 3) ∧ ((39 : Nat) : Int) + off = ((43 : Nat) : Int) := ⟨4, vm_db b_Told_isBeyond_0 (i := 23) rfl, by decide⟩
theorem d_Told_isBeyond_43 : vm_D q_Told_isBeyond.2.1 43 1 44 (.ireturn) := vm_dD b_Told_isBeyond_0 25 rfl rfl
theorem d_Told_isBeyond_26 : vm_D q_Told_isBeyond.2.1 26 1 27 (.aload_n 0) := vm_dD b_Told_isBeyond_0 16 rfl rfl
theorem d_Told_isBeyond_27 : vm_D q_Told_isBeyond.2.1 27 3 30 (.getfield 27) := vm_dD b_Told_isBeyond_0 17 rfl rfl
theorem d_Told_isBeyond_30 : vm_D q_Told_isBeyond.2.1 30 1 31 (.iconst 2) := vm_dD b_Told_isBeyond_0 18 rfl rfl
theorem d_Told_isBeyond_31 : vm_B q_Told_isBeyond.2.1 31 34 42 (fun o => .if_icmp .ne o) := ⟨11, vm_db b_Told_isBeyond_0 (i := 19) rfl, rfl, by decide⟩
theorem d_Told_isBeyond_42 : vm_D q_Told_isBeyond.2.1 42 1 43 (.iconst 0) := vm_dD b_Told_isBeyond_0 24 rfl rfl
theorem d_Told_isBeyond_34 : vm_D q_Told_isBeyond.2.1 34 1 35 (.iload_n 3) := vm_dD b_Told_isBeyond_0 20 rfl rfl
theorem d_Told_isBeyond_35 : vm_B q_Told_isBeyond.2.1 35 38 42 (fun o => .ifCond .le o) := ⟨7, vm_db b_Told_isBeyond_0 (i := 21) rfl, rfl, by decide⟩
theorem d_Told_isBeyond_22 : vm_D q_Told_isBeyond.2.1 22 1 23 (.iload_n 3) := vm_dD b_Told_isBeyond_0 14 rfl rfl
theorem d_Told_isBeyond_23 : vm_B q_Told_isBeyond.2.1 23 26 38 (fun o => .ifCond .ge o) := ⟨15, vm_db b_Told_isBeyond_0 (i := 15) rfl, rfl, by decide⟩
def q_Line_isBadAt : vm_Y := ("RepeatFree$Line", cX1_isBadAt, 6, false, [])
def t_Line_isBadAt_0 : List (Nat × Instr × Nat) := [(0, .aload_n 1, 1), (1, .iconst 1, 1), (2, .iconst 1, 1), (3, .invokevirtual 60, 3), (6, .ifCond .eq 5, 3), (9, .iconst 1, 1), (10, .ireturn, 1), (11, .iload_n 2, 1), (12, .ifCond .lt 9, 3), (15, .iload_n 2, 1), (16, .bipush 64, 2), (18, .if_icmp .lt 5, 3), (21, .iconst 0, 1), (22, .ireturn, 1), (23, .aload_n 0, 1), (24, .getfield 17, 3), (27, .iload_n 2, 1), (28, .aaload, 1), (29, .astore_n 3, 1), (30, .iconst 1, 1), (31, .istore 4, 2), (33, .iload 4, 2), (35, .iload_n 2, 1), (36, .if_icmp .gt 38, 3), (39, .aload_n 3, 1), (40, .iload_n 2, 1), (41, .iload 4, 2), (43, .isub, 1), (44, .iaload, 1), (45, .istore 5, 2), (47, .iload 5, 2), (49, .ifCond .le 19, 3), (52, .aload_n 1, 1), (53, .iload 5, 2), (55, .iload 4, 2), (57, .iadd, 1), (58, .iload 4, 2), (60, .invokevirtual 60, 3), (63, .ifCond .eq 5, 3), (66, .iconst 1, 1), (67, .ireturn, 1), (68, .iinc 4 1, 3), (71, .goto (-38), 3), (74, .iconst 0, 1), (75, .istore 4, 2), (77, .iload 4, 2), (79, .aload_n 1, 1), (80, .getfield 66, 3), (83, .if_icmp .ge 48, 3), (86, .aload_n 1, 1), (87, .iload 4, 2), (89, .invokevirtual 69, 3), (92, .astore 5, 2), (94, .aload 5, 2), (96, .ifnull 29, 3), (99, .aload 5, 2), (101, .getfield 73, 3), (104, .ifCond .eq 21, 3), (107, .aload_n 0, 1), (108, .aload 5, 2)]
theorem b_Line_isBadAt_0 : (t_Line_isBadAt_0.all fun q => decide (decode q_Line_isBadAt.2.1 q.1 = .ok (q.2.1, q.2.2))) = true := by decide +kernel
def t_Line_isBadAt_1 : List (Nat × Instr × Nat) := [(110, .aload_n 0, 1), (111, .getfield 26, 3), (114, .iconst 0, 1), (115, .iload_n 2, 1), (116, .iconst (-1), 1), (117, .invokestatic 79, 3), (120, .ifCond .eq 5, 3), (123, .iconst 1, 1), (124, .ireturn, 1), (125, .iinc 4 1, 3), (128, .goto (-51), 3), (131, .iconst 0, 1), (132, .ireturn, 1)]
theorem b_Line_isBadAt_1 : (t_Line_isBadAt_1.all fun q => decide (decode q_Line_isBadAt.2.1 q.1 = .ok (q.2.1, q.2.2))) = true := by decide +kernel
theorem d_Line_isBadAt_0 : vm_D q_Line_isBadAt.2.1 0 1 1 (.aload_n 1) := vm_dD b_Line_isBadAt_0 0 rfl rfl
theorem d_Line_isBadAt_1 : vm_D q_Line_isBadAt.2.1 1 1 2 (.iconst 1) := vm_dD b_Line_isBadAt_0 1 rfl rfl
theorem d_Line_isBadAt_2 : vm_D q_Line_isBadAt.2.1 2 1 3 (.iconst 1) := vm_dD b_Line_isBadAt_0 2 rfl rfl
theorem d_Line_isBadAt_3 : vm_D q_Line_isBadAt.2.1 3 3 6 (.invokevirtual 60) := vm_dD b_Line_isBadAt_0 3 rfl rfl
theorem d_Line_isBadAt_6 : vm_B q_Line_isBadAt.2.1 6 9 11 (fun o => .ifCond .eq o) := ⟨5, vm_db b_Line_isBadAt_0 (i := 4) rfl, rfl, by decide⟩
theorem d_Line_isBadAt_11 : vm_D q_Line_isBadAt.2.1 11 1 12 (.iload_n 2) := vm_dD b_Line_isBadAt_0 7 rfl rfl
theorem d_Line_isBadAt_12 : vm_B q_Line_isBadAt.2.1 12 15 21 (fun o => .ifCond .lt o) := ⟨9, vm_db b_Line_isBadAt_0 (i := 8) rfl, rfl, by decide⟩
theorem d_Line_isBadAt_21 : vm_D q_Line_isBadAt.2.1 21 1 22 (.iconst 0) := vm_dD b_Line_isBadAt_0 12 rfl rfl
theorem d_Line_isBadAt_22 : vm_D q_Line_isBadAt.2.1 22 1 23 (.ireturn) := vm_dD b_Line_isBadAt_0 13 rfl rfl
theorem d_Line_isBadAt_15 : vm_D q_Line_isBadAt.2.1 15 1 16 (.iload_n 2) := vm_dD b_Line_isBadAt_0 9 rfl rfl
theorem d_Line_isBadAt_16 : vm_D q_Line_isBadAt.2.1 16 2 18 (.bipush 64) := vm_dD b_Line_isBadAt_0 10 rfl rfl
theorem d_Line_isBadAt_18 : vm_B q_Line_isBadAt.2.1 18 21 23 (fun o => .if_icmp .lt o) := ⟨5, vm_db b_Line_isBadAt_0 (i := 11) rfl, rfl, by decide⟩
theorem d_Line_isBadAt_23 : vm_D q_Line_isBadAt.2.1 23 1 24 (.aload_n 0) := vm_dD b_Line_isBadAt_0 14 rfl rfl
theorem d_Line_isBadAt_24 : vm_D q_Line_isBadAt.2.1 24 3 27 (.getfield 17) := vm_dD b_Line_isBadAt_0 15 rfl rfl
theorem d_Line_isBadAt_27 : vm_D q_Line_isBadAt.2.1 27 1 28 (.iload_n 2) := vm_dD b_Line_isBadAt_0 16 rfl rfl
theorem d_Line_isBadAt_28 : vm_D q_Line_isBadAt.2.1 28 1 29 (.aaload) := vm_dD b_Line_isBadAt_0 17 rfl rfl
theorem d_Line_isBadAt_29 : vm_D q_Line_isBadAt.2.1 29 1 30 (.astore_n 3) := vm_dD b_Line_isBadAt_0 18 rfl rfl
theorem d_Line_isBadAt_30 : vm_D q_Line_isBadAt.2.1 30 1 31 (.iconst 1) := vm_dD b_Line_isBadAt_0 19 rfl rfl
theorem d_Line_isBadAt_31 : vm_D q_Line_isBadAt.2.1 31 2 33 (.istore 4) := vm_dD b_Line_isBadAt_0 20 rfl rfl
theorem d_Line_isBadAt_33 : vm_D q_Line_isBadAt.2.1 33 2 35 (.iload 4) := vm_dD b_Line_isBadAt_0 21 rfl rfl
theorem d_Line_isBadAt_35 : vm_D q_Line_isBadAt.2.1 35 1 36 (.iload_n 2) := vm_dD b_Line_isBadAt_0 22 rfl rfl
theorem d_Line_isBadAt_36 : vm_B q_Line_isBadAt.2.1 36 39 74 (fun o => .if_icmp .gt o) := ⟨38, vm_db b_Line_isBadAt_0 (i := 23) rfl, rfl, by decide⟩
theorem d_Line_isBadAt_39 : vm_D q_Line_isBadAt.2.1 39 1 40 (.aload_n 3) := vm_dD b_Line_isBadAt_0 24 rfl rfl
theorem d_Line_isBadAt_40 : vm_D q_Line_isBadAt.2.1 40 1 41 (.iload_n 2) := vm_dD b_Line_isBadAt_0 25 rfl rfl
theorem d_Line_isBadAt_41 : vm_D q_Line_isBadAt.2.1 41 2 43 (.iload 4) := vm_dD b_Line_isBadAt_0 26 rfl rfl
theorem d_Line_isBadAt_43 : vm_D q_Line_isBadAt.2.1 43 1 44 (.isub) := vm_dD b_Line_isBadAt_0 27 rfl rfl
theorem d_Line_isBadAt_44 : vm_D q_Line_isBadAt.2.1 44 1 45 (.iaload) := vm_dD b_Line_isBadAt_0 28 rfl rfl
theorem d_Line_isBadAt_45 : vm_D q_Line_isBadAt.2.1 45 2 47 (.istore 5) := vm_dD b_Line_isBadAt_0 29 rfl rfl
theorem d_Line_isBadAt_47 : vm_D q_Line_isBadAt.2.1 47 2 49 (.iload 5) := vm_dD b_Line_isBadAt_0 30 rfl rfl
theorem d_Line_isBadAt_49 : vm_B q_Line_isBadAt.2.1 49 52 68 (fun o => .ifCond .le o) := ⟨19, vm_db b_Line_isBadAt_0 (i := 31) rfl, rfl, by decide⟩
theorem d_Line_isBadAt_68 : vm_D q_Line_isBadAt.2.1 68 3 71 (.iinc 4 1) := vm_dD b_Line_isBadAt_0 41 rfl rfl
theorem d_Line_isBadAt_71 : ∃ off : Int, decode q_Line_isBadAt.2.1 71 = .ok (.goto off, 3) ∧ ((71 : Nat) : Int) + off = ((33 : Nat) : Int) := ⟨-38, vm_db b_Line_isBadAt_0 (i := 42) rfl, by decide⟩
theorem d_Line_isBadAt_52 : vm_D q_Line_isBadAt.2.1 52 1 53 (.aload_n 1) := vm_dD b_Line_isBadAt_0 32 rfl rfl
theorem d_Line_isBadAt_53 : vm_D q_Line_isBadAt.2.1 53 2 55 (.iload 5) := vm_dD b_Line_isBadAt_0 33 rfl rfl
theorem d_Line_isBadAt_55 : vm_D q_Line_isBadAt.2.1 55 2 57 (.iload 4) := vm_dD b_Line_isBadAt_0 34 rfl rfl
theorem d_Line_isBadAt_57 : vm_D q_Line_isBadAt.2.1 57 1 58 (.iadd) := vm_dD b_Line_isBadAt_0 35 rfl rfl
theorem d_Line_isBadAt_58 : vm_D q_Line_isBadAt.2.1 58 2 60 (.iload 4) := vm_dD b_Line_isBadAt_0 36 rfl rfl
theorem d_Line_isBadAt_60 : vm_D q_Line_isBadAt.2.1 60 3 63 (.invokevirtual 60) := vm_dD b_Line_isBadAt_0 37 rfl rfl
theorem d_Line_isBadAt_63 : vm_B q_Line_isBadAt.2.1 63 66 68 (fun o => .ifCond .eq o) := ⟨5, vm_db b_Line_isBadAt_0 (i := 38) rfl, rfl, by decide⟩
theorem d_Line_isBadAt_66 : vm_D q_Line_isBadAt.2.1 66 1 67 (.iconst 1) := vm_dD b_Line_isBadAt_0 39 rfl rfl
theorem d_Line_isBadAt_67 : vm_D q_Line_isBadAt.2.1 67 1 68 (.ireturn) := vm_dD b_Line_isBadAt_0 40 rfl rfl
theorem d_Line_isBadAt_74 : vm_D q_Line_isBadAt.2.1 74 1 75 (.iconst 0) := vm_dD b_Line_isBadAt_0 43 rfl rfl
theorem d_Line_isBadAt_75 : vm_D q_Line_isBadAt.2.1 75 2 77 (.istore 4) := vm_dD b_Line_isBadAt_0 44 rfl rfl
theorem d_Line_isBadAt_77 : vm_D q_Line_isBadAt.2.1 77 2 79 (.iload 4) := vm_dD b_Line_isBadAt_0 45 rfl rfl
theorem d_Line_isBadAt_79 : vm_D q_Line_isBadAt.2.1 79 1 80 (.aload_n 1) := vm_dD b_Line_isBadAt_0 46 rfl rfl
theorem d_Line_isBadAt_80 : vm_D q_Line_isBadAt.2.1 80 3 83 (.getfield 66) := vm_dD b_Line_isBadAt_0 47 rfl rfl
theorem d_Line_isBadAt_83 : vm_B q_Line_isBadAt.2.1 83 86 131 (fun o => .if_icmp .ge o) := ⟨48, vm_db b_Line_isBadAt_0 (i := 48) rfl, rfl, by decide⟩
theorem d_Line_isBadAt_86 : vm_D q_Line_isBadAt.2.1 86 1 87 (.aload_n 1) := vm_dD b_Line_isBadAt_0 49 rfl rfl
theorem d_Line_isBadAt_87 : vm_D q_Line_isBadAt.2.1 87 2 89 (.iload 4) := vm_dD b_Line_isBadAt_0 50 rfl rfl
theorem d_Line_isBadAt_89 : vm_D q_Line_isBadAt.2.1 89 3 92 (.invokevirtual 69) := vm_dD b_Line_isBadAt_0 51 rfl rfl
theorem d_Line_isBadAt_92 : vm_D q_Line_isBadAt.2.1 92 2 94 (.astore 5) := vm_dD b_Line_isBadAt_0 52 rfl rfl
theorem d_Line_isBadAt_94 : vm_D q_Line_isBadAt.2.1 94 2 96 (.aload 5) := vm_dD b_Line_isBadAt_0 53 rfl rfl
theorem d_Line_isBadAt_96 : vm_B q_Line_isBadAt.2.1 96 99 125 (fun o => .ifnull o) := ⟨29, vm_db b_Line_isBadAt_0 (i := 54) rfl, rfl, by decide⟩
theorem d_Line_isBadAt_125 : vm_D q_Line_isBadAt.2.1 125 3 128 (.iinc 4 1) := vm_dD b_Line_isBadAt_1 9 rfl rfl
theorem d_Line_isBadAt_128 : ∃ off : Int, decode q_Line_isBadAt.2.1 128 = .ok (.goto off, 3) ∧ ((128 : Nat) : Int) + off = ((77 : Nat) : Int) := ⟨-51, vm_db b_Line_isBadAt_1 (i := 10) rfl, by decide⟩
theorem d_Line_isBadAt_99 : vm_D q_Line_isBadAt.2.1 99 2 101 (.aload 5) := vm_dD b_Line_isBadAt_0 55 rfl rfl
theorem d_Line_isBadAt_101 : vm_D q_Line_isBadAt.2.1 101 3 104 (.getfield 73) := vm_dD b_Line_isBadAt_0 56 rfl rfl
theorem d_Line_isBadAt_104 : vm_B q_Line_isBadAt.2.1 104 107 125 (fun o => .ifCond .eq o) := ⟨21, vm_db b_Line_isBadAt_0 (i := 57) rfl, rfl, by decide⟩
theorem d_Line_isBadAt_107 : vm_D q_Line_isBadAt.2.1 107 1 108 (.aload_n 0) := vm_dD b_Line_isBadAt_0 58 rfl rfl
theorem d_Line_isBadAt_108 : vm_D q_Line_isBadAt.2.1 108 2 110 (.aload 5) := vm_dD b_Line_isBadAt_0 59 rfl rfl
theorem d_Line_isBadAt_110 : vm_D q_Line_isBadAt.2.1 110 1 111 (.aload_n 0) := vm_dD b_Line_isBadAt_1 0 rfl rfl
theorem d_Line_isBadAt_111 : vm_D q_Line_isBadAt.2.1 111 3 114 (.getfield 26) := vm_dD b_Line_isBadAt_1 1 rfl rfl
theorem d_Line_isBadAt_114 : vm_D q_Line_isBadAt.2.1 114 1 115 (.iconst 0) := vm_dD b_Line_isBadAt_1 2 rfl rfl
theorem d_Line_isBadAt_115 : vm_D q_Line_isBadAt.2.1 115 1 116 (.iload_n 2) := vm_dD b_Line_isBadAt_1 3 rfl rfl
theorem d_Line_isBadAt_116 : vm_D q_Line_isBadAt.2.1 116 1 117 (.iconst (-1)) := vm_dD b_Line_isBadAt_1 4 rfl rfl
theorem d_Line_isBadAt_117 : vm_D q_Line_isBadAt.2.1 117 3 120 (.invokestatic 79) := vm_dD b_Line_isBadAt_1 5 rfl rfl
theorem d_Line_isBadAt_120 : vm_B q_Line_isBadAt.2.1 120 123 125 (fun o => .ifCond .eq o) := ⟨5, vm_db b_Line_isBadAt_1 (i := 6) rfl, rfl, by decide⟩
theorem d_Line_isBadAt_123 : vm_D q_Line_isBadAt.2.1 123 1 124 (.iconst 1) := vm_dD b_Line_isBadAt_1 7 rfl rfl
theorem d_Line_isBadAt_124 : vm_D q_Line_isBadAt.2.1 124 1 125 (.ireturn) := vm_dD b_Line_isBadAt_1 8 rfl rfl
theorem d_Line_isBadAt_131 : vm_D q_Line_isBadAt.2.1 131 1 132 (.iconst 0) := vm_dD b_Line_isBadAt_1 11 rfl rfl
theorem d_Line_isBadAt_132 : vm_D q_Line_isBadAt.2.1 132 1 133 (.ireturn) := vm_dD b_Line_isBadAt_1 12 rfl rfl
theorem d_Line_isBadAt_9 : vm_D q_Line_isBadAt.2.1 9 1 10 (.iconst 1) := vm_dD b_Line_isBadAt_0 5 rfl rfl
theorem d_Line_isBadAt_10 : vm_D q_Line_isBadAt.2.1 10 1 11 (.ireturn) := vm_dD b_Line_isBadAt_0 6 rfl rfl
def q_Line_firstBad : vm_Y := ("RepeatFree$Line", cX1_firstBad, 3, false, [])
def t_Line_firstBad_0 : List (Nat × Instr × Nat) := [(0, .iconst 0, 1), (1, .istore_n 2, 1), (2, .iload_n 2, 1), (3, .aload_n 0, 1), (4, .getfield 30, 3), (7, .if_icmp .ge 20, 3), (10, .aload_n 0, 1), (11, .aload_n 1, 1), (12, .iload_n 2, 1), (13, .invokevirtual 83, 3), (16, .ifCond .eq 5, 3), (19, .iload_n 2, 1), (20, .ireturn, 1), (21, .iinc 2 1, 3), (24, .goto (-22), 3), (27, .iconst (-1), 1), (28, .ireturn, 1)]
theorem b_Line_firstBad_0 : (t_Line_firstBad_0.all fun q => decide (decode q_Line_firstBad.2.1 q.1 = .ok (q.2.1, q.2.2))) = true := by decide +kernel
theorem d_Line_firstBad_0 : vm_D q_Line_firstBad.2.1 0 1 1 (.iconst 0) := vm_dD b_Line_firstBad_0 0 rfl rfl
theorem d_Line_firstBad_1 : vm_D q_Line_firstBad.2.1 1 1 2 (.istore_n 2) := vm_dD b_Line_firstBad_0 1 rfl rfl
theorem d_Line_firstBad_2 : vm_D q_Line_firstBad.2.1 2 1 3 (.iload_n 2) := vm_dD b_Line_firstBad_0 2 rfl rfl
theorem d_Line_firstBad_3 : vm_D q_Line_firstBad.2.1 3 1 4 (.aload_n 0) := vm_dD b_Line_firstBad_0 3 rfl rfl
theorem d_Line_firstBad_4 : vm_D q_Line_firstBad.2.1 4 3 7 (.getfield 30) := vm_dD b_Line_firstBad_0 4 rfl rfl
theorem d_Line_firstBad_7 : vm_B q_Line_firstBad.2.1 7 10 27 (fun o => .if_icmp .ge o) := ⟨20, vm_db b_Line_firstBad_0 (i := 5) rfl, rfl, by decide⟩
theorem d_Line_firstBad_10 : vm_D q_Line_firstBad.2.1 10 1 11 (.aload_n 0) := vm_dD b_Line_firstBad_0 6 rfl rfl
theorem d_Line_firstBad_11 : vm_D q_Line_firstBad.2.1 11 1 12 (.aload_n 1) := vm_dD b_Line_firstBad_0 7 rfl rfl
theorem d_Line_firstBad_12 : vm_D q_Line_firstBad.2.1 12 1 13 (.iload_n 2) := vm_dD b_Line_firstBad_0 8 rfl rfl
theorem d_Line_firstBad_13 : vm_D q_Line_firstBad.2.1 13 3 16 (.invokevirtual 83) := vm_dD b_Line_firstBad_0 9 rfl rfl
theorem d_Line_firstBad_16 : vm_B q_Line_firstBad.2.1 16 19 21 (fun o => .ifCond .eq o) := ⟨5, vm_db b_Line_firstBad_0 (i := 10) rfl, rfl, by decide⟩
theorem d_Line_firstBad_21 : vm_D q_Line_firstBad.2.1 21 3 24 (.iinc 2 1) := vm_dD b_Line_firstBad_0 13 rfl rfl
theorem d_Line_firstBad_24 : ∃ off : Int, decode q_Line_firstBad.2.1 24 = .ok (.goto off, 3) ∧ ((24 : Nat) : Int) + off = ((2 : Nat) : Int) := ⟨-22, vm_db b_Line_firstBad_0 (i := 14) rfl, by decide⟩
theorem d_Line_firstBad_19 : vm_D q_Line_firstBad.2.1 19 1 20 (.iload_n 2) := vm_dD b_Line_firstBad_0 11 rfl rfl
theorem d_Line_firstBad_20 : vm_D q_Line_firstBad.2.1 20 1 21 (.ireturn) := vm_dD b_Line_firstBad_0 12 rfl rfl
theorem d_Line_firstBad_27 : vm_D q_Line_firstBad.2.1 27 1 28 (.iconst (-1)) := vm_dD b_Line_firstBad_0 15 rfl rfl
theorem d_Line_firstBad_28 : vm_D q_Line_firstBad.2.1 28 1 29 (.ireturn) := vm_dD b_Line_firstBad_0 16 rfl rfl
def q_Line_leastPeriod : vm_Y := ("RepeatFree$Line", cX1_leastPeriod, 5, false, [])
def t_Line_leastPeriod_0 : List (Nat × Instr × Nat) := [(0, .iload_n 1, 1), (1, .iload_n 2, 1), (2, .iadd, 1), (3, .iconst 1, 1), (4, .isub, 1), (5, .istore_n 3, 1), (6, .iconst 1, 1), (7, .istore 4, 2), (9, .iload 4, 2), (11, .iload_n 2, 1), (12, .if_icmp .ge 25, 3), (15, .aload_n 0, 1), (16, .iload_n 3, 1), (17, .iload_n 3, 1), (18, .iload 4, 2), (20, .isub, 1), (21, .invokevirtual 57, 3), (24, .iload_n 2, 1), (25, .iload 4, 2), (27, .isub, 1), (28, .if_icmp .ge 9, 3), (31, .iinc 4 1, 3), (34, .goto (-25), 3), (37, .iload 4, 2), (39, .ireturn, 1)]
theorem b_Line_leastPeriod_0 : (t_Line_leastPeriod_0.all fun q => decide (decode q_Line_leastPeriod.2.1 q.1 = .ok (q.2.1, q.2.2))) = true := by decide +kernel
theorem d_Line_leastPeriod_0 : vm_D q_Line_leastPeriod.2.1 0 1 1 (.iload_n 1) := vm_dD b_Line_leastPeriod_0 0 rfl rfl
theorem d_Line_leastPeriod_1 : vm_D q_Line_leastPeriod.2.1 1 1 2 (.iload_n 2) := vm_dD b_Line_leastPeriod_0 1 rfl rfl
theorem d_Line_leastPeriod_2 : vm_D q_Line_leastPeriod.2.1 2 1 3 (.iadd) := vm_dD b_Line_leastPeriod_0 2 rfl rfl
theorem d_Line_leastPeriod_3 : vm_D q_Line_leastPeriod.2.1 3 1 4 (.iconst 1) := vm_dD b_Line_leastPeriod_0 3 rfl rfl
theorem d_Line_leastPeriod_4 : vm_D q_Line_leastPeriod.2.1 4 1 5 (.isub) := vm_dD b_Line_leastPeriod_0 4 rfl rfl
theorem d_Line_leastPeriod_5 : vm_D q_Line_leastPeriod.2.1 5 1 6 (.istore_n 3) := vm_dD b_Line_leastPeriod_0 5 rfl rfl
theorem d_Line_leastPeriod_6 : vm_D q_Line_leastPeriod.2.1 6 1 7 (.iconst 1) := vm_dD b_Line_leastPeriod_0 6 rfl rfl
theorem d_Line_leastPeriod_7 : vm_D q_Line_leastPeriod.2.1 7 2 9 (.istore 4) := vm_dD b_Line_leastPeriod_0 7 rfl rfl
theorem d_Line_leastPeriod_9 : vm_D q_Line_leastPeriod.2.1 9 2 11 (.iload 4) := vm_dD b_Line_leastPeriod_0 8 rfl rfl
theorem d_Line_leastPeriod_11 : vm_D q_Line_leastPeriod.2.1 11 1 12 (.iload_n 2) := vm_dD b_Line_leastPeriod_0 9 rfl rfl
theorem d_Line_leastPeriod_12 : vm_B q_Line_leastPeriod.2.1 12 15 37 (fun o => .if_icmp .ge o) := ⟨25, vm_db b_Line_leastPeriod_0 (i := 10) rfl, rfl, by decide⟩
theorem d_Line_leastPeriod_15 : vm_D q_Line_leastPeriod.2.1 15 1 16 (.aload_n 0) := vm_dD b_Line_leastPeriod_0 11 rfl rfl
theorem d_Line_leastPeriod_16 : vm_D q_Line_leastPeriod.2.1 16 1 17 (.iload_n 3) := vm_dD b_Line_leastPeriod_0 12 rfl rfl
theorem d_Line_leastPeriod_17 : vm_D q_Line_leastPeriod.2.1 17 1 18 (.iload_n 3) := vm_dD b_Line_leastPeriod_0 13 rfl rfl
theorem d_Line_leastPeriod_18 : vm_D q_Line_leastPeriod.2.1 18 2 20 (.iload 4) := vm_dD b_Line_leastPeriod_0 14 rfl rfl
theorem d_Line_leastPeriod_20 : vm_D q_Line_leastPeriod.2.1 20 1 21 (.isub) := vm_dD b_Line_leastPeriod_0 15 rfl rfl
theorem d_Line_leastPeriod_21 : vm_D q_Line_leastPeriod.2.1 21 3 24 (.invokevirtual 57) := vm_dD b_Line_leastPeriod_0 16 rfl rfl
theorem d_Line_leastPeriod_24 : vm_D q_Line_leastPeriod.2.1 24 1 25 (.iload_n 2) := vm_dD b_Line_leastPeriod_0 17 rfl rfl
theorem d_Line_leastPeriod_25 : vm_D q_Line_leastPeriod.2.1 25 2 27 (.iload 4) := vm_dD b_Line_leastPeriod_0 18 rfl rfl
theorem d_Line_leastPeriod_27 : vm_D q_Line_leastPeriod.2.1 27 1 28 (.isub) := vm_dD b_Line_leastPeriod_0 19 rfl rfl
theorem d_Line_leastPeriod_28 : vm_B q_Line_leastPeriod.2.1 28 31 37 (fun o => .if_icmp .ge o) := ⟨9, vm_db b_Line_leastPeriod_0 (i := 20) rfl, rfl, by decide⟩
theorem d_Line_leastPeriod_31 : vm_D q_Line_leastPeriod.2.1 31 3 34 (.iinc 4 1) := vm_dD b_Line_leastPeriod_0 21 rfl rfl
theorem d_Line_leastPeriod_34 : ∃ off : Int, decode q_Line_leastPeriod.2.1 34 = .ok (.goto off, 3) ∧ ((34 : Nat) : Int) + off = ((9 : Nat) : Int) := ⟨-25, vm_db b_Line_leastPeriod_0 (i := 22) rfl, by decide⟩
theorem d_Line_leastPeriod_37 : vm_D q_Line_leastPeriod.2.1 37 2 39 (.iload 4) := vm_dD b_Line_leastPeriod_0 23 rfl rfl
theorem d_Line_leastPeriod_39 : vm_D q_Line_leastPeriod.2.1 39 1 40 (.ireturn) := vm_dD b_Line_leastPeriod_0 24 rfl rfl
def q_Line_endIsLess : vm_Y := ("RepeatFree$Line", cX1_endIsLess, 4, false, [])
def t_Line_endIsLess_0 : List (Nat × Instr × Nat) := [(0, .iconst 0, 1), (1, .istore_n 3, 1), (2, .iload_n 3, 1), (3, .aload_n 0, 1), (4, .getfield 30, 3), (7, .if_icmp .ge 49, 3), (10, .aload_n 0, 1), (11, .iload_n 1, 1), (12, .iload_n 3, 1), (13, .iadd, 1), (14, .invokevirtual 43, 3), (17, .aload_n 0, 1), (18, .iload_n 2, 1), (19, .iload_n 3, 1), (20, .iadd, 1), (21, .invokevirtual 43, 3), (24, .if_icmp .eq 26, 3), (27, .aload_n 0, 1), (28, .iload_n 1, 1), (29, .iload_n 3, 1), (30, .iadd, 1), (31, .invokevirtual 43, 3), (34, .aload_n 0, 1), (35, .iload_n 2, 1), (36, .iload_n 3, 1), (37, .iadd, 1), (38, .invokevirtual 43, 3), (41, .if_icmp .ge 7, 3), (44, .iconst 1, 1), (45, .goto 4, 3), (48, .iconst 0, 1), (49, .ireturn, 1), (50, .iinc 3 1, 3), (53, .goto (-51), 3), (56, .iconst 0, 1), (57, .ireturn, 1)]
theorem b_Line_endIsLess_0 : (t_Line_endIsLess_0.all fun q => decide (decode q_Line_endIsLess.2.1 q.1 = .ok (q.2.1, q.2.2))) = true := by decide +kernel
theorem d_Line_endIsLess_0 : vm_D q_Line_endIsLess.2.1 0 1 1 (.iconst 0) := vm_dD b_Line_endIsLess_0 0 rfl rfl
theorem d_Line_endIsLess_1 : vm_D q_Line_endIsLess.2.1 1 1 2 (.istore_n 3) := vm_dD b_Line_endIsLess_0 1 rfl rfl
theorem d_Line_endIsLess_2 : vm_D q_Line_endIsLess.2.1 2 1 3 (.iload_n 3) := vm_dD b_Line_endIsLess_0 2 rfl rfl
theorem d_Line_endIsLess_3 : vm_D q_Line_endIsLess.2.1 3 1 4 (.aload_n 0) := vm_dD b_Line_endIsLess_0 3 rfl rfl
theorem d_Line_endIsLess_4 : vm_D q_Line_endIsLess.2.1 4 3 7 (.getfield 30) := vm_dD b_Line_endIsLess_0 4 rfl rfl
theorem d_Line_endIsLess_7 : vm_B q_Line_endIsLess.2.1 7 10 56 (fun o => .if_icmp .ge o) := ⟨49, vm_db b_Line_endIsLess_0 (i := 5) rfl, rfl, by decide⟩
theorem d_Line_endIsLess_10 : vm_D q_Line_endIsLess.2.1 10 1 11 (.aload_n 0) := vm_dD b_Line_endIsLess_0 6 rfl rfl
theorem d_Line_endIsLess_11 : vm_D q_Line_endIsLess.2.1 11 1 12 (.iload_n 1) := vm_dD b_Line_endIsLess_0 7 rfl rfl
theorem d_Line_endIsLess_12 : vm_D q_Line_endIsLess.2.1 12 1 13 (.iload_n 3) := vm_dD b_Line_endIsLess_0 8 rfl rfl
theorem d_Line_endIsLess_13 : vm_D q_Line_endIsLess.2.1 13 1 14 (.iadd) := vm_dD b_Line_endIsLess_0 9 rfl rfl
theorem d_Line_endIsLess_14 : vm_D q_Line_endIsLess.2.1 14 3 17 (.invokevirtual 43) := vm_dD b_Line_endIsLess_0 10 rfl rfl
theorem d_Line_endIsLess_17 : vm_D q_Line_endIsLess.2.1 17 1 18 (.aload_n 0) := vm_dD b_Line_endIsLess_0 11 rfl rfl
theorem d_Line_endIsLess_18 : vm_D q_Line_endIsLess.2.1 18 1 19 (.iload_n 2) := vm_dD b_Line_endIsLess_0 12 rfl rfl
theorem d_Line_endIsLess_19 : vm_D q_Line_endIsLess.2.1 19 1 20 (.iload_n 3) := vm_dD b_Line_endIsLess_0 13 rfl rfl
theorem d_Line_endIsLess_20 : vm_D q_Line_endIsLess.2.1 20 1 21 (.iadd) := vm_dD b_Line_endIsLess_0 14 rfl rfl
theorem d_Line_endIsLess_21 : vm_D q_Line_endIsLess.2.1 21 3 24 (.invokevirtual 43) := vm_dD b_Line_endIsLess_0 15 rfl rfl
theorem d_Line_endIsLess_24 : vm_B q_Line_endIsLess.2.1 24 27 50 (fun o => .if_icmp .eq o) := ⟨26, vm_db b_Line_endIsLess_0 (i := 16) rfl, rfl, by decide⟩
theorem d_Line_endIsLess_50 : vm_D q_Line_endIsLess.2.1 50 3 53 (.iinc 3 1) := vm_dD b_Line_endIsLess_0 32 rfl rfl
theorem d_Line_endIsLess_53 : ∃ off : Int, decode q_Line_endIsLess.2.1 53 = .ok (.goto off, 3) ∧ ((53 : Nat) : Int) + off = ((2 : Nat) : Int) := ⟨-51, vm_db b_Line_endIsLess_0 (i := 33) rfl, by decide⟩
theorem d_Line_endIsLess_27 : vm_D q_Line_endIsLess.2.1 27 1 28 (.aload_n 0) := vm_dD b_Line_endIsLess_0 17 rfl rfl
theorem d_Line_endIsLess_28 : vm_D q_Line_endIsLess.2.1 28 1 29 (.iload_n 1) := vm_dD b_Line_endIsLess_0 18 rfl rfl
theorem d_Line_endIsLess_29 : vm_D q_Line_endIsLess.2.1 29 1 30 (.iload_n 3) := vm_dD b_Line_endIsLess_0 19 rfl rfl
theorem d_Line_endIsLess_30 : vm_D q_Line_endIsLess.2.1 30 1 31 (.iadd) := vm_dD b_Line_endIsLess_0 20 rfl rfl
theorem d_Line_endIsLess_31 : vm_D q_Line_endIsLess.2.1 31 3 34 (.invokevirtual 43) := vm_dD b_Line_endIsLess_0 21 rfl rfl
theorem d_Line_endIsLess_34 : vm_D q_Line_endIsLess.2.1 34 1 35 (.aload_n 0) := vm_dD b_Line_endIsLess_0 22 rfl rfl
theorem d_Line_endIsLess_35 : vm_D q_Line_endIsLess.2.1 35 1 36 (.iload_n 2) := vm_dD b_Line_endIsLess_0 23 rfl rfl
theorem d_Line_endIsLess_36 : vm_D q_Line_endIsLess.2.1 36 1 37 (.iload_n 3) := vm_dD b_Line_endIsLess_0 24 rfl rfl
theorem d_Line_endIsLess_37 : vm_D q_Line_endIsLess.2.1 37 1 38 (.iadd) := vm_dD b_Line_endIsLess_0 25 rfl rfl
theorem d_Line_endIsLess_38 : vm_D q_Line_endIsLess.2.1 38 3 41 (.invokevirtual 43) := vm_dD b_Line_endIsLess_0 26 rfl rfl
theorem d_Line_endIsLess_41 : vm_B q_Line_endIsLess.2.1 41 44 48 (fun o => .if_icmp .ge o) := ⟨7, vm_db b_Line_endIsLess_0 (i := 27) rfl, rfl, by decide⟩
theorem d_Line_endIsLess_48 : vm_D q_Line_endIsLess.2.1 48 1 49 (.iconst 0) := vm_dD b_Line_endIsLess_0 30 rfl rfl
theorem d_Line_endIsLess_49 : vm_D q_Line_endIsLess.2.1 49 1 50 (.ireturn) := vm_dD b_Line_endIsLess_0 31 rfl rfl
theorem d_Line_endIsLess_44 : vm_D q_Line_endIsLess.2.1 44 1 45 (.iconst 1) := vm_dD b_Line_endIsLess_0 28 rfl rfl
theorem d_Line_endIsLess_45 : ∃ off : Int, decode q_Line_endIsLess.2.1 45 = .ok (.goto off, 3) ∧ ((45 : Nat) : Int) + off = ((49 : Nat) : Int) := ⟨4, vm_db b_Line_endIsLess_0 (i := 29) rfl, by decide⟩
theorem d_Line_endIsLess_56 : vm_D q_Line_endIsLess.2.1 56 1 57 (.iconst 0) := vm_dD b_Line_endIsLess_0 34 rfl rfl
theorem d_Line_endIsLess_57 : vm_D q_Line_endIsLess.2.1 57 1 58 (.ireturn) := vm_dD b_Line_endIsLess_0 35 rfl rfl
def q_Line_turnIsLess : vm_Y := ("RepeatFree$Line", cX1_turnIsLess, 6, false, [])
def t_Line_turnIsLess_0 : List (Nat × Instr × Nat) := [(0, .iconst 0, 1), (1, .istore_n 3, 1), (2, .iload_n 3, 1), (3, .aload_n 0, 1), (4, .getfield 30, 3), (7, .if_icmp .ge 57, 3), (10, .aload_n 0, 1), (11, .iload_n 1, 1), (12, .iload_n 3, 1), (13, .iadd, 1), (14, .aload_n 0, 1), (15, .getfield 30, 3), (18, .irem, 1), (19, .invokevirtual 43, 3), (22, .istore 4, 2), (24, .aload_n 0, 1), (25, .iload_n 2, 1), (26, .iload_n 3, 1), (27, .iadd, 1), (28, .aload_n 0, 1), (29, .getfield 30, 3), (32, .irem, 1), (33, .invokevirtual 43, 3), (36, .istore 5, 2), (38, .iload 4, 2), (40, .iload 5, 2), (42, .if_icmp .eq 16, 3), (45, .iload 4, 2), (47, .iload 5, 2), (49, .if_icmp .ge 7, 3), (52, .iconst 1, 1), (53, .goto 4, 3), (56, .iconst 0, 1), (57, .ireturn, 1), (58, .iinc 3 1, 3), (61, .goto (-59), 3), (64, .iconst 0, 1), (65, .ireturn, 1)]
theorem b_Line_turnIsLess_0 : (t_Line_turnIsLess_0.all fun q => decide (decode q_Line_turnIsLess.2.1 q.1 = .ok (q.2.1, q.2.2))) = true := by decide +kernel
theorem d_Line_turnIsLess_0 : vm_D q_Line_turnIsLess.2.1 0 1 1 (.iconst 0) := vm_dD b_Line_turnIsLess_0 0 rfl rfl
theorem d_Line_turnIsLess_1 : vm_D q_Line_turnIsLess.2.1 1 1 2 (.istore_n 3) := vm_dD b_Line_turnIsLess_0 1 rfl rfl
theorem d_Line_turnIsLess_2 : vm_D q_Line_turnIsLess.2.1 2 1 3 (.iload_n 3) := vm_dD b_Line_turnIsLess_0 2 rfl rfl
theorem d_Line_turnIsLess_3 : vm_D q_Line_turnIsLess.2.1 3 1 4 (.aload_n 0) := vm_dD b_Line_turnIsLess_0 3 rfl rfl
theorem d_Line_turnIsLess_4 : vm_D q_Line_turnIsLess.2.1 4 3 7 (.getfield 30) := vm_dD b_Line_turnIsLess_0 4 rfl rfl
theorem d_Line_turnIsLess_7 : vm_B q_Line_turnIsLess.2.1 7 10 64 (fun o => .if_icmp .ge o) := ⟨57, vm_db b_Line_turnIsLess_0 (i := 5) rfl, rfl, by decide⟩
theorem d_Line_turnIsLess_10 : vm_D q_Line_turnIsLess.2.1 10 1 11 (.aload_n 0) := vm_dD b_Line_turnIsLess_0 6 rfl rfl
theorem d_Line_turnIsLess_11 : vm_D q_Line_turnIsLess.2.1 11 1 12 (.iload_n 1) := vm_dD b_Line_turnIsLess_0 7 rfl rfl
theorem d_Line_turnIsLess_12 : vm_D q_Line_turnIsLess.2.1 12 1 13 (.iload_n 3) := vm_dD b_Line_turnIsLess_0 8 rfl rfl
theorem d_Line_turnIsLess_13 : vm_D q_Line_turnIsLess.2.1 13 1 14 (.iadd) := vm_dD b_Line_turnIsLess_0 9 rfl rfl
theorem d_Line_turnIsLess_14 : vm_D q_Line_turnIsLess.2.1 14 1 15 (.aload_n 0) := vm_dD b_Line_turnIsLess_0 10 rfl rfl
theorem d_Line_turnIsLess_15 : vm_D q_Line_turnIsLess.2.1 15 3 18 (.getfield 30) := vm_dD b_Line_turnIsLess_0 11 rfl rfl
theorem d_Line_turnIsLess_18 : vm_D q_Line_turnIsLess.2.1 18 1 19 (.irem) := vm_dD b_Line_turnIsLess_0 12 rfl rfl
theorem d_Line_turnIsLess_19 : vm_D q_Line_turnIsLess.2.1 19 3 22 (.invokevirtual 43) := vm_dD b_Line_turnIsLess_0 13 rfl rfl
theorem d_Line_turnIsLess_22 : vm_D q_Line_turnIsLess.2.1 22 2 24 (.istore 4) := vm_dD b_Line_turnIsLess_0 14 rfl rfl
theorem d_Line_turnIsLess_24 : vm_D q_Line_turnIsLess.2.1 24 1 25 (.aload_n 0) := vm_dD b_Line_turnIsLess_0 15 rfl rfl
theorem d_Line_turnIsLess_25 : vm_D q_Line_turnIsLess.2.1 25 1 26 (.iload_n 2) := vm_dD b_Line_turnIsLess_0 16 rfl rfl
theorem d_Line_turnIsLess_26 : vm_D q_Line_turnIsLess.2.1 26 1 27 (.iload_n 3) := vm_dD b_Line_turnIsLess_0 17 rfl rfl
theorem d_Line_turnIsLess_27 : vm_D q_Line_turnIsLess.2.1 27 1 28 (.iadd) := vm_dD b_Line_turnIsLess_0 18 rfl rfl
theorem d_Line_turnIsLess_28 : vm_D q_Line_turnIsLess.2.1 28 1 29 (.aload_n 0) := vm_dD b_Line_turnIsLess_0 19 rfl rfl
theorem d_Line_turnIsLess_29 : vm_D q_Line_turnIsLess.2.1 29 3 32 (.getfield 30) := vm_dD b_Line_turnIsLess_0 20 rfl rfl
theorem d_Line_turnIsLess_32 : vm_D q_Line_turnIsLess.2.1 32 1 33 (.irem) := vm_dD b_Line_turnIsLess_0 21 rfl rfl
theorem d_Line_turnIsLess_33 : vm_D q_Line_turnIsLess.2.1 33 3 36 (.invokevirtual 43) := vm_dD b_Line_turnIsLess_0 22 rfl rfl
theorem d_Line_turnIsLess_36 : vm_D q_Line_turnIsLess.2.1 36 2 38 (.istore 5) := vm_dD b_Line_turnIsLess_0 23 rfl rfl
theorem d_Line_turnIsLess_38 : vm_D q_Line_turnIsLess.2.1 38 2 40 (.iload 4) := vm_dD b_Line_turnIsLess_0 24 rfl rfl
theorem d_Line_turnIsLess_40 : vm_D q_Line_turnIsLess.2.1 40 2 42 (.iload 5) := vm_dD b_Line_turnIsLess_0 25 rfl rfl
theorem d_Line_turnIsLess_42 : vm_B q_Line_turnIsLess.2.1 42 45 58 (fun o => .if_icmp .eq o) := ⟨16, vm_db b_Line_turnIsLess_0 (i := 26) rfl, rfl, by decide⟩
theorem d_Line_turnIsLess_58 : vm_D q_Line_turnIsLess.2.1 58 3 61 (.iinc 3 1) := vm_dD b_Line_turnIsLess_0 34 rfl rfl
theorem d_Line_turnIsLess_61 : ∃ off : Int, decode q_Line_turnIsLess.2.1 61 = .ok (.goto off, 3) ∧ ((61 : Nat) : Int) + off = ((2 : Nat) : Int) := ⟨-59, vm_db b_Line_turnIsLess_0 (i := 35) rfl, by decide⟩
theorem d_Line_turnIsLess_45 : vm_D q_Line_turnIsLess.2.1 45 2 47 (.iload 4) := vm_dD b_Line_turnIsLess_0 27 rfl rfl
theorem d_Line_turnIsLess_47 : vm_D q_Line_turnIsLess.2.1 47 2 49 (.iload 5) := vm_dD b_Line_turnIsLess_0 28 rfl rfl
theorem d_Line_turnIsLess_49 : vm_B q_Line_turnIsLess.2.1 49 52 56 (fun o => .if_icmp .ge o) := ⟨7, vm_db b_Line_turnIsLess_0 (i := 29) rfl, rfl, by decide⟩
theorem d_Line_turnIsLess_56 : vm_D q_Line_turnIsLess.2.1 56 1 57 (.iconst 0) := vm_dD b_Line_turnIsLess_0 32 rfl rfl
theorem d_Line_turnIsLess_57 : vm_D q_Line_turnIsLess.2.1 57 1 58 (.ireturn) := vm_dD b_Line_turnIsLess_0 33 rfl rfl
theorem d_Line_turnIsLess_52 : vm_D q_Line_turnIsLess.2.1 52 1 53 (.iconst 1) := vm_dD b_Line_turnIsLess_0 30 rfl rfl
theorem d_Line_turnIsLess_53 : ∃ off : Int, decode q_Line_turnIsLess.2.1 53 = .ok (.goto off, 3) ∧ ((53 : Nat) : Int) + off = ((57 : Nat) : Int) := ⟨4, vm_db b_Line_turnIsLess_0 (i := 31) rfl, by decide⟩
theorem d_Line_turnIsLess_64 : vm_D q_Line_turnIsLess.2.1 64 1 65 (.iconst 0) := vm_dD b_Line_turnIsLess_0 36 rfl rfl
theorem d_Line_turnIsLess_65 : vm_D q_Line_turnIsLess.2.1 65 1 66 (.ireturn) := vm_dD b_Line_turnIsLess_0 37 rfl rfl
def q_Line_repeatsAround : vm_Y := ("RepeatFree$Line", cX1_repeatsAround, 4, false, [])
def t_Line_repeatsAround_0 : List (Nat × Instr × Nat) := [(0, .iconst 0, 1), (1, .iload_n 1, 1), (2, .iload_n 2, 1), (3, .isub, 1), (4, .invokestatic 40, 3), (7, .istore_n 3, 1), (8, .iload_n 3, 1), (9, .iload_n 1, 1), (10, .if_icmp .ge 36, 3), (13, .iload_n 3, 1), (14, .iload_n 2, 1), (15, .iadd, 1), (16, .aload_n 0, 1), (17, .getfield 30, 3), (20, .if_icmp .ge 26, 3), (23, .aload_n 0, 1), (24, .iload_n 3, 1), (25, .invokevirtual 43, 3), (28, .aload_n 0, 1), (29, .iload_n 3, 1), (30, .iload_n 2, 1), (31, .iadd, 1), (32, .invokevirtual 43, 3), (35, .if_icmp .eq 5, 3), (38, .iconst 0, 1), (39, .ireturn, 1), (40, .iinc 3 1, 3), (43, .goto (-35), 3), (46, .iconst 1, 1), (47, .ireturn, 1)]
theorem b_Line_repeatsAround_0 : (t_Line_repeatsAround_0.all fun q => decide (decode q_Line_repeatsAround.2.1 q.1 = .ok (q.2.1, q.2.2))) = true := by decide +kernel
theorem d_Line_repeatsAround_0 : vm_D q_Line_repeatsAround.2.1 0 1 1 (.iconst 0) := vm_dD b_Line_repeatsAround_0 0 rfl rfl
theorem d_Line_repeatsAround_1 : vm_D q_Line_repeatsAround.2.1 1 1 2 (.iload_n 1) := vm_dD b_Line_repeatsAround_0 1 rfl rfl
theorem d_Line_repeatsAround_2 : vm_D q_Line_repeatsAround.2.1 2 1 3 (.iload_n 2) := vm_dD b_Line_repeatsAround_0 2 rfl rfl
theorem d_Line_repeatsAround_3 : vm_D q_Line_repeatsAround.2.1 3 1 4 (.isub) := vm_dD b_Line_repeatsAround_0 3 rfl rfl
theorem d_Line_repeatsAround_4 : vm_D q_Line_repeatsAround.2.1 4 3 7 (.invokestatic 40) := vm_dD b_Line_repeatsAround_0 4 rfl rfl
theorem d_Line_repeatsAround_7 : vm_D q_Line_repeatsAround.2.1 7 1 8 (.istore_n 3) := vm_dD b_Line_repeatsAround_0 5 rfl rfl
theorem d_Line_repeatsAround_8 : vm_D q_Line_repeatsAround.2.1 8 1 9 (.iload_n 3) := vm_dD b_Line_repeatsAround_0 6 rfl rfl
theorem d_Line_repeatsAround_9 : vm_D q_Line_repeatsAround.2.1 9 1 10 (.iload_n 1) := vm_dD b_Line_repeatsAround_0 7 rfl rfl
theorem d_Line_repeatsAround_10 : vm_B q_Line_repeatsAround.2.1 10 13 46 (fun o => .if_icmp .ge o) := ⟨36, vm_db b_Line_repeatsAround_0 (i := 8) rfl, rfl, by decide⟩
theorem d_Line_repeatsAround_13 : vm_D q_Line_repeatsAround.2.1 13 1 14 (.iload_n 3) := vm_dD b_Line_repeatsAround_0 9 rfl rfl
theorem d_Line_repeatsAround_14 : vm_D q_Line_repeatsAround.2.1 14 1 15 (.iload_n 2) := vm_dD b_Line_repeatsAround_0 10 rfl rfl
theorem d_Line_repeatsAround_15 : vm_D q_Line_repeatsAround.2.1 15 1 16 (.iadd) := vm_dD b_Line_repeatsAround_0 11 rfl rfl
theorem d_Line_repeatsAround_16 : vm_D q_Line_repeatsAround.2.1 16 1 17 (.aload_n 0) := vm_dD b_Line_repeatsAround_0 12 rfl rfl
theorem d_Line_repeatsAround_17 : vm_D q_Line_repeatsAround.2.1 17 3 20 (.getfield 30) := vm_dD b_Line_repeatsAround_0 13 rfl rfl
theorem d_Line_repeatsAround_20 : vm_B q_Line_repeatsAround.2.1 20 23 46 (fun o => .if_icmp .ge o) := ⟨26, vm_db b_Line_repeatsAround_0 (i := 14) rfl, rfl, by decide⟩
theorem d_Line_repeatsAround_23 : vm_D q_Line_repeatsAround.2.1 23 1 24 (.aload_n 0) := vm_dD b_Line_repeatsAround_0 15 rfl rfl
theorem d_Line_repeatsAround_24 : vm_D q_Line_repeatsAround.2.1 24 1 25 (.iload_n 3) := vm_dD b_Line_repeatsAround_0 16 rfl rfl
theorem d_Line_repeatsAround_25 : vm_D q_Line_repeatsAround.2.1 25 3 28 (.invokevirtual 43) := vm_dD b_Line_repeatsAround_0 17 rfl rfl
theorem d_Line_repeatsAround_28 : vm_D q_Line_repeatsAround.2.1 28 1 29 (.aload_n 0) := vm_dD b_Line_repeatsAround_0 18 rfl rfl
theorem d_Line_repeatsAround_29 : vm_D q_Line_repeatsAround.2.1 29 1 30 (.iload_n 3) := vm_dD b_Line_repeatsAround_0 19 rfl rfl
theorem d_Line_repeatsAround_30 : vm_D q_Line_repeatsAround.2.1 30 1 31 (.iload_n 2) := vm_dD b_Line_repeatsAround_0 20 rfl rfl
theorem d_Line_repeatsAround_31 : vm_D q_Line_repeatsAround.2.1 31 1 32 (.iadd) := vm_dD b_Line_repeatsAround_0 21 rfl rfl
theorem d_Line_repeatsAround_32 : vm_D q_Line_repeatsAround.2.1 32 3 35 (.invokevirtual 43) := vm_dD b_Line_repeatsAround_0 22 rfl rfl
theorem d_Line_repeatsAround_35 : vm_B q_Line_repeatsAround.2.1 35 38 40 (fun o => .if_icmp .eq o) := ⟨5, vm_db b_Line_repeatsAround_0 (i := 23) rfl, rfl, by decide⟩
theorem d_Line_repeatsAround_40 : vm_D q_Line_repeatsAround.2.1 40 3 43 (.iinc 3 1) := vm_dD b_Line_repeatsAround_0 26 rfl rfl
theorem d_Line_repeatsAround_43 : ∃ off : Int, decode q_Line_repeatsAround.2.1 43 = .ok (.goto off, 3) ∧ ((43 : Nat) : Int) + off = ((8 : Nat) : Int) := ⟨-35, vm_db b_Line_repeatsAround_0 (i := 27) rfl, by decide⟩
theorem d_Line_repeatsAround_38 : vm_D q_Line_repeatsAround.2.1 38 1 39 (.iconst 0) := vm_dD b_Line_repeatsAround_0 24 rfl rfl
theorem d_Line_repeatsAround_39 : vm_D q_Line_repeatsAround.2.1 39 1 40 (.ireturn) := vm_dD b_Line_repeatsAround_0 25 rfl rfl
theorem d_Line_repeatsAround_46 : vm_D q_Line_repeatsAround.2.1 46 1 47 (.iconst 1) := vm_dD b_Line_repeatsAround_0 28 rfl rfl
theorem d_Line_repeatsAround_47 : vm_D q_Line_repeatsAround.2.1 47 1 48 (.ireturn) := vm_dD b_Line_repeatsAround_0 29 rfl rfl
def q_Sizes_fits : vm_Y := ("RepeatFree$Sizes", cX7_fits, 11, false, [])
def t_Sizes_fits_0 : List (Nat × Instr × Nat) := [(0, .aload_n 0, 1), (1, .iconst 0, 1), (2, .iload 4, 2), (4, .iconst (-1), 1), (5, .invokevirtual 18, 3), (8, .aload_n 0, 1), (9, .iconst 1, 1), (10, .iload 5, 2), (12, .iconst (-1), 1), (13, .invokevirtual 18, 3), (16, .aload_n 0, 1), (17, .iconst 2, 1), (18, .iload 6, 2), (20, .iconst (-1), 1), (21, .invokevirtual 18, 3), (24, .iload_n 3, 1), (25, .istore 7, 2), (27, .iconst 0, 1), (28, .istore 8, 2), (30, .iload 8, 2), (32, .aload_n 2, 1), (33, .getfield 22, 3), (36, .if_icmp .ge 70, 3), (39, .aload_n 2, 1), (40, .iload 8, 2), (42, .invokevirtual 31, 3), (45, .istore 9, 2), (47, .aload_n 0, 1), (48, .iload 9, 2), (50, .invokevirtual 35, 3), (53, .istore 10, 2), (55, .aload_n 0, 1), (56, .iload 9, 2), (58, .invokevirtual 62, 3), (61, .iconst (-1), 1), (62, .if_icmp .ne 16, 3), (65, .aload_n 0, 1), (66, .iload 9, 2), (68, .iload 10, 2), (70, .iload 7, 2), (72, .invokevirtual 18, 3), (75, .goto 18, 3), (78, .aload_n 0, 1), (79, .aload_n 1, 1), (80, .iload 9, 2), (82, .iload 7, 2), (84, .iconst 1, 1), (85, .invokevirtual 38, 3), (88, .ifCond .ne 5, 3), (91, .iconst 0, 1), (92, .ireturn, 1), (93, .iload 7, 2), (95, .iload 10, 2), (97, .iadd, 1), (98, .istore 7, 2), (100, .iinc 8 1, 3), (103, .goto (-73), 3), (106, .iload 7, 2), (108, .aload_n 1, 1), (109, .getfield 46, 3)]
theorem b_Sizes_fits_0 : (t_Sizes_fits_0.all fun q => decide (decode q_Sizes_fits.2.1 q.1 = .ok (q.2.1, q.2.2))) = true := by decide +kernel
def t_Sizes_fits_1 : List (Nat × Instr × Nat) := [(112, .if_icmp .gt 7, 3), (115, .iconst 1, 1), (116, .goto 4, 3), (119, .iconst 0, 1), (120, .ireturn, 1)]
theorem b_Sizes_fits_1 : (t_Sizes_fits_1.all fun q => decide (decode q_Sizes_fits.2.1 q.1 = .ok (q.2.1, q.2.2))) = true := by decide +kernel
theorem d_Sizes_fits_0 : vm_D q_Sizes_fits.2.1 0 1 1 (.aload_n 0) := vm_dD b_Sizes_fits_0 0 rfl rfl
theorem d_Sizes_fits_1 : vm_D q_Sizes_fits.2.1 1 1 2 (.iconst 0) := vm_dD b_Sizes_fits_0 1 rfl rfl
theorem d_Sizes_fits_2 : vm_D q_Sizes_fits.2.1 2 2 4 (.iload 4) := vm_dD b_Sizes_fits_0 2 rfl rfl
theorem d_Sizes_fits_4 : vm_D q_Sizes_fits.2.1 4 1 5 (.iconst (-1)) := vm_dD b_Sizes_fits_0 3 rfl rfl
theorem d_Sizes_fits_5 : vm_D q_Sizes_fits.2.1 5 3 8 (.invokevirtual 18) := vm_dD b_Sizes_fits_0 4 rfl rfl
theorem d_Sizes_fits_8 : vm_D q_Sizes_fits.2.1 8 1 9 (.aload_n 0) := vm_dD b_Sizes_fits_0 5 rfl rfl
theorem d_Sizes_fits_9 : vm_D q_Sizes_fits.2.1 9 1 10 (.iconst 1) := vm_dD b_Sizes_fits_0 6 rfl rfl
theorem d_Sizes_fits_10 : vm_D q_Sizes_fits.2.1 10 2 12 (.iload 5) := vm_dD b_Sizes_fits_0 7 rfl rfl
theorem d_Sizes_fits_12 : vm_D q_Sizes_fits.2.1 12 1 13 (.iconst (-1)) := vm_dD b_Sizes_fits_0 8 rfl rfl
theorem d_Sizes_fits_13 : vm_D q_Sizes_fits.2.1 13 3 16 (.invokevirtual 18) := vm_dD b_Sizes_fits_0 9 rfl rfl
theorem d_Sizes_fits_16 : vm_D q_Sizes_fits.2.1 16 1 17 (.aload_n 0) := vm_dD b_Sizes_fits_0 10 rfl rfl
theorem d_Sizes_fits_17 : vm_D q_Sizes_fits.2.1 17 1 18 (.iconst 2) := vm_dD b_Sizes_fits_0 11 rfl rfl
theorem d_Sizes_fits_18 : vm_D q_Sizes_fits.2.1 18 2 20 (.iload 6) := vm_dD b_Sizes_fits_0 12 rfl rfl
theorem d_Sizes_fits_20 : vm_D q_Sizes_fits.2.1 20 1 21 (.iconst (-1)) := vm_dD b_Sizes_fits_0 13 rfl rfl
theorem d_Sizes_fits_21 : vm_D q_Sizes_fits.2.1 21 3 24 (.invokevirtual 18) := vm_dD b_Sizes_fits_0 14 rfl rfl
theorem d_Sizes_fits_24 : vm_D q_Sizes_fits.2.1 24 1 25 (.iload_n 3) := vm_dD b_Sizes_fits_0 15 rfl rfl
theorem d_Sizes_fits_25 : vm_D q_Sizes_fits.2.1 25 2 27 (.istore 7) := vm_dD b_Sizes_fits_0 16 rfl rfl
theorem d_Sizes_fits_27 : vm_D q_Sizes_fits.2.1 27 1 28 (.iconst 0) := vm_dD b_Sizes_fits_0 17 rfl rfl
theorem d_Sizes_fits_28 : vm_D q_Sizes_fits.2.1 28 2 30 (.istore 8) := vm_dD b_Sizes_fits_0 18 rfl rfl
theorem d_Sizes_fits_30 : vm_D q_Sizes_fits.2.1 30 2 32 (.iload 8) := vm_dD b_Sizes_fits_0 19 rfl rfl
theorem d_Sizes_fits_32 : vm_D q_Sizes_fits.2.1 32 1 33 (.aload_n 2) := vm_dD b_Sizes_fits_0 20 rfl rfl
theorem d_Sizes_fits_33 : vm_D q_Sizes_fits.2.1 33 3 36 (.getfield 22) := vm_dD b_Sizes_fits_0 21 rfl rfl
theorem d_Sizes_fits_36 : vm_B q_Sizes_fits.2.1 36 39 106 (fun o => .if_icmp .ge o) := ⟨70, vm_db b_Sizes_fits_0 (i := 22) rfl, rfl, by decide⟩
theorem d_Sizes_fits_39 : vm_D q_Sizes_fits.2.1 39 1 40 (.aload_n 2) := vm_dD b_Sizes_fits_0 23 rfl rfl
theorem d_Sizes_fits_40 : vm_D q_Sizes_fits.2.1 40 2 42 (.iload 8) := vm_dD b_Sizes_fits_0 24 rfl rfl
theorem d_Sizes_fits_42 : vm_D q_Sizes_fits.2.1 42 3 45 (.invokevirtual 31) := vm_dD b_Sizes_fits_0 25 rfl rfl
theorem d_Sizes_fits_45 : vm_D q_Sizes_fits.2.1 45 2 47 (.istore 9) := vm_dD b_Sizes_fits_0 26 rfl rfl
theorem d_Sizes_fits_47 : vm_D q_Sizes_fits.2.1 47 1 48 (.aload_n 0) := vm_dD b_Sizes_fits_0 27 rfl rfl
theorem d_Sizes_fits_48 : vm_D q_Sizes_fits.2.1 48 2 50 (.iload 9) := vm_dD b_Sizes_fits_0 28 rfl rfl
theorem d_Sizes_fits_50 : vm_D q_Sizes_fits.2.1 50 3 53 (.invokevirtual 35) := vm_dD b_Sizes_fits_0 29 rfl rfl
theorem d_Sizes_fits_53 : vm_D q_Sizes_fits.2.1 53 2 55 (.istore 10) := vm_dD b_Sizes_fits_0 30 rfl rfl
theorem d_Sizes_fits_55 : vm_D q_Sizes_fits.2.1 55 1 56 (.aload_n 0) := vm_dD b_Sizes_fits_0 31 rfl rfl
theorem d_Sizes_fits_56 : vm_D q_Sizes_fits.2.1 56 2 58 (.iload 9) := vm_dD b_Sizes_fits_0 32 rfl rfl
theorem d_Sizes_fits_58 : vm_D q_Sizes_fits.2.1 58 3 61 (.invokevirtual 62) := vm_dD b_Sizes_fits_0 33 rfl rfl
theorem d_Sizes_fits_61 : vm_D q_Sizes_fits.2.1 61 1 62 (.iconst (-1)) := vm_dD b_Sizes_fits_0 34 rfl rfl
theorem d_Sizes_fits_62 : vm_B q_Sizes_fits.2.1 62 65 78 (fun o => .if_icmp .ne o) := ⟨16, vm_db b_Sizes_fits_0 (i := 35) rfl, rfl, by decide⟩
theorem d_Sizes_fits_93 : vm_D q_Sizes_fits.2.1 93 2 95 (.iload 7) := vm_dD b_Sizes_fits_0 51 rfl rfl
theorem d_Sizes_fits_95 : vm_D q_Sizes_fits.2.1 95 2 97 (.iload 10) := vm_dD b_Sizes_fits_0 52 rfl rfl
theorem d_Sizes_fits_97 : vm_D q_Sizes_fits.2.1 97 1 98 (.iadd) := vm_dD b_Sizes_fits_0 53 rfl rfl
theorem d_Sizes_fits_98 : vm_D q_Sizes_fits.2.1 98 2 100 (.istore 7) := vm_dD b_Sizes_fits_0 54 rfl rfl
theorem d_Sizes_fits_100 : vm_D q_Sizes_fits.2.1 100 3 103 (.iinc 8 1) := vm_dD b_Sizes_fits_0 55 rfl rfl
theorem d_Sizes_fits_103 : ∃ off : Int, decode q_Sizes_fits.2.1 103 = .ok (.goto off, 3) ∧ ((103 : Nat) : Int) + off = ((30 : Nat) : Int) := ⟨-73, vm_db b_Sizes_fits_0 (i := 56) rfl, by decide⟩
theorem d_Sizes_fits_78 : vm_D q_Sizes_fits.2.1 78 1 79 (.aload_n 0) := vm_dD b_Sizes_fits_0 42 rfl rfl
theorem d_Sizes_fits_79 : vm_D q_Sizes_fits.2.1 79 1 80 (.aload_n 1) := vm_dD b_Sizes_fits_0 43 rfl rfl
theorem d_Sizes_fits_80 : vm_D q_Sizes_fits.2.1 80 2 82 (.iload 9) := vm_dD b_Sizes_fits_0 44 rfl rfl
theorem d_Sizes_fits_82 : vm_D q_Sizes_fits.2.1 82 2 84 (.iload 7) := vm_dD b_Sizes_fits_0 45 rfl rfl
theorem d_Sizes_fits_84 : vm_D q_Sizes_fits.2.1 84 1 85 (.iconst 1) := vm_dD b_Sizes_fits_0 46 rfl rfl
theorem d_Sizes_fits_85 : vm_D q_Sizes_fits.2.1 85 3 88 (.invokevirtual 38) := vm_dD b_Sizes_fits_0 47 rfl rfl
theorem d_Sizes_fits_88 : vm_B q_Sizes_fits.2.1 88 91 93 (fun o => .ifCond .ne o) := ⟨5, vm_db b_Sizes_fits_0 (i := 48) rfl, rfl, by decide⟩
theorem d_Sizes_fits_91 : vm_D q_Sizes_fits.2.1 91 1 92 (.iconst 0) := vm_dD b_Sizes_fits_0 49 rfl rfl
theorem d_Sizes_fits_92 : vm_D q_Sizes_fits.2.1 92 1 93 (.ireturn) := vm_dD b_Sizes_fits_0 50 rfl rfl
theorem d_Sizes_fits_65 : vm_D q_Sizes_fits.2.1 65 1 66 (.aload_n 0) := vm_dD b_Sizes_fits_0 36 rfl rfl
theorem d_Sizes_fits_66 : vm_D q_Sizes_fits.2.1 66 2 68 (.iload 9) := vm_dD b_Sizes_fits_0 37 rfl rfl
theorem d_Sizes_fits_68 : vm_D q_Sizes_fits.2.1 68 2 70 (.iload 10) := vm_dD b_Sizes_fits_0 38 rfl rfl
theorem d_Sizes_fits_70 : vm_D q_Sizes_fits.2.1 70 2 72 (.iload 7) := vm_dD b_Sizes_fits_0 39 rfl rfl
theorem d_Sizes_fits_72 : vm_D q_Sizes_fits.2.1 72 3 75 (.invokevirtual 18) := vm_dD b_Sizes_fits_0 40 rfl rfl
theorem d_Sizes_fits_75 : ∃ off : Int, decode q_Sizes_fits.2.1 75 = .ok (.goto off, 3) ∧ ((75 : Nat) : Int) + off = ((93 : Nat) : Int) := ⟨18, vm_db b_Sizes_fits_0 (i := 41) rfl, by decide⟩
theorem d_Sizes_fits_106 : vm_D q_Sizes_fits.2.1 106 2 108 (.iload 7) := vm_dD b_Sizes_fits_0 57 rfl rfl
theorem d_Sizes_fits_108 : vm_D q_Sizes_fits.2.1 108 1 109 (.aload_n 1) := vm_dD b_Sizes_fits_0 58 rfl rfl
theorem d_Sizes_fits_109 : vm_D q_Sizes_fits.2.1 109 3 112 (.getfield 46) := vm_dD b_Sizes_fits_0 59 rfl rfl
theorem d_Sizes_fits_112 : vm_B q_Sizes_fits.2.1 112 115 119 (fun o => .if_icmp .gt o) := ⟨7, vm_db b_Sizes_fits_1 (i := 0) rfl, rfl, by decide⟩
theorem d_Sizes_fits_119 : vm_D q_Sizes_fits.2.1 119 1 120 (.iconst 0) := vm_dD b_Sizes_fits_1 3 rfl rfl
theorem d_Sizes_fits_120 : vm_D q_Sizes_fits.2.1 120 1 121 (.ireturn) := vm_dD b_Sizes_fits_1 4 rfl rfl
theorem d_Sizes_fits_115 : vm_D q_Sizes_fits.2.1 115 1 116 (.iconst 1) := vm_dD b_Sizes_fits_1 1 rfl rfl
theorem d_Sizes_fits_116 : ∃ off : Int, decode q_Sizes_fits.2.1 116 = .ok (.goto off, 3) ∧ ((116 : Nat) : Int) + off = ((120 : Nat) : Int) := ⟨4, vm_db b_Sizes_fits_1 (i := 2) rfl, by decide⟩
def q_Sizes_leastZ : vm_Y := ("RepeatFree$Sizes", cX7_leastZ, 4, false, [])
def t_Sizes_leastZ_0 : List (Nat × Instr × Nat) := [(0, .iload_n 3, 1), (1, .ifCond .eq 17, 3), (4, .iload_n 1, 1), (5, .ifCond .le 13, 3), (8, .iconst 1, 1), (9, .iload_n 2, 1), (10, .iload_n 1, 1), (11, .idiv, 1), (12, .invokestatic 49, 3), (15, .goto 8, 3), (18, .iconst 1, 1), (19, .iload_n 1, 1), (20, .invokestatic 71, 3), (23, .ireturn, 1)]
theorem b_Sizes_leastZ_0 : (t_Sizes_leastZ_0.all fun q => decide (decode q_Sizes_leastZ.2.1 q.1 = .ok (q.2.1, q.2.2))) = true := by decide +kernel
theorem d_Sizes_leastZ_0 : vm_D q_Sizes_leastZ.2.1 0 1 1 (.iload_n 3) := vm_dD b_Sizes_leastZ_0 0 rfl rfl
theorem d_Sizes_leastZ_1 : vm_B q_Sizes_leastZ.2.1 1 4 18 (fun o => .ifCond .eq o) := ⟨17, vm_db b_Sizes_leastZ_0 (i := 1) rfl, rfl, by decide⟩
theorem d_Sizes_leastZ_18 : vm_D q_Sizes_leastZ.2.1 18 1 19 (.iconst 1) := vm_dD b_Sizes_leastZ_0 10 rfl rfl
theorem d_Sizes_leastZ_19 : vm_D q_Sizes_leastZ.2.1 19 1 20 (.iload_n 1) := vm_dD b_Sizes_leastZ_0 11 rfl rfl
theorem d_Sizes_leastZ_20 : vm_D q_Sizes_leastZ.2.1 20 3 23 (.invokestatic 71) := vm_dD b_Sizes_leastZ_0 12 rfl rfl
theorem d_Sizes_leastZ_23 : vm_D q_Sizes_leastZ.2.1 23 1 24 (.ireturn) := vm_dD b_Sizes_leastZ_0 13 rfl rfl
theorem d_Sizes_leastZ_4 : vm_D q_Sizes_leastZ.2.1 4 1 5 (.iload_n 1) := vm_dD b_Sizes_leastZ_0 2 rfl rfl
theorem d_Sizes_leastZ_5 : vm_B q_Sizes_leastZ.2.1 5 8 18 (fun o => .ifCond .le o) := ⟨13, vm_db b_Sizes_leastZ_0 (i := 3) rfl, rfl, by decide⟩
theorem d_Sizes_leastZ_8 : vm_D q_Sizes_leastZ.2.1 8 1 9 (.iconst 1) := vm_dD b_Sizes_leastZ_0 4 rfl rfl
theorem d_Sizes_leastZ_9 : vm_D q_Sizes_leastZ.2.1 9 1 10 (.iload_n 2) := vm_dD b_Sizes_leastZ_0 5 rfl rfl
theorem d_Sizes_leastZ_10 : vm_D q_Sizes_leastZ.2.1 10 1 11 (.iload_n 1) := vm_dD b_Sizes_leastZ_0 6 rfl rfl
theorem d_Sizes_leastZ_11 : vm_D q_Sizes_leastZ.2.1 11 1 12 (.idiv) := vm_dD b_Sizes_leastZ_0 7 rfl rfl
theorem d_Sizes_leastZ_12 : vm_D q_Sizes_leastZ.2.1 12 3 15 (.invokestatic 49) := vm_dD b_Sizes_leastZ_0 8 rfl rfl
theorem d_Sizes_leastZ_15 : ∃ off : Int, decode q_Sizes_leastZ.2.1 15 = .ok (.goto off, 3) ∧ ((15 : Nat) : Int) + off = ((23 : Nat) : Int) := ⟨8, vm_db b_Sizes_leastZ_0 (i := 9) rfl, by decide⟩
def q_Sizes_choose : vm_Y := ("RepeatFree$Sizes", cX7_choose, 16, false, [])
def t_Sizes_choose_0 : List (Nat × Instr × Nat) := [(0, .aload_n 1, 1), (1, .getfield 46, 3), (4, .iload_n 3, 1), (5, .isub, 1), (6, .istore 6, 2), (8, .iconst 0, 1), (9, .istore 7, 2), (11, .aload_n 2, 1), (12, .iconst 0, 1), (13, .invokevirtual 68, 3), (16, .istore 8, 2), (18, .aload_n 2, 1), (19, .iconst 1, 1), (20, .invokevirtual 68, 3), (23, .istore 9, 2), (25, .aload_n 2, 1), (26, .iconst 2, 1), (27, .invokevirtual 68, 3), (30, .istore 10, 2), (32, .iconst 1, 1), (33, .iload 8, 2), (35, .invokestatic 71, 3), (38, .istore 11, 2), (40, .iload 11, 2), (42, .iload 8, 2), (44, .imul, 1), (45, .iload 6, 2), (47, .if_icmp .gt 160, 3), (50, .iload 11, 2), (52, .ifCond .eq 8, 3), (55, .iload 8, 2), (57, .ifCond .le 150, 3), (60, .iload 6, 2), (62, .iload 11, 2), (64, .iload 8, 2), (66, .imul, 1), (67, .isub, 1), (68, .istore 12, 2), (70, .iconst 1, 1), (71, .iload 9, 2), (73, .invokestatic 71, 3), (76, .istore 13, 2), (78, .iload 13, 2), (80, .iload 9, 2), (82, .imul, 1), (83, .iload 12, 2), (85, .if_icmp .gt 116, 3), (88, .iload 13, 2), (90, .ifCond .eq 8, 3), (93, .iload 9, 2), (95, .ifCond .le 106, 3), (98, .iload 12, 2), (100, .iload 13, 2), (102, .iload 9, 2), (104, .imul, 1), (105, .isub, 1), (106, .istore 14, 2), (108, .aload_n 0, 1), (109, .iload 10, 2), (111, .iload 14, 2)]
theorem b_Sizes_choose_0 : (t_Sizes_choose_0.all fun q => decide (decode q_Sizes_choose.2.1 q.1 = .ok (q.2.1, q.2.2))) = true := by decide +kernel
def t_Sizes_choose_1 : List (Nat × Instr × Nat) := [(113, .iload 4, 2), (115, .invokevirtual 74, 3), (118, .istore 15, 2), (120, .iload 15, 2), (122, .iload 10, 2), (124, .imul, 1), (125, .iload 14, 2), (127, .if_icmp .gt 68, 3), (130, .iload 15, 2), (132, .ifCond .eq 8, 3), (135, .iload 10, 2), (137, .ifCond .le 58, 3), (140, .iload 4, 2), (142, .ifCond .eq 13, 3), (145, .iload 15, 2), (147, .iload 10, 2), (149, .imul, 1), (150, .iload 14, 2), (152, .if_icmp .lt 37, 3), (155, .aload_n 0, 1), (156, .aload_n 1, 1), (157, .aload_n 2, 1), (158, .iload_n 3, 1), (159, .iload 11, 2), (161, .iload 13, 2), (163, .iload 15, 2), (165, .invokevirtual 78, 3), (168, .ifCond .ne 6, 3), (171, .goto 18, 3), (174, .iinc 7 1, 3), (177, .iload 7, 2), (179, .iconst 1, 1), (180, .isub, 1), (181, .iload 5, 2), (183, .if_icmp .ne 6, 3), (186, .iload 7, 2), (188, .ireturn, 1), (189, .iinc 15 1, 3), (192, .goto (-72), 3), (195, .iinc 13 1, 3), (198, .goto (-120), 3), (201, .iinc 11 1, 3), (204, .goto (-164), 3), (207, .iload 7, 2), (209, .ireturn, 1)]
theorem b_Sizes_choose_1 : (t_Sizes_choose_1.all fun q => decide (decode q_Sizes_choose.2.1 q.1 = .ok (q.2.1, q.2.2))) = true := by decide +kernel
theorem d_Sizes_choose_0 : vm_D q_Sizes_choose.2.1 0 1 1 (.aload_n 1) := vm_dD b_Sizes_choose_0 0 rfl rfl
theorem d_Sizes_choose_1 : vm_D q_Sizes_choose.2.1 1 3 4 (.getfield 46) := vm_dD b_Sizes_choose_0 1 rfl rfl
theorem d_Sizes_choose_4 : vm_D q_Sizes_choose.2.1 4 1 5 (.iload_n 3) := vm_dD b_Sizes_choose_0 2 rfl rfl
theorem d_Sizes_choose_5 : vm_D q_Sizes_choose.2.1 5 1 6 (.isub) := vm_dD b_Sizes_choose_0 3 rfl rfl
theorem d_Sizes_choose_6 : vm_D q_Sizes_choose.2.1 6 2 8 (.istore 6) := vm_dD b_Sizes_choose_0 4 rfl rfl
theorem d_Sizes_choose_8 : vm_D q_Sizes_choose.2.1 8 1 9 (.iconst 0) := vm_dD b_Sizes_choose_0 5 rfl rfl
theorem d_Sizes_choose_9 : vm_D q_Sizes_choose.2.1 9 2 11 (.istore 7) := vm_dD b_Sizes_choose_0 6 rfl rfl
theorem d_Sizes_choose_11 : vm_D q_Sizes_choose.2.1 11 1 12 (.aload_n 2) := vm_dD b_Sizes_choose_0 7 rfl rfl
theorem d_Sizes_choose_12 : vm_D q_Sizes_choose.2.1 12 1 13 (.iconst 0) := vm_dD b_Sizes_choose_0 8 rfl rfl
theorem d_Sizes_choose_13 : vm_D q_Sizes_choose.2.1 13 3 16 (.invokevirtual 68) := vm_dD b_Sizes_choose_0 9 rfl rfl
theorem d_Sizes_choose_16 : vm_D q_Sizes_choose.2.1 16 2 18 (.istore 8) := vm_dD b_Sizes_choose_0 10 rfl rfl
theorem d_Sizes_choose_18 : vm_D q_Sizes_choose.2.1 18 1 19 (.aload_n 2) := vm_dD b_Sizes_choose_0 11 rfl rfl
theorem d_Sizes_choose_19 : vm_D q_Sizes_choose.2.1 19 1 20 (.iconst 1) := vm_dD b_Sizes_choose_0 12 rfl rfl
theorem d_Sizes_choose_20 : vm_D q_Sizes_choose.2.1 20 3 23 (.invokevirtual 68) := vm_dD b_Sizes_choose_0 13 rfl rfl
theorem d_Sizes_choose_23 : vm_D q_Sizes_choose.2.1 23 2 25 (.istore 9) := vm_dD b_Sizes_choose_0 14 rfl rfl
theorem d_Sizes_choose_25 : vm_D q_Sizes_choose.2.1 25 1 26 (.aload_n 2) := vm_dD b_Sizes_choose_0 15 rfl rfl
theorem d_Sizes_choose_26 : vm_D q_Sizes_choose.2.1 26 1 27 (.iconst 2) := vm_dD b_Sizes_choose_0 16 rfl rfl
theorem d_Sizes_choose_27 : vm_D q_Sizes_choose.2.1 27 3 30 (.invokevirtual 68) := vm_dD b_Sizes_choose_0 17 rfl rfl
theorem d_Sizes_choose_30 : vm_D q_Sizes_choose.2.1 30 2 32 (.istore 10) := vm_dD b_Sizes_choose_0 18 rfl rfl
theorem d_Sizes_choose_32 : vm_D q_Sizes_choose.2.1 32 1 33 (.iconst 1) := vm_dD b_Sizes_choose_0 19 rfl rfl
theorem d_Sizes_choose_33 : vm_D q_Sizes_choose.2.1 33 2 35 (.iload 8) := vm_dD b_Sizes_choose_0 20 rfl rfl
theorem d_Sizes_choose_35 : vm_D q_Sizes_choose.2.1 35 3 38 (.invokestatic 71) := vm_dD b_Sizes_choose_0 21 rfl rfl
theorem d_Sizes_choose_38 : vm_D q_Sizes_choose.2.1 38 2 40 (.istore 11) := vm_dD b_Sizes_choose_0 22 rfl rfl
theorem d_Sizes_choose_40 : vm_D q_Sizes_choose.2.1 40 2 42 (.iload 11) := vm_dD b_Sizes_choose_0 23 rfl rfl
theorem d_Sizes_choose_42 : vm_D q_Sizes_choose.2.1 42 2 44 (.iload 8) := vm_dD b_Sizes_choose_0 24 rfl rfl
theorem d_Sizes_choose_44 : vm_D q_Sizes_choose.2.1 44 1 45 (.imul) := vm_dD b_Sizes_choose_0 25 rfl rfl
theorem d_Sizes_choose_45 : vm_D q_Sizes_choose.2.1 45 2 47 (.iload 6) := vm_dD b_Sizes_choose_0 26 rfl rfl
theorem d_Sizes_choose_47 : vm_B q_Sizes_choose.2.1 47 50 207 (fun o => .if_icmp .gt o) := ⟨160, vm_db b_Sizes_choose_0 (i := 27) rfl, rfl, by decide⟩
theorem d_Sizes_choose_50 : vm_D q_Sizes_choose.2.1 50 2 52 (.iload 11) := vm_dD b_Sizes_choose_0 28 rfl rfl
theorem d_Sizes_choose_52 : vm_B q_Sizes_choose.2.1 52 55 60 (fun o => .ifCond .eq o) := ⟨8, vm_db b_Sizes_choose_0 (i := 29) rfl, rfl, by decide⟩
theorem d_Sizes_choose_60 : vm_D q_Sizes_choose.2.1 60 2 62 (.iload 6) := vm_dD b_Sizes_choose_0 32 rfl rfl
theorem d_Sizes_choose_62 : vm_D q_Sizes_choose.2.1 62 2 64 (.iload 11) := vm_dD b_Sizes_choose_0 33 rfl rfl
theorem d_Sizes_choose_64 : vm_D q_Sizes_choose.2.1 64 2 66 (.iload 8) := vm_dD b_Sizes_choose_0 34 rfl rfl
theorem d_Sizes_choose_66 : vm_D q_Sizes_choose.2.1 66 1 67 (.imul) := vm_dD b_Sizes_choose_0 35 rfl rfl
theorem d_Sizes_choose_67 : vm_D q_Sizes_choose.2.1 67 1 68 (.isub) := vm_dD b_Sizes_choose_0 36 rfl rfl
theorem d_Sizes_choose_68 : vm_D q_Sizes_choose.2.1 68 2 70 (.istore 12) := vm_dD b_Sizes_choose_0 37 rfl rfl
theorem d_Sizes_choose_70 : vm_D q_Sizes_choose.2.1 70 1 71 (.iconst 1) := vm_dD b_Sizes_choose_0 38 rfl rfl
theorem d_Sizes_choose_71 : vm_D q_Sizes_choose.2.1 71 2 73 (.iload 9) := vm_dD b_Sizes_choose_0 39 rfl rfl
theorem d_Sizes_choose_73 : vm_D q_Sizes_choose.2.1 73 3 76 (.invokestatic 71) := vm_dD b_Sizes_choose_0 40 rfl rfl
theorem d_Sizes_choose_76 : vm_D q_Sizes_choose.2.1 76 2 78 (.istore 13) := vm_dD b_Sizes_choose_0 41 rfl rfl
theorem d_Sizes_choose_78 : vm_D q_Sizes_choose.2.1 78 2 80 (.iload 13) := vm_dD b_Sizes_choose_0 42 rfl rfl
theorem d_Sizes_choose_80 : vm_D q_Sizes_choose.2.1 80 2 82 (.iload 9) := vm_dD b_Sizes_choose_0 43 rfl rfl
theorem d_Sizes_choose_82 : vm_D q_Sizes_choose.2.1 82 1 83 (.imul) := vm_dD b_Sizes_choose_0 44 rfl rfl
theorem d_Sizes_choose_83 : vm_D q_Sizes_choose.2.1 83 2 85 (.iload 12) := vm_dD b_Sizes_choose_0 45 rfl rfl
theorem d_Sizes_choose_85 : vm_B q_Sizes_choose.2.1 85 88 201 (fun o => .if_icmp .gt o) := ⟨116, vm_db b_Sizes_choose_0 (i := 46) rfl, rfl, by decide⟩
theorem d_Sizes_choose_88 : vm_D q_Sizes_choose.2.1 88 2 90 (.iload 13) := vm_dD b_Sizes_choose_0 47 rfl rfl
theorem d_Sizes_choose_90 : vm_B q_Sizes_choose.2.1 90 93 98 (fun o => .ifCond .eq o) := ⟨8, vm_db b_Sizes_choose_0 (i := 48) rfl, rfl, by decide⟩
theorem d_Sizes_choose_98 : vm_D q_Sizes_choose.2.1 98 2 100 (.iload 12) := vm_dD b_Sizes_choose_0 51 rfl rfl
theorem d_Sizes_choose_100 : vm_D q_Sizes_choose.2.1 100 2 102 (.iload 13) := vm_dD b_Sizes_choose_0 52 rfl rfl
theorem d_Sizes_choose_102 : vm_D q_Sizes_choose.2.1 102 2 104 (.iload 9) := vm_dD b_Sizes_choose_0 53 rfl rfl
theorem d_Sizes_choose_104 : vm_D q_Sizes_choose.2.1 104 1 105 (.imul) := vm_dD b_Sizes_choose_0 54 rfl rfl
theorem d_Sizes_choose_105 : vm_D q_Sizes_choose.2.1 105 1 106 (.isub) := vm_dD b_Sizes_choose_0 55 rfl rfl
theorem d_Sizes_choose_106 : vm_D q_Sizes_choose.2.1 106 2 108 (.istore 14) := vm_dD b_Sizes_choose_0 56 rfl rfl
theorem d_Sizes_choose_108 : vm_D q_Sizes_choose.2.1 108 1 109 (.aload_n 0) := vm_dD b_Sizes_choose_0 57 rfl rfl
theorem d_Sizes_choose_109 : vm_D q_Sizes_choose.2.1 109 2 111 (.iload 10) := vm_dD b_Sizes_choose_0 58 rfl rfl
theorem d_Sizes_choose_111 : vm_D q_Sizes_choose.2.1 111 2 113 (.iload 14) := vm_dD b_Sizes_choose_0 59 rfl rfl
theorem d_Sizes_choose_113 : vm_D q_Sizes_choose.2.1 113 2 115 (.iload 4) := vm_dD b_Sizes_choose_1 0 rfl rfl
theorem d_Sizes_choose_115 : vm_D q_Sizes_choose.2.1 115 3 118 (.invokevirtual 74) := vm_dD b_Sizes_choose_1 1 rfl rfl
theorem d_Sizes_choose_118 : vm_D q_Sizes_choose.2.1 118 2 120 (.istore 15) := vm_dD b_Sizes_choose_1 2 rfl rfl
theorem d_Sizes_choose_120 : vm_D q_Sizes_choose.2.1 120 2 122 (.iload 15) := vm_dD b_Sizes_choose_1 3 rfl rfl
theorem d_Sizes_choose_122 : vm_D q_Sizes_choose.2.1 122 2 124 (.iload 10) := vm_dD b_Sizes_choose_1 4 rfl rfl
theorem d_Sizes_choose_124 : vm_D q_Sizes_choose.2.1 124 1 125 (.imul) := vm_dD b_Sizes_choose_1 5 rfl rfl
theorem d_Sizes_choose_125 : vm_D q_Sizes_choose.2.1 125 2 127 (.iload 14) := vm_dD b_Sizes_choose_1 6 rfl rfl
theorem d_Sizes_choose_127 : vm_B q_Sizes_choose.2.1 127 130 195 (fun o => .if_icmp .gt o) := ⟨68, vm_db b_Sizes_choose_1 (i := 7) rfl, rfl, by decide⟩
theorem d_Sizes_choose_130 : vm_D q_Sizes_choose.2.1 130 2 132 (.iload 15) := vm_dD b_Sizes_choose_1 8 rfl rfl
theorem d_Sizes_choose_132 : vm_B q_Sizes_choose.2.1 132 135 140 (fun o => .ifCond .eq o) := ⟨8, vm_db b_Sizes_choose_1 (i := 9) rfl, rfl, by decide⟩
theorem d_Sizes_choose_140 : vm_D q_Sizes_choose.2.1 140 2 142 (.iload 4) := vm_dD b_Sizes_choose_1 12 rfl rfl
theorem d_Sizes_choose_142 : vm_B q_Sizes_choose.2.1 142 145 155 (fun o => .ifCond .eq o) := ⟨13, vm_db b_Sizes_choose_1 (i := 13) rfl, rfl, by decide⟩
theorem d_Sizes_choose_189 : vm_D q_Sizes_choose.2.1 189 3 192 (.iinc 15 1) := vm_dD b_Sizes_choose_1 37 rfl rfl
theorem d_Sizes_choose_192 : ∃ off : Int, decode q_Sizes_choose.2.1 192 = .ok (.goto off, 3) ∧ ((192 : Nat) : Int) + off = ((120 : Nat) : Int) := ⟨-72, vm_db b_Sizes_choose_1 (i := 38) rfl, by decide⟩
theorem d_Sizes_choose_155 : vm_D q_Sizes_choose.2.1 155 1 156 (.aload_n 0) := vm_dD b_Sizes_choose_1 19 rfl rfl
theorem d_Sizes_choose_156 : vm_D q_Sizes_choose.2.1 156 1 157 (.aload_n 1) := vm_dD b_Sizes_choose_1 20 rfl rfl
theorem d_Sizes_choose_157 : vm_D q_Sizes_choose.2.1 157 1 158 (.aload_n 2) := vm_dD b_Sizes_choose_1 21 rfl rfl
theorem d_Sizes_choose_158 : vm_D q_Sizes_choose.2.1 158 1 159 (.iload_n 3) := vm_dD b_Sizes_choose_1 22 rfl rfl
theorem d_Sizes_choose_159 : vm_D q_Sizes_choose.2.1 159 2 161 (.iload 11) := vm_dD b_Sizes_choose_1 23 rfl rfl
theorem d_Sizes_choose_161 : vm_D q_Sizes_choose.2.1 161 2 163 (.iload 13) := vm_dD b_Sizes_choose_1 24 rfl rfl
theorem d_Sizes_choose_163 : vm_D q_Sizes_choose.2.1 163 2 165 (.iload 15) := vm_dD b_Sizes_choose_1 25 rfl rfl
theorem d_Sizes_choose_165 : vm_D q_Sizes_choose.2.1 165 3 168 (.invokevirtual 78) := vm_dD b_Sizes_choose_1 26 rfl rfl
theorem d_Sizes_choose_168 : vm_B q_Sizes_choose.2.1 168 171 174 (fun o => .ifCond .ne o) := ⟨6, vm_db b_Sizes_choose_1 (i := 27) rfl, rfl, by decide⟩
theorem d_Sizes_choose_174 : vm_D q_Sizes_choose.2.1 174 3 177 (.iinc 7 1) := vm_dD b_Sizes_choose_1 29 rfl rfl
theorem d_Sizes_choose_177 : vm_D q_Sizes_choose.2.1 177 2 179 (.iload 7) := vm_dD b_Sizes_choose_1 30 rfl rfl
theorem d_Sizes_choose_179 : vm_D q_Sizes_choose.2.1 179 1 180 (.iconst 1) := vm_dD b_Sizes_choose_1 31 rfl rfl
theorem d_Sizes_choose_180 : vm_D q_Sizes_choose.2.1 180 1 181 (.isub) := vm_dD b_Sizes_choose_1 32 rfl rfl
theorem d_Sizes_choose_181 : vm_D q_Sizes_choose.2.1 181 2 183 (.iload 5) := vm_dD b_Sizes_choose_1 33 rfl rfl
theorem d_Sizes_choose_183 : vm_B q_Sizes_choose.2.1 183 186 189 (fun o => .if_icmp .ne o) := ⟨6, vm_db b_Sizes_choose_1 (i := 34) rfl, rfl, by decide⟩
theorem d_Sizes_choose_186 : vm_D q_Sizes_choose.2.1 186 2 188 (.iload 7) := vm_dD b_Sizes_choose_1 35 rfl rfl
theorem d_Sizes_choose_188 : vm_D q_Sizes_choose.2.1 188 1 189 (.ireturn) := vm_dD b_Sizes_choose_1 36 rfl rfl
theorem d_Sizes_choose_171 : ∃ off : Int, decode q_Sizes_choose.2.1 171 = .ok (.goto off, 3) ∧ ((171 : Nat) : Int) + off = ((189 : Nat) : Int) := ⟨18, vm_db b_Sizes_choose_1 (i := 28) rfl, by decide⟩
theorem d_Sizes_choose_145 : vm_D q_Sizes_choose.2.1 145 2 147 (.iload 15) := vm_dD b_Sizes_choose_1 14 rfl rfl
theorem d_Sizes_choose_147 : vm_D q_Sizes_choose.2.1 147 2 149 (.iload 10) := vm_dD b_Sizes_choose_1 15 rfl rfl
theorem d_Sizes_choose_149 : vm_D q_Sizes_choose.2.1 149 1 150 (.imul) := vm_dD b_Sizes_choose_1 16 rfl rfl
theorem d_Sizes_choose_150 : vm_D q_Sizes_choose.2.1 150 2 152 (.iload 14) := vm_dD b_Sizes_choose_1 17 rfl rfl
theorem d_Sizes_choose_152 : vm_B q_Sizes_choose.2.1 152 155 189 (fun o => .if_icmp .lt o) := ⟨37, vm_db b_Sizes_choose_1 (i := 18) rfl, rfl, by decide⟩
theorem d_Sizes_choose_135 : vm_D q_Sizes_choose.2.1 135 2 137 (.iload 10) := vm_dD b_Sizes_choose_1 10 rfl rfl
theorem d_Sizes_choose_137 : vm_B q_Sizes_choose.2.1 137 140 195 (fun o => .ifCond .le o) := ⟨58, vm_db b_Sizes_choose_1 (i := 11) rfl, rfl, by decide⟩
theorem d_Sizes_choose_195 : vm_D q_Sizes_choose.2.1 195 3 198 (.iinc 13 1) := vm_dD b_Sizes_choose_1 39 rfl rfl
theorem d_Sizes_choose_198 : ∃ off : Int, decode q_Sizes_choose.2.1 198 = .ok (.goto off, 3) ∧ ((198 : Nat) : Int) + off = ((78 : Nat) : Int) := ⟨-120, vm_db b_Sizes_choose_1 (i := 40) rfl, by decide⟩
theorem d_Sizes_choose_93 : vm_D q_Sizes_choose.2.1 93 2 95 (.iload 9) := vm_dD b_Sizes_choose_0 49 rfl rfl
theorem d_Sizes_choose_95 : vm_B q_Sizes_choose.2.1 95 98 201 (fun o => .ifCond .le o) := ⟨106, vm_db b_Sizes_choose_0 (i := 50) rfl, rfl, by decide⟩
theorem d_Sizes_choose_201 : vm_D q_Sizes_choose.2.1 201 3 204 (.iinc 11 1) := vm_dD b_Sizes_choose_1 41 rfl rfl
theorem d_Sizes_choose_204 : ∃ off : Int, decode q_Sizes_choose.2.1 204 = .ok (.goto off, 3) ∧ ((204 : Nat) : Int) + off = ((40 : Nat) : Int) := ⟨-164, vm_db b_Sizes_choose_1 (i := 42) rfl, by decide⟩
theorem d_Sizes_choose_55 : vm_D q_Sizes_choose.2.1 55 2 57 (.iload 8) := vm_dD b_Sizes_choose_0 30 rfl rfl
theorem d_Sizes_choose_57 : vm_B q_Sizes_choose.2.1 57 60 207 (fun o => .ifCond .le o) := ⟨150, vm_db b_Sizes_choose_0 (i := 31) rfl, rfl, by decide⟩
theorem d_Sizes_choose_207 : vm_D q_Sizes_choose.2.1 207 2 209 (.iload 7) := vm_dD b_Sizes_choose_1 43 rfl rfl
theorem d_Sizes_choose_209 : vm_D q_Sizes_choose.2.1 209 1 210 (.ireturn) := vm_dD b_Sizes_choose_1 44 rfl rfl
def q_Shape_isLoose : vm_Y := ("RepeatFree$Shape", cX6_isLoose, 9, false, [])
def t_Shape_isLoose_0 : List (Nat × Instr × Nat) := [(0, .iload_n 2, 1), (1, .istore_n 3, 1), (2, .iconst 0, 1), (3, .istore 4, 2), (5, .iconst 0, 1), (6, .istore 5, 2), (8, .iload 5, 2), (10, .bipush 6, 2), (12, .if_icmp .ge 101, 3), (15, .iconst (-1), 1), (16, .istore 6, 2), (18, .iconst 0, 1), (19, .istore 7, 2), (21, .iload 7, 2), (23, .aload_n 0, 1), (24, .getfield 22, 3), (27, .if_icmp .ge 80, 3), (30, .aload_n 0, 1), (31, .iload 7, 2), (33, .invokevirtual 43, 3), (36, .istore 8, 2), (38, .iload_n 1, 1), (39, .iload 8, 2), (41, .ishr, 1), (42, .iconst 1, 1), (43, .iand, 1), (44, .ifCond .ne 6, 3), (47, .goto 54, 3), (50, .iload 6, 2), (52, .iconst (-1), 1), (53, .if_icmp .eq 21, 3), (56, .iload_n 3, 1), (57, .iload 6, 2), (59, .ishr, 1), (60, .iconst 1, 1), (61, .iand, 1), (62, .ifCond .eq 12, 3), (65, .iload 4, 2), (67, .iconst 1, 1), (68, .iload 8, 2), (70, .ishl, 1), (71, .ior, 1), (72, .istore 4, 2), (74, .iload 6, 2), (76, .iconst (-1), 1), (77, .if_icmp .eq 20, 3), (80, .iload 4, 2), (82, .iload 8, 2), (84, .ishr, 1), (85, .iconst 1, 1), (86, .iand, 1), (87, .ifCond .eq 10, 3), (90, .iload_n 3, 1), (91, .iconst 1, 1), (92, .iload 6, 2), (94, .ishl, 1), (95, .ior, 1), (96, .istore_n 3, 1), (97, .iload 8, 2), (99, .istore 6, 2)]
theorem b_Shape_isLoose_0 : (t_Shape_isLoose_0.all fun q => decide (decode q_Shape_isLoose.2.1 q.1 = .ok (q.2.1, q.2.2))) = true := by decide +kernel
def t_Shape_isLoose_1 : List (Nat × Instr × Nat) := [(101, .iinc 7 1, 3), (104, .goto (-83), 3), (107, .iinc 5 1, 3), (110, .goto (-102), 3), (113, .iload 4, 2), (115, .iload_n 2, 1), (116, .iand, 1), (117, .ifCond .ne 7, 3), (120, .iconst 1, 1), (121, .goto 4, 3), (124, .iconst 0, 1), (125, .ireturn, 1)]
theorem b_Shape_isLoose_1 : (t_Shape_isLoose_1.all fun q => decide (decode q_Shape_isLoose.2.1 q.1 = .ok (q.2.1, q.2.2))) = true := by decide +kernel
theorem d_Shape_isLoose_0 : vm_D q_Shape_isLoose.2.1 0 1 1 (.iload_n 2) := vm_dD b_Shape_isLoose_0 0 rfl rfl
theorem d_Shape_isLoose_1 : vm_D q_Shape_isLoose.2.1 1 1 2 (.istore_n 3) := vm_dD b_Shape_isLoose_0 1 rfl rfl
theorem d_Shape_isLoose_2 : vm_D q_Shape_isLoose.2.1 2 1 3 (.iconst 0) := vm_dD b_Shape_isLoose_0 2 rfl rfl
theorem d_Shape_isLoose_3 : vm_D q_Shape_isLoose.2.1 3 2 5 (.istore 4) := vm_dD b_Shape_isLoose_0 3 rfl rfl
theorem d_Shape_isLoose_5 : vm_D q_Shape_isLoose.2.1 5 1 6 (.iconst 0) := vm_dD b_Shape_isLoose_0 4 rfl rfl
theorem d_Shape_isLoose_6 : vm_D q_Shape_isLoose.2.1 6 2 8 (.istore 5) := vm_dD b_Shape_isLoose_0 5 rfl rfl
theorem d_Shape_isLoose_8 : vm_D q_Shape_isLoose.2.1 8 2 10 (.iload 5) := vm_dD b_Shape_isLoose_0 6 rfl rfl
theorem d_Shape_isLoose_10 : vm_D q_Shape_isLoose.2.1 10 2 12 (.bipush 6) := vm_dD b_Shape_isLoose_0 7 rfl rfl
theorem d_Shape_isLoose_12 : vm_B q_Shape_isLoose.2.1 12 15 113 (fun o => .if_icmp .ge o) := ⟨101, vm_db b_Shape_isLoose_0 (i := 8) rfl, rfl, by decide⟩
theorem d_Shape_isLoose_15 : vm_D q_Shape_isLoose.2.1 15 1 16 (.iconst (-1)) := vm_dD b_Shape_isLoose_0 9 rfl rfl
theorem d_Shape_isLoose_16 : vm_D q_Shape_isLoose.2.1 16 2 18 (.istore 6) := vm_dD b_Shape_isLoose_0 10 rfl rfl
theorem d_Shape_isLoose_18 : vm_D q_Shape_isLoose.2.1 18 1 19 (.iconst 0) := vm_dD b_Shape_isLoose_0 11 rfl rfl
theorem d_Shape_isLoose_19 : vm_D q_Shape_isLoose.2.1 19 2 21 (.istore 7) := vm_dD b_Shape_isLoose_0 12 rfl rfl
theorem d_Shape_isLoose_21 : vm_D q_Shape_isLoose.2.1 21 2 23 (.iload 7) := vm_dD b_Shape_isLoose_0 13 rfl rfl
theorem d_Shape_isLoose_23 : vm_D q_Shape_isLoose.2.1 23 1 24 (.aload_n 0) := vm_dD b_Shape_isLoose_0 14 rfl rfl
theorem d_Shape_isLoose_24 : vm_D q_Shape_isLoose.2.1 24 3 27 (.getfield 22) := vm_dD b_Shape_isLoose_0 15 rfl rfl
theorem d_Shape_isLoose_27 : vm_B q_Shape_isLoose.2.1 27 30 107 (fun o => .if_icmp .ge o) := ⟨80, vm_db b_Shape_isLoose_0 (i := 16) rfl, rfl, by decide⟩
theorem d_Shape_isLoose_30 : vm_D q_Shape_isLoose.2.1 30 1 31 (.aload_n 0) := vm_dD b_Shape_isLoose_0 17 rfl rfl
theorem d_Shape_isLoose_31 : vm_D q_Shape_isLoose.2.1 31 2 33 (.iload 7) := vm_dD b_Shape_isLoose_0 18 rfl rfl
theorem d_Shape_isLoose_33 : vm_D q_Shape_isLoose.2.1 33 3 36 (.invokevirtual 43) := vm_dD b_Shape_isLoose_0 19 rfl rfl
theorem d_Shape_isLoose_36 : vm_D q_Shape_isLoose.2.1 36 2 38 (.istore 8) := vm_dD b_Shape_isLoose_0 20 rfl rfl
theorem d_Shape_isLoose_38 : vm_D q_Shape_isLoose.2.1 38 1 39 (.iload_n 1) := vm_dD b_Shape_isLoose_0 21 rfl rfl
theorem d_Shape_isLoose_39 : vm_D q_Shape_isLoose.2.1 39 2 41 (.iload 8) := vm_dD b_Shape_isLoose_0 22 rfl rfl
theorem d_Shape_isLoose_41 : vm_D q_Shape_isLoose.2.1 41 1 42 (.ishr) := vm_dD b_Shape_isLoose_0 23 rfl rfl
theorem d_Shape_isLoose_42 : vm_D q_Shape_isLoose.2.1 42 1 43 (.iconst 1) := vm_dD b_Shape_isLoose_0 24 rfl rfl
theorem d_Shape_isLoose_43 : vm_D q_Shape_isLoose.2.1 43 1 44 (.iand) := vm_dD b_Shape_isLoose_0 25 rfl rfl
theorem d_Shape_isLoose_44 : vm_B q_Shape_isLoose.2.1 44 47 50 (fun o => .ifCond .ne o) := ⟨6, vm_db b_Shape_isLoose_0 (i := 26) rfl, rfl, by decide⟩
theorem d_Shape_isLoose_101 : vm_D q_Shape_isLoose.2.1 101 3 104 (.iinc 7 1) := vm_dD b_Shape_isLoose_1 0 rfl rfl
theorem d_Shape_isLoose_104 : ∃ off : Int, decode q_Shape_isLoose.2.1 104 = .ok (.goto off, 3) ∧ ((104 : Nat) : Int) + off = ((21 : Nat) : Int) := ⟨-83, vm_db b_Shape_isLoose_1 (i := 1) rfl, by decide⟩
theorem d_Shape_isLoose_50 : vm_D q_Shape_isLoose.2.1 50 2 52 (.iload 6) := vm_dD b_Shape_isLoose_0 28 rfl rfl
theorem d_Shape_isLoose_52 : vm_D q_Shape_isLoose.2.1 52 1 53 (.iconst (-1)) := vm_dD b_Shape_isLoose_0 29 rfl rfl
theorem d_Shape_isLoose_53 : vm_B q_Shape_isLoose.2.1 53 56 74 (fun o => .if_icmp .eq o) := ⟨21, vm_db b_Shape_isLoose_0 (i := 30) rfl, rfl, by decide⟩
theorem d_Shape_isLoose_74 : vm_D q_Shape_isLoose.2.1 74 2 76 (.iload 6) := vm_dD b_Shape_isLoose_0 43 rfl rfl
theorem d_Shape_isLoose_76 : vm_D q_Shape_isLoose.2.1 76 1 77 (.iconst (-1)) := vm_dD b_Shape_isLoose_0 44 rfl rfl
theorem d_Shape_isLoose_77 : vm_B q_Shape_isLoose.2.1 77 80 97 (fun o => .if_icmp .eq o) := ⟨20, vm_db b_Shape_isLoose_0 (i := 45) rfl, rfl, by decide⟩
theorem d_Shape_isLoose_97 : vm_D q_Shape_isLoose.2.1 97 2 99 (.iload 8) := vm_dD b_Shape_isLoose_0 58 rfl rfl
theorem d_Shape_isLoose_99 : vm_D q_Shape_isLoose.2.1 99 2 101 (.istore 6) := vm_dD b_Shape_isLoose_0 59 rfl rfl
theorem d_Shape_isLoose_80 : vm_D q_Shape_isLoose.2.1 80 2 82 (.iload 4) := vm_dD b_Shape_isLoose_0 46 rfl rfl
theorem d_Shape_isLoose_82 : vm_D q_Shape_isLoose.2.1 82 2 84 (.iload 8) := vm_dD b_Shape_isLoose_0 47 rfl rfl
theorem d_Shape_isLoose_84 : vm_D q_Shape_isLoose.2.1 84 1 85 (.ishr) := vm_dD b_Shape_isLoose_0 48 rfl rfl
theorem d_Shape_isLoose_85 : vm_D q_Shape_isLoose.2.1 85 1 86 (.iconst 1) := vm_dD b_Shape_isLoose_0 49 rfl rfl
theorem d_Shape_isLoose_86 : vm_D q_Shape_isLoose.2.1 86 1 87 (.iand) := vm_dD b_Shape_isLoose_0 50 rfl rfl
theorem d_Shape_isLoose_87 : vm_B q_Shape_isLoose.2.1 87 90 97 (fun o => .ifCond .eq o) := ⟨10, vm_db b_Shape_isLoose_0 (i := 51) rfl, rfl, by decide⟩
theorem d_Shape_isLoose_90 : vm_D q_Shape_isLoose.2.1 90 1 91 (.iload_n 3) := vm_dD b_Shape_isLoose_0 52 rfl rfl
theorem d_Shape_isLoose_91 : vm_D q_Shape_isLoose.2.1 91 1 92 (.iconst 1) := vm_dD b_Shape_isLoose_0 53 rfl rfl
theorem d_Shape_isLoose_92 : vm_D q_Shape_isLoose.2.1 92 2 94 (.iload 6) := vm_dD b_Shape_isLoose_0 54 rfl rfl
theorem d_Shape_isLoose_94 : vm_D q_Shape_isLoose.2.1 94 1 95 (.ishl) := vm_dD b_Shape_isLoose_0 55 rfl rfl
theorem d_Shape_isLoose_95 : vm_D q_Shape_isLoose.2.1 95 1 96 (.ior) := vm_dD b_Shape_isLoose_0 56 rfl rfl
theorem d_Shape_isLoose_96 : vm_D q_Shape_isLoose.2.1 96 1 97 (.istore_n 3) := vm_dD b_Shape_isLoose_0 57 rfl rfl
theorem d_Shape_isLoose_56 : vm_D q_Shape_isLoose.2.1 56 1 57 (.iload_n 3) := vm_dD b_Shape_isLoose_0 31 rfl rfl
theorem d_Shape_isLoose_57 : vm_D q_Shape_isLoose.2.1 57 2 59 (.iload 6) := vm_dD b_Shape_isLoose_0 32 rfl rfl
theorem d_Shape_isLoose_59 : vm_D q_Shape_isLoose.2.1 59 1 60 (.ishr) := vm_dD b_Shape_isLoose_0 33 rfl rfl
theorem d_Shape_isLoose_60 : vm_D q_Shape_isLoose.2.1 60 1 61 (.iconst 1) := vm_dD b_Shape_isLoose_0 34 rfl rfl
theorem d_Shape_isLoose_61 : vm_D q_Shape_isLoose.2.1 61 1 62 (.iand) := vm_dD b_Shape_isLoose_0 35 rfl rfl
theorem d_Shape_isLoose_62 : vm_B q_Shape_isLoose.2.1 62 65 74 (fun o => .ifCond .eq o) := ⟨12, vm_db b_Shape_isLoose_0 (i := 36) rfl, rfl, by decide⟩
theorem d_Shape_isLoose_65 : vm_D q_Shape_isLoose.2.1 65 2 67 (.iload 4) := vm_dD b_Shape_isLoose_0 37 rfl rfl
theorem d_Shape_isLoose_67 : vm_D q_Shape_isLoose.2.1 67 1 68 (.iconst 1) := vm_dD b_Shape_isLoose_0 38 rfl rfl
theorem d_Shape_isLoose_68 : vm_D q_Shape_isLoose.2.1 68 2 70 (.iload 8) := vm_dD b_Shape_isLoose_0 39 rfl rfl
theorem d_Shape_isLoose_70 : vm_D q_Shape_isLoose.2.1 70 1 71 (.ishl) := vm_dD b_Shape_isLoose_0 40 rfl rfl
theorem d_Shape_isLoose_71 : vm_D q_Shape_isLoose.2.1 71 1 72 (.ior) := vm_dD b_Shape_isLoose_0 41 rfl rfl
theorem d_Shape_isLoose_72 : vm_D q_Shape_isLoose.2.1 72 2 74 (.istore 4) := vm_dD b_Shape_isLoose_0 42 rfl rfl
theorem d_Shape_isLoose_47 : ∃ off : Int, decode q_Shape_isLoose.2.1 47 = .ok (.goto off, 3) ∧ ((47 : Nat) : Int) + off = ((101 : Nat) : Int) := ⟨54, vm_db b_Shape_isLoose_0 (i := 27) rfl, by decide⟩
theorem d_Shape_isLoose_107 : vm_D q_Shape_isLoose.2.1 107 3 110 (.iinc 5 1) := vm_dD b_Shape_isLoose_1 2 rfl rfl
theorem d_Shape_isLoose_110 : ∃ off : Int, decode q_Shape_isLoose.2.1 110 = .ok (.goto off, 3) ∧ ((110 : Nat) : Int) + off = ((8 : Nat) : Int) := ⟨-102, vm_db b_Shape_isLoose_1 (i := 3) rfl, by decide⟩
theorem d_Shape_isLoose_113 : vm_D q_Shape_isLoose.2.1 113 2 115 (.iload 4) := vm_dD b_Shape_isLoose_1 4 rfl rfl
theorem d_Shape_isLoose_115 : vm_D q_Shape_isLoose.2.1 115 1 116 (.iload_n 2) := vm_dD b_Shape_isLoose_1 5 rfl rfl
theorem d_Shape_isLoose_116 : vm_D q_Shape_isLoose.2.1 116 1 117 (.iand) := vm_dD b_Shape_isLoose_1 6 rfl rfl
theorem d_Shape_isLoose_117 : vm_B q_Shape_isLoose.2.1 117 120 124 (fun o => .ifCond .ne o) := ⟨7, vm_db b_Shape_isLoose_1 (i := 7) rfl, rfl, by decide⟩
theorem d_Shape_isLoose_124 : vm_D q_Shape_isLoose.2.1 124 1 125 (.iconst 0) := vm_dD b_Shape_isLoose_1 10 rfl rfl
theorem d_Shape_isLoose_125 : vm_D q_Shape_isLoose.2.1 125 1 126 (.ireturn) := vm_dD b_Shape_isLoose_1 11 rfl rfl
theorem d_Shape_isLoose_120 : vm_D q_Shape_isLoose.2.1 120 1 121 (.iconst 1) := vm_dD b_Shape_isLoose_1 8 rfl rfl
theorem d_Shape_isLoose_121 : ∃ off : Int, decode q_Shape_isLoose.2.1 121 = .ok (.goto off, 3) ∧ ((121 : Nat) : Int) + off = ((125 : Nat) : Int) := ⟨4, vm_db b_Shape_isLoose_1 (i := 9) rfl, by decide⟩
def q_Shape_losesSome : vm_Y := ("RepeatFree$Shape", cX6_losesSome, 4, false, [])
def t_Shape_losesSome_0 : List (Nat × Instr × Nat) := [(0, .iconst 1, 1), (1, .istore_n 3, 1), (2, .iload_n 3, 1), (3, .iload_n 1, 1), (4, .if_icmp .ge 40, 3), (7, .iload_n 3, 1), (8, .iload_n 1, 1), (9, .iconst (-1), 1), (10, .ixor, 1), (11, .iand, 1), (12, .ifCond .ne 26, 3), (15, .iload_n 2, 1), (16, .iload_n 1, 1), (17, .iload_n 3, 1), (18, .iconst (-1), 1), (19, .ixor, 1), (20, .iand, 1), (21, .ishr, 1), (22, .iconst 1, 1), (23, .iand, 1), (24, .ifCond .eq 14, 3), (27, .aload_n 0, 1), (28, .iload_n 1, 1), (29, .iload_n 3, 1), (30, .invokevirtual 57, 3), (33, .ifCond .eq 5, 3), (36, .iconst 1, 1), (37, .ireturn, 1), (38, .iinc 3 1, 3), (41, .goto (-39), 3), (44, .iconst 0, 1), (45, .ireturn, 1)]
theorem b_Shape_losesSome_0 : (t_Shape_losesSome_0.all fun q => decide (decode q_Shape_losesSome.2.1 q.1 = .ok (q.2.1, q.2.2))) = true := by decide +kernel
theorem d_Shape_losesSome_0 : vm_D q_Shape_losesSome.2.1 0 1 1 (.iconst 1) := vm_dD b_Shape_losesSome_0 0 rfl rfl
theorem d_Shape_losesSome_1 : vm_D q_Shape_losesSome.2.1 1 1 2 (.istore_n 3) := vm_dD b_Shape_losesSome_0 1 rfl rfl
theorem d_Shape_losesSome_2 : vm_D q_Shape_losesSome.2.1 2 1 3 (.iload_n 3) := vm_dD b_Shape_losesSome_0 2 rfl rfl
theorem d_Shape_losesSome_3 : vm_D q_Shape_losesSome.2.1 3 1 4 (.iload_n 1) := vm_dD b_Shape_losesSome_0 3 rfl rfl
theorem d_Shape_losesSome_4 : vm_B q_Shape_losesSome.2.1 4 7 44 (fun o => .if_icmp .ge o) := ⟨40, vm_db b_Shape_losesSome_0 (i := 4) rfl, rfl, by decide⟩
theorem d_Shape_losesSome_7 : vm_D q_Shape_losesSome.2.1 7 1 8 (.iload_n 3) := vm_dD b_Shape_losesSome_0 5 rfl rfl
theorem d_Shape_losesSome_8 : vm_D q_Shape_losesSome.2.1 8 1 9 (.iload_n 1) := vm_dD b_Shape_losesSome_0 6 rfl rfl
theorem d_Shape_losesSome_9 : vm_D q_Shape_losesSome.2.1 9 1 10 (.iconst (-1)) := vm_dD b_Shape_losesSome_0 7 rfl rfl
theorem d_Shape_losesSome_10 : vm_D q_Shape_losesSome.2.1 10 1 11 (.ixor) := vm_dD b_Shape_losesSome_0 8 rfl rfl
theorem d_Shape_losesSome_11 : vm_D q_Shape_losesSome.2.1 11 1 12 (.iand) := vm_dD b_Shape_losesSome_0 9 rfl rfl
theorem d_Shape_losesSome_12 : vm_B q_Shape_losesSome.2.1 12 15 38 (fun o => .ifCond .ne o) := ⟨26, vm_db b_Shape_losesSome_0 (i := 10) rfl, rfl, by decide⟩
theorem d_Shape_losesSome_38 : vm_D q_Shape_losesSome.2.1 38 3 41 (.iinc 3 1) := vm_dD b_Shape_losesSome_0 28 rfl rfl
theorem d_Shape_losesSome_41 : ∃ off : Int, decode q_Shape_losesSome.2.1 41 = .ok (.goto off, 3) ∧ ((41 : Nat) : Int) + off = ((2 : Nat) : Int) := ⟨-39, vm_db b_Shape_losesSome_0 (i := 29) rfl, by decide⟩
theorem d_Shape_losesSome_15 : vm_D q_Shape_losesSome.2.1 15 1 16 (.iload_n 2) := vm_dD b_Shape_losesSome_0 11 rfl rfl
theorem d_Shape_losesSome_16 : vm_D q_Shape_losesSome.2.1 16 1 17 (.iload_n 1) := vm_dD b_Shape_losesSome_0 12 rfl rfl
theorem d_Shape_losesSome_17 : vm_D q_Shape_losesSome.2.1 17 1 18 (.iload_n 3) := vm_dD b_Shape_losesSome_0 13 rfl rfl
theorem d_Shape_losesSome_18 : vm_D q_Shape_losesSome.2.1 18 1 19 (.iconst (-1)) := vm_dD b_Shape_losesSome_0 14 rfl rfl
theorem d_Shape_losesSome_19 : vm_D q_Shape_losesSome.2.1 19 1 20 (.ixor) := vm_dD b_Shape_losesSome_0 15 rfl rfl
theorem d_Shape_losesSome_20 : vm_D q_Shape_losesSome.2.1 20 1 21 (.iand) := vm_dD b_Shape_losesSome_0 16 rfl rfl
theorem d_Shape_losesSome_21 : vm_D q_Shape_losesSome.2.1 21 1 22 (.ishr) := vm_dD b_Shape_losesSome_0 17 rfl rfl
theorem d_Shape_losesSome_22 : vm_D q_Shape_losesSome.2.1 22 1 23 (.iconst 1) := vm_dD b_Shape_losesSome_0 18 rfl rfl
theorem d_Shape_losesSome_23 : vm_D q_Shape_losesSome.2.1 23 1 24 (.iand) := vm_dD b_Shape_losesSome_0 19 rfl rfl
theorem d_Shape_losesSome_24 : vm_B q_Shape_losesSome.2.1 24 27 38 (fun o => .ifCond .eq o) := ⟨14, vm_db b_Shape_losesSome_0 (i := 20) rfl, rfl, by decide⟩
theorem d_Shape_losesSome_27 : vm_D q_Shape_losesSome.2.1 27 1 28 (.aload_n 0) := vm_dD b_Shape_losesSome_0 21 rfl rfl
theorem d_Shape_losesSome_28 : vm_D q_Shape_losesSome.2.1 28 1 29 (.iload_n 1) := vm_dD b_Shape_losesSome_0 22 rfl rfl
theorem d_Shape_losesSome_29 : vm_D q_Shape_losesSome.2.1 29 1 30 (.iload_n 3) := vm_dD b_Shape_losesSome_0 23 rfl rfl
theorem d_Shape_losesSome_30 : vm_D q_Shape_losesSome.2.1 30 3 33 (.invokevirtual 57) := vm_dD b_Shape_losesSome_0 24 rfl rfl
theorem d_Shape_losesSome_33 : vm_B q_Shape_losesSome.2.1 33 36 38 (fun o => .ifCond .eq o) := ⟨5, vm_db b_Shape_losesSome_0 (i := 25) rfl, rfl, by decide⟩
theorem d_Shape_losesSome_36 : vm_D q_Shape_losesSome.2.1 36 1 37 (.iconst 1) := vm_dD b_Shape_losesSome_0 26 rfl rfl
theorem d_Shape_losesSome_37 : vm_D q_Shape_losesSome.2.1 37 1 38 (.ireturn) := vm_dD b_Shape_losesSome_0 27 rfl rfl
theorem d_Shape_losesSome_44 : vm_D q_Shape_losesSome.2.1 44 1 45 (.iconst 0) := vm_dD b_Shape_losesSome_0 30 rfl rfl
theorem d_Shape_losesSome_45 : vm_D q_Shape_losesSome.2.1 45 1 46 (.ireturn) := vm_dD b_Shape_losesSome_0 31 rfl rfl
def q_Shape_sizeWithin : vm_Y := ("RepeatFree$Shape", cX6_sizeWithin, 4, false, [])
def t_Shape_sizeWithin_0 : List (Nat × Instr × Nat) := [(0, .iconst 0, 1), (1, .istore_n 2, 1), (2, .iconst 0, 1), (3, .istore_n 3, 1), (4, .iload_n 3, 1), (5, .aload_n 0, 1), (6, .getfield 22, 3), (9, .if_icmp .ge 21, 3), (12, .iload_n 2, 1), (13, .iload_n 1, 1), (14, .aload_n 0, 1), (15, .iload_n 3, 1), (16, .invokevirtual 43, 3), (19, .ishr, 1), (20, .iconst 1, 1), (21, .iand, 1), (22, .iadd, 1), (23, .istore_n 2, 1), (24, .iinc 3 1, 3), (27, .goto (-23), 3), (30, .iload_n 2, 1), (31, .ireturn, 1)]
theorem b_Shape_sizeWithin_0 : (t_Shape_sizeWithin_0.all fun q => decide (decode q_Shape_sizeWithin.2.1 q.1 = .ok (q.2.1, q.2.2))) = true := by decide +kernel
theorem d_Shape_sizeWithin_0 : vm_D q_Shape_sizeWithin.2.1 0 1 1 (.iconst 0) := vm_dD b_Shape_sizeWithin_0 0 rfl rfl
theorem d_Shape_sizeWithin_1 : vm_D q_Shape_sizeWithin.2.1 1 1 2 (.istore_n 2) := vm_dD b_Shape_sizeWithin_0 1 rfl rfl
theorem d_Shape_sizeWithin_2 : vm_D q_Shape_sizeWithin.2.1 2 1 3 (.iconst 0) := vm_dD b_Shape_sizeWithin_0 2 rfl rfl
theorem d_Shape_sizeWithin_3 : vm_D q_Shape_sizeWithin.2.1 3 1 4 (.istore_n 3) := vm_dD b_Shape_sizeWithin_0 3 rfl rfl
theorem d_Shape_sizeWithin_4 : vm_D q_Shape_sizeWithin.2.1 4 1 5 (.iload_n 3) := vm_dD b_Shape_sizeWithin_0 4 rfl rfl
theorem d_Shape_sizeWithin_5 : vm_D q_Shape_sizeWithin.2.1 5 1 6 (.aload_n 0) := vm_dD b_Shape_sizeWithin_0 5 rfl rfl
theorem d_Shape_sizeWithin_6 : vm_D q_Shape_sizeWithin.2.1 6 3 9 (.getfield 22) := vm_dD b_Shape_sizeWithin_0 6 rfl rfl
theorem d_Shape_sizeWithin_9 : vm_B q_Shape_sizeWithin.2.1 9 12 30 (fun o => .if_icmp .ge o) := ⟨21, vm_db b_Shape_sizeWithin_0 (i := 7) rfl, rfl, by decide⟩
theorem d_Shape_sizeWithin_12 : vm_D q_Shape_sizeWithin.2.1 12 1 13 (.iload_n 2) := vm_dD b_Shape_sizeWithin_0 8 rfl rfl
theorem d_Shape_sizeWithin_13 : vm_D q_Shape_sizeWithin.2.1 13 1 14 (.iload_n 1) := vm_dD b_Shape_sizeWithin_0 9 rfl rfl
theorem d_Shape_sizeWithin_14 : vm_D q_Shape_sizeWithin.2.1 14 1 15 (.aload_n 0) := vm_dD b_Shape_sizeWithin_0 10 rfl rfl
theorem d_Shape_sizeWithin_15 : vm_D q_Shape_sizeWithin.2.1 15 1 16 (.iload_n 3) := vm_dD b_Shape_sizeWithin_0 11 rfl rfl
theorem d_Shape_sizeWithin_16 : vm_D q_Shape_sizeWithin.2.1 16 3 19 (.invokevirtual 43) := vm_dD b_Shape_sizeWithin_0 12 rfl rfl
theorem d_Shape_sizeWithin_19 : vm_D q_Shape_sizeWithin.2.1 19 1 20 (.ishr) := vm_dD b_Shape_sizeWithin_0 13 rfl rfl
theorem d_Shape_sizeWithin_20 : vm_D q_Shape_sizeWithin.2.1 20 1 21 (.iconst 1) := vm_dD b_Shape_sizeWithin_0 14 rfl rfl
theorem d_Shape_sizeWithin_21 : vm_D q_Shape_sizeWithin.2.1 21 1 22 (.iand) := vm_dD b_Shape_sizeWithin_0 15 rfl rfl
theorem d_Shape_sizeWithin_22 : vm_D q_Shape_sizeWithin.2.1 22 1 23 (.iadd) := vm_dD b_Shape_sizeWithin_0 16 rfl rfl
theorem d_Shape_sizeWithin_23 : vm_D q_Shape_sizeWithin.2.1 23 1 24 (.istore_n 2) := vm_dD b_Shape_sizeWithin_0 17 rfl rfl
theorem d_Shape_sizeWithin_24 : vm_D q_Shape_sizeWithin.2.1 24 3 27 (.iinc 3 1) := vm_dD b_Shape_sizeWithin_0 18 rfl rfl
theorem d_Shape_sizeWithin_27 : ∃ off : Int, decode q_Shape_sizeWithin.2.1 27 = .ok (.goto off, 3) ∧ ((27 : Nat) : Int) + off = ((4 : Nat) : Int) := ⟨-23, vm_db b_Shape_sizeWithin_0 (i := 19) rfl, by decide⟩
theorem d_Shape_sizeWithin_30 : vm_D q_Shape_sizeWithin.2.1 30 1 31 (.iload_n 2) := vm_dD b_Shape_sizeWithin_0 20 rfl rfl
theorem d_Shape_sizeWithin_31 : vm_D q_Shape_sizeWithin.2.1 31 1 32 (.ireturn) := vm_dD b_Shape_sizeWithin_0 21 rfl rfl
def q_Shape_variables : vm_Y := ("RepeatFree$Shape", cX6_variables, 3, false, [])
def t_Shape_variables_0 : List (Nat × Instr × Nat) := [(0, .iconst 0, 1), (1, .istore_n 1, 1), (2, .iconst 0, 1), (3, .istore_n 2, 1), (4, .iload_n 2, 1), (5, .aload_n 0, 1), (6, .getfield 22, 3), (9, .if_icmp .ge 19, 3), (12, .iload_n 1, 1), (13, .iconst 1, 1), (14, .aload_n 0, 1), (15, .iload_n 2, 1), (16, .invokevirtual 43, 3), (19, .ishl, 1), (20, .ior, 1), (21, .istore_n 1, 1), (22, .iinc 2 1, 3), (25, .goto (-21), 3), (28, .iload_n 1, 1), (29, .ireturn, 1)]
theorem b_Shape_variables_0 : (t_Shape_variables_0.all fun q => decide (decode q_Shape_variables.2.1 q.1 = .ok (q.2.1, q.2.2))) = true := by decide +kernel
theorem d_Shape_variables_0 : vm_D q_Shape_variables.2.1 0 1 1 (.iconst 0) := vm_dD b_Shape_variables_0 0 rfl rfl
theorem d_Shape_variables_1 : vm_D q_Shape_variables.2.1 1 1 2 (.istore_n 1) := vm_dD b_Shape_variables_0 1 rfl rfl
theorem d_Shape_variables_2 : vm_D q_Shape_variables.2.1 2 1 3 (.iconst 0) := vm_dD b_Shape_variables_0 2 rfl rfl
theorem d_Shape_variables_3 : vm_D q_Shape_variables.2.1 3 1 4 (.istore_n 2) := vm_dD b_Shape_variables_0 3 rfl rfl
theorem d_Shape_variables_4 : vm_D q_Shape_variables.2.1 4 1 5 (.iload_n 2) := vm_dD b_Shape_variables_0 4 rfl rfl
theorem d_Shape_variables_5 : vm_D q_Shape_variables.2.1 5 1 6 (.aload_n 0) := vm_dD b_Shape_variables_0 5 rfl rfl
theorem d_Shape_variables_6 : vm_D q_Shape_variables.2.1 6 3 9 (.getfield 22) := vm_dD b_Shape_variables_0 6 rfl rfl
theorem d_Shape_variables_9 : vm_B q_Shape_variables.2.1 9 12 28 (fun o => .if_icmp .ge o) := ⟨19, vm_db b_Shape_variables_0 (i := 7) rfl, rfl, by decide⟩
theorem d_Shape_variables_12 : vm_D q_Shape_variables.2.1 12 1 13 (.iload_n 1) := vm_dD b_Shape_variables_0 8 rfl rfl
theorem d_Shape_variables_13 : vm_D q_Shape_variables.2.1 13 1 14 (.iconst 1) := vm_dD b_Shape_variables_0 9 rfl rfl
theorem d_Shape_variables_14 : vm_D q_Shape_variables.2.1 14 1 15 (.aload_n 0) := vm_dD b_Shape_variables_0 10 rfl rfl
theorem d_Shape_variables_15 : vm_D q_Shape_variables.2.1 15 1 16 (.iload_n 2) := vm_dD b_Shape_variables_0 11 rfl rfl
theorem d_Shape_variables_16 : vm_D q_Shape_variables.2.1 16 3 19 (.invokevirtual 43) := vm_dD b_Shape_variables_0 12 rfl rfl
theorem d_Shape_variables_19 : vm_D q_Shape_variables.2.1 19 1 20 (.ishl) := vm_dD b_Shape_variables_0 13 rfl rfl
theorem d_Shape_variables_20 : vm_D q_Shape_variables.2.1 20 1 21 (.ior) := vm_dD b_Shape_variables_0 14 rfl rfl
theorem d_Shape_variables_21 : vm_D q_Shape_variables.2.1 21 1 22 (.istore_n 1) := vm_dD b_Shape_variables_0 15 rfl rfl
theorem d_Shape_variables_22 : vm_D q_Shape_variables.2.1 22 3 25 (.iinc 2 1) := vm_dD b_Shape_variables_0 16 rfl rfl
theorem d_Shape_variables_25 : ∃ off : Int, decode q_Shape_variables.2.1 25 = .ok (.goto off, 3) ∧ ((25 : Nat) : Int) + off = ((4 : Nat) : Int) := ⟨-21, vm_db b_Shape_variables_0 (i := 17) rfl, by decide⟩
theorem d_Shape_variables_28 : vm_D q_Shape_variables.2.1 28 1 29 (.iload_n 1) := vm_dD b_Shape_variables_0 18 rfl rfl
theorem d_Shape_variables_29 : vm_D q_Shape_variables.2.1 29 1 30 (.ireturn) := vm_dD b_Shape_variables_0 19 rfl rfl
def q_Shape_cannotBeAvoided : vm_Y := ("RepeatFree$Shape", cX6_cannotBeAvoided, 4, false, [])
def t_Shape_cannotBeAvoided_0 : List (Nat × Instr × Nat) := [(0, .aload_n 0, 1), (1, .invokevirtual 47, 3), (4, .istore_n 1, 1), (5, .iconst 0, 1), (6, .istore_n 2, 1), (7, .iconst 1, 1), (8, .istore_n 3, 1), (9, .iload_n 3, 1), (10, .iload_n 1, 1), (11, .if_icmp .gt 41, 3), (14, .iload_n 3, 1), (15, .iload_n 1, 1), (16, .iconst (-1), 1), (17, .ixor, 1), (18, .iand, 1), (19, .ifCond .ne 27, 3), (22, .aload_n 0, 1), (23, .iload_n 3, 1), (24, .invokevirtual 50, 3), (27, .iconst 1, 1), (28, .if_icmp .eq 12, 3), (31, .aload_n 0, 1), (32, .iload_n 3, 1), (33, .iload_n 2, 1), (34, .invokevirtual 53, 3), (37, .ifCond .eq 9, 3), (40, .iload_n 2, 1), (41, .iconst 1, 1), (42, .iload_n 3, 1), (43, .ishl, 1), (44, .ior, 1), (45, .istore_n 2, 1), (46, .iinc 3 1, 3), (49, .goto (-40), 3), (52, .iload_n 2, 1), (53, .iload_n 1, 1), (54, .ishr, 1), (55, .iconst 1, 1), (56, .iand, 1), (57, .ifCond .eq 7, 3), (60, .iconst 1, 1), (61, .goto 4, 3), (64, .iconst 0, 1), (65, .ireturn, 1)]
theorem b_Shape_cannotBeAvoided_0 : (t_Shape_cannotBeAvoided_0.all fun q => decide (decode q_Shape_cannotBeAvoided.2.1 q.1 = .ok (q.2.1, q.2.2))) = true := by decide +kernel
theorem d_Shape_cannotBeAvoided_0 : vm_D q_Shape_cannotBeAvoided.2.1 0 1 1 (.aload_n 0) := vm_dD b_Shape_cannotBeAvoided_0 0 rfl rfl
theorem d_Shape_cannotBeAvoided_1 : vm_D q_Shape_cannotBeAvoided.2.1 1 3 4 (.invokevirtual 47) := vm_dD b_Shape_cannotBeAvoided_0 1 rfl rfl
theorem d_Shape_cannotBeAvoided_4 : vm_D q_Shape_cannotBeAvoided.2.1 4 1 5 (.istore_n 1) := vm_dD b_Shape_cannotBeAvoided_0 2 rfl rfl
theorem d_Shape_cannotBeAvoided_5 : vm_D q_Shape_cannotBeAvoided.2.1 5 1 6 (.iconst 0) := vm_dD b_Shape_cannotBeAvoided_0 3 rfl rfl
theorem d_Shape_cannotBeAvoided_6 : vm_D q_Shape_cannotBeAvoided.2.1 6 1 7 (.istore_n 2) := vm_dD b_Shape_cannotBeAvoided_0 4 rfl rfl
theorem d_Shape_cannotBeAvoided_7 : vm_D q_Shape_cannotBeAvoided.2.1 7 1 8 (.iconst 1) := vm_dD b_Shape_cannotBeAvoided_0 5 rfl rfl
theorem d_Shape_cannotBeAvoided_8 : vm_D q_Shape_cannotBeAvoided.2.1 8 1 9 (.istore_n 3) := vm_dD b_Shape_cannotBeAvoided_0 6 rfl rfl
theorem d_Shape_cannotBeAvoided_9 : vm_D q_Shape_cannotBeAvoided.2.1 9 1 10 (.iload_n 3) := vm_dD b_Shape_cannotBeAvoided_0 7 rfl rfl
theorem d_Shape_cannotBeAvoided_10 : vm_D q_Shape_cannotBeAvoided.2.1 10 1 11 (.iload_n 1) := vm_dD b_Shape_cannotBeAvoided_0 8 rfl rfl
theorem d_Shape_cannotBeAvoided_11 : vm_B q_Shape_cannotBeAvoided.2.1 11 14 52 (fun o => .if_icmp .gt o) := ⟨41, vm_db b_Shape_cannotBeAvoided_0 (i := 9) rfl, rfl, by decide⟩
theorem d_Shape_cannotBeAvoided_14 : vm_D q_Shape_cannotBeAvoided.2.1 14 1 15 (.iload_n 3) := vm_dD b_Shape_cannotBeAvoided_0 10 rfl rfl
theorem d_Shape_cannotBeAvoided_15 : vm_D q_Shape_cannotBeAvoided.2.1 15 1 16 (.iload_n 1) := vm_dD b_Shape_cannotBeAvoided_0 11 rfl rfl
theorem d_Shape_cannotBeAvoided_16 : vm_D q_Shape_cannotBeAvoided.2.1 16 1 17 (.iconst (-1)) := vm_dD b_Shape_cannotBeAvoided_0 12 rfl rfl
theorem d_Shape_cannotBeAvoided_17 : vm_D q_Shape_cannotBeAvoided.2.1 17 1 18 (.ixor) := vm_dD b_Shape_cannotBeAvoided_0 13 rfl rfl
theorem d_Shape_cannotBeAvoided_18 : vm_D q_Shape_cannotBeAvoided.2.1 18 1 19 (.iand) := vm_dD b_Shape_cannotBeAvoided_0 14 rfl rfl
theorem d_Shape_cannotBeAvoided_19 : vm_B q_Shape_cannotBeAvoided.2.1 19 22 46 (fun o => .ifCond .ne o) := ⟨27, vm_db b_Shape_cannotBeAvoided_0 (i := 15) rfl, rfl, by decide⟩
theorem d_Shape_cannotBeAvoided_46 : vm_D q_Shape_cannotBeAvoided.2.1 46 3 49 (.iinc 3 1) := vm_dD b_Shape_cannotBeAvoided_0 32 rfl rfl
theorem d_Shape_cannotBeAvoided_49 : ∃ off : Int, decode q_Shape_cannotBeAvoided.2.1 49 = .ok (.goto off, 3) ∧ ((49 : Nat) : Int) + off = ((9 : Nat) : Int) := ⟨-40, vm_db b_Shape_cannotBeAvoided_0 (i := 33) rfl, by decide⟩
theorem d_Shape_cannotBeAvoided_22 : vm_D q_Shape_cannotBeAvoided.2.1 22 1 23 (.aload_n 0) := vm_dD b_Shape_cannotBeAvoided_0 16 rfl rfl
theorem d_Shape_cannotBeAvoided_23 : vm_D q_Shape_cannotBeAvoided.2.1 23 1 24 (.iload_n 3) := vm_dD b_Shape_cannotBeAvoided_0 17 rfl rfl
theorem d_Shape_cannotBeAvoided_24 : vm_D q_Shape_cannotBeAvoided.2.1 24 3 27 (.invokevirtual 50) := vm_dD b_Shape_cannotBeAvoided_0 18 rfl rfl
theorem d_Shape_cannotBeAvoided_27 : vm_D q_Shape_cannotBeAvoided.2.1 27 1 28 (.iconst 1) := vm_dD b_Shape_cannotBeAvoided_0 19 rfl rfl
theorem d_Shape_cannotBeAvoided_28 : vm_B q_Shape_cannotBeAvoided.2.1 28 31 40 (fun o => .if_icmp .eq o) := ⟨12, vm_db b_Shape_cannotBeAvoided_0 (i := 20) rfl, rfl, by decide⟩
theorem d_Shape_cannotBeAvoided_40 : vm_D q_Shape_cannotBeAvoided.2.1 40 1 41 (.iload_n 2) := vm_dD b_Shape_cannotBeAvoided_0 26 rfl rfl
theorem d_Shape_cannotBeAvoided_41 : vm_D q_Shape_cannotBeAvoided.2.1 41 1 42 (.iconst 1) := vm_dD b_Shape_cannotBeAvoided_0 27 rfl rfl
theorem d_Shape_cannotBeAvoided_42 : vm_D q_Shape_cannotBeAvoided.2.1 42 1 43 (.iload_n 3) := vm_dD b_Shape_cannotBeAvoided_0 28 rfl rfl
theorem d_Shape_cannotBeAvoided_43 : vm_D q_Shape_cannotBeAvoided.2.1 43 1 44 (.ishl) := vm_dD b_Shape_cannotBeAvoided_0 29 rfl rfl
theorem d_Shape_cannotBeAvoided_44 : vm_D q_Shape_cannotBeAvoided.2.1 44 1 45 (.ior) := vm_dD b_Shape_cannotBeAvoided_0 30 rfl rfl
theorem d_Shape_cannotBeAvoided_45 : vm_D q_Shape_cannotBeAvoided.2.1 45 1 46 (.istore_n 2) := vm_dD b_Shape_cannotBeAvoided_0 31 rfl rfl
theorem d_Shape_cannotBeAvoided_31 : vm_D q_Shape_cannotBeAvoided.2.1 31 1 32 (.aload_n 0) := vm_dD b_Shape_cannotBeAvoided_0 21 rfl rfl
theorem d_Shape_cannotBeAvoided_32 : vm_D q_Shape_cannotBeAvoided.2.1 32 1 33 (.iload_n 3) := vm_dD b_Shape_cannotBeAvoided_0 22 rfl rfl
theorem d_Shape_cannotBeAvoided_33 : vm_D q_Shape_cannotBeAvoided.2.1 33 1 34 (.iload_n 2) := vm_dD b_Shape_cannotBeAvoided_0 23 rfl rfl
theorem d_Shape_cannotBeAvoided_34 : vm_D q_Shape_cannotBeAvoided.2.1 34 3 37 (.invokevirtual 53) := vm_dD b_Shape_cannotBeAvoided_0 24 rfl rfl
theorem d_Shape_cannotBeAvoided_37 : vm_B q_Shape_cannotBeAvoided.2.1 37 40 46 (fun o => .ifCond .eq o) := ⟨9, vm_db b_Shape_cannotBeAvoided_0 (i := 25) rfl, rfl, by decide⟩
theorem d_Shape_cannotBeAvoided_52 : vm_D q_Shape_cannotBeAvoided.2.1 52 1 53 (.iload_n 2) := vm_dD b_Shape_cannotBeAvoided_0 34 rfl rfl
theorem d_Shape_cannotBeAvoided_53 : vm_D q_Shape_cannotBeAvoided.2.1 53 1 54 (.iload_n 1) := vm_dD b_Shape_cannotBeAvoided_0 35 rfl rfl
theorem d_Shape_cannotBeAvoided_54 : vm_D q_Shape_cannotBeAvoided.2.1 54 1 55 (.ishr) := vm_dD b_Shape_cannotBeAvoided_0 36 rfl rfl
theorem d_Shape_cannotBeAvoided_55 : vm_D q_Shape_cannotBeAvoided.2.1 55 1 56 (.iconst 1) := vm_dD b_Shape_cannotBeAvoided_0 37 rfl rfl
theorem d_Shape_cannotBeAvoided_56 : vm_D q_Shape_cannotBeAvoided.2.1 56 1 57 (.iand) := vm_dD b_Shape_cannotBeAvoided_0 38 rfl rfl
theorem d_Shape_cannotBeAvoided_57 : vm_B q_Shape_cannotBeAvoided.2.1 57 60 64 (fun o => .ifCond .eq o) := ⟨7, vm_db b_Shape_cannotBeAvoided_0 (i := 39) rfl, rfl, by decide⟩
theorem d_Shape_cannotBeAvoided_64 : vm_D q_Shape_cannotBeAvoided.2.1 64 1 65 (.iconst 0) := vm_dD b_Shape_cannotBeAvoided_0 42 rfl rfl
theorem d_Shape_cannotBeAvoided_65 : vm_D q_Shape_cannotBeAvoided.2.1 65 1 66 (.ireturn) := vm_dD b_Shape_cannotBeAvoided_0 43 rfl rfl
theorem d_Shape_cannotBeAvoided_60 : vm_D q_Shape_cannotBeAvoided.2.1 60 1 61 (.iconst 1) := vm_dD b_Shape_cannotBeAvoided_0 40 rfl rfl
theorem d_Shape_cannotBeAvoided_61 : ∃ off : Int, decode q_Shape_cannotBeAvoided.2.1 61 = .ok (.goto off, 3) ∧ ((61 : Nat) : Int) + off = ((65 : Nat) : Int) := ⟨4, vm_db b_Shape_cannotBeAvoided_0 (i := 41) rfl, by decide⟩
def q_Search_behind : vm_Y := ("RepeatFree$Search", cX5_behind, 5, false, [])
def t_Search_behind_0 : List (Nat × Instr × Nat) := [(0, .iconst 0, 1), (1, .istore_n 3, 1), (2, .iconst 0, 1), (3, .istore 4, 2), (5, .iload 4, 2), (7, .aload_n 1, 1), (8, .getfield 50, 3), (11, .if_icmp .ge 50, 3), (14, .aload_n 2, 1), (15, .getfield 42, 3), (18, .bipush 64, 2), (20, .if_icmp .ge 41, 3), (23, .aload_n 2, 1), (24, .iload 4, 2), (26, .invokevirtual 55, 3), (29, .aload_n 2, 1), (30, .aload_n 1, 1), (31, .aload_n 2, 1), (32, .getfield 42, 3), (35, .iconst 1, 1), (36, .isub, 1), (37, .invokevirtual 59, 3), (40, .ifCond .ne 10, 3), (43, .iload_n 3, 1), (44, .iconst 1, 1), (45, .iload 4, 2), (47, .ishl, 1), (48, .ior, 1), (49, .istore_n 3, 1), (50, .aload_n 2, 1), (51, .invokevirtual 45, 3), (54, .pop, 1), (55, .iinc 4 1, 3), (58, .goto (-53), 3), (61, .iload_n 3, 1), (62, .ireturn, 1)]
theorem b_Search_behind_0 : (t_Search_behind_0.all fun q => decide (decode q_Search_behind.2.1 q.1 = .ok (q.2.1, q.2.2))) = true := by decide +kernel
theorem d_Search_behind_0 : vm_D q_Search_behind.2.1 0 1 1 (.iconst 0) := vm_dD b_Search_behind_0 0 rfl rfl
theorem d_Search_behind_1 : vm_D q_Search_behind.2.1 1 1 2 (.istore_n 3) := vm_dD b_Search_behind_0 1 rfl rfl
theorem d_Search_behind_2 : vm_D q_Search_behind.2.1 2 1 3 (.iconst 0) := vm_dD b_Search_behind_0 2 rfl rfl
theorem d_Search_behind_3 : vm_D q_Search_behind.2.1 3 2 5 (.istore 4) := vm_dD b_Search_behind_0 3 rfl rfl
theorem d_Search_behind_5 : vm_D q_Search_behind.2.1 5 2 7 (.iload 4) := vm_dD b_Search_behind_0 4 rfl rfl
theorem d_Search_behind_7 : vm_D q_Search_behind.2.1 7 1 8 (.aload_n 1) := vm_dD b_Search_behind_0 5 rfl rfl
theorem d_Search_behind_8 : vm_D q_Search_behind.2.1 8 3 11 (.getfield 50) := vm_dD b_Search_behind_0 6 rfl rfl
theorem d_Search_behind_11 : vm_B q_Search_behind.2.1 11 14 61 (fun o => .if_icmp .ge o) := ⟨50, vm_db b_Search_behind_0 (i := 7) rfl, rfl, by decide⟩
theorem d_Search_behind_14 : vm_D q_Search_behind.2.1 14 1 15 (.aload_n 2) := vm_dD b_Search_behind_0 8 rfl rfl
theorem d_Search_behind_15 : vm_D q_Search_behind.2.1 15 3 18 (.getfield 42) := vm_dD b_Search_behind_0 9 rfl rfl
theorem d_Search_behind_18 : vm_D q_Search_behind.2.1 18 2 20 (.bipush 64) := vm_dD b_Search_behind_0 10 rfl rfl
theorem d_Search_behind_20 : vm_B q_Search_behind.2.1 20 23 61 (fun o => .if_icmp .ge o) := ⟨41, vm_db b_Search_behind_0 (i := 11) rfl, rfl, by decide⟩
theorem d_Search_behind_23 : vm_D q_Search_behind.2.1 23 1 24 (.aload_n 2) := vm_dD b_Search_behind_0 12 rfl rfl
theorem d_Search_behind_24 : vm_D q_Search_behind.2.1 24 2 26 (.iload 4) := vm_dD b_Search_behind_0 13 rfl rfl
theorem d_Search_behind_26 : vm_D q_Search_behind.2.1 26 3 29 (.invokevirtual 55) := vm_dD b_Search_behind_0 14 rfl rfl
theorem d_Search_behind_29 : vm_D q_Search_behind.2.1 29 1 30 (.aload_n 2) := vm_dD b_Search_behind_0 15 rfl rfl
theorem d_Search_behind_30 : vm_D q_Search_behind.2.1 30 1 31 (.aload_n 1) := vm_dD b_Search_behind_0 16 rfl rfl
theorem d_Search_behind_31 : vm_D q_Search_behind.2.1 31 1 32 (.aload_n 2) := vm_dD b_Search_behind_0 17 rfl rfl
theorem d_Search_behind_32 : vm_D q_Search_behind.2.1 32 3 35 (.getfield 42) := vm_dD b_Search_behind_0 18 rfl rfl
theorem d_Search_behind_35 : vm_D q_Search_behind.2.1 35 1 36 (.iconst 1) := vm_dD b_Search_behind_0 19 rfl rfl
theorem d_Search_behind_36 : vm_D q_Search_behind.2.1 36 1 37 (.isub) := vm_dD b_Search_behind_0 20 rfl rfl
theorem d_Search_behind_37 : vm_D q_Search_behind.2.1 37 3 40 (.invokevirtual 59) := vm_dD b_Search_behind_0 21 rfl rfl
theorem d_Search_behind_40 : vm_B q_Search_behind.2.1 40 43 50 (fun o => .ifCond .ne o) := ⟨10, vm_db b_Search_behind_0 (i := 22) rfl, rfl, by decide⟩
theorem d_Search_behind_50 : vm_D q_Search_behind.2.1 50 1 51 (.aload_n 2) := vm_dD b_Search_behind_0 29 rfl rfl
theorem d_Search_behind_51 : vm_D q_Search_behind.2.1 51 3 54 (.invokevirtual 45) := vm_dD b_Search_behind_0 30 rfl rfl
theorem d_Search_behind_54 : vm_D q_Search_behind.2.1 54 1 55 (.pop) := vm_dD b_Search_behind_0 31 rfl rfl
theorem d_Search_behind_55 : vm_D q_Search_behind.2.1 55 3 58 (.iinc 4 1) := vm_dD b_Search_behind_0 32 rfl rfl
theorem d_Search_behind_58 : ∃ off : Int, decode q_Search_behind.2.1 58 = .ok (.goto off, 3) ∧ ((58 : Nat) : Int) + off = ((5 : Nat) : Int) := ⟨-53, vm_db b_Search_behind_0 (i := 33) rfl, by decide⟩
theorem d_Search_behind_43 : vm_D q_Search_behind.2.1 43 1 44 (.iload_n 3) := vm_dD b_Search_behind_0 23 rfl rfl
theorem d_Search_behind_44 : vm_D q_Search_behind.2.1 44 1 45 (.iconst 1) := vm_dD b_Search_behind_0 24 rfl rfl
theorem d_Search_behind_45 : vm_D q_Search_behind.2.1 45 2 47 (.iload 4) := vm_dD b_Search_behind_0 25 rfl rfl
theorem d_Search_behind_47 : vm_D q_Search_behind.2.1 47 1 48 (.ishl) := vm_dD b_Search_behind_0 26 rfl rfl
theorem d_Search_behind_48 : vm_D q_Search_behind.2.1 48 1 49 (.ior) := vm_dD b_Search_behind_0 27 rfl rfl
theorem d_Search_behind_49 : vm_D q_Search_behind.2.1 49 1 50 (.istore_n 3) := vm_dD b_Search_behind_0 28 rfl rfl
theorem d_Search_behind_61 : vm_D q_Search_behind.2.1 61 1 62 (.iload_n 3) := vm_dD b_Search_behind_0 34 rfl rfl
theorem d_Search_behind_62 : vm_D q_Search_behind.2.1 62 1 63 (.ireturn) := vm_dD b_Search_behind_0 35 rfl rfl
def q_Search_begin : vm_Y := ("RepeatFree$Search", cX5_begin, 5, false, [])
def t_Search_begin_0 : List (Nat × Instr × Nat) := [(0, .aload_n 0, 1), (1, .getfield 12, 3), (4, .aload_n 1, 1), (5, .iload_n 2, 1), (6, .invokevirtual 38, 3), (9, .aload_n 0, 1), (10, .iload_n 3, 1), (11, .putfield 22, 3), (14, .aload_n 0, 1), (15, .iload 4, 2), (17, .putfield 26, 3), (20, .aload_n 0, 1), (21, .iconst 0, 1), (22, .putfield 29, 3), (25, .aload_n 0, 1), (26, .iload_n 2, 1), (27, .putfield 35, 3), (30, .return_, 1)]
theorem b_Search_begin_0 : (t_Search_begin_0.all fun q => decide (decode q_Search_begin.2.1 q.1 = .ok (q.2.1, q.2.2))) = true := by decide +kernel
theorem d_Search_begin_0 : vm_D q_Search_begin.2.1 0 1 1 (.aload_n 0) := vm_dD b_Search_begin_0 0 rfl rfl
theorem d_Search_begin_1 : vm_D q_Search_begin.2.1 1 3 4 (.getfield 12) := vm_dD b_Search_begin_0 1 rfl rfl
theorem d_Search_begin_4 : vm_D q_Search_begin.2.1 4 1 5 (.aload_n 1) := vm_dD b_Search_begin_0 2 rfl rfl
theorem d_Search_begin_5 : vm_D q_Search_begin.2.1 5 1 6 (.iload_n 2) := vm_dD b_Search_begin_0 3 rfl rfl
theorem d_Search_begin_6 : vm_D q_Search_begin.2.1 6 3 9 (.invokevirtual 38) := vm_dD b_Search_begin_0 4 rfl rfl
theorem d_Search_begin_9 : vm_D q_Search_begin.2.1 9 1 10 (.aload_n 0) := vm_dD b_Search_begin_0 5 rfl rfl
theorem d_Search_begin_10 : vm_D q_Search_begin.2.1 10 1 11 (.iload_n 3) := vm_dD b_Search_begin_0 6 rfl rfl
theorem d_Search_begin_11 : vm_D q_Search_begin.2.1 11 3 14 (.putfield 22) := vm_dD b_Search_begin_0 7 rfl rfl
theorem d_Search_begin_14 : vm_D q_Search_begin.2.1 14 1 15 (.aload_n 0) := vm_dD b_Search_begin_0 8 rfl rfl
theorem d_Search_begin_15 : vm_D q_Search_begin.2.1 15 2 17 (.iload 4) := vm_dD b_Search_begin_0 9 rfl rfl
theorem d_Search_begin_17 : vm_D q_Search_begin.2.1 17 3 20 (.putfield 26) := vm_dD b_Search_begin_0 10 rfl rfl
theorem d_Search_begin_20 : vm_D q_Search_begin.2.1 20 1 21 (.aload_n 0) := vm_dD b_Search_begin_0 11 rfl rfl
theorem d_Search_begin_21 : vm_D q_Search_begin.2.1 21 1 22 (.iconst 0) := vm_dD b_Search_begin_0 12 rfl rfl
theorem d_Search_begin_22 : vm_D q_Search_begin.2.1 22 3 25 (.putfield 29) := vm_dD b_Search_begin_0 13 rfl rfl
theorem d_Search_begin_25 : vm_D q_Search_begin.2.1 25 1 26 (.aload_n 0) := vm_dD b_Search_begin_0 14 rfl rfl
theorem d_Search_begin_26 : vm_D q_Search_begin.2.1 26 1 27 (.iload_n 2) := vm_dD b_Search_begin_0 15 rfl rfl
theorem d_Search_begin_27 : vm_D q_Search_begin.2.1 27 3 30 (.putfield 35) := vm_dD b_Search_begin_0 16 rfl rfl
theorem d_Search_begin_30 : vm_D q_Search_begin.2.1 30 1 31 (.return_) := vm_dD b_Search_begin_0 17 rfl rfl
def q_Search_seek : vm_Y := ("RepeatFree$Search", cX5_seek, 2, false, [])
def t_Search_seek_0 : List (Nat × Instr × Nat) := [(0, .aload_n 0, 1), (1, .getfield 18, 3), (4, .ifnonnull 5, 3), (7, .iconst (-1), 1), (8, .ireturn, 1), (9, .aload_n 0, 1), (10, .getfield 12, 3), (13, .getfield 42, 3), (16, .aload_n 0, 1), (17, .getfield 26, 3), (20, .if_icmp .lt 30, 3), (23, .aload_n 0, 1), (24, .getfield 12, 3), (27, .getfield 42, 3), (30, .aload_n 0, 1), (31, .getfield 22, 3), (34, .if_icmp .le 16, 3), (37, .aload_n 0, 1), (38, .aload_n 0, 1), (39, .getfield 12, 3), (42, .invokevirtual 45, 3), (45, .iconst 1, 1), (46, .iadd, 1), (47, .putfield 29, 3), (50, .iconst 0, 1), (51, .istore_n 1, 1), (52, .iload_n 1, 1), (53, .ldc 49, 2), (55, .if_icmp .ge 167, 3), (58, .aload_n 0, 1), (59, .getfield 29, 3), (62, .aload_n 0, 1), (63, .getfield 18, 3), (66, .getfield 50, 3), (69, .if_icmp .lt 35, 3), (72, .aload_n 0, 1), (73, .getfield 12, 3), (76, .getfield 42, 3), (79, .aload_n 0, 1), (80, .getfield 22, 3), (83, .if_icmp .gt 5, 3), (86, .iconst (-1), 1), (87, .ireturn, 1), (88, .aload_n 0, 1), (89, .aload_n 0, 1), (90, .getfield 12, 3), (93, .invokevirtual 45, 3), (96, .iconst 1, 1), (97, .iadd, 1), (98, .putfield 29, 3), (101, .goto 115, 3), (104, .aload_n 0, 1), (105, .getfield 32, 3), (108, .sipush 5000, 3), (111, .if_icmp .lt 6, 3), (114, .bipush (-2), 2), (116, .ireturn, 1), (117, .aload_n 0, 1), (118, .dup, 1), (119, .getfield 32, 3)]
theorem b_Search_seek_0 : (t_Search_seek_0.all fun q => decide (decode q_Search_seek.2.1 q.1 = .ok (q.2.1, q.2.2))) = true := by decide +kernel
def t_Search_seek_1 : List (Nat × Instr × Nat) := [(122, .iconst 1, 1), (123, .iadd, 1), (124, .putfield 32, 3), (127, .aload_n 0, 1), (128, .getfield 12, 3), (131, .aload_n 0, 1), (132, .getfield 29, 3), (135, .invokevirtual 55, 3), (138, .aload_n 0, 1), (139, .getfield 12, 3), (142, .aload_n 0, 1), (143, .getfield 18, 3), (146, .aload_n 0, 1), (147, .getfield 12, 3), (150, .getfield 42, 3), (153, .iconst 1, 1), (154, .isub, 1), (155, .invokevirtual 59, 3), (158, .ifCond .eq 19, 3), (161, .aload_n 0, 1), (162, .aload_n 0, 1), (163, .getfield 12, 3), (166, .invokevirtual 45, 3), (169, .iconst 1, 1), (170, .iadd, 1), (171, .putfield 29, 3), (174, .goto 42, 3), (177, .aload_n 0, 1), (178, .iconst 0, 1), (179, .putfield 29, 3), (182, .aload_n 0, 1), (183, .aload_n 0, 1), (184, .getfield 35, 3), (187, .aload_n 0, 1), (188, .getfield 12, 3), (191, .getfield 42, 3), (194, .invokestatic 63, 3), (197, .putfield 35, 3), (200, .aload_n 0, 1), (201, .getfield 12, 3), (204, .getfield 42, 3), (207, .aload_n 0, 1), (208, .getfield 26, 3), (211, .if_icmp .lt 5, 3), (214, .iconst 1, 1), (215, .ireturn, 1), (216, .iinc 1 1, 3), (219, .goto (-167), 3), (222, .bipush (-2), 2), (224, .ireturn, 1)]
theorem b_Search_seek_1 : (t_Search_seek_1.all fun q => decide (decode q_Search_seek.2.1 q.1 = .ok (q.2.1, q.2.2))) = true := by decide +kernel
theorem d_Search_seek_0 : vm_D q_Search_seek.2.1 0 1 1 (.aload_n 0) := vm_dD b_Search_seek_0 0 rfl rfl
theorem d_Search_seek_1 : vm_D q_Search_seek.2.1 1 3 4 (.getfield 18) := vm_dD b_Search_seek_0 1 rfl rfl
theorem d_Search_seek_4 : vm_B q_Search_seek.2.1 4 7 9 (fun o => .ifnonnull o) := ⟨5, vm_db b_Search_seek_0 (i := 2) rfl, rfl, by decide⟩
theorem d_Search_seek_9 : vm_D q_Search_seek.2.1 9 1 10 (.aload_n 0) := vm_dD b_Search_seek_0 5 rfl rfl
theorem d_Search_seek_10 : vm_D q_Search_seek.2.1 10 3 13 (.getfield 12) := vm_dD b_Search_seek_0 6 rfl rfl
theorem d_Search_seek_13 : vm_D q_Search_seek.2.1 13 3 16 (.getfield 42) := vm_dD b_Search_seek_0 7 rfl rfl
theorem d_Search_seek_16 : vm_D q_Search_seek.2.1 16 1 17 (.aload_n 0) := vm_dD b_Search_seek_0 8 rfl rfl
theorem d_Search_seek_17 : vm_D q_Search_seek.2.1 17 3 20 (.getfield 26) := vm_dD b_Search_seek_0 9 rfl rfl
theorem d_Search_seek_20 : vm_B q_Search_seek.2.1 20 23 50 (fun o => .if_icmp .lt o) := ⟨30, vm_db b_Search_seek_0 (i := 10) rfl, rfl, by decide⟩
theorem d_Search_seek_50 : vm_D q_Search_seek.2.1 50 1 51 (.iconst 0) := vm_dD b_Search_seek_0 24 rfl rfl
theorem d_Search_seek_51 : vm_D q_Search_seek.2.1 51 1 52 (.istore_n 1) := vm_dD b_Search_seek_0 25 rfl rfl
theorem d_Search_seek_52 : vm_D q_Search_seek.2.1 52 1 53 (.iload_n 1) := vm_dD b_Search_seek_0 26 rfl rfl
theorem d_Search_seek_53 : vm_D q_Search_seek.2.1 53 2 55 (.ldc 49) := vm_dD b_Search_seek_0 27 rfl rfl
theorem d_Search_seek_55 : vm_B q_Search_seek.2.1 55 58 222 (fun o => .if_icmp .ge o) := ⟨167, vm_db b_Search_seek_0 (i := 28) rfl, rfl, by decide⟩
theorem d_Search_seek_58 : vm_D q_Search_seek.2.1 58 1 59 (.aload_n 0) := vm_dD b_Search_seek_0 29 rfl rfl
theorem d_Search_seek_59 : vm_D q_Search_seek.2.1 59 3 62 (.getfield 29) := vm_dD b_Search_seek_0 30 rfl rfl
theorem d_Search_seek_62 : vm_D q_Search_seek.2.1 62 1 63 (.aload_n 0) := vm_dD b_Search_seek_0 31 rfl rfl
theorem d_Search_seek_63 : vm_D q_Search_seek.2.1 63 3 66 (.getfield 18) := vm_dD b_Search_seek_0 32 rfl rfl
theorem d_Search_seek_66 : vm_D q_Search_seek.2.1 66 3 69 (.getfield 50) := vm_dD b_Search_seek_0 33 rfl rfl
theorem d_Search_seek_69 : vm_B q_Search_seek.2.1 69 72 104 (fun o => .if_icmp .lt o) := ⟨35, vm_db b_Search_seek_0 (i := 34) rfl, rfl, by decide⟩
theorem d_Search_seek_216 : vm_D q_Search_seek.2.1 216 3 219 (.iinc 1 1) := vm_dD b_Search_seek_1 46 rfl rfl
theorem d_Search_seek_219 : ∃ off : Int, decode q_Search_seek.2.1 219 = .ok (.goto off, 3) ∧ ((219 : Nat) : Int) + off = ((52 : Nat) : Int) := ⟨-167, vm_db b_Search_seek_1 (i := 47) rfl, by decide⟩
theorem d_Search_seek_104 : vm_D q_Search_seek.2.1 104 1 105 (.aload_n 0) := vm_dD b_Search_seek_0 51 rfl rfl
theorem d_Search_seek_105 : vm_D q_Search_seek.2.1 105 3 108 (.getfield 32) := vm_dD b_Search_seek_0 52 rfl rfl
theorem d_Search_seek_108 : vm_D q_Search_seek.2.1 108 3 111 (.sipush 5000) := vm_dD b_Search_seek_0 53 rfl rfl
theorem d_Search_seek_111 : vm_B q_Search_seek.2.1 111 114 117 (fun o => .if_icmp .lt o) := ⟨6, vm_db b_Search_seek_0 (i := 54) rfl, rfl, by decide⟩
theorem d_Search_seek_117 : vm_D q_Search_seek.2.1 117 1 118 (.aload_n 0) := vm_dD b_Search_seek_0 57 rfl rfl
theorem d_Search_seek_118 : vm_D q_Search_seek.2.1 118 1 119 (.dup) := vm_dD b_Search_seek_0 58 rfl rfl
theorem d_Search_seek_119 : vm_D q_Search_seek.2.1 119 3 122 (.getfield 32) := vm_dD b_Search_seek_0 59 rfl rfl
theorem d_Search_seek_122 : vm_D q_Search_seek.2.1 122 1 123 (.iconst 1) := vm_dD b_Search_seek_1 0 rfl rfl
theorem d_Search_seek_123 : vm_D q_Search_seek.2.1 123 1 124 (.iadd) := vm_dD b_Search_seek_1 1 rfl rfl
theorem d_Search_seek_124 : vm_D q_Search_seek.2.1 124 3 127 (.putfield 32) := vm_dD b_Search_seek_1 2 rfl rfl
theorem d_Search_seek_127 : vm_D q_Search_seek.2.1 127 1 128 (.aload_n 0) := vm_dD b_Search_seek_1 3 rfl rfl
theorem d_Search_seek_128 : vm_D q_Search_seek.2.1 128 3 131 (.getfield 12) := vm_dD b_Search_seek_1 4 rfl rfl
theorem d_Search_seek_131 : vm_D q_Search_seek.2.1 131 1 132 (.aload_n 0) := vm_dD b_Search_seek_1 5 rfl rfl
theorem d_Search_seek_132 : vm_D q_Search_seek.2.1 132 3 135 (.getfield 29) := vm_dD b_Search_seek_1 6 rfl rfl
theorem d_Search_seek_135 : vm_D q_Search_seek.2.1 135 3 138 (.invokevirtual 55) := vm_dD b_Search_seek_1 7 rfl rfl
theorem d_Search_seek_138 : vm_D q_Search_seek.2.1 138 1 139 (.aload_n 0) := vm_dD b_Search_seek_1 8 rfl rfl
theorem d_Search_seek_139 : vm_D q_Search_seek.2.1 139 3 142 (.getfield 12) := vm_dD b_Search_seek_1 9 rfl rfl
theorem d_Search_seek_142 : vm_D q_Search_seek.2.1 142 1 143 (.aload_n 0) := vm_dD b_Search_seek_1 10 rfl rfl
theorem d_Search_seek_143 : vm_D q_Search_seek.2.1 143 3 146 (.getfield 18) := vm_dD b_Search_seek_1 11 rfl rfl
theorem d_Search_seek_146 : vm_D q_Search_seek.2.1 146 1 147 (.aload_n 0) := vm_dD b_Search_seek_1 12 rfl rfl
theorem d_Search_seek_147 : vm_D q_Search_seek.2.1 147 3 150 (.getfield 12) := vm_dD b_Search_seek_1 13 rfl rfl
theorem d_Search_seek_150 : vm_D q_Search_seek.2.1 150 3 153 (.getfield 42) := vm_dD b_Search_seek_1 14 rfl rfl
theorem d_Search_seek_153 : vm_D q_Search_seek.2.1 153 1 154 (.iconst 1) := vm_dD b_Search_seek_1 15 rfl rfl
theorem d_Search_seek_154 : vm_D q_Search_seek.2.1 154 1 155 (.isub) := vm_dD b_Search_seek_1 16 rfl rfl
theorem d_Search_seek_155 : vm_D q_Search_seek.2.1 155 3 158 (.invokevirtual 59) := vm_dD b_Search_seek_1 17 rfl rfl
theorem d_Search_seek_158 : vm_B q_Search_seek.2.1 158 161 177 (fun o => .ifCond .eq o) := ⟨19, vm_db b_Search_seek_1 (i := 18) rfl, rfl, by decide⟩
theorem d_Search_seek_177 : vm_D q_Search_seek.2.1 177 1 178 (.aload_n 0) := vm_dD b_Search_seek_1 27 rfl rfl
theorem d_Search_seek_178 : vm_D q_Search_seek.2.1 178 1 179 (.iconst 0) := vm_dD b_Search_seek_1 28 rfl rfl
theorem d_Search_seek_179 : vm_D q_Search_seek.2.1 179 3 182 (.putfield 29) := vm_dD b_Search_seek_1 29 rfl rfl
theorem d_Search_seek_182 : vm_D q_Search_seek.2.1 182 1 183 (.aload_n 0) := vm_dD b_Search_seek_1 30 rfl rfl
theorem d_Search_seek_183 : vm_D q_Search_seek.2.1 183 1 184 (.aload_n 0) := vm_dD b_Search_seek_1 31 rfl rfl
theorem d_Search_seek_184 : vm_D q_Search_seek.2.1 184 3 187 (.getfield 35) := vm_dD b_Search_seek_1 32 rfl rfl
theorem d_Search_seek_187 : vm_D q_Search_seek.2.1 187 1 188 (.aload_n 0) := vm_dD b_Search_seek_1 33 rfl rfl
theorem d_Search_seek_188 : vm_D q_Search_seek.2.1 188 3 191 (.getfield 12) := vm_dD b_Search_seek_1 34 rfl rfl
theorem d_Search_seek_191 : vm_D q_Search_seek.2.1 191 3 194 (.getfield 42) := vm_dD b_Search_seek_1 35 rfl rfl
theorem d_Search_seek_194 : vm_D q_Search_seek.2.1 194 3 197 (.invokestatic 63) := vm_dD b_Search_seek_1 36 rfl rfl
theorem d_Search_seek_197 : vm_D q_Search_seek.2.1 197 3 200 (.putfield 35) := vm_dD b_Search_seek_1 37 rfl rfl
theorem d_Search_seek_200 : vm_D q_Search_seek.2.1 200 1 201 (.aload_n 0) := vm_dD b_Search_seek_1 38 rfl rfl
theorem d_Search_seek_201 : vm_D q_Search_seek.2.1 201 3 204 (.getfield 12) := vm_dD b_Search_seek_1 39 rfl rfl
theorem d_Search_seek_204 : vm_D q_Search_seek.2.1 204 3 207 (.getfield 42) := vm_dD b_Search_seek_1 40 rfl rfl
theorem d_Search_seek_207 : vm_D q_Search_seek.2.1 207 1 208 (.aload_n 0) := vm_dD b_Search_seek_1 41 rfl rfl
theorem d_Search_seek_208 : vm_D q_Search_seek.2.1 208 3 211 (.getfield 26) := vm_dD b_Search_seek_1 42 rfl rfl
theorem d_Search_seek_211 : vm_B q_Search_seek.2.1 211 214 216 (fun o => .if_icmp .lt o) := ⟨5, vm_db b_Search_seek_1 (i := 43) rfl, rfl, by decide⟩
theorem d_Search_seek_214 : vm_D q_Search_seek.2.1 214 1 215 (.iconst 1) := vm_dD b_Search_seek_1 44 rfl rfl
theorem d_Search_seek_215 : vm_D q_Search_seek.2.1 215 1 216 (.ireturn) := vm_dD b_Search_seek_1 45 rfl rfl
theorem d_Search_seek_161 : vm_D q_Search_seek.2.1 161 1 162 (.aload_n 0) := vm_dD b_Search_seek_1 19 rfl rfl
theorem d_Search_seek_162 : vm_D q_Search_seek.2.1 162 1 163 (.aload_n 0) := vm_dD b_Search_seek_1 20 rfl rfl
theorem d_Search_seek_163 : vm_D q_Search_seek.2.1 163 3 166 (.getfield 12) := vm_dD b_Search_seek_1 21 rfl rfl
theorem d_Search_seek_166 : vm_D q_Search_seek.2.1 166 3 169 (.invokevirtual 45) := vm_dD b_Search_seek_1 22 rfl rfl
theorem d_Search_seek_169 : vm_D q_Search_seek.2.1 169 1 170 (.iconst 1) := vm_dD b_Search_seek_1 23 rfl rfl
theorem d_Search_seek_170 : vm_D q_Search_seek.2.1 170 1 171 (.iadd) := vm_dD b_Search_seek_1 24 rfl rfl
theorem d_Search_seek_171 : vm_D q_Search_seek.2.1 171 3 174 (.putfield 29) := vm_dD b_Search_seek_1 25 rfl rfl
theorem d_Search_seek_174 : ∃ off : Int, decode q_Search_seek.2.1 174 = .ok (.goto off, 3) ∧ ((174 : Nat) : Int) + off = ((216 : Nat) : Int) := ⟨42, vm_db b_Search_seek_1 (i := 26) rfl, by decide⟩
theorem d_Search_seek_114 : vm_D q_Search_seek.2.1 114 2 116 (.bipush (-2)) := vm_dD b_Search_seek_0 55 rfl rfl
theorem d_Search_seek_116 : vm_D q_Search_seek.2.1 116 1 117 (.ireturn) := vm_dD b_Search_seek_0 56 rfl rfl
theorem d_Search_seek_72 : vm_D q_Search_seek.2.1 72 1 73 (.aload_n 0) := vm_dD b_Search_seek_0 35 rfl rfl
theorem d_Search_seek_73 : vm_D q_Search_seek.2.1 73 3 76 (.getfield 12) := vm_dD b_Search_seek_0 36 rfl rfl
theorem d_Search_seek_76 : vm_D q_Search_seek.2.1 76 3 79 (.getfield 42) := vm_dD b_Search_seek_0 37 rfl rfl
theorem d_Search_seek_79 : vm_D q_Search_seek.2.1 79 1 80 (.aload_n 0) := vm_dD b_Search_seek_0 38 rfl rfl
theorem d_Search_seek_80 : vm_D q_Search_seek.2.1 80 3 83 (.getfield 22) := vm_dD b_Search_seek_0 39 rfl rfl
theorem d_Search_seek_83 : vm_B q_Search_seek.2.1 83 86 88 (fun o => .if_icmp .gt o) := ⟨5, vm_db b_Search_seek_0 (i := 40) rfl, rfl, by decide⟩
theorem d_Search_seek_88 : vm_D q_Search_seek.2.1 88 1 89 (.aload_n 0) := vm_dD b_Search_seek_0 43 rfl rfl
theorem d_Search_seek_89 : vm_D q_Search_seek.2.1 89 1 90 (.aload_n 0) := vm_dD b_Search_seek_0 44 rfl rfl
theorem d_Search_seek_90 : vm_D q_Search_seek.2.1 90 3 93 (.getfield 12) := vm_dD b_Search_seek_0 45 rfl rfl
theorem d_Search_seek_93 : vm_D q_Search_seek.2.1 93 3 96 (.invokevirtual 45) := vm_dD b_Search_seek_0 46 rfl rfl
theorem d_Search_seek_96 : vm_D q_Search_seek.2.1 96 1 97 (.iconst 1) := vm_dD b_Search_seek_0 47 rfl rfl
theorem d_Search_seek_97 : vm_D q_Search_seek.2.1 97 1 98 (.iadd) := vm_dD b_Search_seek_0 48 rfl rfl
theorem d_Search_seek_98 : vm_D q_Search_seek.2.1 98 3 101 (.putfield 29) := vm_dD b_Search_seek_0 49 rfl rfl
theorem d_Search_seek_101 : ∃ off : Int, decode q_Search_seek.2.1 101 = .ok (.goto off, 3) ∧ ((101 : Nat) : Int) + off = ((216 : Nat) : Int) := ⟨115, vm_db b_Search_seek_0 (i := 50) rfl, by decide⟩
theorem d_Search_seek_86 : vm_D q_Search_seek.2.1 86 1 87 (.iconst (-1)) := vm_dD b_Search_seek_0 41 rfl rfl
theorem d_Search_seek_87 : vm_D q_Search_seek.2.1 87 1 88 (.ireturn) := vm_dD b_Search_seek_0 42 rfl rfl
theorem d_Search_seek_222 : vm_D q_Search_seek.2.1 222 2 224 (.bipush (-2)) := vm_dD b_Search_seek_1 48 rfl rfl
theorem d_Search_seek_224 : vm_D q_Search_seek.2.1 224 1 225 (.ireturn) := vm_dD b_Search_seek_1 49 rfl rfl
theorem d_Search_seek_23 : vm_D q_Search_seek.2.1 23 1 24 (.aload_n 0) := vm_dD b_Search_seek_0 11 rfl rfl
theorem d_Search_seek_24 : vm_D q_Search_seek.2.1 24 3 27 (.getfield 12) := vm_dD b_Search_seek_0 12 rfl rfl
theorem d_Search_seek_27 : vm_D q_Search_seek.2.1 27 3 30 (.getfield 42) := vm_dD b_Search_seek_0 13 rfl rfl
theorem d_Search_seek_30 : vm_D q_Search_seek.2.1 30 1 31 (.aload_n 0) := vm_dD b_Search_seek_0 14 rfl rfl
theorem d_Search_seek_31 : vm_D q_Search_seek.2.1 31 3 34 (.getfield 22) := vm_dD b_Search_seek_0 15 rfl rfl
theorem d_Search_seek_34 : vm_B q_Search_seek.2.1 34 37 50 (fun o => .if_icmp .le o) := ⟨16, vm_db b_Search_seek_0 (i := 16) rfl, rfl, by decide⟩
theorem d_Search_seek_37 : vm_D q_Search_seek.2.1 37 1 38 (.aload_n 0) := vm_dD b_Search_seek_0 17 rfl rfl
theorem d_Search_seek_38 : vm_D q_Search_seek.2.1 38 1 39 (.aload_n 0) := vm_dD b_Search_seek_0 18 rfl rfl
theorem d_Search_seek_39 : vm_D q_Search_seek.2.1 39 3 42 (.getfield 12) := vm_dD b_Search_seek_0 19 rfl rfl
theorem d_Search_seek_42 : vm_D q_Search_seek.2.1 42 3 45 (.invokevirtual 45) := vm_dD b_Search_seek_0 20 rfl rfl
theorem d_Search_seek_45 : vm_D q_Search_seek.2.1 45 1 46 (.iconst 1) := vm_dD b_Search_seek_0 21 rfl rfl
theorem d_Search_seek_46 : vm_D q_Search_seek.2.1 46 1 47 (.iadd) := vm_dD b_Search_seek_0 22 rfl rfl
theorem d_Search_seek_47 : vm_D q_Search_seek.2.1 47 3 50 (.putfield 29) := vm_dD b_Search_seek_0 23 rfl rfl
theorem d_Search_seek_7 : vm_D q_Search_seek.2.1 7 1 8 (.iconst (-1)) := vm_dD b_Search_seek_0 3 rfl rfl
theorem d_Search_seek_8 : vm_D q_Search_seek.2.1 8 1 9 (.ireturn) := vm_dD b_Search_seek_0 4 rfl rfl
def q_Search_deepestBehind : vm_Y := ("RepeatFree$Search", cX5_deepestBehind, 2, false, [])
def t_Search_deepestBehind_0 : List (Nat × Instr × Nat) := [(0, .aload_n 0, 1), (1, .invokevirtual 69, 3), (4, .istore_n 1, 1), (5, .iload_n 1, 1), (6, .bipush (-2), 2), (8, .if_icmp .ne 8, 3), (11, .bipush (-2), 2), (13, .goto 12, 3), (16, .aload_n 0, 1), (17, .getfield 35, 3), (20, .aload_n 0, 1), (21, .getfield 22, 3), (24, .isub, 1), (25, .ireturn, 1)]
theorem b_Search_deepestBehind_0 : (t_Search_deepestBehind_0.all fun q => decide (decode q_Search_deepestBehind.2.1 q.1 = .ok (q.2.1, q.2.2))) = true := by decide +kernel
theorem d_Search_deepestBehind_0 : vm_D q_Search_deepestBehind.2.1 0 1 1 (.aload_n 0) := vm_dD b_Search_deepestBehind_0 0 rfl rfl
theorem d_Search_deepestBehind_1 : vm_D q_Search_deepestBehind.2.1 1 3 4 (.invokevirtual 69) := vm_dD b_Search_deepestBehind_0 1 rfl rfl
theorem d_Search_deepestBehind_4 : vm_D q_Search_deepestBehind.2.1 4 1 5 (.istore_n 1) := vm_dD b_Search_deepestBehind_0 2 rfl rfl
theorem d_Search_deepestBehind_5 : vm_D q_Search_deepestBehind.2.1 5 1 6 (.iload_n 1) := vm_dD b_Search_deepestBehind_0 3 rfl rfl
theorem d_Search_deepestBehind_6 : vm_D q_Search_deepestBehind.2.1 6 2 8 (.bipush (-2)) := vm_dD b_Search_deepestBehind_0 4 rfl rfl
theorem d_Search_deepestBehind_8 : vm_B q_Search_deepestBehind.2.1 8 11 16 (fun o => .if_icmp .ne o) := ⟨8, vm_db b_Search_deepestBehind_0 (i := 5) rfl, rfl, by decide⟩
theorem d_Search_deepestBehind_16 : vm_D q_Search_deepestBehind.2.1 16 1 17 (.aload_n 0) := vm_dD b_Search_deepestBehind_0 8 rfl rfl
theorem d_Search_deepestBehind_17 : vm_D q_Search_deepestBehind.2.1 17 3 20 (.getfield 35) := vm_dD b_Search_deepestBehind_0 9 rfl rfl
theorem d_Search_deepestBehind_20 : vm_D q_Search_deepestBehind.2.1 20 1 21 (.aload_n 0) := vm_dD b_Search_deepestBehind_0 10 rfl rfl
theorem d_Search_deepestBehind_21 : vm_D q_Search_deepestBehind.2.1 21 3 24 (.getfield 22) := vm_dD b_Search_deepestBehind_0 11 rfl rfl
theorem d_Search_deepestBehind_24 : vm_D q_Search_deepestBehind.2.1 24 1 25 (.isub) := vm_dD b_Search_deepestBehind_0 12 rfl rfl
theorem d_Search_deepestBehind_25 : vm_D q_Search_deepestBehind.2.1 25 1 26 (.ireturn) := vm_dD b_Search_deepestBehind_0 13 rfl rfl
theorem d_Search_deepestBehind_11 : vm_D q_Search_deepestBehind.2.1 11 2 13 (.bipush (-2)) := vm_dD b_Search_deepestBehind_0 6 rfl rfl
theorem d_Search_deepestBehind_13 : ∃ off : Int, decode q_Search_deepestBehind.2.1 13 = .ok (.goto off, 3) ∧ ((13 : Nat) : Int) + off = ((25 : Nat) : Int) := ⟨12, vm_db b_Search_deepestBehind_0 (i := 7) rfl, by decide⟩
def q_Search_reset : vm_Y := ("RepeatFree$Search", cX5_reset, 2, false, [])
def t_Search_reset_0 : List (Nat × Instr × Nat) := [(0, .aload_n 0, 1), (1, .aload_n 1, 1), (2, .putfield 18, 3), (5, .aload_n 0, 1), (6, .iconst 0, 1), (7, .putfield 32, 3), (10, .return_, 1)]
theorem b_Search_reset_0 : (t_Search_reset_0.all fun q => decide (decode q_Search_reset.2.1 q.1 = .ok (q.2.1, q.2.2))) = true := by decide +kernel
theorem d_Search_reset_0 : vm_D q_Search_reset.2.1 0 1 1 (.aload_n 0) := vm_dD b_Search_reset_0 0 rfl rfl
theorem d_Search_reset_1 : vm_D q_Search_reset.2.1 1 1 2 (.aload_n 1) := vm_dD b_Search_reset_0 1 rfl rfl
theorem d_Search_reset_2 : vm_D q_Search_reset.2.1 2 3 5 (.putfield 18) := vm_dD b_Search_reset_0 2 rfl rfl
theorem d_Search_reset_5 : vm_D q_Search_reset.2.1 5 1 6 (.aload_n 0) := vm_dD b_Search_reset_0 3 rfl rfl
theorem d_Search_reset_6 : vm_D q_Search_reset.2.1 6 1 7 (.iconst 0) := vm_dD b_Search_reset_0 4 rfl rfl
theorem d_Search_reset_7 : vm_D q_Search_reset.2.1 7 3 10 (.putfield 32) := vm_dD b_Search_reset_0 5 rfl rfl
theorem d_Search_reset_10 : vm_D q_Search_reset.2.1 10 1 11 (.return_) := vm_dD b_Search_reset_0 6 rfl rfl
def q_Line_firstUnlike : vm_Y := ("RepeatFree$Line", cX1_firstUnlike, 3, false, [])
def t_Line_firstUnlike_0 : List (Nat × Instr × Nat) := [(0, .iconst 0, 1), (1, .istore_n 2, 1), (2, .iload_n 2, 1), (3, .aload_n 0, 1), (4, .getfield 30, 3), (7, .if_icmp .ge 24, 3), (10, .aload_n 0, 1), (11, .iload_n 2, 1), (12, .invokevirtual 43, 3), (15, .aload_n 1, 1), (16, .iload_n 2, 1), (17, .invokevirtual 43, 3), (20, .if_icmp .eq 5, 3), (23, .iload_n 2, 1), (24, .ireturn, 1), (25, .iinc 2 1, 3), (28, .goto (-26), 3), (31, .iconst (-1), 1), (32, .ireturn, 1)]
theorem b_Line_firstUnlike_0 : (t_Line_firstUnlike_0.all fun q => decide (decode q_Line_firstUnlike.2.1 q.1 = .ok (q.2.1, q.2.2))) = true := by decide +kernel
theorem d_Line_firstUnlike_0 : vm_D q_Line_firstUnlike.2.1 0 1 1 (.iconst 0) := vm_dD b_Line_firstUnlike_0 0 rfl rfl
theorem d_Line_firstUnlike_1 : vm_D q_Line_firstUnlike.2.1 1 1 2 (.istore_n 2) := vm_dD b_Line_firstUnlike_0 1 rfl rfl
theorem d_Line_firstUnlike_2 : vm_D q_Line_firstUnlike.2.1 2 1 3 (.iload_n 2) := vm_dD b_Line_firstUnlike_0 2 rfl rfl
theorem d_Line_firstUnlike_3 : vm_D q_Line_firstUnlike.2.1 3 1 4 (.aload_n 0) := vm_dD b_Line_firstUnlike_0 3 rfl rfl
theorem d_Line_firstUnlike_4 : vm_D q_Line_firstUnlike.2.1 4 3 7 (.getfield 30) := vm_dD b_Line_firstUnlike_0 4 rfl rfl
theorem d_Line_firstUnlike_7 : vm_B q_Line_firstUnlike.2.1 7 10 31 (fun o => .if_icmp .ge o) := ⟨24, vm_db b_Line_firstUnlike_0 (i := 5) rfl, rfl, by decide⟩
theorem d_Line_firstUnlike_10 : vm_D q_Line_firstUnlike.2.1 10 1 11 (.aload_n 0) := vm_dD b_Line_firstUnlike_0 6 rfl rfl
theorem d_Line_firstUnlike_11 : vm_D q_Line_firstUnlike.2.1 11 1 12 (.iload_n 2) := vm_dD b_Line_firstUnlike_0 7 rfl rfl
theorem d_Line_firstUnlike_12 : vm_D q_Line_firstUnlike.2.1 12 3 15 (.invokevirtual 43) := vm_dD b_Line_firstUnlike_0 8 rfl rfl
theorem d_Line_firstUnlike_15 : vm_D q_Line_firstUnlike.2.1 15 1 16 (.aload_n 1) := vm_dD b_Line_firstUnlike_0 9 rfl rfl
theorem d_Line_firstUnlike_16 : vm_D q_Line_firstUnlike.2.1 16 1 17 (.iload_n 2) := vm_dD b_Line_firstUnlike_0 10 rfl rfl
theorem d_Line_firstUnlike_17 : vm_D q_Line_firstUnlike.2.1 17 3 20 (.invokevirtual 43) := vm_dD b_Line_firstUnlike_0 11 rfl rfl
theorem d_Line_firstUnlike_20 : vm_B q_Line_firstUnlike.2.1 20 23 25 (fun o => .if_icmp .eq o) := ⟨5, vm_db b_Line_firstUnlike_0 (i := 12) rfl, rfl, by decide⟩
theorem d_Line_firstUnlike_25 : vm_D q_Line_firstUnlike.2.1 25 3 28 (.iinc 2 1) := vm_dD b_Line_firstUnlike_0 15 rfl rfl
theorem d_Line_firstUnlike_28 : ∃ off : Int, decode q_Line_firstUnlike.2.1 28 = .ok (.goto off, 3) ∧ ((28 : Nat) : Int) + off = ((2 : Nat) : Int) := ⟨-26, vm_db b_Line_firstUnlike_0 (i := 16) rfl, by decide⟩
theorem d_Line_firstUnlike_23 : vm_D q_Line_firstUnlike.2.1 23 1 24 (.iload_n 2) := vm_dD b_Line_firstUnlike_0 13 rfl rfl
theorem d_Line_firstUnlike_24 : vm_D q_Line_firstUnlike.2.1 24 1 25 (.ireturn) := vm_dD b_Line_firstUnlike_0 14 rfl rfl
theorem d_Line_firstUnlike_31 : vm_D q_Line_firstUnlike.2.1 31 1 32 (.iconst (-1)) := vm_dD b_Line_firstUnlike_0 17 rfl rfl
theorem d_Line_firstUnlike_32 : vm_D q_Line_firstUnlike.2.1 32 1 33 (.ireturn) := vm_dD b_Line_firstUnlike_0 18 rfl rfl
def q_Line_isAheadOf : vm_Y := ("RepeatFree$Line", cX1_isAheadOf, 3, false, [])
def t_Line_isAheadOf_0 : List (Nat × Instr × Nat) := [(0, .aload_n 0, 1), (1, .aload_n 1, 1), (2, .invokevirtual 87, 3), (5, .istore_n 2, 1), (6, .iload_n 2, 1), (7, .iconst (-1), 1), (8, .if_icmp .eq 20, 3), (11, .aload_n 0, 1), (12, .iload_n 2, 1), (13, .invokevirtual 43, 3), (16, .aload_n 1, 1), (17, .iload_n 2, 1), (18, .invokevirtual 43, 3), (21, .if_icmp .ge 7, 3), (24, .iconst 1, 1), (25, .goto 4, 3), (28, .iconst 0, 1), (29, .ireturn, 1)]
theorem b_Line_isAheadOf_0 : (t_Line_isAheadOf_0.all fun q => decide (decode q_Line_isAheadOf.2.1 q.1 = .ok (q.2.1, q.2.2))) = true := by decide +kernel
theorem d_Line_isAheadOf_0 : vm_D q_Line_isAheadOf.2.1 0 1 1 (.aload_n 0) := vm_dD b_Line_isAheadOf_0 0 rfl rfl
theorem d_Line_isAheadOf_1 : vm_D q_Line_isAheadOf.2.1 1 1 2 (.aload_n 1) := vm_dD b_Line_isAheadOf_0 1 rfl rfl
theorem d_Line_isAheadOf_2 : vm_D q_Line_isAheadOf.2.1 2 3 5 (.invokevirtual 87) := vm_dD b_Line_isAheadOf_0 2 rfl rfl
theorem d_Line_isAheadOf_5 : vm_D q_Line_isAheadOf.2.1 5 1 6 (.istore_n 2) := vm_dD b_Line_isAheadOf_0 3 rfl rfl
theorem d_Line_isAheadOf_6 : vm_D q_Line_isAheadOf.2.1 6 1 7 (.iload_n 2) := vm_dD b_Line_isAheadOf_0 4 rfl rfl
theorem d_Line_isAheadOf_7 : vm_D q_Line_isAheadOf.2.1 7 1 8 (.iconst (-1)) := vm_dD b_Line_isAheadOf_0 5 rfl rfl
theorem d_Line_isAheadOf_8 : vm_B q_Line_isAheadOf.2.1 8 11 28 (fun o => .if_icmp .eq o) := ⟨20, vm_db b_Line_isAheadOf_0 (i := 6) rfl, rfl, by decide⟩
theorem d_Line_isAheadOf_28 : vm_D q_Line_isAheadOf.2.1 28 1 29 (.iconst 0) := vm_dD b_Line_isAheadOf_0 16 rfl rfl
theorem d_Line_isAheadOf_29 : vm_D q_Line_isAheadOf.2.1 29 1 30 (.ireturn) := vm_dD b_Line_isAheadOf_0 17 rfl rfl
theorem d_Line_isAheadOf_11 : vm_D q_Line_isAheadOf.2.1 11 1 12 (.aload_n 0) := vm_dD b_Line_isAheadOf_0 7 rfl rfl
theorem d_Line_isAheadOf_12 : vm_D q_Line_isAheadOf.2.1 12 1 13 (.iload_n 2) := vm_dD b_Line_isAheadOf_0 8 rfl rfl
theorem d_Line_isAheadOf_13 : vm_D q_Line_isAheadOf.2.1 13 3 16 (.invokevirtual 43) := vm_dD b_Line_isAheadOf_0 9 rfl rfl
theorem d_Line_isAheadOf_16 : vm_D q_Line_isAheadOf.2.1 16 1 17 (.aload_n 1) := vm_dD b_Line_isAheadOf_0 10 rfl rfl
theorem d_Line_isAheadOf_17 : vm_D q_Line_isAheadOf.2.1 17 1 18 (.iload_n 2) := vm_dD b_Line_isAheadOf_0 11 rfl rfl
theorem d_Line_isAheadOf_18 : vm_D q_Line_isAheadOf.2.1 18 3 21 (.invokevirtual 43) := vm_dD b_Line_isAheadOf_0 12 rfl rfl
theorem d_Line_isAheadOf_21 : vm_B q_Line_isAheadOf.2.1 21 24 28 (fun o => .if_icmp .ge o) := ⟨7, vm_db b_Line_isAheadOf_0 (i := 13) rfl, rfl, by decide⟩
theorem d_Line_isAheadOf_24 : vm_D q_Line_isAheadOf.2.1 24 1 25 (.iconst 1) := vm_dD b_Line_isAheadOf_0 14 rfl rfl
theorem d_Line_isAheadOf_25 : ∃ off : Int, decode q_Line_isAheadOf.2.1 25 = .ok (.goto off, 3) ∧ ((25 : Nat) : Int) + off = ((29 : Nat) : Int) := ⟨4, vm_db b_Line_isAheadOf_0 (i := 15) rfl, by decide⟩
def q_Line_lay : vm_Y := ("RepeatFree$Line", cX1_lay, 3, false, [])
def t_Line_lay_0 : List (Nat × Instr × Nat) := [(0, .aload_n 0, 1), (1, .iload_n 1, 1), (2, .invokevirtual 43, 3), (5, .iload_n 2, 1), (6, .if_icmp .eq 13, 3), (9, .aload_n 0, 1), (10, .iload_n 1, 1), (11, .invokevirtual 47, 3), (14, .aload_n 0, 1), (15, .iload_n 2, 1), (16, .invokevirtual 51, 3), (19, .return_, 1)]
theorem b_Line_lay_0 : (t_Line_lay_0.all fun q => decide (decode q_Line_lay.2.1 q.1 = .ok (q.2.1, q.2.2))) = true := by decide +kernel
theorem d_Line_lay_0 : vm_D q_Line_lay.2.1 0 1 1 (.aload_n 0) := vm_dD b_Line_lay_0 0 rfl rfl
theorem d_Line_lay_1 : vm_D q_Line_lay.2.1 1 1 2 (.iload_n 1) := vm_dD b_Line_lay_0 1 rfl rfl
theorem d_Line_lay_2 : vm_D q_Line_lay.2.1 2 3 5 (.invokevirtual 43) := vm_dD b_Line_lay_0 2 rfl rfl
theorem d_Line_lay_5 : vm_D q_Line_lay.2.1 5 1 6 (.iload_n 2) := vm_dD b_Line_lay_0 3 rfl rfl
theorem d_Line_lay_6 : vm_B q_Line_lay.2.1 6 9 19 (fun o => .if_icmp .eq o) := ⟨13, vm_db b_Line_lay_0 (i := 4) rfl, rfl, by decide⟩
theorem d_Line_lay_19 : vm_D q_Line_lay.2.1 19 1 20 (.return_) := vm_dD b_Line_lay_0 11 rfl rfl
theorem d_Line_lay_9 : vm_D q_Line_lay.2.1 9 1 10 (.aload_n 0) := vm_dD b_Line_lay_0 5 rfl rfl
theorem d_Line_lay_10 : vm_D q_Line_lay.2.1 10 1 11 (.iload_n 1) := vm_dD b_Line_lay_0 6 rfl rfl
theorem d_Line_lay_11 : vm_D q_Line_lay.2.1 11 3 14 (.invokevirtual 47) := vm_dD b_Line_lay_0 7 rfl rfl
theorem d_Line_lay_14 : vm_D q_Line_lay.2.1 14 1 15 (.aload_n 0) := vm_dD b_Line_lay_0 8 rfl rfl
theorem d_Line_lay_15 : vm_D q_Line_lay.2.1 15 1 16 (.iload_n 2) := vm_dD b_Line_lay_0 9 rfl rfl
theorem d_Line_lay_16 : vm_D q_Line_lay.2.1 16 3 19 (.invokevirtual 51) := vm_dD b_Line_lay_0 10 rfl rfl
def q_Morph_sizeOf : vm_Y := ("RepeatFree$Morph", cX2_sizeOf, 2, false, [])
def t_Morph_sizeOf_0 : List (Nat × Instr × Nat) := [(0, .iload_n 1, 1), (1, .ifCond .lt 21, 3), (4, .iload_n 1, 1), (5, .aload_n 0, 1), (6, .getfield 23, 3), (9, .arraylength, 1), (10, .if_icmp .ge 12, 3), (13, .aload_n 0, 1), (14, .getfield 23, 3), (17, .iload_n 1, 1), (18, .iaload, 1), (19, .goto 4, 3), (22, .iconst 0, 1), (23, .ireturn, 1)]
theorem b_Morph_sizeOf_0 : (t_Morph_sizeOf_0.all fun q => decide (decode q_Morph_sizeOf.2.1 q.1 = .ok (q.2.1, q.2.2))) = true := by decide +kernel
theorem d_Morph_sizeOf_0 : vm_D q_Morph_sizeOf.2.1 0 1 1 (.iload_n 1) := vm_dD b_Morph_sizeOf_0 0 rfl rfl
theorem d_Morph_sizeOf_1 : vm_B q_Morph_sizeOf.2.1 1 4 22 (fun o => .ifCond .lt o) := ⟨21, vm_db b_Morph_sizeOf_0 (i := 1) rfl, rfl, by decide⟩
theorem d_Morph_sizeOf_22 : vm_D q_Morph_sizeOf.2.1 22 1 23 (.iconst 0) := vm_dD b_Morph_sizeOf_0 12 rfl rfl
theorem d_Morph_sizeOf_23 : vm_D q_Morph_sizeOf.2.1 23 1 24 (.ireturn) := vm_dD b_Morph_sizeOf_0 13 rfl rfl
theorem d_Morph_sizeOf_4 : vm_D q_Morph_sizeOf.2.1 4 1 5 (.iload_n 1) := vm_dD b_Morph_sizeOf_0 2 rfl rfl
theorem d_Morph_sizeOf_5 : vm_D q_Morph_sizeOf.2.1 5 1 6 (.aload_n 0) := vm_dD b_Morph_sizeOf_0 3 rfl rfl
theorem d_Morph_sizeOf_6 : vm_D q_Morph_sizeOf.2.1 6 3 9 (.getfield 23) := vm_dD b_Morph_sizeOf_0 4 rfl rfl
theorem d_Morph_sizeOf_9 : vm_D q_Morph_sizeOf.2.1 9 1 10 (.arraylength) := vm_dD b_Morph_sizeOf_0 5 rfl rfl
theorem d_Morph_sizeOf_10 : vm_B q_Morph_sizeOf.2.1 10 13 22 (fun o => .if_icmp .ge o) := ⟨12, vm_db b_Morph_sizeOf_0 (i := 6) rfl, rfl, by decide⟩
theorem d_Morph_sizeOf_13 : vm_D q_Morph_sizeOf.2.1 13 1 14 (.aload_n 0) := vm_dD b_Morph_sizeOf_0 7 rfl rfl
theorem d_Morph_sizeOf_14 : vm_D q_Morph_sizeOf.2.1 14 3 17 (.getfield 23) := vm_dD b_Morph_sizeOf_0 8 rfl rfl
theorem d_Morph_sizeOf_17 : vm_D q_Morph_sizeOf.2.1 17 1 18 (.iload_n 1) := vm_dD b_Morph_sizeOf_0 9 rfl rfl
theorem d_Morph_sizeOf_18 : vm_D q_Morph_sizeOf.2.1 18 1 19 (.iaload) := vm_dD b_Morph_sizeOf_0 10 rfl rfl
theorem d_Morph_sizeOf_19 : ∃ off : Int, decode q_Morph_sizeOf.2.1 19 = .ok (.goto off, 3) ∧ ((19 : Nat) : Int) + off = ((23 : Nat) : Int) := ⟨4, vm_db b_Morph_sizeOf_0 (i := 11) rfl, by decide⟩
def q_Morph_at : vm_Y := ("RepeatFree$Morph", cX2_at, 3, false, [])
def t_Morph_at_0 : List (Nat × Instr × Nat) := [(0, .iload_n 2, 1), (1, .ifCond .lt 29, 3), (4, .iload_n 2, 1), (5, .aload_n 0, 1), (6, .iload_n 1, 1), (7, .invokevirtual 33, 3), (10, .if_icmp .ge 20, 3), (13, .iload_n 2, 1), (14, .bipush 6, 2), (16, .if_icmp .ge 14, 3), (19, .aload_n 0, 1), (20, .getfield 20, 3), (23, .iload_n 1, 1), (24, .aaload, 1), (25, .iload_n 2, 1), (26, .iaload, 1), (27, .goto 4, 3), (30, .iconst (-1), 1), (31, .ireturn, 1)]
theorem b_Morph_at_0 : (t_Morph_at_0.all fun q => decide (decode q_Morph_at.2.1 q.1 = .ok (q.2.1, q.2.2))) = true := by decide +kernel
theorem d_Morph_at_0 : vm_D q_Morph_at.2.1 0 1 1 (.iload_n 2) := vm_dD b_Morph_at_0 0 rfl rfl
theorem d_Morph_at_1 : vm_B q_Morph_at.2.1 1 4 30 (fun o => .ifCond .lt o) := ⟨29, vm_db b_Morph_at_0 (i := 1) rfl, rfl, by decide⟩
theorem d_Morph_at_30 : vm_D q_Morph_at.2.1 30 1 31 (.iconst (-1)) := vm_dD b_Morph_at_0 17 rfl rfl
theorem d_Morph_at_31 : vm_D q_Morph_at.2.1 31 1 32 (.ireturn) := vm_dD b_Morph_at_0 18 rfl rfl
theorem d_Morph_at_4 : vm_D q_Morph_at.2.1 4 1 5 (.iload_n 2) := vm_dD b_Morph_at_0 2 rfl rfl
theorem d_Morph_at_5 : vm_D q_Morph_at.2.1 5 1 6 (.aload_n 0) := vm_dD b_Morph_at_0 3 rfl rfl
theorem d_Morph_at_6 : vm_D q_Morph_at.2.1 6 1 7 (.iload_n 1) := vm_dD b_Morph_at_0 4 rfl rfl
theorem d_Morph_at_7 : vm_D q_Morph_at.2.1 7 3 10 (.invokevirtual 33) := vm_dD b_Morph_at_0 5 rfl rfl
theorem d_Morph_at_10 : vm_B q_Morph_at.2.1 10 13 30 (fun o => .if_icmp .ge o) := ⟨20, vm_db b_Morph_at_0 (i := 6) rfl, rfl, by decide⟩
theorem d_Morph_at_13 : vm_D q_Morph_at.2.1 13 1 14 (.iload_n 2) := vm_dD b_Morph_at_0 7 rfl rfl
theorem d_Morph_at_14 : vm_D q_Morph_at.2.1 14 2 16 (.bipush 6) := vm_dD b_Morph_at_0 8 rfl rfl
theorem d_Morph_at_16 : vm_B q_Morph_at.2.1 16 19 30 (fun o => .if_icmp .ge o) := ⟨14, vm_db b_Morph_at_0 (i := 9) rfl, rfl, by decide⟩
theorem d_Morph_at_19 : vm_D q_Morph_at.2.1 19 1 20 (.aload_n 0) := vm_dD b_Morph_at_0 10 rfl rfl
theorem d_Morph_at_20 : vm_D q_Morph_at.2.1 20 3 23 (.getfield 20) := vm_dD b_Morph_at_0 11 rfl rfl
theorem d_Morph_at_23 : vm_D q_Morph_at.2.1 23 1 24 (.iload_n 1) := vm_dD b_Morph_at_0 12 rfl rfl
theorem d_Morph_at_24 : vm_D q_Morph_at.2.1 24 1 25 (.aaload) := vm_dD b_Morph_at_0 13 rfl rfl
theorem d_Morph_at_25 : vm_D q_Morph_at.2.1 25 1 26 (.iload_n 2) := vm_dD b_Morph_at_0 14 rfl rfl
theorem d_Morph_at_26 : vm_D q_Morph_at.2.1 26 1 27 (.iaload) := vm_dD b_Morph_at_0 15 rfl rfl
theorem d_Morph_at_27 : ∃ off : Int, decode q_Morph_at.2.1 27 = .ok (.goto off, 3) ∧ ((27 : Nat) : Int) + off = ((31 : Nat) : Int) := ⟨4, vm_db b_Morph_at_0 (i := 16) rfl, by decide⟩
def q_Morph_draw : vm_Y := ("RepeatFree$Morph", cX2_draw, 7, false, [])
def t_Morph_draw_0 : List (Nat × Instr × Nat) := [(0, .iconst 0, 1), (1, .istore_n 3, 1), (2, .iconst 0, 1), (3, .istore 4, 2), (5, .iload 4, 2), (7, .aload_n 1, 1), (8, .getfield 42, 3), (11, .if_icmp .ge 53, 3), (14, .aload_n 1, 1), (15, .iload 4, 2), (17, .invokevirtual 39, 3), (20, .istore 5, 2), (22, .iconst 0, 1), (23, .istore 6, 2), (25, .iload 6, 2), (27, .aload_n 0, 1), (28, .iload 5, 2), (30, .invokevirtual 33, 3), (33, .if_icmp .ge 25, 3), (36, .aload_n 2, 1), (37, .iload_n 3, 1), (38, .aload_n 0, 1), (39, .iload 5, 2), (41, .iload 6, 2), (43, .invokevirtual 36, 3), (46, .invokevirtual 46, 3), (49, .iinc 3 1, 3), (52, .iinc 6 1, 3), (55, .goto (-30), 3), (58, .iinc 4 1, 3), (61, .goto (-56), 3), (64, .aload_n 2, 1), (65, .iload_n 3, 1), (66, .invokevirtual 50, 3), (69, .return_, 1)]
theorem b_Morph_draw_0 : (t_Morph_draw_0.all fun q => decide (decode q_Morph_draw.2.1 q.1 = .ok (q.2.1, q.2.2))) = true := by decide +kernel
theorem d_Morph_draw_0 : vm_D q_Morph_draw.2.1 0 1 1 (.iconst 0) := vm_dD b_Morph_draw_0 0 rfl rfl
theorem d_Morph_draw_1 : vm_D q_Morph_draw.2.1 1 1 2 (.istore_n 3) := vm_dD b_Morph_draw_0 1 rfl rfl
theorem d_Morph_draw_2 : vm_D q_Morph_draw.2.1 2 1 3 (.iconst 0) := vm_dD b_Morph_draw_0 2 rfl rfl
theorem d_Morph_draw_3 : vm_D q_Morph_draw.2.1 3 2 5 (.istore 4) := vm_dD b_Morph_draw_0 3 rfl rfl
theorem d_Morph_draw_5 : vm_D q_Morph_draw.2.1 5 2 7 (.iload 4) := vm_dD b_Morph_draw_0 4 rfl rfl
theorem d_Morph_draw_7 : vm_D q_Morph_draw.2.1 7 1 8 (.aload_n 1) := vm_dD b_Morph_draw_0 5 rfl rfl
theorem d_Morph_draw_8 : vm_D q_Morph_draw.2.1 8 3 11 (.getfield 42) := vm_dD b_Morph_draw_0 6 rfl rfl
theorem d_Morph_draw_11 : vm_B q_Morph_draw.2.1 11 14 64 (fun o => .if_icmp .ge o) := ⟨53, vm_db b_Morph_draw_0 (i := 7) rfl, rfl, by decide⟩
theorem d_Morph_draw_14 : vm_D q_Morph_draw.2.1 14 1 15 (.aload_n 1) := vm_dD b_Morph_draw_0 8 rfl rfl
theorem d_Morph_draw_15 : vm_D q_Morph_draw.2.1 15 2 17 (.iload 4) := vm_dD b_Morph_draw_0 9 rfl rfl
theorem d_Morph_draw_17 : vm_D q_Morph_draw.2.1 17 3 20 (.invokevirtual 39) := vm_dD b_Morph_draw_0 10 rfl rfl
theorem d_Morph_draw_20 : vm_D q_Morph_draw.2.1 20 2 22 (.istore 5) := vm_dD b_Morph_draw_0 11 rfl rfl
theorem d_Morph_draw_22 : vm_D q_Morph_draw.2.1 22 1 23 (.iconst 0) := vm_dD b_Morph_draw_0 12 rfl rfl
theorem d_Morph_draw_23 : vm_D q_Morph_draw.2.1 23 2 25 (.istore 6) := vm_dD b_Morph_draw_0 13 rfl rfl
theorem d_Morph_draw_25 : vm_D q_Morph_draw.2.1 25 2 27 (.iload 6) := vm_dD b_Morph_draw_0 14 rfl rfl
theorem d_Morph_draw_27 : vm_D q_Morph_draw.2.1 27 1 28 (.aload_n 0) := vm_dD b_Morph_draw_0 15 rfl rfl
theorem d_Morph_draw_28 : vm_D q_Morph_draw.2.1 28 2 30 (.iload 5) := vm_dD b_Morph_draw_0 16 rfl rfl
theorem d_Morph_draw_30 : vm_D q_Morph_draw.2.1 30 3 33 (.invokevirtual 33) := vm_dD b_Morph_draw_0 17 rfl rfl
theorem d_Morph_draw_33 : vm_B q_Morph_draw.2.1 33 36 58 (fun o => .if_icmp .ge o) := ⟨25, vm_db b_Morph_draw_0 (i := 18) rfl, rfl, by decide⟩
theorem d_Morph_draw_36 : vm_D q_Morph_draw.2.1 36 1 37 (.aload_n 2) := vm_dD b_Morph_draw_0 19 rfl rfl
theorem d_Morph_draw_37 : vm_D q_Morph_draw.2.1 37 1 38 (.iload_n 3) := vm_dD b_Morph_draw_0 20 rfl rfl
theorem d_Morph_draw_38 : vm_D q_Morph_draw.2.1 38 1 39 (.aload_n 0) := vm_dD b_Morph_draw_0 21 rfl rfl
theorem d_Morph_draw_39 : vm_D q_Morph_draw.2.1 39 2 41 (.iload 5) := vm_dD b_Morph_draw_0 22 rfl rfl
theorem d_Morph_draw_41 : vm_D q_Morph_draw.2.1 41 2 43 (.iload 6) := vm_dD b_Morph_draw_0 23 rfl rfl
theorem d_Morph_draw_43 : vm_D q_Morph_draw.2.1 43 3 46 (.invokevirtual 36) := vm_dD b_Morph_draw_0 24 rfl rfl
theorem d_Morph_draw_46 : vm_D q_Morph_draw.2.1 46 3 49 (.invokevirtual 46) := vm_dD b_Morph_draw_0 25 rfl rfl
theorem d_Morph_draw_49 : vm_D q_Morph_draw.2.1 49 3 52 (.iinc 3 1) := vm_dD b_Morph_draw_0 26 rfl rfl
theorem d_Morph_draw_52 : vm_D q_Morph_draw.2.1 52 3 55 (.iinc 6 1) := vm_dD b_Morph_draw_0 27 rfl rfl
theorem d_Morph_draw_55 : ∃ off : Int, decode q_Morph_draw.2.1 55 = .ok (.goto off, 3) ∧ ((55 : Nat) : Int) + off = ((25 : Nat) : Int) := ⟨-30, vm_db b_Morph_draw_0 (i := 28) rfl, by decide⟩
theorem d_Morph_draw_58 : vm_D q_Morph_draw.2.1 58 3 61 (.iinc 4 1) := vm_dD b_Morph_draw_0 29 rfl rfl
theorem d_Morph_draw_61 : ∃ off : Int, decode q_Morph_draw.2.1 61 = .ok (.goto off, 3) ∧ ((61 : Nat) : Int) + off = ((5 : Nat) : Int) := ⟨-56, vm_db b_Morph_draw_0 (i := 30) rfl, by decide⟩
theorem d_Morph_draw_64 : vm_D q_Morph_draw.2.1 64 1 65 (.aload_n 2) := vm_dD b_Morph_draw_0 31 rfl rfl
theorem d_Morph_draw_65 : vm_D q_Morph_draw.2.1 65 1 66 (.iload_n 3) := vm_dD b_Morph_draw_0 32 rfl rfl
theorem d_Morph_draw_66 : vm_D q_Morph_draw.2.1 66 3 69 (.invokevirtual 50) := vm_dD b_Morph_draw_0 33 rfl rfl
theorem d_Morph_draw_69 : vm_D q_Morph_draw.2.1 69 1 70 (.return_) := vm_dD b_Morph_draw_0 34 rfl rfl
def q_Line_figures : vm_Y := ("RepeatFree$Line", cX1_figures, 3, false, [])
def t_Line_figures_0 : List (Nat × Instr × Nat) := [(0, .iconst 0, 1), (1, .istore_n 1, 1), (2, .iconst 0, 1), (3, .istore_n 2, 1), (4, .iload_n 2, 1), (5, .aload_n 0, 1), (6, .getfield 30, 3), (9, .if_icmp .ge 28, 3), (12, .iload_n 2, 1), (13, .bipush 6, 2), (15, .if_icmp .ge 22, 3), (18, .bipush 10, 2), (20, .iload_n 1, 1), (21, .imul, 1), (22, .aload_n 0, 1), (23, .iload_n 2, 1), (24, .invokevirtual 43, 3), (27, .iadd, 1), (28, .iconst 1, 1), (29, .iadd, 1), (30, .istore_n 1, 1), (31, .iinc 2 1, 3), (34, .goto (-30), 3), (37, .iload_n 1, 1), (38, .ireturn, 1)]
theorem b_Line_figures_0 : (t_Line_figures_0.all fun q => decide (decode q_Line_figures.2.1 q.1 = .ok (q.2.1, q.2.2))) = true := by decide +kernel
theorem d_Line_figures_0 : vm_D q_Line_figures.2.1 0 1 1 (.iconst 0) := vm_dD b_Line_figures_0 0 rfl rfl
theorem d_Line_figures_1 : vm_D q_Line_figures.2.1 1 1 2 (.istore_n 1) := vm_dD b_Line_figures_0 1 rfl rfl
theorem d_Line_figures_2 : vm_D q_Line_figures.2.1 2 1 3 (.iconst 0) := vm_dD b_Line_figures_0 2 rfl rfl
theorem d_Line_figures_3 : vm_D q_Line_figures.2.1 3 1 4 (.istore_n 2) := vm_dD b_Line_figures_0 3 rfl rfl
theorem d_Line_figures_4 : vm_D q_Line_figures.2.1 4 1 5 (.iload_n 2) := vm_dD b_Line_figures_0 4 rfl rfl
theorem d_Line_figures_5 : vm_D q_Line_figures.2.1 5 1 6 (.aload_n 0) := vm_dD b_Line_figures_0 5 rfl rfl
theorem d_Line_figures_6 : vm_D q_Line_figures.2.1 6 3 9 (.getfield 30) := vm_dD b_Line_figures_0 6 rfl rfl
theorem d_Line_figures_9 : vm_B q_Line_figures.2.1 9 12 37 (fun o => .if_icmp .ge o) := ⟨28, vm_db b_Line_figures_0 (i := 7) rfl, rfl, by decide⟩
theorem d_Line_figures_12 : vm_D q_Line_figures.2.1 12 1 13 (.iload_n 2) := vm_dD b_Line_figures_0 8 rfl rfl
theorem d_Line_figures_13 : vm_D q_Line_figures.2.1 13 2 15 (.bipush 6) := vm_dD b_Line_figures_0 9 rfl rfl
theorem d_Line_figures_15 : vm_B q_Line_figures.2.1 15 18 37 (fun o => .if_icmp .ge o) := ⟨22, vm_db b_Line_figures_0 (i := 10) rfl, rfl, by decide⟩
theorem d_Line_figures_18 : vm_D q_Line_figures.2.1 18 2 20 (.bipush 10) := vm_dD b_Line_figures_0 11 rfl rfl
theorem d_Line_figures_20 : vm_D q_Line_figures.2.1 20 1 21 (.iload_n 1) := vm_dD b_Line_figures_0 12 rfl rfl
theorem d_Line_figures_21 : vm_D q_Line_figures.2.1 21 1 22 (.imul) := vm_dD b_Line_figures_0 13 rfl rfl
theorem d_Line_figures_22 : vm_D q_Line_figures.2.1 22 1 23 (.aload_n 0) := vm_dD b_Line_figures_0 14 rfl rfl
theorem d_Line_figures_23 : vm_D q_Line_figures.2.1 23 1 24 (.iload_n 2) := vm_dD b_Line_figures_0 15 rfl rfl
theorem d_Line_figures_24 : vm_D q_Line_figures.2.1 24 3 27 (.invokevirtual 43) := vm_dD b_Line_figures_0 16 rfl rfl
theorem d_Line_figures_27 : vm_D q_Line_figures.2.1 27 1 28 (.iadd) := vm_dD b_Line_figures_0 17 rfl rfl
theorem d_Line_figures_28 : vm_D q_Line_figures.2.1 28 1 29 (.iconst 1) := vm_dD b_Line_figures_0 18 rfl rfl
theorem d_Line_figures_29 : vm_D q_Line_figures.2.1 29 1 30 (.iadd) := vm_dD b_Line_figures_0 19 rfl rfl
theorem d_Line_figures_30 : vm_D q_Line_figures.2.1 30 1 31 (.istore_n 1) := vm_dD b_Line_figures_0 20 rfl rfl
theorem d_Line_figures_31 : vm_D q_Line_figures.2.1 31 3 34 (.iinc 2 1) := vm_dD b_Line_figures_0 21 rfl rfl
theorem d_Line_figures_34 : ∃ off : Int, decode q_Line_figures.2.1 34 = .ok (.goto off, 3) ∧ ((34 : Nat) : Int) + off = ((4 : Nat) : Int) := ⟨-30, vm_db b_Line_figures_0 (i := 22) rfl, by decide⟩
theorem d_Line_figures_37 : vm_D q_Line_figures.2.1 37 1 38 (.iload_n 1) := vm_dD b_Line_figures_0 23 rfl rfl
theorem d_Line_figures_38 : vm_D q_Line_figures.2.1 38 1 39 (.ireturn) := vm_dD b_Line_figures_0 24 rfl rfl
def q_Morph_growsFrom : vm_Y := ("RepeatFree$Morph", cX2_growsFrom, 2, false, [])
def t_Morph_growsFrom_0 : List (Nat × Instr × Nat) := [(0, .aload_n 0, 1), (1, .iload_n 1, 1), (2, .invokevirtual 33, 3), (5, .iconst 1, 1), (6, .if_icmp .le 17, 3), (9, .aload_n 0, 1), (10, .iload_n 1, 1), (11, .iconst 0, 1), (12, .invokevirtual 36, 3), (15, .iload_n 1, 1), (16, .if_icmp .ne 7, 3), (19, .iconst 1, 1), (20, .goto 4, 3), (23, .iconst 0, 1), (24, .ireturn, 1)]
theorem b_Morph_growsFrom_0 : (t_Morph_growsFrom_0.all fun q => decide (decode q_Morph_growsFrom.2.1 q.1 = .ok (q.2.1, q.2.2))) = true := by decide +kernel
theorem d_Morph_growsFrom_0 : vm_D q_Morph_growsFrom.2.1 0 1 1 (.aload_n 0) := vm_dD b_Morph_growsFrom_0 0 rfl rfl
theorem d_Morph_growsFrom_1 : vm_D q_Morph_growsFrom.2.1 1 1 2 (.iload_n 1) := vm_dD b_Morph_growsFrom_0 1 rfl rfl
theorem d_Morph_growsFrom_2 : vm_D q_Morph_growsFrom.2.1 2 3 5 (.invokevirtual 33) := vm_dD b_Morph_growsFrom_0 2 rfl rfl
theorem d_Morph_growsFrom_5 : vm_D q_Morph_growsFrom.2.1 5 1 6 (.iconst 1) := vm_dD b_Morph_growsFrom_0 3 rfl rfl
theorem d_Morph_growsFrom_6 : vm_B q_Morph_growsFrom.2.1 6 9 23 (fun o => .if_icmp .le o) := ⟨17, vm_db b_Morph_growsFrom_0 (i := 4) rfl, rfl, by decide⟩
theorem d_Morph_growsFrom_23 : vm_D q_Morph_growsFrom.2.1 23 1 24 (.iconst 0) := vm_dD b_Morph_growsFrom_0 13 rfl rfl
theorem d_Morph_growsFrom_24 : vm_D q_Morph_growsFrom.2.1 24 1 25 (.ireturn) := vm_dD b_Morph_growsFrom_0 14 rfl rfl
theorem d_Morph_growsFrom_9 : vm_D q_Morph_growsFrom.2.1 9 1 10 (.aload_n 0) := vm_dD b_Morph_growsFrom_0 5 rfl rfl
theorem d_Morph_growsFrom_10 : vm_D q_Morph_growsFrom.2.1 10 1 11 (.iload_n 1) := vm_dD b_Morph_growsFrom_0 6 rfl rfl
theorem d_Morph_growsFrom_11 : vm_D q_Morph_growsFrom.2.1 11 1 12 (.iconst 0) := vm_dD b_Morph_growsFrom_0 7 rfl rfl
theorem d_Morph_growsFrom_12 : vm_D q_Morph_growsFrom.2.1 12 3 15 (.invokevirtual 36) := vm_dD b_Morph_growsFrom_0 8 rfl rfl
theorem d_Morph_growsFrom_15 : vm_D q_Morph_growsFrom.2.1 15 1 16 (.iload_n 1) := vm_dD b_Morph_growsFrom_0 9 rfl rfl
theorem d_Morph_growsFrom_16 : vm_B q_Morph_growsFrom.2.1 16 19 23 (fun o => .if_icmp .ne o) := ⟨7, vm_db b_Morph_growsFrom_0 (i := 10) rfl, rfl, by decide⟩
theorem d_Morph_growsFrom_19 : vm_D q_Morph_growsFrom.2.1 19 1 20 (.iconst 1) := vm_dD b_Morph_growsFrom_0 11 rfl rfl
theorem d_Morph_growsFrom_20 : ∃ off : Int, decode q_Morph_growsFrom.2.1 20 = .ok (.goto off, 3) ∧ ((20 : Nat) : Int) + off = ((24 : Nat) : Int) := ⟨4, vm_db b_Morph_growsFrom_0 (i := 12) rfl, by decide⟩
def q_Morph_standsAt : vm_Y := ("RepeatFree$Morph", cX2_standsAt, 5, false, [])
def t_Morph_standsAt_0 : List (Nat × Instr × Nat) := [(0, .iconst 0, 1), (1, .istore 4, 2), (3, .iload 4, 2), (5, .aload_n 0, 1), (6, .iload_n 3, 1), (7, .invokevirtual 33, 3), (10, .if_icmp .ge 29, 3), (13, .aload_n 1, 1), (14, .iload_n 2, 1), (15, .iload 4, 2), (17, .iadd, 1), (18, .invokevirtual 39, 3), (21, .aload_n 0, 1), (22, .iload_n 3, 1), (23, .iload 4, 2), (25, .invokevirtual 36, 3), (28, .if_icmp .eq 5, 3), (31, .iconst 0, 1), (32, .ireturn, 1), (33, .iinc 4 1, 3), (36, .goto (-33), 3), (39, .iconst 1, 1), (40, .ireturn, 1)]
theorem b_Morph_standsAt_0 : (t_Morph_standsAt_0.all fun q => decide (decode q_Morph_standsAt.2.1 q.1 = .ok (q.2.1, q.2.2))) = true := by decide +kernel
theorem d_Morph_standsAt_0 : vm_D q_Morph_standsAt.2.1 0 1 1 (.iconst 0) := vm_dD b_Morph_standsAt_0 0 rfl rfl
theorem d_Morph_standsAt_1 : vm_D q_Morph_standsAt.2.1 1 2 3 (.istore 4) := vm_dD b_Morph_standsAt_0 1 rfl rfl
theorem d_Morph_standsAt_3 : vm_D q_Morph_standsAt.2.1 3 2 5 (.iload 4) := vm_dD b_Morph_standsAt_0 2 rfl rfl
theorem d_Morph_standsAt_5 : vm_D q_Morph_standsAt.2.1 5 1 6 (.aload_n 0) := vm_dD b_Morph_standsAt_0 3 rfl rfl
theorem d_Morph_standsAt_6 : vm_D q_Morph_standsAt.2.1 6 1 7 (.iload_n 3) := vm_dD b_Morph_standsAt_0 4 rfl rfl
theorem d_Morph_standsAt_7 : vm_D q_Morph_standsAt.2.1 7 3 10 (.invokevirtual 33) := vm_dD b_Morph_standsAt_0 5 rfl rfl
theorem d_Morph_standsAt_10 : vm_B q_Morph_standsAt.2.1 10 13 39 (fun o => .if_icmp .ge o) := ⟨29, vm_db b_Morph_standsAt_0 (i := 6) rfl, rfl, by decide⟩
theorem d_Morph_standsAt_13 : vm_D q_Morph_standsAt.2.1 13 1 14 (.aload_n 1) := vm_dD b_Morph_standsAt_0 7 rfl rfl
theorem d_Morph_standsAt_14 : vm_D q_Morph_standsAt.2.1 14 1 15 (.iload_n 2) := vm_dD b_Morph_standsAt_0 8 rfl rfl
theorem d_Morph_standsAt_15 : vm_D q_Morph_standsAt.2.1 15 2 17 (.iload 4) := vm_dD b_Morph_standsAt_0 9 rfl rfl
theorem d_Morph_standsAt_17 : vm_D q_Morph_standsAt.2.1 17 1 18 (.iadd) := vm_dD b_Morph_standsAt_0 10 rfl rfl
theorem d_Morph_standsAt_18 : vm_D q_Morph_standsAt.2.1 18 3 21 (.invokevirtual 39) := vm_dD b_Morph_standsAt_0 11 rfl rfl
theorem d_Morph_standsAt_21 : vm_D q_Morph_standsAt.2.1 21 1 22 (.aload_n 0) := vm_dD b_Morph_standsAt_0 12 rfl rfl
theorem d_Morph_standsAt_22 : vm_D q_Morph_standsAt.2.1 22 1 23 (.iload_n 3) := vm_dD b_Morph_standsAt_0 13 rfl rfl
theorem d_Morph_standsAt_23 : vm_D q_Morph_standsAt.2.1 23 2 25 (.iload 4) := vm_dD b_Morph_standsAt_0 14 rfl rfl
theorem d_Morph_standsAt_25 : vm_D q_Morph_standsAt.2.1 25 3 28 (.invokevirtual 36) := vm_dD b_Morph_standsAt_0 15 rfl rfl
theorem d_Morph_standsAt_28 : vm_B q_Morph_standsAt.2.1 28 31 33 (fun o => .if_icmp .eq o) := ⟨5, vm_db b_Morph_standsAt_0 (i := 16) rfl, rfl, by decide⟩
theorem d_Morph_standsAt_33 : vm_D q_Morph_standsAt.2.1 33 3 36 (.iinc 4 1) := vm_dD b_Morph_standsAt_0 19 rfl rfl
theorem d_Morph_standsAt_36 : ∃ off : Int, decode q_Morph_standsAt.2.1 36 = .ok (.goto off, 3) ∧ ((36 : Nat) : Int) + off = ((3 : Nat) : Int) := ⟨-33, vm_db b_Morph_standsAt_0 (i := 20) rfl, by decide⟩
theorem d_Morph_standsAt_31 : vm_D q_Morph_standsAt.2.1 31 1 32 (.iconst 0) := vm_dD b_Morph_standsAt_0 17 rfl rfl
theorem d_Morph_standsAt_32 : vm_D q_Morph_standsAt.2.1 32 1 33 (.ireturn) := vm_dD b_Morph_standsAt_0 18 rfl rfl
theorem d_Morph_standsAt_39 : vm_D q_Morph_standsAt.2.1 39 1 40 (.iconst 1) := vm_dD b_Morph_standsAt_0 21 rfl rfl
theorem d_Morph_standsAt_40 : vm_D q_Morph_standsAt.2.1 40 1 41 (.ireturn) := vm_dD b_Morph_standsAt_0 22 rfl rfl
def q_Morph_agrees : vm_Y := ("RepeatFree$Morph", cX2_agrees, 5, false, [])
def t_Morph_agrees_0 : List (Nat × Instr × Nat) := [(0, .iconst 0, 1), (1, .istore 4, 2), (3, .iload_n 2, 1), (4, .iload 4, 2), (6, .iadd, 1), (7, .aload_n 0, 1), (8, .iload_n 1, 1), (9, .invokevirtual 33, 3), (12, .if_icmp .ge 40, 3), (15, .iload 4, 2), (17, .aload_n 0, 1), (18, .iload_n 3, 1), (19, .invokevirtual 33, 3), (22, .if_icmp .ge 30, 3), (25, .aload_n 0, 1), (26, .iload_n 1, 1), (27, .iload_n 2, 1), (28, .iload 4, 2), (30, .iadd, 1), (31, .invokevirtual 36, 3), (34, .aload_n 0, 1), (35, .iload_n 3, 1), (36, .iload 4, 2), (38, .invokevirtual 36, 3), (41, .if_icmp .eq 5, 3), (44, .iconst 0, 1), (45, .ireturn, 1), (46, .iinc 4 1, 3), (49, .goto (-46), 3), (52, .iconst 1, 1), (53, .ireturn, 1)]
theorem b_Morph_agrees_0 : (t_Morph_agrees_0.all fun q => decide (decode q_Morph_agrees.2.1 q.1 = .ok (q.2.1, q.2.2))) = true := by decide +kernel
theorem d_Morph_agrees_0 : vm_D q_Morph_agrees.2.1 0 1 1 (.iconst 0) := vm_dD b_Morph_agrees_0 0 rfl rfl
theorem d_Morph_agrees_1 : vm_D q_Morph_agrees.2.1 1 2 3 (.istore 4) := vm_dD b_Morph_agrees_0 1 rfl rfl
theorem d_Morph_agrees_3 : vm_D q_Morph_agrees.2.1 3 1 4 (.iload_n 2) := vm_dD b_Morph_agrees_0 2 rfl rfl
theorem d_Morph_agrees_4 : vm_D q_Morph_agrees.2.1 4 2 6 (.iload 4) := vm_dD b_Morph_agrees_0 3 rfl rfl
theorem d_Morph_agrees_6 : vm_D q_Morph_agrees.2.1 6 1 7 (.iadd) := vm_dD b_Morph_agrees_0 4 rfl rfl
theorem d_Morph_agrees_7 : vm_D q_Morph_agrees.2.1 7 1 8 (.aload_n 0) := vm_dD b_Morph_agrees_0 5 rfl rfl
theorem d_Morph_agrees_8 : vm_D q_Morph_agrees.2.1 8 1 9 (.iload_n 1) := vm_dD b_Morph_agrees_0 6 rfl rfl
theorem d_Morph_agrees_9 : vm_D q_Morph_agrees.2.1 9 3 12 (.invokevirtual 33) := vm_dD b_Morph_agrees_0 7 rfl rfl
theorem d_Morph_agrees_12 : vm_B q_Morph_agrees.2.1 12 15 52 (fun o => .if_icmp .ge o) := ⟨40, vm_db b_Morph_agrees_0 (i := 8) rfl, rfl, by decide⟩
theorem d_Morph_agrees_15 : vm_D q_Morph_agrees.2.1 15 2 17 (.iload 4) := vm_dD b_Morph_agrees_0 9 rfl rfl
theorem d_Morph_agrees_17 : vm_D q_Morph_agrees.2.1 17 1 18 (.aload_n 0) := vm_dD b_Morph_agrees_0 10 rfl rfl
theorem d_Morph_agrees_18 : vm_D q_Morph_agrees.2.1 18 1 19 (.iload_n 3) := vm_dD b_Morph_agrees_0 11 rfl rfl
theorem d_Morph_agrees_19 : vm_D q_Morph_agrees.2.1 19 3 22 (.invokevirtual 33) := vm_dD b_Morph_agrees_0 12 rfl rfl
theorem d_Morph_agrees_22 : vm_B q_Morph_agrees.2.1 22 25 52 (fun o => .if_icmp .ge o) := ⟨30, vm_db b_Morph_agrees_0 (i := 13) rfl, rfl, by decide⟩
theorem d_Morph_agrees_25 : vm_D q_Morph_agrees.2.1 25 1 26 (.aload_n 0) := vm_dD b_Morph_agrees_0 14 rfl rfl
theorem d_Morph_agrees_26 : vm_D q_Morph_agrees.2.1 26 1 27 (.iload_n 1) := vm_dD b_Morph_agrees_0 15 rfl rfl
theorem d_Morph_agrees_27 : vm_D q_Morph_agrees.2.1 27 1 28 (.iload_n 2) := vm_dD b_Morph_agrees_0 16 rfl rfl
theorem d_Morph_agrees_28 : vm_D q_Morph_agrees.2.1 28 2 30 (.iload 4) := vm_dD b_Morph_agrees_0 17 rfl rfl
theorem d_Morph_agrees_30 : vm_D q_Morph_agrees.2.1 30 1 31 (.iadd) := vm_dD b_Morph_agrees_0 18 rfl rfl
theorem d_Morph_agrees_31 : vm_D q_Morph_agrees.2.1 31 3 34 (.invokevirtual 36) := vm_dD b_Morph_agrees_0 19 rfl rfl
theorem d_Morph_agrees_34 : vm_D q_Morph_agrees.2.1 34 1 35 (.aload_n 0) := vm_dD b_Morph_agrees_0 20 rfl rfl
theorem d_Morph_agrees_35 : vm_D q_Morph_agrees.2.1 35 1 36 (.iload_n 3) := vm_dD b_Morph_agrees_0 21 rfl rfl
theorem d_Morph_agrees_36 : vm_D q_Morph_agrees.2.1 36 2 38 (.iload 4) := vm_dD b_Morph_agrees_0 22 rfl rfl
theorem d_Morph_agrees_38 : vm_D q_Morph_agrees.2.1 38 3 41 (.invokevirtual 36) := vm_dD b_Morph_agrees_0 23 rfl rfl
theorem d_Morph_agrees_41 : vm_B q_Morph_agrees.2.1 41 44 46 (fun o => .if_icmp .eq o) := ⟨5, vm_db b_Morph_agrees_0 (i := 24) rfl, rfl, by decide⟩
theorem d_Morph_agrees_46 : vm_D q_Morph_agrees.2.1 46 3 49 (.iinc 4 1) := vm_dD b_Morph_agrees_0 27 rfl rfl
theorem d_Morph_agrees_49 : ∃ off : Int, decode q_Morph_agrees.2.1 49 = .ok (.goto off, 3) ∧ ((49 : Nat) : Int) + off = ((3 : Nat) : Int) := ⟨-46, vm_db b_Morph_agrees_0 (i := 28) rfl, by decide⟩
theorem d_Morph_agrees_44 : vm_D q_Morph_agrees.2.1 44 1 45 (.iconst 0) := vm_dD b_Morph_agrees_0 25 rfl rfl
theorem d_Morph_agrees_45 : vm_D q_Morph_agrees.2.1 45 1 46 (.ireturn) := vm_dD b_Morph_agrees_0 26 rfl rfl
theorem d_Morph_agrees_52 : vm_D q_Morph_agrees.2.1 52 1 53 (.iconst 1) := vm_dD b_Morph_agrees_0 29 rfl rfl
theorem d_Morph_agrees_53 : vm_D q_Morph_agrees.2.1 53 1 54 (.ireturn) := vm_dD b_Morph_agrees_0 30 rfl rfl
def q_Morph_restBit : vm_Y := ("RepeatFree$Morph", cX2_restBit, 3, false, [])
def t_Morph_restBit_0 : List (Nat × Instr × Nat) := [(0, .lconst 1, 1), (1, .iconst 1, 1), (2, .iload_n 1, 1), (3, .bipush 6, 2), (5, .imul, 1), (6, .iadd, 1), (7, .iload_n 2, 1), (8, .iadd, 1), (9, .lshl, 1), (10, .lreturn, 1)]
theorem b_Morph_restBit_0 : (t_Morph_restBit_0.all fun q => decide (decode q_Morph_restBit.2.1 q.1 = .ok (q.2.1, q.2.2))) = true := by decide +kernel
theorem d_Morph_restBit_0 : vm_D q_Morph_restBit.2.1 0 1 1 (.lconst 1) := vm_dD b_Morph_restBit_0 0 rfl rfl
theorem d_Morph_restBit_1 : vm_D q_Morph_restBit.2.1 1 1 2 (.iconst 1) := vm_dD b_Morph_restBit_0 1 rfl rfl
theorem d_Morph_restBit_2 : vm_D q_Morph_restBit.2.1 2 1 3 (.iload_n 1) := vm_dD b_Morph_restBit_0 2 rfl rfl
theorem d_Morph_restBit_3 : vm_D q_Morph_restBit.2.1 3 2 5 (.bipush 6) := vm_dD b_Morph_restBit_0 3 rfl rfl
theorem d_Morph_restBit_5 : vm_D q_Morph_restBit.2.1 5 1 6 (.imul) := vm_dD b_Morph_restBit_0 4 rfl rfl
theorem d_Morph_restBit_6 : vm_D q_Morph_restBit.2.1 6 1 7 (.iadd) := vm_dD b_Morph_restBit_0 5 rfl rfl
theorem d_Morph_restBit_7 : vm_D q_Morph_restBit.2.1 7 1 8 (.iload_n 2) := vm_dD b_Morph_restBit_0 6 rfl rfl
theorem d_Morph_restBit_8 : vm_D q_Morph_restBit.2.1 8 1 9 (.iadd) := vm_dD b_Morph_restBit_0 7 rfl rfl
theorem d_Morph_restBit_9 : vm_D q_Morph_restBit.2.1 9 1 10 (.lshl) := vm_dD b_Morph_restBit_0 8 rfl rfl
theorem d_Morph_restBit_10 : vm_D q_Morph_restBit.2.1 10 1 11 (.lreturn) := vm_dD b_Morph_restBit_0 9 rfl rfl
def q_Morph_restBehind : vm_Y := ("RepeatFree$Morph", cX2_restBehind, 5, false, [])
def t_Morph_restBehind_0 : List (Nat × Instr × Nat) := [(0, .aload_n 0, 1), (1, .iload_n 1, 1), (2, .invokevirtual 33, 3), (5, .iload_n 2, 1), (6, .isub, 1), (7, .istore 4, 2), (9, .iload 4, 2), (11, .aload_n 0, 1), (12, .iload_n 3, 1), (13, .invokevirtual 33, 3), (16, .if_icmp .ne 5, 3), (19, .lconst 1, 1), (20, .lreturn, 1), (21, .iload 4, 2), (23, .aload_n 0, 1), (24, .iload_n 3, 1), (25, .invokevirtual 33, 3), (28, .if_icmp .le 18, 3), (31, .aload_n 0, 1), (32, .iload_n 1, 1), (33, .iload_n 2, 1), (34, .aload_n 0, 1), (35, .iload_n 3, 1), (36, .invokevirtual 33, 3), (39, .iadd, 1), (40, .invokevirtual 62, 3), (43, .goto 10, 3), (46, .aload_n 0, 1), (47, .iload_n 3, 1), (48, .iload 4, 2), (50, .invokevirtual 62, 3), (53, .lreturn, 1)]
theorem b_Morph_restBehind_0 : (t_Morph_restBehind_0.all fun q => decide (decode q_Morph_restBehind.2.1 q.1 = .ok (q.2.1, q.2.2))) = true := by decide +kernel
theorem d_Morph_restBehind_0 : vm_D q_Morph_restBehind.2.1 0 1 1 (.aload_n 0) := vm_dD b_Morph_restBehind_0 0 rfl rfl
theorem d_Morph_restBehind_1 : vm_D q_Morph_restBehind.2.1 1 1 2 (.iload_n 1) := vm_dD b_Morph_restBehind_0 1 rfl rfl
theorem d_Morph_restBehind_2 : vm_D q_Morph_restBehind.2.1 2 3 5 (.invokevirtual 33) := vm_dD b_Morph_restBehind_0 2 rfl rfl
theorem d_Morph_restBehind_5 : vm_D q_Morph_restBehind.2.1 5 1 6 (.iload_n 2) := vm_dD b_Morph_restBehind_0 3 rfl rfl
theorem d_Morph_restBehind_6 : vm_D q_Morph_restBehind.2.1 6 1 7 (.isub) := vm_dD b_Morph_restBehind_0 4 rfl rfl
theorem d_Morph_restBehind_7 : vm_D q_Morph_restBehind.2.1 7 2 9 (.istore 4) := vm_dD b_Morph_restBehind_0 5 rfl rfl
theorem d_Morph_restBehind_9 : vm_D q_Morph_restBehind.2.1 9 2 11 (.iload 4) := vm_dD b_Morph_restBehind_0 6 rfl rfl
theorem d_Morph_restBehind_11 : vm_D q_Morph_restBehind.2.1 11 1 12 (.aload_n 0) := vm_dD b_Morph_restBehind_0 7 rfl rfl
theorem d_Morph_restBehind_12 : vm_D q_Morph_restBehind.2.1 12 1 13 (.iload_n 3) := vm_dD b_Morph_restBehind_0 8 rfl rfl
theorem d_Morph_restBehind_13 : vm_D q_Morph_restBehind.2.1 13 3 16 (.invokevirtual 33) := vm_dD b_Morph_restBehind_0 9 rfl rfl
theorem d_Morph_restBehind_16 : vm_B q_Morph_restBehind.2.1 16 19 21 (fun o => .if_icmp .ne o) := ⟨5, vm_db b_Morph_restBehind_0 (i := 10) rfl, rfl, by decide⟩
theorem d_Morph_restBehind_21 : vm_D q_Morph_restBehind.2.1 21 2 23 (.iload 4) := vm_dD b_Morph_restBehind_0 13 rfl rfl
theorem d_Morph_restBehind_23 : vm_D q_Morph_restBehind.2.1 23 1 24 (.aload_n 0) := vm_dD b_Morph_restBehind_0 14 rfl rfl
theorem d_Morph_restBehind_24 : vm_D q_Morph_restBehind.2.1 24 1 25 (.iload_n 3) := vm_dD b_Morph_restBehind_0 15 rfl rfl
theorem d_Morph_restBehind_25 : vm_D q_Morph_restBehind.2.1 25 3 28 (.invokevirtual 33) := vm_dD b_Morph_restBehind_0 16 rfl rfl
theorem d_Morph_restBehind_28 : vm_B q_Morph_restBehind.2.1 28 31 46 (fun o => .if_icmp .le o) := ⟨18, vm_db b_Morph_restBehind_0 (i := 17) rfl, rfl, by decide⟩
theorem d_Morph_restBehind_46 : vm_D q_Morph_restBehind.2.1 46 1 47 (.aload_n 0) := vm_dD b_Morph_restBehind_0 27 rfl rfl
theorem d_Morph_restBehind_47 : vm_D q_Morph_restBehind.2.1 47 1 48 (.iload_n 3) := vm_dD b_Morph_restBehind_0 28 rfl rfl
theorem d_Morph_restBehind_48 : vm_D q_Morph_restBehind.2.1 48 2 50 (.iload 4) := vm_dD b_Morph_restBehind_0 29 rfl rfl
theorem d_Morph_restBehind_50 : vm_D q_Morph_restBehind.2.1 50 3 53 (.invokevirtual 62) := vm_dD b_Morph_restBehind_0 30 rfl rfl
theorem d_Morph_restBehind_53 : vm_D q_Morph_restBehind.2.1 53 1 54 (.lreturn) := vm_dD b_Morph_restBehind_0 31 rfl rfl
theorem d_Morph_restBehind_31 : vm_D q_Morph_restBehind.2.1 31 1 32 (.aload_n 0) := vm_dD b_Morph_restBehind_0 18 rfl rfl
theorem d_Morph_restBehind_32 : vm_D q_Morph_restBehind.2.1 32 1 33 (.iload_n 1) := vm_dD b_Morph_restBehind_0 19 rfl rfl
theorem d_Morph_restBehind_33 : vm_D q_Morph_restBehind.2.1 33 1 34 (.iload_n 2) := vm_dD b_Morph_restBehind_0 20 rfl rfl
theorem d_Morph_restBehind_34 : vm_D q_Morph_restBehind.2.1 34 1 35 (.aload_n 0) := vm_dD b_Morph_restBehind_0 21 rfl rfl
theorem d_Morph_restBehind_35 : vm_D q_Morph_restBehind.2.1 35 1 36 (.iload_n 3) := vm_dD b_Morph_restBehind_0 22 rfl rfl
theorem d_Morph_restBehind_36 : vm_D q_Morph_restBehind.2.1 36 3 39 (.invokevirtual 33) := vm_dD b_Morph_restBehind_0 23 rfl rfl
theorem d_Morph_restBehind_39 : vm_D q_Morph_restBehind.2.1 39 1 40 (.iadd) := vm_dD b_Morph_restBehind_0 24 rfl rfl
theorem d_Morph_restBehind_40 : vm_D q_Morph_restBehind.2.1 40 3 43 (.invokevirtual 62) := vm_dD b_Morph_restBehind_0 25 rfl rfl
theorem d_Morph_restBehind_43 : ∃ off : Int, decode q_Morph_restBehind.2.1 43 = .ok (.goto off, 3) ∧ ((43 : Nat) : Int) + off = ((53 : Nat) : Int) := ⟨10, vm_db b_Morph_restBehind_0 (i := 26) rfl, by decide⟩
theorem d_Morph_restBehind_19 : vm_D q_Morph_restBehind.2.1 19 1 20 (.lconst 1) := vm_dD b_Morph_restBehind_0 11 rfl rfl
theorem d_Morph_restBehind_20 : vm_D q_Morph_restBehind.2.1 20 1 21 (.lreturn) := vm_dD b_Morph_restBehind_0 12 rfl rfl
def q_Morph_restsBehind : vm_Y := ("RepeatFree$Morph", cX2_restsBehind, 7, false, [])
def t_Morph_restsBehind_0 : List (Nat × Instr × Nat) := [(0, .lconst 0, 1), (1, .lstore 4, 2), (3, .iconst 0, 1), (4, .istore 6, 2), (6, .iload 6, 2), (8, .iload_n 3, 1), (9, .if_icmp .ge 33, 3), (12, .aload_n 0, 1), (13, .iload_n 1, 1), (14, .iload_n 2, 1), (15, .iload 6, 2), (17, .invokevirtual 54, 3), (20, .ifCond .eq 16, 3), (23, .lload 4, 2), (25, .aload_n 0, 1), (26, .iload_n 1, 1), (27, .iload_n 2, 1), (28, .iload 6, 2), (30, .invokevirtual 58, 3), (33, .lor, 1), (34, .lstore 4, 2), (36, .iinc 6 1, 3), (39, .goto (-33), 3), (42, .lload 4, 2), (44, .lreturn, 1)]
theorem b_Morph_restsBehind_0 : (t_Morph_restsBehind_0.all fun q => decide (decode q_Morph_restsBehind.2.1 q.1 = .ok (q.2.1, q.2.2))) = true := by decide +kernel
theorem d_Morph_restsBehind_0 : vm_D q_Morph_restsBehind.2.1 0 1 1 (.lconst 0) := vm_dD b_Morph_restsBehind_0 0 rfl rfl
theorem d_Morph_restsBehind_1 : vm_D q_Morph_restsBehind.2.1 1 2 3 (.lstore 4) := vm_dD b_Morph_restsBehind_0 1 rfl rfl
theorem d_Morph_restsBehind_3 : vm_D q_Morph_restsBehind.2.1 3 1 4 (.iconst 0) := vm_dD b_Morph_restsBehind_0 2 rfl rfl
theorem d_Morph_restsBehind_4 : vm_D q_Morph_restsBehind.2.1 4 2 6 (.istore 6) := vm_dD b_Morph_restsBehind_0 3 rfl rfl
theorem d_Morph_restsBehind_6 : vm_D q_Morph_restsBehind.2.1 6 2 8 (.iload 6) := vm_dD b_Morph_restsBehind_0 4 rfl rfl
theorem d_Morph_restsBehind_8 : vm_D q_Morph_restsBehind.2.1 8 1 9 (.iload_n 3) := vm_dD b_Morph_restsBehind_0 5 rfl rfl
theorem d_Morph_restsBehind_9 : vm_B q_Morph_restsBehind.2.1 9 12 42 (fun o => .if_icmp .ge o) := ⟨33, vm_db b_Morph_restsBehind_0 (i := 6) rfl, rfl, by decide⟩
theorem d_Morph_restsBehind_12 : vm_D q_Morph_restsBehind.2.1 12 1 13 (.aload_n 0) := vm_dD b_Morph_restsBehind_0 7 rfl rfl
theorem d_Morph_restsBehind_13 : vm_D q_Morph_restsBehind.2.1 13 1 14 (.iload_n 1) := vm_dD b_Morph_restsBehind_0 8 rfl rfl
theorem d_Morph_restsBehind_14 : vm_D q_Morph_restsBehind.2.1 14 1 15 (.iload_n 2) := vm_dD b_Morph_restsBehind_0 9 rfl rfl
theorem d_Morph_restsBehind_15 : vm_D q_Morph_restsBehind.2.1 15 2 17 (.iload 6) := vm_dD b_Morph_restsBehind_0 10 rfl rfl
theorem d_Morph_restsBehind_17 : vm_D q_Morph_restsBehind.2.1 17 3 20 (.invokevirtual 54) := vm_dD b_Morph_restsBehind_0 11 rfl rfl
theorem d_Morph_restsBehind_20 : vm_B q_Morph_restsBehind.2.1 20 23 36 (fun o => .ifCond .eq o) := ⟨16, vm_db b_Morph_restsBehind_0 (i := 12) rfl, rfl, by decide⟩
theorem d_Morph_restsBehind_36 : vm_D q_Morph_restsBehind.2.1 36 3 39 (.iinc 6 1) := vm_dD b_Morph_restsBehind_0 21 rfl rfl
theorem d_Morph_restsBehind_39 : ∃ off : Int, decode q_Morph_restsBehind.2.1 39 = .ok (.goto off, 3) ∧ ((39 : Nat) : Int) + off = ((6 : Nat) : Int) := ⟨-33, vm_db b_Morph_restsBehind_0 (i := 22) rfl, by decide⟩
theorem d_Morph_restsBehind_23 : vm_D q_Morph_restsBehind.2.1 23 2 25 (.lload 4) := vm_dD b_Morph_restsBehind_0 13 rfl rfl
theorem d_Morph_restsBehind_25 : vm_D q_Morph_restsBehind.2.1 25 1 26 (.aload_n 0) := vm_dD b_Morph_restsBehind_0 14 rfl rfl
theorem d_Morph_restsBehind_26 : vm_D q_Morph_restsBehind.2.1 26 1 27 (.iload_n 1) := vm_dD b_Morph_restsBehind_0 15 rfl rfl
theorem d_Morph_restsBehind_27 : vm_D q_Morph_restsBehind.2.1 27 1 28 (.iload_n 2) := vm_dD b_Morph_restsBehind_0 16 rfl rfl
theorem d_Morph_restsBehind_28 : vm_D q_Morph_restsBehind.2.1 28 2 30 (.iload 6) := vm_dD b_Morph_restsBehind_0 17 rfl rfl
theorem d_Morph_restsBehind_30 : vm_D q_Morph_restsBehind.2.1 30 3 33 (.invokevirtual 58) := vm_dD b_Morph_restsBehind_0 18 rfl rfl
theorem d_Morph_restsBehind_33 : vm_D q_Morph_restsBehind.2.1 33 1 34 (.lor) := vm_dD b_Morph_restsBehind_0 19 rfl rfl
theorem d_Morph_restsBehind_34 : vm_D q_Morph_restsBehind.2.1 34 2 36 (.lstore 4) := vm_dD b_Morph_restsBehind_0 20 rfl rfl
theorem d_Morph_restsBehind_42 : vm_D q_Morph_restsBehind.2.1 42 2 44 (.lload 4) := vm_dD b_Morph_restsBehind_0 23 rfl rfl
theorem d_Morph_restsBehind_44 : vm_D q_Morph_restsBehind.2.1 44 1 45 (.lreturn) := vm_dD b_Morph_restsBehind_0 24 rfl rfl
def q_Morph_isCode : vm_Y := ("RepeatFree$Morph", cX2_isCode, 7, false, [])
def t_Morph_isCode_0 : List (Nat × Instr × Nat) := [(0, .lconst 0, 1), (1, .lstore_n 2, 1), (2, .iconst 0, 1), (3, .istore 4, 2), (5, .iload 4, 2), (7, .iload_n 1, 1), (8, .if_icmp .ge 55, 3), (11, .iconst 0, 1), (12, .istore 5, 2), (14, .iload 5, 2), (16, .iload_n 1, 1), (17, .if_icmp .ge 40, 3), (20, .iload 4, 2), (22, .iload 5, 2), (24, .if_icmp .eq 27, 3), (27, .aload_n 0, 1), (28, .iload 4, 2), (30, .iconst 0, 1), (31, .iload 5, 2), (33, .invokevirtual 54, 3), (36, .ifCond .eq 15, 3), (39, .lload_n 2, 1), (40, .aload_n 0, 1), (41, .iload 4, 2), (43, .iconst 0, 1), (44, .iload 5, 2), (46, .invokevirtual 58, 3), (49, .lor, 1), (50, .lstore_n 2, 1), (51, .iinc 5 1, 3), (54, .goto (-40), 3), (57, .iinc 4 1, 3), (60, .goto (-55), 3), (63, .iconst 0, 1), (64, .istore 4, 2), (66, .iload 4, 2), (68, .bipush 24, 2), (70, .if_icmp .ge 79, 3), (73, .lload_n 2, 1), (74, .lconst 1, 1), (75, .land, 1), (76, .lconst 0, 1), (77, .lcmp, 1), (78, .ifCond .ne 71, 3), (81, .iconst 0, 1), (82, .istore 5, 2), (84, .iload 5, 2), (86, .iload_n 1, 1), (87, .if_icmp .ge 56, 3), (90, .iconst 1, 1), (91, .istore 6, 2), (93, .iload 6, 2), (95, .aload_n 0, 1), (96, .iload 5, 2), (98, .invokevirtual 33, 3), (101, .if_icmp .ge 36, 3), (104, .lload_n 2, 1), (105, .aload_n 0, 1), (106, .iload 5, 2), (108, .iload 6, 2)]
theorem b_Morph_isCode_0 : (t_Morph_isCode_0.all fun q => decide (decode q_Morph_isCode.2.1 q.1 = .ok (q.2.1, q.2.2))) = true := by decide +kernel
def t_Morph_isCode_1 : List (Nat × Instr × Nat) := [(110, .invokevirtual 62, 3), (113, .land, 1), (114, .lconst 0, 1), (115, .lcmp, 1), (116, .ifCond .eq 15, 3), (119, .lload_n 2, 1), (120, .aload_n 0, 1), (121, .iload 5, 2), (123, .iload 6, 2), (125, .iload_n 1, 1), (126, .invokevirtual 66, 3), (129, .lor, 1), (130, .lstore_n 2, 1), (131, .iinc 6 1, 3), (134, .goto (-41), 3), (137, .iinc 5 1, 3), (140, .goto (-56), 3), (143, .iinc 4 1, 3), (146, .goto (-80), 3), (149, .lload_n 2, 1), (150, .lconst 1, 1), (151, .land, 1), (152, .lconst 0, 1), (153, .lcmp, 1), (154, .ifCond .ne 7, 3), (157, .iconst 1, 1), (158, .goto 4, 3), (161, .iconst 0, 1), (162, .ireturn, 1)]
theorem b_Morph_isCode_1 : (t_Morph_isCode_1.all fun q => decide (decode q_Morph_isCode.2.1 q.1 = .ok (q.2.1, q.2.2))) = true := by decide +kernel
theorem d_Morph_isCode_0 : vm_D q_Morph_isCode.2.1 0 1 1 (.lconst 0) := vm_dD b_Morph_isCode_0 0 rfl rfl
theorem d_Morph_isCode_1 : vm_D q_Morph_isCode.2.1 1 1 2 (.lstore_n 2) := vm_dD b_Morph_isCode_0 1 rfl rfl
theorem d_Morph_isCode_2 : vm_D q_Morph_isCode.2.1 2 1 3 (.iconst 0) := vm_dD b_Morph_isCode_0 2 rfl rfl
theorem d_Morph_isCode_3 : vm_D q_Morph_isCode.2.1 3 2 5 (.istore 4) := vm_dD b_Morph_isCode_0 3 rfl rfl
theorem d_Morph_isCode_5 : vm_D q_Morph_isCode.2.1 5 2 7 (.iload 4) := vm_dD b_Morph_isCode_0 4 rfl rfl
theorem d_Morph_isCode_7 : vm_D q_Morph_isCode.2.1 7 1 8 (.iload_n 1) := vm_dD b_Morph_isCode_0 5 rfl rfl
theorem d_Morph_isCode_8 : vm_B q_Morph_isCode.2.1 8 11 63 (fun o => .if_icmp .ge o) := ⟨55, vm_db b_Morph_isCode_0 (i := 6) rfl, rfl, by decide⟩
theorem d_Morph_isCode_11 : vm_D q_Morph_isCode.2.1 11 1 12 (.iconst 0) := vm_dD b_Morph_isCode_0 7 rfl rfl
theorem d_Morph_isCode_12 : vm_D q_Morph_isCode.2.1 12 2 14 (.istore 5) := vm_dD b_Morph_isCode_0 8 rfl rfl
theorem d_Morph_isCode_14 : vm_D q_Morph_isCode.2.1 14 2 16 (.iload 5) := vm_dD b_Morph_isCode_0 9 rfl rfl
theorem d_Morph_isCode_16 : vm_D q_Morph_isCode.2.1 16 1 17 (.iload_n 1) := vm_dD b_Morph_isCode_0 10 rfl rfl
theorem d_Morph_isCode_17 : vm_B q_Morph_isCode.2.1 17 20 57 (fun o => .if_icmp .ge o) := ⟨40, vm_db b_Morph_isCode_0 (i := 11) rfl, rfl, by decide⟩
theorem d_Morph_isCode_20 : vm_D q_Morph_isCode.2.1 20 2 22 (.iload 4) := vm_dD b_Morph_isCode_0 12 rfl rfl
theorem d_Morph_isCode_22 : vm_D q_Morph_isCode.2.1 22 2 24 (.iload 5) := vm_dD b_Morph_isCode_0 13 rfl rfl
theorem d_Morph_isCode_24 : vm_B q_Morph_isCode.2.1 24 27 51 (fun o => .if_icmp .eq o) := ⟨27, vm_db b_Morph_isCode_0 (i := 14) rfl, rfl, by decide⟩
theorem d_Morph_isCode_51 : vm_D q_Morph_isCode.2.1 51 3 54 (.iinc 5 1) := vm_dD b_Morph_isCode_0 29 rfl rfl
theorem d_Morph_isCode_54 : ∃ off : Int, decode q_Morph_isCode.2.1 54 = .ok (.goto off, 3) ∧ ((54 : Nat) : Int) + off = ((14 : Nat) : Int) := ⟨-40, vm_db b_Morph_isCode_0 (i := 30) rfl, by decide⟩
theorem d_Morph_isCode_27 : vm_D q_Morph_isCode.2.1 27 1 28 (.aload_n 0) := vm_dD b_Morph_isCode_0 15 rfl rfl
theorem d_Morph_isCode_28 : vm_D q_Morph_isCode.2.1 28 2 30 (.iload 4) := vm_dD b_Morph_isCode_0 16 rfl rfl
theorem d_Morph_isCode_30 : vm_D q_Morph_isCode.2.1 30 1 31 (.iconst 0) := vm_dD b_Morph_isCode_0 17 rfl rfl
theorem d_Morph_isCode_31 : vm_D q_Morph_isCode.2.1 31 2 33 (.iload 5) := vm_dD b_Morph_isCode_0 18 rfl rfl
theorem d_Morph_isCode_33 : vm_D q_Morph_isCode.2.1 33 3 36 (.invokevirtual 54) := vm_dD b_Morph_isCode_0 19 rfl rfl
theorem d_Morph_isCode_36 : vm_B q_Morph_isCode.2.1 36 39 51 (fun o => .ifCond .eq o) := ⟨15, vm_db b_Morph_isCode_0 (i := 20) rfl, rfl, by decide⟩
theorem d_Morph_isCode_39 : vm_D q_Morph_isCode.2.1 39 1 40 (.lload_n 2) := vm_dD b_Morph_isCode_0 21 rfl rfl
theorem d_Morph_isCode_40 : vm_D q_Morph_isCode.2.1 40 1 41 (.aload_n 0) := vm_dD b_Morph_isCode_0 22 rfl rfl
theorem d_Morph_isCode_41 : vm_D q_Morph_isCode.2.1 41 2 43 (.iload 4) := vm_dD b_Morph_isCode_0 23 rfl rfl
theorem d_Morph_isCode_43 : vm_D q_Morph_isCode.2.1 43 1 44 (.iconst 0) := vm_dD b_Morph_isCode_0 24 rfl rfl
theorem d_Morph_isCode_44 : vm_D q_Morph_isCode.2.1 44 2 46 (.iload 5) := vm_dD b_Morph_isCode_0 25 rfl rfl
theorem d_Morph_isCode_46 : vm_D q_Morph_isCode.2.1 46 3 49 (.invokevirtual 58) := vm_dD b_Morph_isCode_0 26 rfl rfl
theorem d_Morph_isCode_49 : vm_D q_Morph_isCode.2.1 49 1 50 (.lor) := vm_dD b_Morph_isCode_0 27 rfl rfl
theorem d_Morph_isCode_50 : vm_D q_Morph_isCode.2.1 50 1 51 (.lstore_n 2) := vm_dD b_Morph_isCode_0 28 rfl rfl
theorem d_Morph_isCode_57 : vm_D q_Morph_isCode.2.1 57 3 60 (.iinc 4 1) := vm_dD b_Morph_isCode_0 31 rfl rfl
theorem d_Morph_isCode_60 : ∃ off : Int, decode q_Morph_isCode.2.1 60 = .ok (.goto off, 3) ∧ ((60 : Nat) : Int) + off = ((5 : Nat) : Int) := ⟨-55, vm_db b_Morph_isCode_0 (i := 32) rfl, by decide⟩
theorem d_Morph_isCode_63 : vm_D q_Morph_isCode.2.1 63 1 64 (.iconst 0) := vm_dD b_Morph_isCode_0 33 rfl rfl
theorem d_Morph_isCode_64 : vm_D q_Morph_isCode.2.1 64 2 66 (.istore 4) := vm_dD b_Morph_isCode_0 34 rfl rfl
theorem d_Morph_isCode_66 : vm_D q_Morph_isCode.2.1 66 2 68 (.iload 4) := vm_dD b_Morph_isCode_0 35 rfl rfl
theorem d_Morph_isCode_68 : vm_D q_Morph_isCode.2.1 68 2 70 (.bipush 24) := vm_dD b_Morph_isCode_0 36 rfl rfl
theorem d_Morph_isCode_70 : vm_B q_Morph_isCode.2.1 70 73 149 (fun o => .if_icmp .ge o) := ⟨79, vm_db b_Morph_isCode_0 (i := 37) rfl, rfl, by decide⟩
theorem d_Morph_isCode_73 : vm_D q_Morph_isCode.2.1 73 1 74 (.lload_n 2) := vm_dD b_Morph_isCode_0 38 rfl rfl
theorem d_Morph_isCode_74 : vm_D q_Morph_isCode.2.1 74 1 75 (.lconst 1) := vm_dD b_Morph_isCode_0 39 rfl rfl
theorem d_Morph_isCode_75 : vm_D q_Morph_isCode.2.1 75 1 76 (.land) := vm_dD b_Morph_isCode_0 40 rfl rfl
theorem d_Morph_isCode_76 : vm_D q_Morph_isCode.2.1 76 1 77 (.lconst 0) := vm_dD b_Morph_isCode_0 41 rfl rfl
theorem d_Morph_isCode_77 : vm_D q_Morph_isCode.2.1 77 1 78 (.lcmp) := vm_dD b_Morph_isCode_0 42 rfl rfl
theorem d_Morph_isCode_78 : vm_B q_Morph_isCode.2.1 78 81 149 (fun o => .ifCond .ne o) := ⟨71, vm_db b_Morph_isCode_0 (i := 43) rfl, rfl, by decide⟩
theorem d_Morph_isCode_81 : vm_D q_Morph_isCode.2.1 81 1 82 (.iconst 0) := vm_dD b_Morph_isCode_0 44 rfl rfl
theorem d_Morph_isCode_82 : vm_D q_Morph_isCode.2.1 82 2 84 (.istore 5) := vm_dD b_Morph_isCode_0 45 rfl rfl
theorem d_Morph_isCode_84 : vm_D q_Morph_isCode.2.1 84 2 86 (.iload 5) := vm_dD b_Morph_isCode_0 46 rfl rfl
theorem d_Morph_isCode_86 : vm_D q_Morph_isCode.2.1 86 1 87 (.iload_n 1) := vm_dD b_Morph_isCode_0 47 rfl rfl
theorem d_Morph_isCode_87 : vm_B q_Morph_isCode.2.1 87 90 143 (fun o => .if_icmp .ge o) := ⟨56, vm_db b_Morph_isCode_0 (i := 48) rfl, rfl, by decide⟩
theorem d_Morph_isCode_90 : vm_D q_Morph_isCode.2.1 90 1 91 (.iconst 1) := vm_dD b_Morph_isCode_0 49 rfl rfl
theorem d_Morph_isCode_91 : vm_D q_Morph_isCode.2.1 91 2 93 (.istore 6) := vm_dD b_Morph_isCode_0 50 rfl rfl
theorem d_Morph_isCode_93 : vm_D q_Morph_isCode.2.1 93 2 95 (.iload 6) := vm_dD b_Morph_isCode_0 51 rfl rfl
theorem d_Morph_isCode_95 : vm_D q_Morph_isCode.2.1 95 1 96 (.aload_n 0) := vm_dD b_Morph_isCode_0 52 rfl rfl
theorem d_Morph_isCode_96 : vm_D q_Morph_isCode.2.1 96 2 98 (.iload 5) := vm_dD b_Morph_isCode_0 53 rfl rfl
theorem d_Morph_isCode_98 : vm_D q_Morph_isCode.2.1 98 3 101 (.invokevirtual 33) := vm_dD b_Morph_isCode_0 54 rfl rfl
theorem d_Morph_isCode_101 : vm_B q_Morph_isCode.2.1 101 104 137 (fun o => .if_icmp .ge o) := ⟨36, vm_db b_Morph_isCode_0 (i := 55) rfl, rfl, by decide⟩
theorem d_Morph_isCode_104 : vm_D q_Morph_isCode.2.1 104 1 105 (.lload_n 2) := vm_dD b_Morph_isCode_0 56 rfl rfl
theorem d_Morph_isCode_105 : vm_D q_Morph_isCode.2.1 105 1 106 (.aload_n 0) := vm_dD b_Morph_isCode_0 57 rfl rfl
theorem d_Morph_isCode_106 : vm_D q_Morph_isCode.2.1 106 2 108 (.iload 5) := vm_dD b_Morph_isCode_0 58 rfl rfl
theorem d_Morph_isCode_108 : vm_D q_Morph_isCode.2.1 108 2 110 (.iload 6) := vm_dD b_Morph_isCode_0 59 rfl rfl
theorem d_Morph_isCode_110 : vm_D q_Morph_isCode.2.1 110 3 113 (.invokevirtual 62) := vm_dD b_Morph_isCode_1 0 rfl rfl
theorem d_Morph_isCode_113 : vm_D q_Morph_isCode.2.1 113 1 114 (.land) := vm_dD b_Morph_isCode_1 1 rfl rfl
theorem d_Morph_isCode_114 : vm_D q_Morph_isCode.2.1 114 1 115 (.lconst 0) := vm_dD b_Morph_isCode_1 2 rfl rfl
theorem d_Morph_isCode_115 : vm_D q_Morph_isCode.2.1 115 1 116 (.lcmp) := vm_dD b_Morph_isCode_1 3 rfl rfl
theorem d_Morph_isCode_116 : vm_B q_Morph_isCode.2.1 116 119 131 (fun o => .ifCond .eq o) := ⟨15, vm_db b_Morph_isCode_1 (i := 4) rfl, rfl, by decide⟩
theorem d_Morph_isCode_131 : vm_D q_Morph_isCode.2.1 131 3 134 (.iinc 6 1) := vm_dD b_Morph_isCode_1 13 rfl rfl
theorem d_Morph_isCode_134 : ∃ off : Int, decode q_Morph_isCode.2.1 134 = .ok (.goto off, 3) ∧ ((134 : Nat) : Int) + off = ((93 : Nat) : Int) := ⟨-41, vm_db b_Morph_isCode_1 (i := 14) rfl, by decide⟩
theorem d_Morph_isCode_119 : vm_D q_Morph_isCode.2.1 119 1 120 (.lload_n 2) := vm_dD b_Morph_isCode_1 5 rfl rfl
theorem d_Morph_isCode_120 : vm_D q_Morph_isCode.2.1 120 1 121 (.aload_n 0) := vm_dD b_Morph_isCode_1 6 rfl rfl
theorem d_Morph_isCode_121 : vm_D q_Morph_isCode.2.1 121 2 123 (.iload 5) := vm_dD b_Morph_isCode_1 7 rfl rfl
theorem d_Morph_isCode_123 : vm_D q_Morph_isCode.2.1 123 2 125 (.iload 6) := vm_dD b_Morph_isCode_1 8 rfl rfl
theorem d_Morph_isCode_125 : vm_D q_Morph_isCode.2.1 125 1 126 (.iload_n 1) := vm_dD b_Morph_isCode_1 9 rfl rfl
theorem d_Morph_isCode_126 : vm_D q_Morph_isCode.2.1 126 3 129 (.invokevirtual 66) := vm_dD b_Morph_isCode_1 10 rfl rfl
theorem d_Morph_isCode_129 : vm_D q_Morph_isCode.2.1 129 1 130 (.lor) := vm_dD b_Morph_isCode_1 11 rfl rfl
theorem d_Morph_isCode_130 : vm_D q_Morph_isCode.2.1 130 1 131 (.lstore_n 2) := vm_dD b_Morph_isCode_1 12 rfl rfl
theorem d_Morph_isCode_137 : vm_D q_Morph_isCode.2.1 137 3 140 (.iinc 5 1) := vm_dD b_Morph_isCode_1 15 rfl rfl
theorem d_Morph_isCode_140 : ∃ off : Int, decode q_Morph_isCode.2.1 140 = .ok (.goto off, 3) ∧ ((140 : Nat) : Int) + off = ((84 : Nat) : Int) := ⟨-56, vm_db b_Morph_isCode_1 (i := 16) rfl, by decide⟩
theorem d_Morph_isCode_143 : vm_D q_Morph_isCode.2.1 143 3 146 (.iinc 4 1) := vm_dD b_Morph_isCode_1 17 rfl rfl
theorem d_Morph_isCode_146 : ∃ off : Int, decode q_Morph_isCode.2.1 146 = .ok (.goto off, 3) ∧ ((146 : Nat) : Int) + off = ((66 : Nat) : Int) := ⟨-80, vm_db b_Morph_isCode_1 (i := 18) rfl, by decide⟩
theorem d_Morph_isCode_149 : vm_D q_Morph_isCode.2.1 149 1 150 (.lload_n 2) := vm_dD b_Morph_isCode_1 19 rfl rfl
theorem d_Morph_isCode_150 : vm_D q_Morph_isCode.2.1 150 1 151 (.lconst 1) := vm_dD b_Morph_isCode_1 20 rfl rfl
theorem d_Morph_isCode_151 : vm_D q_Morph_isCode.2.1 151 1 152 (.land) := vm_dD b_Morph_isCode_1 21 rfl rfl
theorem d_Morph_isCode_152 : vm_D q_Morph_isCode.2.1 152 1 153 (.lconst 0) := vm_dD b_Morph_isCode_1 22 rfl rfl
theorem d_Morph_isCode_153 : vm_D q_Morph_isCode.2.1 153 1 154 (.lcmp) := vm_dD b_Morph_isCode_1 23 rfl rfl
theorem d_Morph_isCode_154 : vm_B q_Morph_isCode.2.1 154 157 161 (fun o => .ifCond .ne o) := ⟨7, vm_db b_Morph_isCode_1 (i := 24) rfl, rfl, by decide⟩
theorem d_Morph_isCode_161 : vm_D q_Morph_isCode.2.1 161 1 162 (.iconst 0) := vm_dD b_Morph_isCode_1 27 rfl rfl
theorem d_Morph_isCode_162 : vm_D q_Morph_isCode.2.1 162 1 163 (.ireturn) := vm_dD b_Morph_isCode_1 28 rfl rfl
theorem d_Morph_isCode_157 : vm_D q_Morph_isCode.2.1 157 1 158 (.iconst 1) := vm_dD b_Morph_isCode_1 25 rfl rfl
theorem d_Morph_isCode_158 : ∃ off : Int, decode q_Morph_isCode.2.1 158 = .ok (.goto off, 3) ∧ ((158 : Nat) : Int) + off = ((162 : Nat) : Int) := ⟨4, vm_db b_Morph_isCode_1 (i := 26) rfl, by decide⟩
def q_Told_avoidedCount : vm_Y := ("RepeatFree$Told", cX9_avoidedCount, 4, false, [])
def t_Told_avoidedCount_0 : List (Nat × Instr × Nat) := [(0, .iconst 0, 1), (1, .istore_n 1, 1), (2, .iconst 0, 1), (3, .istore_n 2, 1), (4, .iload_n 2, 1), (5, .aload_n 0, 1), (6, .getfield 39, 3), (9, .if_icmp .ge 29, 3), (12, .aload_n 0, 1), (13, .iload_n 2, 1), (14, .invokevirtual 62, 3), (17, .astore_n 3, 1), (18, .aload_n 3, 1), (19, .ifnull 13, 3), (22, .aload_n 3, 1), (23, .getfield 67, 3), (26, .ifCond .eq 6, 3), (29, .iinc 1 1, 3), (32, .iinc 2 1, 3), (35, .goto (-31), 3), (38, .iload_n 1, 1), (39, .ireturn, 1)]
theorem b_Told_avoidedCount_0 : (t_Told_avoidedCount_0.all fun q => decide (decode q_Told_avoidedCount.2.1 q.1 = .ok (q.2.1, q.2.2))) = true := by decide +kernel
theorem d_Told_avoidedCount_0 : vm_D q_Told_avoidedCount.2.1 0 1 1 (.iconst 0) := vm_dD b_Told_avoidedCount_0 0 rfl rfl
theorem d_Told_avoidedCount_1 : vm_D q_Told_avoidedCount.2.1 1 1 2 (.istore_n 1) := vm_dD b_Told_avoidedCount_0 1 rfl rfl
theorem d_Told_avoidedCount_2 : vm_D q_Told_avoidedCount.2.1 2 1 3 (.iconst 0) := vm_dD b_Told_avoidedCount_0 2 rfl rfl
theorem d_Told_avoidedCount_3 : vm_D q_Told_avoidedCount.2.1 3 1 4 (.istore_n 2) := vm_dD b_Told_avoidedCount_0 3 rfl rfl
theorem d_Told_avoidedCount_4 : vm_D q_Told_avoidedCount.2.1 4 1 5 (.iload_n 2) := vm_dD b_Told_avoidedCount_0 4 rfl rfl
theorem d_Told_avoidedCount_5 : vm_D q_Told_avoidedCount.2.1 5 1 6 (.aload_n 0) := vm_dD b_Told_avoidedCount_0 5 rfl rfl
theorem d_Told_avoidedCount_6 : vm_D q_Told_avoidedCount.2.1 6 3 9 (.getfield 39) := vm_dD b_Told_avoidedCount_0 6 rfl rfl
theorem d_Told_avoidedCount_9 : vm_B q_Told_avoidedCount.2.1 9 12 38 (fun o => .if_icmp .ge o) := ⟨29, vm_db b_Told_avoidedCount_0 (i := 7) rfl, rfl, by decide⟩
theorem d_Told_avoidedCount_12 : vm_D q_Told_avoidedCount.2.1 12 1 13 (.aload_n 0) := vm_dD b_Told_avoidedCount_0 8 rfl rfl
theorem d_Told_avoidedCount_13 : vm_D q_Told_avoidedCount.2.1 13 1 14 (.iload_n 2) := vm_dD b_Told_avoidedCount_0 9 rfl rfl
theorem d_Told_avoidedCount_14 : vm_D q_Told_avoidedCount.2.1 14 3 17 (.invokevirtual 62) := vm_dD b_Told_avoidedCount_0 10 rfl rfl
theorem d_Told_avoidedCount_17 : vm_D q_Told_avoidedCount.2.1 17 1 18 (.astore_n 3) := vm_dD b_Told_avoidedCount_0 11 rfl rfl
theorem d_Told_avoidedCount_18 : vm_D q_Told_avoidedCount.2.1 18 1 19 (.aload_n 3) := vm_dD b_Told_avoidedCount_0 12 rfl rfl
theorem d_Told_avoidedCount_19 : vm_B q_Told_avoidedCount.2.1 19 22 32 (fun o => .ifnull o) := ⟨13, vm_db b_Told_avoidedCount_0 (i := 13) rfl, rfl, by decide⟩
theorem d_Told_avoidedCount_32 : vm_D q_Told_avoidedCount.2.1 32 3 35 (.iinc 2 1) := vm_dD b_Told_avoidedCount_0 18 rfl rfl
theorem d_Told_avoidedCount_35 : ∃ off : Int, decode q_Told_avoidedCount.2.1 35 = .ok (.goto off, 3) ∧ ((35 : Nat) : Int) + off = ((4 : Nat) : Int) := ⟨-31, vm_db b_Told_avoidedCount_0 (i := 19) rfl, by decide⟩
theorem d_Told_avoidedCount_22 : vm_D q_Told_avoidedCount.2.1 22 1 23 (.aload_n 3) := vm_dD b_Told_avoidedCount_0 14 rfl rfl
theorem d_Told_avoidedCount_23 : vm_D q_Told_avoidedCount.2.1 23 3 26 (.getfield 67) := vm_dD b_Told_avoidedCount_0 15 rfl rfl
theorem d_Told_avoidedCount_26 : vm_B q_Told_avoidedCount.2.1 26 29 32 (fun o => .ifCond .eq o) := ⟨6, vm_db b_Told_avoidedCount_0 (i := 16) rfl, rfl, by decide⟩
theorem d_Told_avoidedCount_29 : vm_D q_Told_avoidedCount.2.1 29 3 32 (.iinc 1 1) := vm_dD b_Told_avoidedCount_0 17 rfl rfl
theorem d_Told_avoidedCount_38 : vm_D q_Told_avoidedCount.2.1 38 1 39 (.iload_n 1) := vm_dD b_Told_avoidedCount_0 20 rfl rfl
theorem d_Told_avoidedCount_39 : vm_D q_Told_avoidedCount.2.1 39 1 40 (.ireturn) := vm_dD b_Told_avoidedCount_0 21 rfl rfl
