def q_X_init : vm_Y := ("RepeatFree", cX10_init, 1, true, [])
def t_X_init_0 : List (Nat × Instr × Nat) := [(0, .aload_n 0, 1), (1, .invokespecial 1, 3), (4, .aload_n 0, 1), (5, .new 7, 3), (8, .dup, 1), (9, .invokespecial 9, 3), (12, .putfield 10, 3), (15, .aload_n 0, 1), (16, .new 16, 3), (19, .dup, 1), (20, .invokespecial 18, 3), (23, .putfield 19, 3), (26, .aload_n 0, 1), (27, .new 16, 3), (30, .dup, 1), (31, .invokespecial 18, 3), (34, .putfield 23, 3), (37, .aload_n 0, 1), (38, .new 26, 3), (41, .dup, 1), (42, .invokespecial 28, 3), (45, .putfield 29, 3), (48, .aload_n 0, 1), (49, .new 33, 3), (52, .dup, 1), (53, .invokespecial 35, 3), (56, .putfield 36, 3), (59, .aload_n 0, 1), (60, .new 33, 3), (63, .dup, 1), (64, .invokespecial 35, 3), (67, .putfield 40, 3), (70, .aload_n 0, 1), (71, .new 43, 3), (74, .dup, 1), (75, .invokespecial 45, 3), (78, .putfield 46, 3), (81, .aload_n 0, 1), (82, .new 50, 3), (85, .dup, 1), (86, .invokespecial 52, 3), (89, .putfield 53, 3), (92, .aload_n 0, 1), (93, .bipush 13, 2), (95, .iconst 4, 1), (96, .multianewarray 57 2, 4), (100, .putfield 59, 3), (103, .aload_n 0, 1), (104, .bipush 65, 2), (106, .newarray .long, 2), (108, .putfield 62, 3), (111, .return_, 1)]
theorem b_X_init_0 : (t_X_init_0.all fun q => decide (decode q_X_init.2.1 q.1 = .ok (q.2.1, q.2.2))) = true := by decide +kernel
theorem d_X_init_0 : vm_D q_X_init.2.1 0 1 1 (.aload_n 0) := vm_dD b_X_init_0 0 rfl rfl
theorem d_X_init_1 : vm_D q_X_init.2.1 1 3 4 (.invokespecial 1) := vm_dD b_X_init_0 1 rfl rfl
theorem d_X_init_4 : vm_D q_X_init.2.1 4 1 5 (.aload_n 0) := vm_dD b_X_init_0 2 rfl rfl
theorem d_X_init_5 : vm_D q_X_init.2.1 5 3 8 (.new 7) := vm_dD b_X_init_0 3 rfl rfl
theorem d_X_init_8 : vm_D q_X_init.2.1 8 1 9 (.dup) := vm_dD b_X_init_0 4 rfl rfl
theorem d_X_init_9 : vm_D q_X_init.2.1 9 3 12 (.invokespecial 9) := vm_dD b_X_init_0 5 rfl rfl
theorem d_X_init_12 : vm_D q_X_init.2.1 12 3 15 (.putfield 10) := vm_dD b_X_init_0 6 rfl rfl
theorem d_X_init_15 : vm_D q_X_init.2.1 15 1 16 (.aload_n 0) := vm_dD b_X_init_0 7 rfl rfl
theorem d_X_init_16 : vm_D q_X_init.2.1 16 3 19 (.new 16) := vm_dD b_X_init_0 8 rfl rfl
theorem d_X_init_19 : vm_D q_X_init.2.1 19 1 20 (.dup) := vm_dD b_X_init_0 9 rfl rfl
theorem d_X_init_20 : vm_D q_X_init.2.1 20 3 23 (.invokespecial 18) := vm_dD b_X_init_0 10 rfl rfl
theorem d_X_init_23 : vm_D q_X_init.2.1 23 3 26 (.putfield 19) := vm_dD b_X_init_0 11 rfl rfl
theorem d_X_init_26 : vm_D q_X_init.2.1 26 1 27 (.aload_n 0) := vm_dD b_X_init_0 12 rfl rfl
theorem d_X_init_27 : vm_D q_X_init.2.1 27 3 30 (.new 16) := vm_dD b_X_init_0 13 rfl rfl
theorem d_X_init_30 : vm_D q_X_init.2.1 30 1 31 (.dup) := vm_dD b_X_init_0 14 rfl rfl
theorem d_X_init_31 : vm_D q_X_init.2.1 31 3 34 (.invokespecial 18) := vm_dD b_X_init_0 15 rfl rfl
theorem d_X_init_34 : vm_D q_X_init.2.1 34 3 37 (.putfield 23) := vm_dD b_X_init_0 16 rfl rfl
theorem d_X_init_37 : vm_D q_X_init.2.1 37 1 38 (.aload_n 0) := vm_dD b_X_init_0 17 rfl rfl
theorem d_X_init_38 : vm_D q_X_init.2.1 38 3 41 (.new 26) := vm_dD b_X_init_0 18 rfl rfl
theorem d_X_init_41 : vm_D q_X_init.2.1 41 1 42 (.dup) := vm_dD b_X_init_0 19 rfl rfl
theorem d_X_init_42 : vm_D q_X_init.2.1 42 3 45 (.invokespecial 28) := vm_dD b_X_init_0 20 rfl rfl
theorem d_X_init_45 : vm_D q_X_init.2.1 45 3 48 (.putfield 29) := vm_dD b_X_init_0 21 rfl rfl
theorem d_X_init_48 : vm_D q_X_init.2.1 48 1 49 (.aload_n 0) := vm_dD b_X_init_0 22 rfl rfl
theorem d_X_init_49 : vm_D q_X_init.2.1 49 3 52 (.new 33) := vm_dD b_X_init_0 23 rfl rfl
theorem d_X_init_52 : vm_D q_X_init.2.1 52 1 53 (.dup) := vm_dD b_X_init_0 24 rfl rfl
theorem d_X_init_53 : vm_D q_X_init.2.1 53 3 56 (.invokespecial 35) := vm_dD b_X_init_0 25 rfl rfl
theorem d_X_init_56 : vm_D q_X_init.2.1 56 3 59 (.putfield 36) := vm_dD b_X_init_0 26 rfl rfl
theorem d_X_init_59 : vm_D q_X_init.2.1 59 1 60 (.aload_n 0) := vm_dD b_X_init_0 27 rfl rfl
theorem d_X_init_60 : vm_D q_X_init.2.1 60 3 63 (.new 33) := vm_dD b_X_init_0 28 rfl rfl
theorem d_X_init_63 : vm_D q_X_init.2.1 63 1 64 (.dup) := vm_dD b_X_init_0 29 rfl rfl
theorem d_X_init_64 : vm_D q_X_init.2.1 64 3 67 (.invokespecial 35) := vm_dD b_X_init_0 30 rfl rfl
theorem d_X_init_67 : vm_D q_X_init.2.1 67 3 70 (.putfield 40) := vm_dD b_X_init_0 31 rfl rfl
theorem d_X_init_70 : vm_D q_X_init.2.1 70 1 71 (.aload_n 0) := vm_dD b_X_init_0 32 rfl rfl
theorem d_X_init_71 : vm_D q_X_init.2.1 71 3 74 (.new 43) := vm_dD b_X_init_0 33 rfl rfl
theorem d_X_init_74 : vm_D q_X_init.2.1 74 1 75 (.dup) := vm_dD b_X_init_0 34 rfl rfl
theorem d_X_init_75 : vm_D q_X_init.2.1 75 3 78 (.invokespecial 45) := vm_dD b_X_init_0 35 rfl rfl
theorem d_X_init_78 : vm_D q_X_init.2.1 78 3 81 (.putfield 46) := vm_dD b_X_init_0 36 rfl rfl
theorem d_X_init_81 : vm_D q_X_init.2.1 81 1 82 (.aload_n 0) := vm_dD b_X_init_0 37 rfl rfl
theorem d_X_init_82 : vm_D q_X_init.2.1 82 3 85 (.new 50) := vm_dD b_X_init_0 38 rfl rfl
theorem d_X_init_85 : vm_D q_X_init.2.1 85 1 86 (.dup) := vm_dD b_X_init_0 39 rfl rfl
theorem d_X_init_86 : vm_D q_X_init.2.1 86 3 89 (.invokespecial 52) := vm_dD b_X_init_0 40 rfl rfl
theorem d_X_init_89 : vm_D q_X_init.2.1 89 3 92 (.putfield 53) := vm_dD b_X_init_0 41 rfl rfl
theorem d_X_init_92 : vm_D q_X_init.2.1 92 1 93 (.aload_n 0) := vm_dD b_X_init_0 42 rfl rfl
theorem d_X_init_93 : vm_D q_X_init.2.1 93 2 95 (.bipush 13) := vm_dD b_X_init_0 43 rfl rfl
theorem d_X_init_95 : vm_D q_X_init.2.1 95 1 96 (.iconst 4) := vm_dD b_X_init_0 44 rfl rfl
theorem d_X_init_96 : vm_D q_X_init.2.1 96 4 100 (.multianewarray 57 2) := vm_dD b_X_init_0 45 rfl rfl
theorem d_X_init_100 : vm_D q_X_init.2.1 100 3 103 (.putfield 59) := vm_dD b_X_init_0 46 rfl rfl
theorem d_X_init_103 : vm_D q_X_init.2.1 103 1 104 (.aload_n 0) := vm_dD b_X_init_0 47 rfl rfl
theorem d_X_init_104 : vm_D q_X_init.2.1 104 2 106 (.bipush 65) := vm_dD b_X_init_0 48 rfl rfl
theorem d_X_init_106 : vm_D q_X_init.2.1 106 2 108 (.newarray .long) := vm_dD b_X_init_0 49 rfl rfl
theorem d_X_init_108 : vm_D q_X_init.2.1 108 3 111 (.putfield 62) := vm_dD b_X_init_0 50 rfl rfl
theorem d_X_init_111 : vm_D q_X_init.2.1 111 1 112 (.return_) := vm_dD b_X_init_0 51 rfl rfl
def q_X_feed : vm_Y := ("RepeatFree", cX10_feed, 7, false, [])
def t_X_feed_0 : List (Nat × Instr × Nat) := [(0, .aload_n 0, 1), (1, .getfield 10, 3), (4, .getfield 66, 3), (7, .astore 6, 2), (9, .aload 6, 2), (11, .getfield 70, 3), (14, .bipush 20, 2), (16, .iadd, 1), (17, .sipush 400, 3), (20, .if_icmp .le 5, 3), (23, .iconst (-1), 1), (24, .ireturn, 1), (25, .aload 6, 2), (27, .iload_n 1, 1), (28, .invokevirtual 76, 3), (31, .aload 6, 2), (33, .iload_n 2, 1), (34, .invokevirtual 76, 3), (37, .aload 6, 2), (39, .iload_n 3, 1), (40, .invokevirtual 76, 3), (43, .aload 6, 2), (45, .iload 4, 2), (47, .invokevirtual 76, 3), (50, .aload 6, 2), (52, .iload 5, 2), (54, .invokevirtual 76, 3), (57, .aload 6, 2), (59, .getfield 70, 3), (62, .ireturn, 1)]
theorem b_X_feed_0 : (t_X_feed_0.all fun q => decide (decode q_X_feed.2.1 q.1 = .ok (q.2.1, q.2.2))) = true := by decide +kernel
theorem d_X_feed_0 : vm_D q_X_feed.2.1 0 1 1 (.aload_n 0) := vm_dD b_X_feed_0 0 rfl rfl
theorem d_X_feed_1 : vm_D q_X_feed.2.1 1 3 4 (.getfield 10) := vm_dD b_X_feed_0 1 rfl rfl
theorem d_X_feed_4 : vm_D q_X_feed.2.1 4 3 7 (.getfield 66) := vm_dD b_X_feed_0 2 rfl rfl
theorem d_X_feed_7 : vm_D q_X_feed.2.1 7 2 9 (.astore 6) := vm_dD b_X_feed_0 3 rfl rfl
theorem d_X_feed_9 : vm_D q_X_feed.2.1 9 2 11 (.aload 6) := vm_dD b_X_feed_0 4 rfl rfl
theorem d_X_feed_11 : vm_D q_X_feed.2.1 11 3 14 (.getfield 70) := vm_dD b_X_feed_0 5 rfl rfl
theorem d_X_feed_14 : vm_D q_X_feed.2.1 14 2 16 (.bipush 20) := vm_dD b_X_feed_0 6 rfl rfl
theorem d_X_feed_16 : vm_D q_X_feed.2.1 16 1 17 (.iadd) := vm_dD b_X_feed_0 7 rfl rfl
theorem d_X_feed_17 : vm_D q_X_feed.2.1 17 3 20 (.sipush 400) := vm_dD b_X_feed_0 8 rfl rfl
theorem d_X_feed_20 : vm_B q_X_feed.2.1 20 23 25 (fun o => .if_icmp .le o) := ⟨5, vm_db b_X_feed_0 (i := 9) rfl, rfl, by decide⟩
theorem d_X_feed_25 : vm_D q_X_feed.2.1 25 2 27 (.aload 6) := vm_dD b_X_feed_0 12 rfl rfl
theorem d_X_feed_27 : vm_D q_X_feed.2.1 27 1 28 (.iload_n 1) := vm_dD b_X_feed_0 13 rfl rfl
theorem d_X_feed_28 : vm_D q_X_feed.2.1 28 3 31 (.invokevirtual 76) := vm_dD b_X_feed_0 14 rfl rfl
theorem d_X_feed_31 : vm_D q_X_feed.2.1 31 2 33 (.aload 6) := vm_dD b_X_feed_0 15 rfl rfl
theorem d_X_feed_33 : vm_D q_X_feed.2.1 33 1 34 (.iload_n 2) := vm_dD b_X_feed_0 16 rfl rfl
theorem d_X_feed_34 : vm_D q_X_feed.2.1 34 3 37 (.invokevirtual 76) := vm_dD b_X_feed_0 17 rfl rfl
theorem d_X_feed_37 : vm_D q_X_feed.2.1 37 2 39 (.aload 6) := vm_dD b_X_feed_0 18 rfl rfl
theorem d_X_feed_39 : vm_D q_X_feed.2.1 39 1 40 (.iload_n 3) := vm_dD b_X_feed_0 19 rfl rfl
theorem d_X_feed_40 : vm_D q_X_feed.2.1 40 3 43 (.invokevirtual 76) := vm_dD b_X_feed_0 20 rfl rfl
theorem d_X_feed_43 : vm_D q_X_feed.2.1 43 2 45 (.aload 6) := vm_dD b_X_feed_0 21 rfl rfl
theorem d_X_feed_45 : vm_D q_X_feed.2.1 45 2 47 (.iload 4) := vm_dD b_X_feed_0 22 rfl rfl
theorem d_X_feed_47 : vm_D q_X_feed.2.1 47 3 50 (.invokevirtual 76) := vm_dD b_X_feed_0 23 rfl rfl
theorem d_X_feed_50 : vm_D q_X_feed.2.1 50 2 52 (.aload 6) := vm_dD b_X_feed_0 24 rfl rfl
theorem d_X_feed_52 : vm_D q_X_feed.2.1 52 2 54 (.iload 5) := vm_dD b_X_feed_0 25 rfl rfl
theorem d_X_feed_54 : vm_D q_X_feed.2.1 54 3 57 (.invokevirtual 76) := vm_dD b_X_feed_0 26 rfl rfl
theorem d_X_feed_57 : vm_D q_X_feed.2.1 57 2 59 (.aload 6) := vm_dD b_X_feed_0 27 rfl rfl
theorem d_X_feed_59 : vm_D q_X_feed.2.1 59 3 62 (.getfield 70) := vm_dD b_X_feed_0 28 rfl rfl
theorem d_X_feed_62 : vm_D q_X_feed.2.1 62 1 63 (.ireturn) := vm_dD b_X_feed_0 29 rfl rfl
theorem d_X_feed_23 : vm_D q_X_feed.2.1 23 1 24 (.iconst (-1)) := vm_dD b_X_feed_0 10 rfl rfl
theorem d_X_feed_24 : vm_D q_X_feed.2.1 24 1 25 (.ireturn) := vm_dD b_X_feed_0 11 rfl rfl
def q_X_end : vm_Y := ("RepeatFree", cX10_end, 2, false, [])
def t_X_end_0 : List (Nat × Instr × Nat) := [(0, .iload_n 1, 1), (1, .ifCond .lt 17, 3), (4, .iload_n 1, 1), (5, .aload_n 0, 1), (6, .getfield 10, 3), (9, .getfield 66, 3), (12, .getfield 70, 3), (15, .if_icmp .le 5, 3), (18, .iconst 0, 1), (19, .ireturn, 1), (20, .aload_n 0, 1), (21, .getfield 10, 3), (24, .getfield 66, 3), (27, .iload_n 1, 1), (28, .putfield 70, 3), (31, .iconst 1, 1), (32, .ireturn, 1)]
theorem b_X_end_0 : (t_X_end_0.all fun q => decide (decode q_X_end.2.1 q.1 = .ok (q.2.1, q.2.2))) = true := by decide +kernel
theorem d_X_end_0 : vm_D q_X_end.2.1 0 1 1 (.iload_n 1) := vm_dD b_X_end_0 0 rfl rfl
theorem d_X_end_1 : vm_B q_X_end.2.1 1 4 18 (fun o => .ifCond .lt o) := ⟨17, vm_db b_X_end_0 (i := 1) rfl, rfl, by decide⟩
theorem d_X_end_18 : vm_D q_X_end.2.1 18 1 19 (.iconst 0) := vm_dD b_X_end_0 8 rfl rfl
theorem d_X_end_19 : vm_D q_X_end.2.1 19 1 20 (.ireturn) := vm_dD b_X_end_0 9 rfl rfl
theorem d_X_end_4 : vm_D q_X_end.2.1 4 1 5 (.iload_n 1) := vm_dD b_X_end_0 2 rfl rfl
theorem d_X_end_5 : vm_D q_X_end.2.1 5 1 6 (.aload_n 0) := vm_dD b_X_end_0 3 rfl rfl
theorem d_X_end_6 : vm_D q_X_end.2.1 6 3 9 (.getfield 10) := vm_dD b_X_end_0 4 rfl rfl
theorem d_X_end_9 : vm_D q_X_end.2.1 9 3 12 (.getfield 66) := vm_dD b_X_end_0 5 rfl rfl
theorem d_X_end_12 : vm_D q_X_end.2.1 12 3 15 (.getfield 70) := vm_dD b_X_end_0 6 rfl rfl
theorem d_X_end_15 : vm_B q_X_end.2.1 15 18 20 (fun o => .if_icmp .le o) := ⟨5, vm_db b_X_end_0 (i := 7) rfl, rfl, by decide⟩
theorem d_X_end_20 : vm_D q_X_end.2.1 20 1 21 (.aload_n 0) := vm_dD b_X_end_0 10 rfl rfl
theorem d_X_end_21 : vm_D q_X_end.2.1 21 3 24 (.getfield 10) := vm_dD b_X_end_0 11 rfl rfl
theorem d_X_end_24 : vm_D q_X_end.2.1 24 3 27 (.getfield 66) := vm_dD b_X_end_0 12 rfl rfl
theorem d_X_end_27 : vm_D q_X_end.2.1 27 1 28 (.iload_n 1) := vm_dD b_X_end_0 13 rfl rfl
theorem d_X_end_28 : vm_D q_X_end.2.1 28 3 31 (.putfield 70) := vm_dD b_X_end_0 14 rfl rfl
theorem d_X_end_31 : vm_D q_X_end.2.1 31 1 32 (.iconst 1) := vm_dD b_X_end_0 15 rfl rfl
theorem d_X_end_32 : vm_D q_X_end.2.1 32 1 33 (.ireturn) := vm_dD b_X_end_0 16 rfl rfl
def q_X_read : vm_Y := ("RepeatFree", cX10_read, 3, false, [])
def t_X_read_0 : List (Nat × Instr × Nat) := [(0, .aload_n 0, 1), (1, .getfield 10, 3), (4, .aload_n 0, 1), (5, .getfield 23, 3), (8, .invokevirtual 80, 3), (11, .istore_n 1, 1), (12, .aload_n 0, 1), (13, .getfield 10, 3), (16, .getfield 66, 3), (19, .iconst 0, 1), (20, .putfield 70, 3), (23, .iload_n 1, 1), (24, .ifCond .ne 11, 3), (27, .new 84, 3), (30, .dup, 1), (31, .invokespecial 86, 3), (34, .athrow, 1), (35, .aload_n 0, 1), (36, .getfield 19, 3), (39, .astore_n 2, 1), (40, .aload_n 0, 1), (41, .aload_n 0, 1), (42, .getfield 23, 3), (45, .putfield 19, 3), (48, .aload_n 0, 1), (49, .aload_n 2, 1), (50, .putfield 23, 3), (53, .aload_n 0, 1), (54, .getfield 36, 3), (57, .invokevirtual 87, 3), (60, .aload_n 0, 1), (61, .getfield 53, 3), (64, .invokevirtual 90, 3), (67, .aload_n 0, 1), (68, .getfield 19, 3), (71, .getfield 91, 3), (74, .ireturn, 1)]
theorem b_X_read_0 : (t_X_read_0.all fun q => decide (decode q_X_read.2.1 q.1 = .ok (q.2.1, q.2.2))) = true := by decide +kernel
theorem d_X_read_0 : vm_D q_X_read.2.1 0 1 1 (.aload_n 0) := vm_dD b_X_read_0 0 rfl rfl
theorem d_X_read_1 : vm_D q_X_read.2.1 1 3 4 (.getfield 10) := vm_dD b_X_read_0 1 rfl rfl
theorem d_X_read_4 : vm_D q_X_read.2.1 4 1 5 (.aload_n 0) := vm_dD b_X_read_0 2 rfl rfl
theorem d_X_read_5 : vm_D q_X_read.2.1 5 3 8 (.getfield 23) := vm_dD b_X_read_0 3 rfl rfl
theorem d_X_read_8 : vm_D q_X_read.2.1 8 3 11 (.invokevirtual 80) := vm_dD b_X_read_0 4 rfl rfl
theorem d_X_read_11 : vm_D q_X_read.2.1 11 1 12 (.istore_n 1) := vm_dD b_X_read_0 5 rfl rfl
theorem d_X_read_12 : vm_D q_X_read.2.1 12 1 13 (.aload_n 0) := vm_dD b_X_read_0 6 rfl rfl
theorem d_X_read_13 : vm_D q_X_read.2.1 13 3 16 (.getfield 10) := vm_dD b_X_read_0 7 rfl rfl
theorem d_X_read_16 : vm_D q_X_read.2.1 16 3 19 (.getfield 66) := vm_dD b_X_read_0 8 rfl rfl
theorem d_X_read_19 : vm_D q_X_read.2.1 19 1 20 (.iconst 0) := vm_dD b_X_read_0 9 rfl rfl
theorem d_X_read_20 : vm_D q_X_read.2.1 20 3 23 (.putfield 70) := vm_dD b_X_read_0 10 rfl rfl
theorem d_X_read_23 : vm_D q_X_read.2.1 23 1 24 (.iload_n 1) := vm_dD b_X_read_0 11 rfl rfl
theorem d_X_read_24 : vm_B q_X_read.2.1 24 27 35 (fun o => .ifCond .ne o) := ⟨11, vm_db b_X_read_0 (i := 12) rfl, rfl, by decide⟩
theorem d_X_read_35 : vm_D q_X_read.2.1 35 1 36 (.aload_n 0) := vm_dD b_X_read_0 17 rfl rfl
theorem d_X_read_36 : vm_D q_X_read.2.1 36 3 39 (.getfield 19) := vm_dD b_X_read_0 18 rfl rfl
theorem d_X_read_39 : vm_D q_X_read.2.1 39 1 40 (.astore_n 2) := vm_dD b_X_read_0 19 rfl rfl
theorem d_X_read_40 : vm_D q_X_read.2.1 40 1 41 (.aload_n 0) := vm_dD b_X_read_0 20 rfl rfl
theorem d_X_read_41 : vm_D q_X_read.2.1 41 1 42 (.aload_n 0) := vm_dD b_X_read_0 21 rfl rfl
theorem d_X_read_42 : vm_D q_X_read.2.1 42 3 45 (.getfield 23) := vm_dD b_X_read_0 22 rfl rfl
theorem d_X_read_45 : vm_D q_X_read.2.1 45 3 48 (.putfield 19) := vm_dD b_X_read_0 23 rfl rfl
theorem d_X_read_48 : vm_D q_X_read.2.1 48 1 49 (.aload_n 0) := vm_dD b_X_read_0 24 rfl rfl
theorem d_X_read_49 : vm_D q_X_read.2.1 49 1 50 (.aload_n 2) := vm_dD b_X_read_0 25 rfl rfl
theorem d_X_read_50 : vm_D q_X_read.2.1 50 3 53 (.putfield 23) := vm_dD b_X_read_0 26 rfl rfl
theorem d_X_read_53 : vm_D q_X_read.2.1 53 1 54 (.aload_n 0) := vm_dD b_X_read_0 27 rfl rfl
theorem d_X_read_54 : vm_D q_X_read.2.1 54 3 57 (.getfield 36) := vm_dD b_X_read_0 28 rfl rfl
theorem d_X_read_57 : vm_D q_X_read.2.1 57 3 60 (.invokevirtual 87) := vm_dD b_X_read_0 29 rfl rfl
theorem d_X_read_60 : vm_D q_X_read.2.1 60 1 61 (.aload_n 0) := vm_dD b_X_read_0 30 rfl rfl
theorem d_X_read_61 : vm_D q_X_read.2.1 61 3 64 (.getfield 53) := vm_dD b_X_read_0 31 rfl rfl
theorem d_X_read_64 : vm_D q_X_read.2.1 64 3 67 (.invokevirtual 90) := vm_dD b_X_read_0 32 rfl rfl
theorem d_X_read_67 : vm_D q_X_read.2.1 67 1 68 (.aload_n 0) := vm_dD b_X_read_0 33 rfl rfl
theorem d_X_read_68 : vm_D q_X_read.2.1 68 3 71 (.getfield 19) := vm_dD b_X_read_0 34 rfl rfl
theorem d_X_read_71 : vm_D q_X_read.2.1 71 3 74 (.getfield 91) := vm_dD b_X_read_0 35 rfl rfl
theorem d_X_read_74 : vm_D q_X_read.2.1 74 1 75 (.ireturn) := vm_dD b_X_read_0 36 rfl rfl
theorem d_X_read_27 : vm_D q_X_read.2.1 27 3 30 (.new 84) := vm_dD b_X_read_0 13 rfl rfl
theorem d_X_read_30 : vm_D q_X_read.2.1 30 1 31 (.dup) := vm_dD b_X_read_0 14 rfl rfl
theorem d_X_read_31 : vm_D q_X_read.2.1 31 3 34 (.invokespecial 86) := vm_dD b_X_read_0 15 rfl rfl
theorem d_X_read_34 : vm_D q_X_read.2.1 34 1 35 (.athrow) := vm_dD b_X_read_0 16 rfl rfl
def q_X_become : vm_Y := ("RepeatFree", cX10_become, 2, false, [])
def t_X_become_0 : List (Nat × Instr × Nat) := [(0, .aload_n 0, 1), (1, .getfield 53, 3), (4, .aload_n 0, 1), (5, .getfield 36, 3), (8, .invokevirtual 116, 3), (11, .aload_n 0, 1), (12, .getfield 36, 3), (15, .aload_n 1, 1), (16, .aload_n 1, 1), (17, .getfield 102, 3), (20, .invokevirtual 131, 3), (23, .return_, 1)]
theorem b_X_become_0 : (t_X_become_0.all fun q => decide (decode q_X_become.2.1 q.1 = .ok (q.2.1, q.2.2))) = true := by decide +kernel
theorem d_X_become_0 : vm_D q_X_become.2.1 0 1 1 (.aload_n 0) := vm_dD b_X_become_0 0 rfl rfl
theorem d_X_become_1 : vm_D q_X_become.2.1 1 3 4 (.getfield 53) := vm_dD b_X_become_0 1 rfl rfl
theorem d_X_become_4 : vm_D q_X_become.2.1 4 1 5 (.aload_n 0) := vm_dD b_X_become_0 2 rfl rfl
theorem d_X_become_5 : vm_D q_X_become.2.1 5 3 8 (.getfield 36) := vm_dD b_X_become_0 3 rfl rfl
theorem d_X_become_8 : vm_D q_X_become.2.1 8 3 11 (.invokevirtual 116) := vm_dD b_X_become_0 4 rfl rfl
theorem d_X_become_11 : vm_D q_X_become.2.1 11 1 12 (.aload_n 0) := vm_dD b_X_become_0 5 rfl rfl
theorem d_X_become_12 : vm_D q_X_become.2.1 12 3 15 (.getfield 36) := vm_dD b_X_become_0 6 rfl rfl
theorem d_X_become_15 : vm_D q_X_become.2.1 15 1 16 (.aload_n 1) := vm_dD b_X_become_0 7 rfl rfl
theorem d_X_become_16 : vm_D q_X_become.2.1 16 1 17 (.aload_n 1) := vm_dD b_X_become_0 8 rfl rfl
theorem d_X_become_17 : vm_D q_X_become.2.1 17 3 20 (.getfield 102) := vm_dD b_X_become_0 9 rfl rfl
theorem d_X_become_20 : vm_D q_X_become.2.1 20 3 23 (.invokevirtual 131) := vm_dD b_X_become_0 10 rfl rfl
theorem d_X_become_23 : vm_D q_X_become.2.1 23 1 24 (.return_) := vm_dD b_X_become_0 11 rfl rfl
def q_X_word : vm_Y := ("RepeatFree", cX10_word, 2, false, [])
def t_X_word_0 : List (Nat × Instr × Nat) := [(0, .aload_n 0, 1), (1, .getfield 10, 3), (4, .aload_n 0, 1), (5, .getfield 19, 3), (8, .getfield 91, 3), (11, .aload_n 0, 1), (12, .getfield 40, 3), (15, .invokevirtual 94, 3), (18, .istore_n 1, 1), (19, .aload_n 0, 1), (20, .getfield 10, 3), (23, .getfield 66, 3), (26, .iconst 0, 1), (27, .putfield 70, 3), (30, .iload_n 1, 1), (31, .ifCond .ne 11, 3), (34, .new 84, 3), (37, .dup, 1), (38, .invokespecial 86, 3), (41, .athrow, 1), (42, .aload_n 0, 1), (43, .aload_n 0, 1), (44, .getfield 40, 3), (47, .invokevirtual 98, 3), (50, .aload_n 0, 1), (51, .getfield 36, 3), (54, .getfield 102, 3), (57, .ireturn, 1)]
theorem b_X_word_0 : (t_X_word_0.all fun q => decide (decode q_X_word.2.1 q.1 = .ok (q.2.1, q.2.2))) = true := by decide +kernel
theorem d_X_word_0 : vm_D q_X_word.2.1 0 1 1 (.aload_n 0) := vm_dD b_X_word_0 0 rfl rfl
theorem d_X_word_1 : vm_D q_X_word.2.1 1 3 4 (.getfield 10) := vm_dD b_X_word_0 1 rfl rfl
theorem d_X_word_4 : vm_D q_X_word.2.1 4 1 5 (.aload_n 0) := vm_dD b_X_word_0 2 rfl rfl
theorem d_X_word_5 : vm_D q_X_word.2.1 5 3 8 (.getfield 19) := vm_dD b_X_word_0 3 rfl rfl
theorem d_X_word_8 : vm_D q_X_word.2.1 8 3 11 (.getfield 91) := vm_dD b_X_word_0 4 rfl rfl
theorem d_X_word_11 : vm_D q_X_word.2.1 11 1 12 (.aload_n 0) := vm_dD b_X_word_0 5 rfl rfl
theorem d_X_word_12 : vm_D q_X_word.2.1 12 3 15 (.getfield 40) := vm_dD b_X_word_0 6 rfl rfl
theorem d_X_word_15 : vm_D q_X_word.2.1 15 3 18 (.invokevirtual 94) := vm_dD b_X_word_0 7 rfl rfl
theorem d_X_word_18 : vm_D q_X_word.2.1 18 1 19 (.istore_n 1) := vm_dD b_X_word_0 8 rfl rfl
theorem d_X_word_19 : vm_D q_X_word.2.1 19 1 20 (.aload_n 0) := vm_dD b_X_word_0 9 rfl rfl
theorem d_X_word_20 : vm_D q_X_word.2.1 20 3 23 (.getfield 10) := vm_dD b_X_word_0 10 rfl rfl
theorem d_X_word_23 : vm_D q_X_word.2.1 23 3 26 (.getfield 66) := vm_dD b_X_word_0 11 rfl rfl
theorem d_X_word_26 : vm_D q_X_word.2.1 26 1 27 (.iconst 0) := vm_dD b_X_word_0 12 rfl rfl
theorem d_X_word_27 : vm_D q_X_word.2.1 27 3 30 (.putfield 70) := vm_dD b_X_word_0 13 rfl rfl
theorem d_X_word_30 : vm_D q_X_word.2.1 30 1 31 (.iload_n 1) := vm_dD b_X_word_0 14 rfl rfl
theorem d_X_word_31 : vm_B q_X_word.2.1 31 34 42 (fun o => .ifCond .ne o) := ⟨11, vm_db b_X_word_0 (i := 15) rfl, rfl, by decide⟩
theorem d_X_word_42 : vm_D q_X_word.2.1 42 1 43 (.aload_n 0) := vm_dD b_X_word_0 20 rfl rfl
theorem d_X_word_43 : vm_D q_X_word.2.1 43 1 44 (.aload_n 0) := vm_dD b_X_word_0 21 rfl rfl
theorem d_X_word_44 : vm_D q_X_word.2.1 44 3 47 (.getfield 40) := vm_dD b_X_word_0 22 rfl rfl
theorem d_X_word_47 : vm_D q_X_word.2.1 47 3 50 (.invokevirtual 98) := vm_dD b_X_word_0 23 rfl rfl
theorem d_X_word_50 : vm_D q_X_word.2.1 50 1 51 (.aload_n 0) := vm_dD b_X_word_0 24 rfl rfl
theorem d_X_word_51 : vm_D q_X_word.2.1 51 3 54 (.getfield 36) := vm_dD b_X_word_0 25 rfl rfl
theorem d_X_word_54 : vm_D q_X_word.2.1 54 3 57 (.getfield 102) := vm_dD b_X_word_0 26 rfl rfl
theorem d_X_word_57 : vm_D q_X_word.2.1 57 1 58 (.ireturn) := vm_dD b_X_word_0 27 rfl rfl
theorem d_X_word_34 : vm_D q_X_word.2.1 34 3 37 (.new 84) := vm_dD b_X_word_0 16 rfl rfl
theorem d_X_word_37 : vm_D q_X_word.2.1 37 1 38 (.dup) := vm_dD b_X_word_0 17 rfl rfl
theorem d_X_word_38 : vm_D q_X_word.2.1 38 3 41 (.invokespecial 86) := vm_dD b_X_word_0 18 rfl rfl
theorem d_X_word_41 : vm_D q_X_word.2.1 41 1 42 (.athrow) := vm_dD b_X_word_0 19 rfl rfl
def q_X_fault : vm_Y := ("RepeatFree", cX10_fault, 1, false, [])
def t_X_fault_0 : List (Nat × Instr × Nat) := [(0, .aload_n 0, 1), (1, .getfield 10, 3), (4, .getfield 103, 3), (7, .ireturn, 1)]
theorem b_X_fault_0 : (t_X_fault_0.all fun q => decide (decode q_X_fault.2.1 q.1 = .ok (q.2.1, q.2.2))) = true := by decide +kernel
theorem d_X_fault_0 : vm_D q_X_fault.2.1 0 1 1 (.aload_n 0) := vm_dD b_X_fault_0 0 rfl rfl
theorem d_X_fault_1 : vm_D q_X_fault.2.1 1 3 4 (.getfield 10) := vm_dD b_X_fault_0 1 rfl rfl
theorem d_X_fault_4 : vm_D q_X_fault.2.1 4 3 7 (.getfield 103) := vm_dD b_X_fault_0 2 rfl rfl
theorem d_X_fault_7 : vm_D q_X_fault.2.1 7 1 8 (.ireturn) := vm_dD b_X_fault_0 3 rfl rfl
def q_X_letter : vm_Y := ("RepeatFree", cX10_letter, 2, false, [])
def t_X_letter_0 : List (Nat × Instr × Nat) := [(0, .aload_n 0, 1), (1, .getfield 36, 3), (4, .iload_n 1, 1), (5, .invokevirtual 106, 3), (8, .ireturn, 1)]
theorem b_X_letter_0 : (t_X_letter_0.all fun q => decide (decode q_X_letter.2.1 q.1 = .ok (q.2.1, q.2.2))) = true := by decide +kernel
theorem d_X_letter_0 : vm_D q_X_letter.2.1 0 1 1 (.aload_n 0) := vm_dD b_X_letter_0 0 rfl rfl
theorem d_X_letter_1 : vm_D q_X_letter.2.1 1 3 4 (.getfield 36) := vm_dD b_X_letter_0 1 rfl rfl
theorem d_X_letter_4 : vm_D q_X_letter.2.1 4 1 5 (.iload_n 1) := vm_dD b_X_letter_0 2 rfl rfl
theorem d_X_letter_5 : vm_D q_X_letter.2.1 5 3 8 (.invokevirtual 106) := vm_dD b_X_letter_0 3 rfl rfl
theorem d_X_letter_8 : vm_D q_X_letter.2.1 8 1 9 (.ireturn) := vm_dD b_X_letter_0 4 rfl rfl
def q_X_checkLetter : vm_Y := ("RepeatFree", cX10_checkLetter, 2, false, [])
def t_X_checkLetter_0 : List (Nat × Instr × Nat) := [(0, .iload_n 1, 1), (1, .ifCond .lt 14, 3), (4, .iload_n 1, 1), (5, .aload_n 0, 1), (6, .getfield 19, 3), (9, .getfield 91, 3), (12, .if_icmp .lt 11, 3), (15, .new 84, 3), (18, .dup, 1), (19, .invokespecial 86, 3), (22, .athrow, 1), (23, .return_, 1)]
theorem b_X_checkLetter_0 : (t_X_checkLetter_0.all fun q => decide (decode q_X_checkLetter.2.1 q.1 = .ok (q.2.1, q.2.2))) = true := by decide +kernel
theorem d_X_checkLetter_0 : vm_D q_X_checkLetter.2.1 0 1 1 (.iload_n 1) := vm_dD b_X_checkLetter_0 0 rfl rfl
theorem d_X_checkLetter_1 : vm_B q_X_checkLetter.2.1 1 4 15 (fun o => .ifCond .lt o) := ⟨14, vm_db b_X_checkLetter_0 (i := 1) rfl, rfl, by decide⟩
theorem d_X_checkLetter_15 : vm_D q_X_checkLetter.2.1 15 3 18 (.new 84) := vm_dD b_X_checkLetter_0 7 rfl rfl
theorem d_X_checkLetter_18 : vm_D q_X_checkLetter.2.1 18 1 19 (.dup) := vm_dD b_X_checkLetter_0 8 rfl rfl
theorem d_X_checkLetter_19 : vm_D q_X_checkLetter.2.1 19 3 22 (.invokespecial 86) := vm_dD b_X_checkLetter_0 9 rfl rfl
theorem d_X_checkLetter_22 : vm_D q_X_checkLetter.2.1 22 1 23 (.athrow) := vm_dD b_X_checkLetter_0 10 rfl rfl
theorem d_X_checkLetter_4 : vm_D q_X_checkLetter.2.1 4 1 5 (.iload_n 1) := vm_dD b_X_checkLetter_0 2 rfl rfl
theorem d_X_checkLetter_5 : vm_D q_X_checkLetter.2.1 5 1 6 (.aload_n 0) := vm_dD b_X_checkLetter_0 3 rfl rfl
theorem d_X_checkLetter_6 : vm_D q_X_checkLetter.2.1 6 3 9 (.getfield 19) := vm_dD b_X_checkLetter_0 4 rfl rfl
theorem d_X_checkLetter_9 : vm_D q_X_checkLetter.2.1 9 3 12 (.getfield 91) := vm_dD b_X_checkLetter_0 5 rfl rfl
theorem d_X_checkLetter_12 : vm_B q_X_checkLetter.2.1 12 15 23 (fun o => .if_icmp .lt o) := ⟨11, vm_db b_X_checkLetter_0 (i := 6) rfl, rfl, by decide⟩
theorem d_X_checkLetter_23 : vm_D q_X_checkLetter.2.1 23 1 24 (.return_) := vm_dD b_X_checkLetter_0 11 rfl rfl
def q_X_push : vm_Y := ("RepeatFree", cX10_push, 2, false, [])
def t_X_push_0 : List (Nat × Instr × Nat) := [(0, .aload_n 0, 1), (1, .iload_n 1, 1), (2, .invokevirtual 110, 3), (5, .aload_n 0, 1), (6, .getfield 36, 3), (9, .getfield 102, 3), (12, .bipush 64, 2), (14, .if_icmp .lt 11, 3), (17, .new 113, 3), (20, .dup, 1), (21, .invokespecial 115, 3), (24, .athrow, 1), (25, .aload_n 0, 1), (26, .getfield 53, 3), (29, .aload_n 0, 1), (30, .getfield 36, 3), (33, .invokevirtual 116, 3), (36, .aload_n 0, 1), (37, .getfield 36, 3), (40, .iload_n 1, 1), (41, .invokevirtual 119, 3), (44, .aload_n 0, 1), (45, .getfield 36, 3), (48, .getfield 102, 3), (51, .ireturn, 1)]
theorem b_X_push_0 : (t_X_push_0.all fun q => decide (decode q_X_push.2.1 q.1 = .ok (q.2.1, q.2.2))) = true := by decide +kernel
theorem d_X_push_0 : vm_D q_X_push.2.1 0 1 1 (.aload_n 0) := vm_dD b_X_push_0 0 rfl rfl
theorem d_X_push_1 : vm_D q_X_push.2.1 1 1 2 (.iload_n 1) := vm_dD b_X_push_0 1 rfl rfl
theorem d_X_push_2 : vm_D q_X_push.2.1 2 3 5 (.invokevirtual 110) := vm_dD b_X_push_0 2 rfl rfl
theorem d_X_push_5 : vm_D q_X_push.2.1 5 1 6 (.aload_n 0) := vm_dD b_X_push_0 3 rfl rfl
theorem d_X_push_6 : vm_D q_X_push.2.1 6 3 9 (.getfield 36) := vm_dD b_X_push_0 4 rfl rfl
theorem d_X_push_9 : vm_D q_X_push.2.1 9 3 12 (.getfield 102) := vm_dD b_X_push_0 5 rfl rfl
theorem d_X_push_12 : vm_D q_X_push.2.1 12 2 14 (.bipush 64) := vm_dD b_X_push_0 6 rfl rfl
theorem d_X_push_14 : vm_B q_X_push.2.1 14 17 25 (fun o => .if_icmp .lt o) := ⟨11, vm_db b_X_push_0 (i := 7) rfl, rfl, by decide⟩
theorem d_X_push_25 : vm_D q_X_push.2.1 25 1 26 (.aload_n 0) := vm_dD b_X_push_0 12 rfl rfl
theorem d_X_push_26 : vm_D q_X_push.2.1 26 3 29 (.getfield 53) := vm_dD b_X_push_0 13 rfl rfl
theorem d_X_push_29 : vm_D q_X_push.2.1 29 1 30 (.aload_n 0) := vm_dD b_X_push_0 14 rfl rfl
theorem d_X_push_30 : vm_D q_X_push.2.1 30 3 33 (.getfield 36) := vm_dD b_X_push_0 15 rfl rfl
theorem d_X_push_33 : vm_D q_X_push.2.1 33 3 36 (.invokevirtual 116) := vm_dD b_X_push_0 16 rfl rfl
theorem d_X_push_36 : vm_D q_X_push.2.1 36 1 37 (.aload_n 0) := vm_dD b_X_push_0 17 rfl rfl
theorem d_X_push_37 : vm_D q_X_push.2.1 37 3 40 (.getfield 36) := vm_dD b_X_push_0 18 rfl rfl
theorem d_X_push_40 : vm_D q_X_push.2.1 40 1 41 (.iload_n 1) := vm_dD b_X_push_0 19 rfl rfl
theorem d_X_push_41 : vm_D q_X_push.2.1 41 3 44 (.invokevirtual 119) := vm_dD b_X_push_0 20 rfl rfl
theorem d_X_push_44 : vm_D q_X_push.2.1 44 1 45 (.aload_n 0) := vm_dD b_X_push_0 21 rfl rfl
theorem d_X_push_45 : vm_D q_X_push.2.1 45 3 48 (.getfield 36) := vm_dD b_X_push_0 22 rfl rfl
theorem d_X_push_48 : vm_D q_X_push.2.1 48 3 51 (.getfield 102) := vm_dD b_X_push_0 23 rfl rfl
theorem d_X_push_51 : vm_D q_X_push.2.1 51 1 52 (.ireturn) := vm_dD b_X_push_0 24 rfl rfl
theorem d_X_push_17 : vm_D q_X_push.2.1 17 3 20 (.new 113) := vm_dD b_X_push_0 8 rfl rfl
theorem d_X_push_20 : vm_D q_X_push.2.1 20 1 21 (.dup) := vm_dD b_X_push_0 9 rfl rfl
theorem d_X_push_21 : vm_D q_X_push.2.1 21 3 24 (.invokespecial 115) := vm_dD b_X_push_0 10 rfl rfl
theorem d_X_push_24 : vm_D q_X_push.2.1 24 1 25 (.athrow) := vm_dD b_X_push_0 11 rfl rfl
def q_X_pop : vm_Y := ("RepeatFree", cX10_pop, 1, false, [])
def t_X_pop_0 : List (Nat × Instr × Nat) := [(0, .aload_n 0, 1), (1, .getfield 36, 3), (4, .getfield 102, 3), (7, .ifCond .ne 11, 3), (10, .new 113, 3), (13, .dup, 1), (14, .invokespecial 115, 3), (17, .athrow, 1), (18, .aload_n 0, 1), (19, .getfield 53, 3), (22, .aload_n 0, 1), (23, .getfield 36, 3), (26, .invokevirtual 116, 3), (29, .aload_n 0, 1), (30, .getfield 36, 3), (33, .invokevirtual 120, 3), (36, .ireturn, 1)]
theorem b_X_pop_0 : (t_X_pop_0.all fun q => decide (decode q_X_pop.2.1 q.1 = .ok (q.2.1, q.2.2))) = true := by decide +kernel
theorem d_X_pop_0 : vm_D q_X_pop.2.1 0 1 1 (.aload_n 0) := vm_dD b_X_pop_0 0 rfl rfl
theorem d_X_pop_1 : vm_D q_X_pop.2.1 1 3 4 (.getfield 36) := vm_dD b_X_pop_0 1 rfl rfl
theorem d_X_pop_4 : vm_D q_X_pop.2.1 4 3 7 (.getfield 102) := vm_dD b_X_pop_0 2 rfl rfl
theorem d_X_pop_7 : vm_B q_X_pop.2.1 7 10 18 (fun o => .ifCond .ne o) := ⟨11, vm_db b_X_pop_0 (i := 3) rfl, rfl, by decide⟩
theorem d_X_pop_18 : vm_D q_X_pop.2.1 18 1 19 (.aload_n 0) := vm_dD b_X_pop_0 8 rfl rfl
theorem d_X_pop_19 : vm_D q_X_pop.2.1 19 3 22 (.getfield 53) := vm_dD b_X_pop_0 9 rfl rfl
theorem d_X_pop_22 : vm_D q_X_pop.2.1 22 1 23 (.aload_n 0) := vm_dD b_X_pop_0 10 rfl rfl
theorem d_X_pop_23 : vm_D q_X_pop.2.1 23 3 26 (.getfield 36) := vm_dD b_X_pop_0 11 rfl rfl
theorem d_X_pop_26 : vm_D q_X_pop.2.1 26 3 29 (.invokevirtual 116) := vm_dD b_X_pop_0 12 rfl rfl
theorem d_X_pop_29 : vm_D q_X_pop.2.1 29 1 30 (.aload_n 0) := vm_dD b_X_pop_0 13 rfl rfl
theorem d_X_pop_30 : vm_D q_X_pop.2.1 30 3 33 (.getfield 36) := vm_dD b_X_pop_0 14 rfl rfl
theorem d_X_pop_33 : vm_D q_X_pop.2.1 33 3 36 (.invokevirtual 120) := vm_dD b_X_pop_0 15 rfl rfl
theorem d_X_pop_36 : vm_D q_X_pop.2.1 36 1 37 (.ireturn) := vm_dD b_X_pop_0 16 rfl rfl
theorem d_X_pop_10 : vm_D q_X_pop.2.1 10 3 13 (.new 113) := vm_dD b_X_pop_0 4 rfl rfl
theorem d_X_pop_13 : vm_D q_X_pop.2.1 13 1 14 (.dup) := vm_dD b_X_pop_0 5 rfl rfl
theorem d_X_pop_14 : vm_D q_X_pop.2.1 14 3 17 (.invokespecial 115) := vm_dD b_X_pop_0 6 rfl rfl
theorem d_X_pop_17 : vm_D q_X_pop.2.1 17 1 18 (.athrow) := vm_dD b_X_pop_0 7 rfl rfl
def q_X_undo : vm_Y := ("RepeatFree", cX10_undo, 1, false, [])
def t_X_undo_0 : List (Nat × Instr × Nat) := [(0, .aload_n 0, 1), (1, .getfield 53, 3), (4, .aload_n 0, 1), (5, .getfield 36, 3), (8, .invokevirtual 124, 3), (11, .ifCond .eq 13, 3), (14, .aload_n 0, 1), (15, .getfield 53, 3), (18, .getfield 128, 3), (21, .goto 4, 3), (24, .iconst (-1), 1), (25, .ireturn, 1)]
theorem b_X_undo_0 : (t_X_undo_0.all fun q => decide (decode q_X_undo.2.1 q.1 = .ok (q.2.1, q.2.2))) = true := by decide +kernel
theorem d_X_undo_0 : vm_D q_X_undo.2.1 0 1 1 (.aload_n 0) := vm_dD b_X_undo_0 0 rfl rfl
theorem d_X_undo_1 : vm_D q_X_undo.2.1 1 3 4 (.getfield 53) := vm_dD b_X_undo_0 1 rfl rfl
theorem d_X_undo_4 : vm_D q_X_undo.2.1 4 1 5 (.aload_n 0) := vm_dD b_X_undo_0 2 rfl rfl
theorem d_X_undo_5 : vm_D q_X_undo.2.1 5 3 8 (.getfield 36) := vm_dD b_X_undo_0 3 rfl rfl
theorem d_X_undo_8 : vm_D q_X_undo.2.1 8 3 11 (.invokevirtual 124) := vm_dD b_X_undo_0 4 rfl rfl
theorem d_X_undo_11 : vm_B q_X_undo.2.1 11 14 24 (fun o => .ifCond .eq o) := ⟨13, vm_db b_X_undo_0 (i := 5) rfl, rfl, by decide⟩
theorem d_X_undo_24 : vm_D q_X_undo.2.1 24 1 25 (.iconst (-1)) := vm_dD b_X_undo_0 10 rfl rfl
theorem d_X_undo_25 : vm_D q_X_undo.2.1 25 1 26 (.ireturn) := vm_dD b_X_undo_0 11 rfl rfl
theorem d_X_undo_14 : vm_D q_X_undo.2.1 14 1 15 (.aload_n 0) := vm_dD b_X_undo_0 6 rfl rfl
theorem d_X_undo_15 : vm_D q_X_undo.2.1 15 3 18 (.getfield 53) := vm_dD b_X_undo_0 7 rfl rfl
theorem d_X_undo_18 : vm_D q_X_undo.2.1 18 3 21 (.getfield 128) := vm_dD b_X_undo_0 8 rfl rfl
theorem d_X_undo_21 : ∃ off : Int, decode q_X_undo.2.1 21 = .ok (.goto off, 3) ∧ ((21 : Nat) : Int) + off = ((25 : Nat) : Int) := ⟨4, vm_db b_X_undo_0 (i := 9) rfl, by decide⟩
def q_X_checkRange : vm_Y := ("RepeatFree", cX10_checkRange, 4, false, [])
def t_X_checkRange_0 : List (Nat × Instr × Nat) := [(0, .iload_n 1, 1), (1, .iload_n 2, 1), (2, .if_icmp .lt 8, 3), (5, .iload_n 1, 1), (6, .iload_n 3, 1), (7, .if_icmp .le 11, 3), (10, .new 84, 3), (13, .dup, 1), (14, .invokespecial 86, 3), (17, .athrow, 1), (18, .return_, 1)]
theorem b_X_checkRange_0 : (t_X_checkRange_0.all fun q => decide (decode q_X_checkRange.2.1 q.1 = .ok (q.2.1, q.2.2))) = true := by decide +kernel
theorem d_X_checkRange_0 : vm_D q_X_checkRange.2.1 0 1 1 (.iload_n 1) := vm_dD b_X_checkRange_0 0 rfl rfl
theorem d_X_checkRange_1 : vm_D q_X_checkRange.2.1 1 1 2 (.iload_n 2) := vm_dD b_X_checkRange_0 1 rfl rfl
theorem d_X_checkRange_2 : vm_B q_X_checkRange.2.1 2 5 10 (fun o => .if_icmp .lt o) := ⟨8, vm_db b_X_checkRange_0 (i := 2) rfl, rfl, by decide⟩
theorem d_X_checkRange_10 : vm_D q_X_checkRange.2.1 10 3 13 (.new 84) := vm_dD b_X_checkRange_0 6 rfl rfl
theorem d_X_checkRange_13 : vm_D q_X_checkRange.2.1 13 1 14 (.dup) := vm_dD b_X_checkRange_0 7 rfl rfl
theorem d_X_checkRange_14 : vm_D q_X_checkRange.2.1 14 3 17 (.invokespecial 86) := vm_dD b_X_checkRange_0 8 rfl rfl
theorem d_X_checkRange_17 : vm_D q_X_checkRange.2.1 17 1 18 (.athrow) := vm_dD b_X_checkRange_0 9 rfl rfl
theorem d_X_checkRange_5 : vm_D q_X_checkRange.2.1 5 1 6 (.iload_n 1) := vm_dD b_X_checkRange_0 3 rfl rfl
theorem d_X_checkRange_6 : vm_D q_X_checkRange.2.1 6 1 7 (.iload_n 3) := vm_dD b_X_checkRange_0 4 rfl rfl
theorem d_X_checkRange_7 : vm_B q_X_checkRange.2.1 7 10 18 (fun o => .if_icmp .le o) := ⟨11, vm_db b_X_checkRange_0 (i := 5) rfl, rfl, by decide⟩
theorem d_X_checkRange_18 : vm_D q_X_checkRange.2.1 18 1 19 (.return_) := vm_dD b_X_checkRange_0 10 rfl rfl
def q_X_checkWhat : vm_Y := ("RepeatFree", cX10_checkWhat, 3, false, [])
def t_X_checkWhat_0 : List (Nat × Instr × Nat) := [(0, .iload_n 1, 1), (1, .ifCond .lt 8, 3), (4, .iload_n 1, 1), (5, .iload_n 2, 1), (6, .if_icmp .le 11, 3), (9, .new 135, 3), (12, .dup, 1), (13, .invokespecial 137, 3), (16, .athrow, 1), (17, .return_, 1)]
theorem b_X_checkWhat_0 : (t_X_checkWhat_0.all fun q => decide (decode q_X_checkWhat.2.1 q.1 = .ok (q.2.1, q.2.2))) = true := by decide +kernel
theorem d_X_checkWhat_0 : vm_D q_X_checkWhat.2.1 0 1 1 (.iload_n 1) := vm_dD b_X_checkWhat_0 0 rfl rfl
theorem d_X_checkWhat_1 : vm_B q_X_checkWhat.2.1 1 4 9 (fun o => .ifCond .lt o) := ⟨8, vm_db b_X_checkWhat_0 (i := 1) rfl, rfl, by decide⟩
theorem d_X_checkWhat_9 : vm_D q_X_checkWhat.2.1 9 3 12 (.new 135) := vm_dD b_X_checkWhat_0 5 rfl rfl
theorem d_X_checkWhat_12 : vm_D q_X_checkWhat.2.1 12 1 13 (.dup) := vm_dD b_X_checkWhat_0 6 rfl rfl
theorem d_X_checkWhat_13 : vm_D q_X_checkWhat.2.1 13 3 16 (.invokespecial 137) := vm_dD b_X_checkWhat_0 7 rfl rfl
theorem d_X_checkWhat_16 : vm_D q_X_checkWhat.2.1 16 1 17 (.athrow) := vm_dD b_X_checkWhat_0 8 rfl rfl
theorem d_X_checkWhat_4 : vm_D q_X_checkWhat.2.1 4 1 5 (.iload_n 1) := vm_dD b_X_checkWhat_0 2 rfl rfl
theorem d_X_checkWhat_5 : vm_D q_X_checkWhat.2.1 5 1 6 (.iload_n 2) := vm_dD b_X_checkWhat_0 3 rfl rfl
theorem d_X_checkWhat_6 : vm_B q_X_checkWhat.2.1 6 9 17 (fun o => .if_icmp .le o) := ⟨11, vm_db b_X_checkWhat_0 (i := 4) rfl, rfl, by decide⟩
theorem d_X_checkWhat_17 : vm_D q_X_checkWhat.2.1 17 1 18 (.return_) := vm_dD b_X_checkWhat_0 9 rfl rfl
def q_X_mapOf : vm_Y := ("RepeatFree", cX10_mapOf, 3, false, [])
def t_X_mapOf_0 : List (Nat × Instr × Nat) := [(0, .iload_n 1, 1), (1, .aload_n 0, 1), (2, .getfield 19, 3), (5, .getfield 138, 3), (8, .if_icmp .ge 14, 3), (11, .aload_n 0, 1), (12, .getfield 19, 3), (15, .iload_n 1, 1), (16, .invokevirtual 141, 3), (19, .goto 4, 3), (22, .aconst_null, 1), (23, .astore_n 2, 1), (24, .aload_n 2, 1), (25, .ifnonnull 11, 3), (28, .new 145, 3), (31, .dup, 1), (32, .invokespecial 147, 3), (35, .athrow, 1), (36, .aload_n 2, 1), (37, .areturn, 1)]
theorem b_X_mapOf_0 : (t_X_mapOf_0.all fun q => decide (decode q_X_mapOf.2.1 q.1 = .ok (q.2.1, q.2.2))) = true := by decide +kernel
theorem d_X_mapOf_0 : vm_D q_X_mapOf.2.1 0 1 1 (.iload_n 1) := vm_dD b_X_mapOf_0 0 rfl rfl
theorem d_X_mapOf_1 : vm_D q_X_mapOf.2.1 1 1 2 (.aload_n 0) := vm_dD b_X_mapOf_0 1 rfl rfl
theorem d_X_mapOf_2 : vm_D q_X_mapOf.2.1 2 3 5 (.getfield 19) := vm_dD b_X_mapOf_0 2 rfl rfl
theorem d_X_mapOf_5 : vm_D q_X_mapOf.2.1 5 3 8 (.getfield 138) := vm_dD b_X_mapOf_0 3 rfl rfl
theorem d_X_mapOf_8 : vm_B q_X_mapOf.2.1 8 11 22 (fun o => .if_icmp .ge o) := ⟨14, vm_db b_X_mapOf_0 (i := 4) rfl, rfl, by decide⟩
theorem d_X_mapOf_23 : vm_D q_X_mapOf.2.1 23 1 24 (.astore_n 2) := vm_dD b_X_mapOf_0 11 rfl rfl
theorem d_X_mapOf_24 : vm_D q_X_mapOf.2.1 24 1 25 (.aload_n 2) := vm_dD b_X_mapOf_0 12 rfl rfl
theorem d_X_mapOf_25 : vm_B q_X_mapOf.2.1 25 28 36 (fun o => .ifnonnull o) := ⟨11, vm_db b_X_mapOf_0 (i := 13) rfl, rfl, by decide⟩
theorem d_X_mapOf_36 : vm_D q_X_mapOf.2.1 36 1 37 (.aload_n 2) := vm_dD b_X_mapOf_0 18 rfl rfl
theorem d_X_mapOf_37 : vm_D q_X_mapOf.2.1 37 1 38 (.areturn) := vm_dD b_X_mapOf_0 19 rfl rfl
theorem d_X_mapOf_28 : vm_D q_X_mapOf.2.1 28 3 31 (.new 145) := vm_dD b_X_mapOf_0 14 rfl rfl
theorem d_X_mapOf_31 : vm_D q_X_mapOf.2.1 31 1 32 (.dup) := vm_dD b_X_mapOf_0 15 rfl rfl
theorem d_X_mapOf_32 : vm_D q_X_mapOf.2.1 32 3 35 (.invokespecial 147) := vm_dD b_X_mapOf_0 16 rfl rfl
theorem d_X_mapOf_35 : vm_D q_X_mapOf.2.1 35 1 36 (.athrow) := vm_dD b_X_mapOf_0 17 rfl rfl
theorem d_X_mapOf_22 : vm_D q_X_mapOf.2.1 22 1 23 (.aconst_null) := vm_dD b_X_mapOf_0 10 rfl rfl
theorem d_X_mapOf_11 : vm_D q_X_mapOf.2.1 11 1 12 (.aload_n 0) := vm_dD b_X_mapOf_0 5 rfl rfl
theorem d_X_mapOf_12 : vm_D q_X_mapOf.2.1 12 3 15 (.getfield 19) := vm_dD b_X_mapOf_0 6 rfl rfl
theorem d_X_mapOf_15 : vm_D q_X_mapOf.2.1 15 1 16 (.iload_n 1) := vm_dD b_X_mapOf_0 7 rfl rfl
theorem d_X_mapOf_16 : vm_D q_X_mapOf.2.1 16 3 19 (.invokevirtual 141) := vm_dD b_X_mapOf_0 8 rfl rfl
theorem d_X_mapOf_19 : ∃ off : Int, decode q_X_mapOf.2.1 19 = .ok (.goto off, 3) ∧ ((19 : Nat) : Int) + off = ((23 : Nat) : Int) := ⟨4, vm_db b_X_mapOf_0 (i := 9) rfl, by decide⟩
def q_X_shapeOf : vm_Y := ("RepeatFree", cX10_shapeOf, 3, false, [])
def t_X_shapeOf_0 : List (Nat × Instr × Nat) := [(0, .iload_n 1, 1), (1, .aload_n 0, 1), (2, .getfield 19, 3), (5, .getfield 148, 3), (8, .if_icmp .ge 14, 3), (11, .aload_n 0, 1), (12, .getfield 19, 3), (15, .iload_n 1, 1), (16, .invokevirtual 151, 3), (19, .goto 4, 3), (22, .aconst_null, 1), (23, .astore_n 2, 1), (24, .aload_n 2, 1), (25, .ifnonnull 11, 3), (28, .new 145, 3), (31, .dup, 1), (32, .invokespecial 147, 3), (35, .athrow, 1), (36, .aload_n 2, 1), (37, .areturn, 1)]
theorem b_X_shapeOf_0 : (t_X_shapeOf_0.all fun q => decide (decode q_X_shapeOf.2.1 q.1 = .ok (q.2.1, q.2.2))) = true := by decide +kernel
theorem d_X_shapeOf_0 : vm_D q_X_shapeOf.2.1 0 1 1 (.iload_n 1) := vm_dD b_X_shapeOf_0 0 rfl rfl
theorem d_X_shapeOf_1 : vm_D q_X_shapeOf.2.1 1 1 2 (.aload_n 0) := vm_dD b_X_shapeOf_0 1 rfl rfl
theorem d_X_shapeOf_2 : vm_D q_X_shapeOf.2.1 2 3 5 (.getfield 19) := vm_dD b_X_shapeOf_0 2 rfl rfl
theorem d_X_shapeOf_5 : vm_D q_X_shapeOf.2.1 5 3 8 (.getfield 148) := vm_dD b_X_shapeOf_0 3 rfl rfl
theorem d_X_shapeOf_8 : vm_B q_X_shapeOf.2.1 8 11 22 (fun o => .if_icmp .ge o) := ⟨14, vm_db b_X_shapeOf_0 (i := 4) rfl, rfl, by decide⟩
theorem d_X_shapeOf_23 : vm_D q_X_shapeOf.2.1 23 1 24 (.astore_n 2) := vm_dD b_X_shapeOf_0 11 rfl rfl
theorem d_X_shapeOf_24 : vm_D q_X_shapeOf.2.1 24 1 25 (.aload_n 2) := vm_dD b_X_shapeOf_0 12 rfl rfl
theorem d_X_shapeOf_25 : vm_B q_X_shapeOf.2.1 25 28 36 (fun o => .ifnonnull o) := ⟨11, vm_db b_X_shapeOf_0 (i := 13) rfl, rfl, by decide⟩
theorem d_X_shapeOf_36 : vm_D q_X_shapeOf.2.1 36 1 37 (.aload_n 2) := vm_dD b_X_shapeOf_0 18 rfl rfl
theorem d_X_shapeOf_37 : vm_D q_X_shapeOf.2.1 37 1 38 (.areturn) := vm_dD b_X_shapeOf_0 19 rfl rfl
theorem d_X_shapeOf_28 : vm_D q_X_shapeOf.2.1 28 3 31 (.new 145) := vm_dD b_X_shapeOf_0 14 rfl rfl
theorem d_X_shapeOf_31 : vm_D q_X_shapeOf.2.1 31 1 32 (.dup) := vm_dD b_X_shapeOf_0 15 rfl rfl
theorem d_X_shapeOf_32 : vm_D q_X_shapeOf.2.1 32 3 35 (.invokespecial 147) := vm_dD b_X_shapeOf_0 16 rfl rfl
theorem d_X_shapeOf_35 : vm_D q_X_shapeOf.2.1 35 1 36 (.athrow) := vm_dD b_X_shapeOf_0 17 rfl rfl
theorem d_X_shapeOf_22 : vm_D q_X_shapeOf.2.1 22 1 23 (.aconst_null) := vm_dD b_X_shapeOf_0 10 rfl rfl
theorem d_X_shapeOf_11 : vm_D q_X_shapeOf.2.1 11 1 12 (.aload_n 0) := vm_dD b_X_shapeOf_0 5 rfl rfl
theorem d_X_shapeOf_12 : vm_D q_X_shapeOf.2.1 12 3 15 (.getfield 19) := vm_dD b_X_shapeOf_0 6 rfl rfl
theorem d_X_shapeOf_15 : vm_D q_X_shapeOf.2.1 15 1 16 (.iload_n 1) := vm_dD b_X_shapeOf_0 7 rfl rfl
theorem d_X_shapeOf_16 : vm_D q_X_shapeOf.2.1 16 3 19 (.invokevirtual 151) := vm_dD b_X_shapeOf_0 8 rfl rfl
theorem d_X_shapeOf_19 : ∃ off : Int, decode q_X_shapeOf.2.1 19 = .ok (.goto off, 3) ∧ ((19 : Nat) : Int) + off = ((23 : Nat) : Int) := ⟨4, vm_db b_X_shapeOf_0 (i := 9) rfl, by decide⟩
def q_X_free : vm_Y := ("RepeatFree", cX10_free, 1, false, [])
def t_X_free_0 : List (Nat × Instr × Nat) := [(0, .aload_n 0, 1), (1, .getfield 36, 3), (4, .aload_n 0, 1), (5, .getfield 19, 3), (8, .invokevirtual 155, 3), (11, .iconst (-1), 1), (12, .if_icmp .ne 7, 3), (15, .iconst 1, 1), (16, .goto 4, 3), (19, .iconst 0, 1), (20, .ireturn, 1)]
theorem b_X_free_0 : (t_X_free_0.all fun q => decide (decode q_X_free.2.1 q.1 = .ok (q.2.1, q.2.2))) = true := by decide +kernel
theorem d_X_free_0 : vm_D q_X_free.2.1 0 1 1 (.aload_n 0) := vm_dD b_X_free_0 0 rfl rfl
theorem d_X_free_1 : vm_D q_X_free.2.1 1 3 4 (.getfield 36) := vm_dD b_X_free_0 1 rfl rfl
theorem d_X_free_4 : vm_D q_X_free.2.1 4 1 5 (.aload_n 0) := vm_dD b_X_free_0 2 rfl rfl
theorem d_X_free_5 : vm_D q_X_free.2.1 5 3 8 (.getfield 19) := vm_dD b_X_free_0 3 rfl rfl
theorem d_X_free_8 : vm_D q_X_free.2.1 8 3 11 (.invokevirtual 155) := vm_dD b_X_free_0 4 rfl rfl
theorem d_X_free_11 : vm_D q_X_free.2.1 11 1 12 (.iconst (-1)) := vm_dD b_X_free_0 5 rfl rfl
theorem d_X_free_12 : vm_B q_X_free.2.1 12 15 19 (fun o => .if_icmp .ne o) := ⟨7, vm_db b_X_free_0 (i := 6) rfl, rfl, by decide⟩
theorem d_X_free_19 : vm_D q_X_free.2.1 19 1 20 (.iconst 0) := vm_dD b_X_free_0 9 rfl rfl
theorem d_X_free_20 : vm_D q_X_free.2.1 20 1 21 (.ireturn) := vm_dD b_X_free_0 10 rfl rfl
theorem d_X_free_15 : vm_D q_X_free.2.1 15 1 16 (.iconst 1) := vm_dD b_X_free_0 7 rfl rfl
theorem d_X_free_16 : ∃ off : Int, decode q_X_free.2.1 16 = .ok (.goto off, 3) ∧ ((16 : Nat) : Int) + off = ((20 : Nat) : Int) := ⟨4, vm_db b_X_free_0 (i := 8) rfl, by decide⟩
def q_X_ends : vm_Y := ("RepeatFree", cX10_ends, 1, false, [])
def t_X_ends_0 : List (Nat × Instr × Nat) := [(0, .aload_n 0, 1), (1, .getfield 36, 3), (4, .aload_n 0, 1), (5, .getfield 19, 3), (8, .invokevirtual 155, 3), (11, .ireturn, 1)]
theorem b_X_ends_0 : (t_X_ends_0.all fun q => decide (decode q_X_ends.2.1 q.1 = .ok (q.2.1, q.2.2))) = true := by decide +kernel
theorem d_X_ends_0 : vm_D q_X_ends.2.1 0 1 1 (.aload_n 0) := vm_dD b_X_ends_0 0 rfl rfl
theorem d_X_ends_1 : vm_D q_X_ends.2.1 1 3 4 (.getfield 36) := vm_dD b_X_ends_0 1 rfl rfl
theorem d_X_ends_4 : vm_D q_X_ends.2.1 4 1 5 (.aload_n 0) := vm_dD b_X_ends_0 2 rfl rfl
theorem d_X_ends_5 : vm_D q_X_ends.2.1 5 3 8 (.getfield 19) := vm_dD b_X_ends_0 3 rfl rfl
theorem d_X_ends_8 : vm_D q_X_ends.2.1 8 3 11 (.invokevirtual 155) := vm_dD b_X_ends_0 4 rfl rfl
theorem d_X_ends_11 : vm_D q_X_ends.2.1 11 1 12 (.ireturn) := vm_dD b_X_ends_0 5 rfl rfl
def q_X_greatest : vm_Y := ("RepeatFree", cX10_greatest, 11, false, [])
def t_X_greatest_0 : List (Nat × Instr × Nat) := [(0, .aload_n 0, 1), (1, .iload_n 1, 1), (2, .iconst 2, 1), (3, .invokevirtual 159, 3), (6, .iconst (-1), 1), (7, .istore_n 2, 1), (8, .iconst (-1), 1), (9, .istore_n 3, 1), (10, .iconst (-1), 1), (11, .istore 4, 2), (13, .iconst 0, 1), (14, .istore 5, 2), (16, .iload 5, 2), (18, .aload_n 0, 1), (19, .getfield 36, 3), (22, .getfield 102, 3), (25, .if_icmp .ge 127, 3), (28, .iconst 1, 1), (29, .istore 6, 2), (31, .iload 6, 2), (33, .iload 5, 2), (35, .iconst 1, 1), (36, .iadd, 1), (37, .if_icmp .gt 109, 3), (40, .iload 6, 2), (42, .aload_n 0, 1), (43, .getfield 36, 3), (46, .iload 5, 2), (48, .iload 5, 2), (50, .iload 6, 2), (52, .isub, 1), (53, .invokevirtual 163, 3), (56, .iadd, 1), (57, .istore 7, 2), (59, .iload 5, 2), (61, .iload 7, 2), (63, .isub, 1), (64, .iconst 1, 1), (65, .iadd, 1), (66, .istore 8, 2), (68, .iload_n 2, 1), (69, .iconst (-1), 1), (70, .if_icmp .ne 7, 3), (73, .iconst 1, 1), (74, .goto 12, 3), (77, .iload 7, 2), (79, .iload_n 3, 1), (80, .imul, 1), (81, .iload_n 2, 1), (82, .iload 6, 2), (84, .imul, 1), (85, .isub, 1), (86, .istore 9, 2), (88, .iload 8, 2), (90, .iload 4, 2), (92, .if_icmp .lt 16, 3), (95, .iload 8, 2), (97, .iload 4, 2), (99, .if_icmp .ne 13, 3), (102, .iload 7, 2)]
theorem b_X_greatest_0 : (t_X_greatest_0.all fun q => decide (decode q_X_greatest.2.1 q.1 = .ok (q.2.1, q.2.2))) = true := by decide +kernel
def t_X_greatest_1 : List (Nat × Instr × Nat) := [(104, .iload_n 2, 1), (105, .if_icmp .le 7, 3), (108, .iconst 1, 1), (109, .goto 4, 3), (112, .iconst 0, 1), (113, .istore 10, 2), (115, .iload 9, 2), (117, .ifCond .gt 13, 3), (120, .iload 9, 2), (122, .ifCond .ne 18, 3), (125, .iload 10, 2), (127, .ifCond .eq 13, 3), (130, .iload 7, 2), (132, .istore_n 2, 1), (133, .iload 6, 2), (135, .istore_n 3, 1), (136, .iload 8, 2), (138, .istore 4, 2), (140, .iinc 6 1, 3), (143, .goto (-112), 3), (146, .iinc 5 1, 3), (149, .goto (-133), 3), (152, .iload_n 1, 1), (153, .ifCond .ne 7, 3), (156, .iload_n 2, 1), (157, .goto 14, 3), (160, .iload_n 1, 1), (161, .iconst 1, 1), (162, .if_icmp .ne 7, 3), (165, .iload_n 3, 1), (166, .goto 5, 3), (169, .iload 4, 2), (171, .ireturn, 1)]
theorem b_X_greatest_1 : (t_X_greatest_1.all fun q => decide (decode q_X_greatest.2.1 q.1 = .ok (q.2.1, q.2.2))) = true := by decide +kernel
theorem d_X_greatest_0 : vm_D q_X_greatest.2.1 0 1 1 (.aload_n 0) := vm_dD b_X_greatest_0 0 rfl rfl
theorem d_X_greatest_1 : vm_D q_X_greatest.2.1 1 1 2 (.iload_n 1) := vm_dD b_X_greatest_0 1 rfl rfl
theorem d_X_greatest_2 : vm_D q_X_greatest.2.1 2 1 3 (.iconst 2) := vm_dD b_X_greatest_0 2 rfl rfl
theorem d_X_greatest_3 : vm_D q_X_greatest.2.1 3 3 6 (.invokevirtual 159) := vm_dD b_X_greatest_0 3 rfl rfl
theorem d_X_greatest_6 : vm_D q_X_greatest.2.1 6 1 7 (.iconst (-1)) := vm_dD b_X_greatest_0 4 rfl rfl
theorem d_X_greatest_7 : vm_D q_X_greatest.2.1 7 1 8 (.istore_n 2) := vm_dD b_X_greatest_0 5 rfl rfl
theorem d_X_greatest_8 : vm_D q_X_greatest.2.1 8 1 9 (.iconst (-1)) := vm_dD b_X_greatest_0 6 rfl rfl
theorem d_X_greatest_9 : vm_D q_X_greatest.2.1 9 1 10 (.istore_n 3) := vm_dD b_X_greatest_0 7 rfl rfl
theorem d_X_greatest_10 : vm_D q_X_greatest.2.1 10 1 11 (.iconst (-1)) := vm_dD b_X_greatest_0 8 rfl rfl
theorem d_X_greatest_11 : vm_D q_X_greatest.2.1 11 2 13 (.istore 4) := vm_dD b_X_greatest_0 9 rfl rfl
theorem d_X_greatest_13 : vm_D q_X_greatest.2.1 13 1 14 (.iconst 0) := vm_dD b_X_greatest_0 10 rfl rfl
theorem d_X_greatest_14 : vm_D q_X_greatest.2.1 14 2 16 (.istore 5) := vm_dD b_X_greatest_0 11 rfl rfl
theorem d_X_greatest_16 : vm_D q_X_greatest.2.1 16 2 18 (.iload 5) := vm_dD b_X_greatest_0 12 rfl rfl
theorem d_X_greatest_18 : vm_D q_X_greatest.2.1 18 1 19 (.aload_n 0) := vm_dD b_X_greatest_0 13 rfl rfl
theorem d_X_greatest_19 : vm_D q_X_greatest.2.1 19 3 22 (.getfield 36) := vm_dD b_X_greatest_0 14 rfl rfl
theorem d_X_greatest_22 : vm_D q_X_greatest.2.1 22 3 25 (.getfield 102) := vm_dD b_X_greatest_0 15 rfl rfl
theorem d_X_greatest_25 : vm_B q_X_greatest.2.1 25 28 152 (fun o => .if_icmp .ge o) := ⟨127, vm_db b_X_greatest_0 (i := 16) rfl, rfl, by decide⟩
theorem d_X_greatest_28 : vm_D q_X_greatest.2.1 28 1 29 (.iconst 1) := vm_dD b_X_greatest_0 17 rfl rfl
theorem d_X_greatest_29 : vm_D q_X_greatest.2.1 29 2 31 (.istore 6) := vm_dD b_X_greatest_0 18 rfl rfl
theorem d_X_greatest_31 : vm_D q_X_greatest.2.1 31 2 33 (.iload 6) := vm_dD b_X_greatest_0 19 rfl rfl
theorem d_X_greatest_33 : vm_D q_X_greatest.2.1 33 2 35 (.iload 5) := vm_dD b_X_greatest_0 20 rfl rfl
theorem d_X_greatest_35 : vm_D q_X_greatest.2.1 35 1 36 (.iconst 1) := vm_dD b_X_greatest_0 21 rfl rfl
theorem d_X_greatest_36 : vm_D q_X_greatest.2.1 36 1 37 (.iadd) := vm_dD b_X_greatest_0 22 rfl rfl
theorem d_X_greatest_37 : vm_B q_X_greatest.2.1 37 40 146 (fun o => .if_icmp .gt o) := ⟨109, vm_db b_X_greatest_0 (i := 23) rfl, rfl, by decide⟩
theorem d_X_greatest_40 : vm_D q_X_greatest.2.1 40 2 42 (.iload 6) := vm_dD b_X_greatest_0 24 rfl rfl
theorem d_X_greatest_42 : vm_D q_X_greatest.2.1 42 1 43 (.aload_n 0) := vm_dD b_X_greatest_0 25 rfl rfl
theorem d_X_greatest_43 : vm_D q_X_greatest.2.1 43 3 46 (.getfield 36) := vm_dD b_X_greatest_0 26 rfl rfl
theorem d_X_greatest_46 : vm_D q_X_greatest.2.1 46 2 48 (.iload 5) := vm_dD b_X_greatest_0 27 rfl rfl
theorem d_X_greatest_48 : vm_D q_X_greatest.2.1 48 2 50 (.iload 5) := vm_dD b_X_greatest_0 28 rfl rfl
theorem d_X_greatest_50 : vm_D q_X_greatest.2.1 50 2 52 (.iload 6) := vm_dD b_X_greatest_0 29 rfl rfl
theorem d_X_greatest_52 : vm_D q_X_greatest.2.1 52 1 53 (.isub) := vm_dD b_X_greatest_0 30 rfl rfl
theorem d_X_greatest_53 : vm_D q_X_greatest.2.1 53 3 56 (.invokevirtual 163) := vm_dD b_X_greatest_0 31 rfl rfl
theorem d_X_greatest_56 : vm_D q_X_greatest.2.1 56 1 57 (.iadd) := vm_dD b_X_greatest_0 32 rfl rfl
theorem d_X_greatest_57 : vm_D q_X_greatest.2.1 57 2 59 (.istore 7) := vm_dD b_X_greatest_0 33 rfl rfl
theorem d_X_greatest_59 : vm_D q_X_greatest.2.1 59 2 61 (.iload 5) := vm_dD b_X_greatest_0 34 rfl rfl
theorem d_X_greatest_61 : vm_D q_X_greatest.2.1 61 2 63 (.iload 7) := vm_dD b_X_greatest_0 35 rfl rfl
theorem d_X_greatest_63 : vm_D q_X_greatest.2.1 63 1 64 (.isub) := vm_dD b_X_greatest_0 36 rfl rfl
theorem d_X_greatest_64 : vm_D q_X_greatest.2.1 64 1 65 (.iconst 1) := vm_dD b_X_greatest_0 37 rfl rfl
theorem d_X_greatest_65 : vm_D q_X_greatest.2.1 65 1 66 (.iadd) := vm_dD b_X_greatest_0 38 rfl rfl
theorem d_X_greatest_66 : vm_D q_X_greatest.2.1 66 2 68 (.istore 8) := vm_dD b_X_greatest_0 39 rfl rfl
theorem d_X_greatest_68 : vm_D q_X_greatest.2.1 68 1 69 (.iload_n 2) := vm_dD b_X_greatest_0 40 rfl rfl
theorem d_X_greatest_69 : vm_D q_X_greatest.2.1 69 1 70 (.iconst (-1)) := vm_dD b_X_greatest_0 41 rfl rfl
theorem d_X_greatest_70 : vm_B q_X_greatest.2.1 70 73 77 (fun o => .if_icmp .ne o) := ⟨7, vm_db b_X_greatest_0 (i := 42) rfl, rfl, by decide⟩
theorem d_X_greatest_86 : vm_D q_X_greatest.2.1 86 2 88 (.istore 9) := vm_dD b_X_greatest_0 52 rfl rfl
theorem d_X_greatest_88 : vm_D q_X_greatest.2.1 88 2 90 (.iload 8) := vm_dD b_X_greatest_0 53 rfl rfl
theorem d_X_greatest_90 : vm_D q_X_greatest.2.1 90 2 92 (.iload 4) := vm_dD b_X_greatest_0 54 rfl rfl
theorem d_X_greatest_92 : vm_B q_X_greatest.2.1 92 95 108 (fun o => .if_icmp .lt o) := ⟨16, vm_db b_X_greatest_0 (i := 55) rfl, rfl, by decide⟩
theorem d_X_greatest_113 : vm_D q_X_greatest.2.1 113 2 115 (.istore 10) := vm_dD b_X_greatest_1 5 rfl rfl
theorem d_X_greatest_115 : vm_D q_X_greatest.2.1 115 2 117 (.iload 9) := vm_dD b_X_greatest_1 6 rfl rfl
theorem d_X_greatest_117 : vm_B q_X_greatest.2.1 117 120 130 (fun o => .ifCond .gt o) := ⟨13, vm_db b_X_greatest_1 (i := 7) rfl, rfl, by decide⟩
theorem d_X_greatest_140 : vm_D q_X_greatest.2.1 140 3 143 (.iinc 6 1) := vm_dD b_X_greatest_1 18 rfl rfl
theorem d_X_greatest_143 : ∃ off : Int, decode q_X_greatest.2.1 143 = .ok (.goto off, 3) ∧ ((143 : Nat) : Int) + off = ((31 : Nat) : Int) := ⟨-112, vm_db b_X_greatest_1 (i := 19) rfl, by decide⟩
theorem d_X_greatest_130 : vm_D q_X_greatest.2.1 130 2 132 (.iload 7) := vm_dD b_X_greatest_1 12 rfl rfl
theorem d_X_greatest_132 : vm_D q_X_greatest.2.1 132 1 133 (.istore_n 2) := vm_dD b_X_greatest_1 13 rfl rfl
theorem d_X_greatest_133 : vm_D q_X_greatest.2.1 133 2 135 (.iload 6) := vm_dD b_X_greatest_1 14 rfl rfl
theorem d_X_greatest_135 : vm_D q_X_greatest.2.1 135 1 136 (.istore_n 3) := vm_dD b_X_greatest_1 15 rfl rfl
theorem d_X_greatest_136 : vm_D q_X_greatest.2.1 136 2 138 (.iload 8) := vm_dD b_X_greatest_1 16 rfl rfl
theorem d_X_greatest_138 : vm_D q_X_greatest.2.1 138 2 140 (.istore 4) := vm_dD b_X_greatest_1 17 rfl rfl
theorem d_X_greatest_120 : vm_D q_X_greatest.2.1 120 2 122 (.iload 9) := vm_dD b_X_greatest_1 8 rfl rfl
theorem d_X_greatest_122 : vm_B q_X_greatest.2.1 122 125 140 (fun o => .ifCond .ne o) := ⟨18, vm_db b_X_greatest_1 (i := 9) rfl, rfl, by decide⟩
theorem d_X_greatest_125 : vm_D q_X_greatest.2.1 125 2 127 (.iload 10) := vm_dD b_X_greatest_1 10 rfl rfl
theorem d_X_greatest_127 : vm_B q_X_greatest.2.1 127 130 140 (fun o => .ifCond .eq o) := ⟨13, vm_db b_X_greatest_1 (i := 11) rfl, rfl, by decide⟩
theorem d_X_greatest_108 : vm_D q_X_greatest.2.1 108 1 109 (.iconst 1) := vm_dD b_X_greatest_1 2 rfl rfl
theorem d_X_greatest_109 : ∃ off : Int, decode q_X_greatest.2.1 109 = .ok (.goto off, 3) ∧ ((109 : Nat) : Int) + off = ((113 : Nat) : Int) := ⟨4, vm_db b_X_greatest_1 (i := 3) rfl, by decide⟩
theorem d_X_greatest_95 : vm_D q_X_greatest.2.1 95 2 97 (.iload 8) := vm_dD b_X_greatest_0 56 rfl rfl
theorem d_X_greatest_97 : vm_D q_X_greatest.2.1 97 2 99 (.iload 4) := vm_dD b_X_greatest_0 57 rfl rfl
theorem d_X_greatest_99 : vm_B q_X_greatest.2.1 99 102 112 (fun o => .if_icmp .ne o) := ⟨13, vm_db b_X_greatest_0 (i := 58) rfl, rfl, by decide⟩
theorem d_X_greatest_112 : vm_D q_X_greatest.2.1 112 1 113 (.iconst 0) := vm_dD b_X_greatest_1 4 rfl rfl
theorem d_X_greatest_102 : vm_D q_X_greatest.2.1 102 2 104 (.iload 7) := vm_dD b_X_greatest_0 59 rfl rfl
theorem d_X_greatest_104 : vm_D q_X_greatest.2.1 104 1 105 (.iload_n 2) := vm_dD b_X_greatest_1 0 rfl rfl
theorem d_X_greatest_105 : vm_B q_X_greatest.2.1 105 108 112 (fun o => .if_icmp .le o) := ⟨7, vm_db b_X_greatest_1 (i := 1) rfl, rfl, by decide⟩
theorem d_X_greatest_77 : vm_D q_X_greatest.2.1 77 2 79 (.iload 7) := vm_dD b_X_greatest_0 45 rfl rfl
theorem d_X_greatest_79 : vm_D q_X_greatest.2.1 79 1 80 (.iload_n 3) := vm_dD b_X_greatest_0 46 rfl rfl
theorem d_X_greatest_80 : vm_D q_X_greatest.2.1 80 1 81 (.imul) := vm_dD b_X_greatest_0 47 rfl rfl
theorem d_X_greatest_81 : vm_D q_X_greatest.2.1 81 1 82 (.iload_n 2) := vm_dD b_X_greatest_0 48 rfl rfl
theorem d_X_greatest_82 : vm_D q_X_greatest.2.1 82 2 84 (.iload 6) := vm_dD b_X_greatest_0 49 rfl rfl
theorem d_X_greatest_84 : vm_D q_X_greatest.2.1 84 1 85 (.imul) := vm_dD b_X_greatest_0 50 rfl rfl
theorem d_X_greatest_85 : vm_D q_X_greatest.2.1 85 1 86 (.isub) := vm_dD b_X_greatest_0 51 rfl rfl
theorem d_X_greatest_73 : vm_D q_X_greatest.2.1 73 1 74 (.iconst 1) := vm_dD b_X_greatest_0 43 rfl rfl
theorem d_X_greatest_74 : ∃ off : Int, decode q_X_greatest.2.1 74 = .ok (.goto off, 3) ∧ ((74 : Nat) : Int) + off = ((86 : Nat) : Int) := ⟨12, vm_db b_X_greatest_0 (i := 44) rfl, by decide⟩
theorem d_X_greatest_146 : vm_D q_X_greatest.2.1 146 3 149 (.iinc 5 1) := vm_dD b_X_greatest_1 20 rfl rfl
theorem d_X_greatest_149 : ∃ off : Int, decode q_X_greatest.2.1 149 = .ok (.goto off, 3) ∧ ((149 : Nat) : Int) + off = ((16 : Nat) : Int) := ⟨-133, vm_db b_X_greatest_1 (i := 21) rfl, by decide⟩
theorem d_X_greatest_152 : vm_D q_X_greatest.2.1 152 1 153 (.iload_n 1) := vm_dD b_X_greatest_1 22 rfl rfl
theorem d_X_greatest_153 : vm_B q_X_greatest.2.1 153 156 160 (fun o => .ifCond .ne o) := ⟨7, vm_db b_X_greatest_1 (i := 23) rfl, rfl, by decide⟩
theorem d_X_greatest_160 : vm_D q_X_greatest.2.1 160 1 161 (.iload_n 1) := vm_dD b_X_greatest_1 26 rfl rfl
theorem d_X_greatest_161 : vm_D q_X_greatest.2.1 161 1 162 (.iconst 1) := vm_dD b_X_greatest_1 27 rfl rfl
theorem d_X_greatest_162 : vm_B q_X_greatest.2.1 162 165 169 (fun o => .if_icmp .ne o) := ⟨7, vm_db b_X_greatest_1 (i := 28) rfl, rfl, by decide⟩
theorem d_X_greatest_169 : vm_D q_X_greatest.2.1 169 2 171 (.iload 4) := vm_dD b_X_greatest_1 31 rfl rfl
theorem d_X_greatest_171 : vm_D q_X_greatest.2.1 171 1 172 (.ireturn) := vm_dD b_X_greatest_1 32 rfl rfl
theorem d_X_greatest_165 : vm_D q_X_greatest.2.1 165 1 166 (.iload_n 3) := vm_dD b_X_greatest_1 29 rfl rfl
theorem d_X_greatest_166 : ∃ off : Int, decode q_X_greatest.2.1 166 = .ok (.goto off, 3) ∧ ((166 : Nat) : Int) + off = ((171 : Nat) : Int) := ⟨5, vm_db b_X_greatest_1 (i := 30) rfl, by decide⟩
theorem d_X_greatest_156 : vm_D q_X_greatest.2.1 156 1 157 (.iload_n 2) := vm_dD b_X_greatest_1 24 rfl rfl
theorem d_X_greatest_157 : ∃ off : Int, decode q_X_greatest.2.1 157 = .ok (.goto off, 3) ∧ ((157 : Nat) : Int) + off = ((171 : Nat) : Int) := ⟨14, vm_db b_X_greatest_1 (i := 25) rfl, by decide⟩
def q_X_period : vm_Y := ("RepeatFree", cX10_period, 1, false, [])
def t_X_period_0 : List (Nat × Instr × Nat) := [(0, .aload_n 0, 1), (1, .getfield 36, 3), (4, .getfield 102, 3), (7, .ifCond .ne 7, 3), (10, .iconst (-1), 1), (11, .goto 18, 3), (14, .aload_n 0, 1), (15, .getfield 36, 3), (18, .iconst 0, 1), (19, .aload_n 0, 1), (20, .getfield 36, 3), (23, .getfield 102, 3), (26, .invokevirtual 167, 3), (29, .ireturn, 1)]
theorem b_X_period_0 : (t_X_period_0.all fun q => decide (decode q_X_period.2.1 q.1 = .ok (q.2.1, q.2.2))) = true := by decide +kernel
theorem d_X_period_0 : vm_D q_X_period.2.1 0 1 1 (.aload_n 0) := vm_dD b_X_period_0 0 rfl rfl
theorem d_X_period_1 : vm_D q_X_period.2.1 1 3 4 (.getfield 36) := vm_dD b_X_period_0 1 rfl rfl
theorem d_X_period_4 : vm_D q_X_period.2.1 4 3 7 (.getfield 102) := vm_dD b_X_period_0 2 rfl rfl
theorem d_X_period_7 : vm_B q_X_period.2.1 7 10 14 (fun o => .ifCond .ne o) := ⟨7, vm_db b_X_period_0 (i := 3) rfl, rfl, by decide⟩
theorem d_X_period_14 : vm_D q_X_period.2.1 14 1 15 (.aload_n 0) := vm_dD b_X_period_0 6 rfl rfl
theorem d_X_period_15 : vm_D q_X_period.2.1 15 3 18 (.getfield 36) := vm_dD b_X_period_0 7 rfl rfl
theorem d_X_period_18 : vm_D q_X_period.2.1 18 1 19 (.iconst 0) := vm_dD b_X_period_0 8 rfl rfl
theorem d_X_period_19 : vm_D q_X_period.2.1 19 1 20 (.aload_n 0) := vm_dD b_X_period_0 9 rfl rfl
theorem d_X_period_20 : vm_D q_X_period.2.1 20 3 23 (.getfield 36) := vm_dD b_X_period_0 10 rfl rfl
theorem d_X_period_23 : vm_D q_X_period.2.1 23 3 26 (.getfield 102) := vm_dD b_X_period_0 11 rfl rfl
theorem d_X_period_26 : vm_D q_X_period.2.1 26 3 29 (.invokevirtual 167) := vm_dD b_X_period_0 12 rfl rfl
theorem d_X_period_29 : vm_D q_X_period.2.1 29 1 30 (.ireturn) := vm_dD b_X_period_0 13 rfl rfl
theorem d_X_period_10 : vm_D q_X_period.2.1 10 1 11 (.iconst (-1)) := vm_dD b_X_period_0 4 rfl rfl
theorem d_X_period_11 : ∃ off : Int, decode q_X_period.2.1 11 = .ok (.goto off, 3) ∧ ((11 : Nat) : Int) + off = ((29 : Nat) : Int) := ⟨18, vm_db b_X_period_0 (i := 5) rfl, by decide⟩
def q_X_border : vm_Y := ("RepeatFree", cX10_border, 5, false, [])
def t_X_border_0 : List (Nat × Instr × Nat) := [(0, .aload_n 0, 1), (1, .getfield 36, 3), (4, .getfield 102, 3), (7, .istore_n 2, 1), (8, .iconst 0, 1), (9, .istore_n 3, 1), (10, .iconst 1, 1), (11, .istore 4, 2), (13, .iload 4, 2), (15, .iload_n 2, 1), (16, .if_icmp .ge 45, 3), (19, .aload_n 0, 1), (20, .getfield 36, 3), (23, .iload_n 2, 1), (24, .iconst 1, 1), (25, .isub, 1), (26, .iload_n 2, 1), (27, .iconst 1, 1), (28, .isub, 1), (29, .iload 4, 2), (31, .isub, 1), (32, .invokevirtual 163, 3), (35, .iload_n 2, 1), (36, .iload 4, 2), (38, .isub, 1), (39, .if_icmp .lt 16, 3), (42, .iload_n 3, 1), (43, .iload_n 1, 1), (44, .if_icmp .ne 8, 3), (47, .iload_n 2, 1), (48, .iload 4, 2), (50, .isub, 1), (51, .ireturn, 1), (52, .iinc 3 1, 3), (55, .iinc 4 1, 3), (58, .goto (-45), 3), (61, .iconst (-1), 1), (62, .ireturn, 1)]
theorem b_X_border_0 : (t_X_border_0.all fun q => decide (decode q_X_border.2.1 q.1 = .ok (q.2.1, q.2.2))) = true := by decide +kernel
theorem d_X_border_0 : vm_D q_X_border.2.1 0 1 1 (.aload_n 0) := vm_dD b_X_border_0 0 rfl rfl
theorem d_X_border_1 : vm_D q_X_border.2.1 1 3 4 (.getfield 36) := vm_dD b_X_border_0 1 rfl rfl
theorem d_X_border_4 : vm_D q_X_border.2.1 4 3 7 (.getfield 102) := vm_dD b_X_border_0 2 rfl rfl
theorem d_X_border_7 : vm_D q_X_border.2.1 7 1 8 (.istore_n 2) := vm_dD b_X_border_0 3 rfl rfl
theorem d_X_border_8 : vm_D q_X_border.2.1 8 1 9 (.iconst 0) := vm_dD b_X_border_0 4 rfl rfl
theorem d_X_border_9 : vm_D q_X_border.2.1 9 1 10 (.istore_n 3) := vm_dD b_X_border_0 5 rfl rfl
theorem d_X_border_10 : vm_D q_X_border.2.1 10 1 11 (.iconst 1) := vm_dD b_X_border_0 6 rfl rfl
theorem d_X_border_11 : vm_D q_X_border.2.1 11 2 13 (.istore 4) := vm_dD b_X_border_0 7 rfl rfl
theorem d_X_border_13 : vm_D q_X_border.2.1 13 2 15 (.iload 4) := vm_dD b_X_border_0 8 rfl rfl
theorem d_X_border_15 : vm_D q_X_border.2.1 15 1 16 (.iload_n 2) := vm_dD b_X_border_0 9 rfl rfl
theorem d_X_border_16 : vm_B q_X_border.2.1 16 19 61 (fun o => .if_icmp .ge o) := ⟨45, vm_db b_X_border_0 (i := 10) rfl, rfl, by decide⟩
theorem d_X_border_19 : vm_D q_X_border.2.1 19 1 20 (.aload_n 0) := vm_dD b_X_border_0 11 rfl rfl
theorem d_X_border_20 : vm_D q_X_border.2.1 20 3 23 (.getfield 36) := vm_dD b_X_border_0 12 rfl rfl
theorem d_X_border_23 : vm_D q_X_border.2.1 23 1 24 (.iload_n 2) := vm_dD b_X_border_0 13 rfl rfl
theorem d_X_border_24 : vm_D q_X_border.2.1 24 1 25 (.iconst 1) := vm_dD b_X_border_0 14 rfl rfl
theorem d_X_border_25 : vm_D q_X_border.2.1 25 1 26 (.isub) := vm_dD b_X_border_0 15 rfl rfl
theorem d_X_border_26 : vm_D q_X_border.2.1 26 1 27 (.iload_n 2) := vm_dD b_X_border_0 16 rfl rfl
theorem d_X_border_27 : vm_D q_X_border.2.1 27 1 28 (.iconst 1) := vm_dD b_X_border_0 17 rfl rfl
theorem d_X_border_28 : vm_D q_X_border.2.1 28 1 29 (.isub) := vm_dD b_X_border_0 18 rfl rfl
theorem d_X_border_29 : vm_D q_X_border.2.1 29 2 31 (.iload 4) := vm_dD b_X_border_0 19 rfl rfl
theorem d_X_border_31 : vm_D q_X_border.2.1 31 1 32 (.isub) := vm_dD b_X_border_0 20 rfl rfl
theorem d_X_border_32 : vm_D q_X_border.2.1 32 3 35 (.invokevirtual 163) := vm_dD b_X_border_0 21 rfl rfl
theorem d_X_border_35 : vm_D q_X_border.2.1 35 1 36 (.iload_n 2) := vm_dD b_X_border_0 22 rfl rfl
theorem d_X_border_36 : vm_D q_X_border.2.1 36 2 38 (.iload 4) := vm_dD b_X_border_0 23 rfl rfl
theorem d_X_border_38 : vm_D q_X_border.2.1 38 1 39 (.isub) := vm_dD b_X_border_0 24 rfl rfl
theorem d_X_border_39 : vm_B q_X_border.2.1 39 42 55 (fun o => .if_icmp .lt o) := ⟨16, vm_db b_X_border_0 (i := 25) rfl, rfl, by decide⟩
theorem d_X_border_55 : vm_D q_X_border.2.1 55 3 58 (.iinc 4 1) := vm_dD b_X_border_0 34 rfl rfl
theorem d_X_border_58 : ∃ off : Int, decode q_X_border.2.1 58 = .ok (.goto off, 3) ∧ ((58 : Nat) : Int) + off = ((13 : Nat) : Int) := ⟨-45, vm_db b_X_border_0 (i := 35) rfl, by decide⟩
theorem d_X_border_42 : vm_D q_X_border.2.1 42 1 43 (.iload_n 3) := vm_dD b_X_border_0 26 rfl rfl
theorem d_X_border_43 : vm_D q_X_border.2.1 43 1 44 (.iload_n 1) := vm_dD b_X_border_0 27 rfl rfl
theorem d_X_border_44 : vm_B q_X_border.2.1 44 47 52 (fun o => .if_icmp .ne o) := ⟨8, vm_db b_X_border_0 (i := 28) rfl, rfl, by decide⟩
theorem d_X_border_52 : vm_D q_X_border.2.1 52 3 55 (.iinc 3 1) := vm_dD b_X_border_0 33 rfl rfl
theorem d_X_border_47 : vm_D q_X_border.2.1 47 1 48 (.iload_n 2) := vm_dD b_X_border_0 29 rfl rfl
theorem d_X_border_48 : vm_D q_X_border.2.1 48 2 50 (.iload 4) := vm_dD b_X_border_0 30 rfl rfl
theorem d_X_border_50 : vm_D q_X_border.2.1 50 1 51 (.isub) := vm_dD b_X_border_0 31 rfl rfl
theorem d_X_border_51 : vm_D q_X_border.2.1 51 1 52 (.ireturn) := vm_dD b_X_border_0 32 rfl rfl
theorem d_X_border_61 : vm_D q_X_border.2.1 61 1 62 (.iconst (-1)) := vm_dD b_X_border_0 36 rfl rfl
theorem d_X_border_62 : vm_D q_X_border.2.1 62 1 63 (.ireturn) := vm_dD b_X_border_0 37 rfl rfl
def q_X_runSize : vm_Y := ("RepeatFree", cX10_runSize, 4, false, [])
def t_X_runSize_0 : List (Nat × Instr × Nat) := [(0, .iload_n 1, 1), (1, .ifCond .le 30, 3), (4, .aload_n 0, 1), (5, .getfield 36, 3), (8, .iload_n 1, 1), (9, .iconst 1, 1), (10, .isub, 1), (11, .invokevirtual 106, 3), (14, .aload_n 0, 1), (15, .getfield 36, 3), (18, .iload_n 1, 1), (19, .iconst 1, 1), (20, .isub, 1), (21, .iload_n 2, 1), (22, .iadd, 1), (23, .invokevirtual 106, 3), (26, .if_icmp .ne 5, 3), (29, .iconst 0, 1), (30, .ireturn, 1), (31, .iload_n 2, 1), (32, .istore_n 3, 1), (33, .iload_n 1, 1), (34, .iload_n 3, 1), (35, .iadd, 1), (36, .aload_n 0, 1), (37, .getfield 36, 3), (40, .getfield 102, 3), (43, .if_icmp .ge 34, 3), (46, .aload_n 0, 1), (47, .getfield 36, 3), (50, .iload_n 1, 1), (51, .iload_n 3, 1), (52, .iadd, 1), (53, .invokevirtual 106, 3), (56, .aload_n 0, 1), (57, .getfield 36, 3), (60, .iload_n 1, 1), (61, .iload_n 3, 1), (62, .iadd, 1), (63, .iload_n 2, 1), (64, .isub, 1), (65, .invokevirtual 106, 3), (68, .if_icmp .ne 9, 3), (71, .iinc 3 1, 3), (74, .goto (-41), 3), (77, .iload_n 3, 1), (78, .iconst 2, 1), (79, .iload_n 2, 1), (80, .imul, 1), (81, .if_icmp .lt 20, 3), (84, .aload_n 0, 1), (85, .getfield 36, 3), (88, .iload_n 1, 1), (89, .iload_n 3, 1), (90, .invokevirtual 167, 3), (93, .iload_n 2, 1), (94, .if_icmp .ne 7, 3), (97, .iload_n 3, 1), (98, .goto 4, 3), (101, .iconst 0, 1)]
theorem b_X_runSize_0 : (t_X_runSize_0.all fun q => decide (decode q_X_runSize.2.1 q.1 = .ok (q.2.1, q.2.2))) = true := by decide +kernel
def t_X_runSize_1 : List (Nat × Instr × Nat) := [(102, .ireturn, 1)]
theorem b_X_runSize_1 : (t_X_runSize_1.all fun q => decide (decode q_X_runSize.2.1 q.1 = .ok (q.2.1, q.2.2))) = true := by decide +kernel
theorem d_X_runSize_0 : vm_D q_X_runSize.2.1 0 1 1 (.iload_n 1) := vm_dD b_X_runSize_0 0 rfl rfl
theorem d_X_runSize_1 : vm_B q_X_runSize.2.1 1 4 31 (fun o => .ifCond .le o) := ⟨30, vm_db b_X_runSize_0 (i := 1) rfl, rfl, by decide⟩
theorem d_X_runSize_31 : vm_D q_X_runSize.2.1 31 1 32 (.iload_n 2) := vm_dD b_X_runSize_0 19 rfl rfl
theorem d_X_runSize_32 : vm_D q_X_runSize.2.1 32 1 33 (.istore_n 3) := vm_dD b_X_runSize_0 20 rfl rfl
theorem d_X_runSize_33 : vm_D q_X_runSize.2.1 33 1 34 (.iload_n 1) := vm_dD b_X_runSize_0 21 rfl rfl
theorem d_X_runSize_34 : vm_D q_X_runSize.2.1 34 1 35 (.iload_n 3) := vm_dD b_X_runSize_0 22 rfl rfl
theorem d_X_runSize_35 : vm_D q_X_runSize.2.1 35 1 36 (.iadd) := vm_dD b_X_runSize_0 23 rfl rfl
theorem d_X_runSize_36 : vm_D q_X_runSize.2.1 36 1 37 (.aload_n 0) := vm_dD b_X_runSize_0 24 rfl rfl
theorem d_X_runSize_37 : vm_D q_X_runSize.2.1 37 3 40 (.getfield 36) := vm_dD b_X_runSize_0 25 rfl rfl
theorem d_X_runSize_40 : vm_D q_X_runSize.2.1 40 3 43 (.getfield 102) := vm_dD b_X_runSize_0 26 rfl rfl
theorem d_X_runSize_43 : vm_B q_X_runSize.2.1 43 46 77 (fun o => .if_icmp .ge o) := ⟨34, vm_db b_X_runSize_0 (i := 27) rfl, rfl, by decide⟩
theorem d_X_runSize_46 : vm_D q_X_runSize.2.1 46 1 47 (.aload_n 0) := vm_dD b_X_runSize_0 28 rfl rfl
theorem d_X_runSize_47 : vm_D q_X_runSize.2.1 47 3 50 (.getfield 36) := vm_dD b_X_runSize_0 29 rfl rfl
theorem d_X_runSize_50 : vm_D q_X_runSize.2.1 50 1 51 (.iload_n 1) := vm_dD b_X_runSize_0 30 rfl rfl
theorem d_X_runSize_51 : vm_D q_X_runSize.2.1 51 1 52 (.iload_n 3) := vm_dD b_X_runSize_0 31 rfl rfl
theorem d_X_runSize_52 : vm_D q_X_runSize.2.1 52 1 53 (.iadd) := vm_dD b_X_runSize_0 32 rfl rfl
theorem d_X_runSize_53 : vm_D q_X_runSize.2.1 53 3 56 (.invokevirtual 106) := vm_dD b_X_runSize_0 33 rfl rfl
theorem d_X_runSize_56 : vm_D q_X_runSize.2.1 56 1 57 (.aload_n 0) := vm_dD b_X_runSize_0 34 rfl rfl
theorem d_X_runSize_57 : vm_D q_X_runSize.2.1 57 3 60 (.getfield 36) := vm_dD b_X_runSize_0 35 rfl rfl
theorem d_X_runSize_60 : vm_D q_X_runSize.2.1 60 1 61 (.iload_n 1) := vm_dD b_X_runSize_0 36 rfl rfl
theorem d_X_runSize_61 : vm_D q_X_runSize.2.1 61 1 62 (.iload_n 3) := vm_dD b_X_runSize_0 37 rfl rfl
theorem d_X_runSize_62 : vm_D q_X_runSize.2.1 62 1 63 (.iadd) := vm_dD b_X_runSize_0 38 rfl rfl
theorem d_X_runSize_63 : vm_D q_X_runSize.2.1 63 1 64 (.iload_n 2) := vm_dD b_X_runSize_0 39 rfl rfl
theorem d_X_runSize_64 : vm_D q_X_runSize.2.1 64 1 65 (.isub) := vm_dD b_X_runSize_0 40 rfl rfl
theorem d_X_runSize_65 : vm_D q_X_runSize.2.1 65 3 68 (.invokevirtual 106) := vm_dD b_X_runSize_0 41 rfl rfl
theorem d_X_runSize_68 : vm_B q_X_runSize.2.1 68 71 77 (fun o => .if_icmp .ne o) := ⟨9, vm_db b_X_runSize_0 (i := 42) rfl, rfl, by decide⟩
theorem d_X_runSize_71 : vm_D q_X_runSize.2.1 71 3 74 (.iinc 3 1) := vm_dD b_X_runSize_0 43 rfl rfl
theorem d_X_runSize_74 : ∃ off : Int, decode q_X_runSize.2.1 74 = .ok (.goto off, 3) ∧ ((74 : Nat) : Int) + off = ((33 : Nat) : Int) := ⟨-41, vm_db b_X_runSize_0 (i := 44) rfl, by decide⟩
theorem d_X_runSize_77 : vm_D q_X_runSize.2.1 77 1 78 (.iload_n 3) := vm_dD b_X_runSize_0 45 rfl rfl
theorem d_X_runSize_78 : vm_D q_X_runSize.2.1 78 1 79 (.iconst 2) := vm_dD b_X_runSize_0 46 rfl rfl
theorem d_X_runSize_79 : vm_D q_X_runSize.2.1 79 1 80 (.iload_n 2) := vm_dD b_X_runSize_0 47 rfl rfl
theorem d_X_runSize_80 : vm_D q_X_runSize.2.1 80 1 81 (.imul) := vm_dD b_X_runSize_0 48 rfl rfl
theorem d_X_runSize_81 : vm_B q_X_runSize.2.1 81 84 101 (fun o => .if_icmp .lt o) := ⟨20, vm_db b_X_runSize_0 (i := 49) rfl, rfl, by decide⟩
theorem d_X_runSize_101 : vm_D q_X_runSize.2.1 101 1 102 (.iconst 0) := vm_dD b_X_runSize_0 59 rfl rfl
theorem d_X_runSize_102 : vm_D q_X_runSize.2.1 102 1 103 (.ireturn) := vm_dD b_X_runSize_1 0 rfl rfl
theorem d_X_runSize_84 : vm_D q_X_runSize.2.1 84 1 85 (.aload_n 0) := vm_dD b_X_runSize_0 50 rfl rfl
theorem d_X_runSize_85 : vm_D q_X_runSize.2.1 85 3 88 (.getfield 36) := vm_dD b_X_runSize_0 51 rfl rfl
theorem d_X_runSize_88 : vm_D q_X_runSize.2.1 88 1 89 (.iload_n 1) := vm_dD b_X_runSize_0 52 rfl rfl
theorem d_X_runSize_89 : vm_D q_X_runSize.2.1 89 1 90 (.iload_n 3) := vm_dD b_X_runSize_0 53 rfl rfl
theorem d_X_runSize_90 : vm_D q_X_runSize.2.1 90 3 93 (.invokevirtual 167) := vm_dD b_X_runSize_0 54 rfl rfl
theorem d_X_runSize_93 : vm_D q_X_runSize.2.1 93 1 94 (.iload_n 2) := vm_dD b_X_runSize_0 55 rfl rfl
theorem d_X_runSize_94 : vm_B q_X_runSize.2.1 94 97 101 (fun o => .if_icmp .ne o) := ⟨7, vm_db b_X_runSize_0 (i := 56) rfl, rfl, by decide⟩
theorem d_X_runSize_97 : vm_D q_X_runSize.2.1 97 1 98 (.iload_n 3) := vm_dD b_X_runSize_0 57 rfl rfl
theorem d_X_runSize_98 : ∃ off : Int, decode q_X_runSize.2.1 98 = .ok (.goto off, 3) ∧ ((98 : Nat) : Int) + off = ((102 : Nat) : Int) := ⟨4, vm_db b_X_runSize_0 (i := 58) rfl, by decide⟩
theorem d_X_runSize_4 : vm_D q_X_runSize.2.1 4 1 5 (.aload_n 0) := vm_dD b_X_runSize_0 2 rfl rfl
theorem d_X_runSize_5 : vm_D q_X_runSize.2.1 5 3 8 (.getfield 36) := vm_dD b_X_runSize_0 3 rfl rfl
theorem d_X_runSize_8 : vm_D q_X_runSize.2.1 8 1 9 (.iload_n 1) := vm_dD b_X_runSize_0 4 rfl rfl
theorem d_X_runSize_9 : vm_D q_X_runSize.2.1 9 1 10 (.iconst 1) := vm_dD b_X_runSize_0 5 rfl rfl
theorem d_X_runSize_10 : vm_D q_X_runSize.2.1 10 1 11 (.isub) := vm_dD b_X_runSize_0 6 rfl rfl
theorem d_X_runSize_11 : vm_D q_X_runSize.2.1 11 3 14 (.invokevirtual 106) := vm_dD b_X_runSize_0 7 rfl rfl
theorem d_X_runSize_14 : vm_D q_X_runSize.2.1 14 1 15 (.aload_n 0) := vm_dD b_X_runSize_0 8 rfl rfl
theorem d_X_runSize_15 : vm_D q_X_runSize.2.1 15 3 18 (.getfield 36) := vm_dD b_X_runSize_0 9 rfl rfl
theorem d_X_runSize_18 : vm_D q_X_runSize.2.1 18 1 19 (.iload_n 1) := vm_dD b_X_runSize_0 10 rfl rfl
theorem d_X_runSize_19 : vm_D q_X_runSize.2.1 19 1 20 (.iconst 1) := vm_dD b_X_runSize_0 11 rfl rfl
theorem d_X_runSize_20 : vm_D q_X_runSize.2.1 20 1 21 (.isub) := vm_dD b_X_runSize_0 12 rfl rfl
theorem d_X_runSize_21 : vm_D q_X_runSize.2.1 21 1 22 (.iload_n 2) := vm_dD b_X_runSize_0 13 rfl rfl
theorem d_X_runSize_22 : vm_D q_X_runSize.2.1 22 1 23 (.iadd) := vm_dD b_X_runSize_0 14 rfl rfl
theorem d_X_runSize_23 : vm_D q_X_runSize.2.1 23 3 26 (.invokevirtual 106) := vm_dD b_X_runSize_0 15 rfl rfl
theorem d_X_runSize_26 : vm_B q_X_runSize.2.1 26 29 31 (fun o => .if_icmp .ne o) := ⟨5, vm_db b_X_runSize_0 (i := 16) rfl, rfl, by decide⟩
theorem d_X_runSize_29 : vm_D q_X_runSize.2.1 29 1 30 (.iconst 0) := vm_dD b_X_runSize_0 17 rfl rfl
theorem d_X_runSize_30 : vm_D q_X_runSize.2.1 30 1 31 (.ireturn) := vm_dD b_X_runSize_0 18 rfl rfl
def q_X_run : vm_Y := ("RepeatFree", cX10_run, 7, false, [])
def t_X_run_0 : List (Nat × Instr × Nat) := [(0, .aload_n 0, 1), (1, .iload_n 2, 1), (2, .iconst 2, 1), (3, .invokevirtual 159, 3), (6, .iconst 0, 1), (7, .istore_n 3, 1), (8, .iconst 0, 1), (9, .istore 4, 2), (11, .iload 4, 2), (13, .aload_n 0, 1), (14, .getfield 36, 3), (17, .getfield 102, 3), (20, .if_icmp .ge 83, 3), (23, .iconst 1, 1), (24, .istore 5, 2), (26, .iload 4, 2), (28, .iconst 2, 1), (29, .iload 5, 2), (31, .imul, 1), (32, .iadd, 1), (33, .aload_n 0, 1), (34, .getfield 36, 3), (37, .getfield 102, 3), (40, .if_icmp .gt 57, 3), (43, .aload_n 0, 1), (44, .iload 4, 2), (46, .iload 5, 2), (48, .invokevirtual 170, 3), (51, .istore 6, 2), (53, .iload 6, 2), (55, .ifCond .ne 6, 3), (58, .goto 33, 3), (61, .iload_n 3, 1), (62, .iload_n 1, 1), (63, .if_icmp .ne 25, 3), (66, .iload_n 2, 1), (67, .ifCond .ne 8, 3), (70, .iload 4, 2), (72, .goto 15, 3), (75, .iload_n 2, 1), (76, .iconst 1, 1), (77, .if_icmp .ne 8, 3), (80, .iload 6, 2), (82, .goto 5, 3), (85, .iload 5, 2), (87, .ireturn, 1), (88, .iinc 3 1, 3), (91, .iinc 5 1, 3), (94, .goto (-68), 3), (97, .iinc 4 1, 3), (100, .goto (-89), 3), (103, .iload_n 1, 1), (104, .iconst (-1), 1), (105, .if_icmp .ne 7, 3), (108, .iload_n 3, 1), (109, .goto 4, 3), (112, .iconst (-1), 1), (113, .ireturn, 1)]
theorem b_X_run_0 : (t_X_run_0.all fun q => decide (decode q_X_run.2.1 q.1 = .ok (q.2.1, q.2.2))) = true := by decide +kernel
theorem d_X_run_0 : vm_D q_X_run.2.1 0 1 1 (.aload_n 0) := vm_dD b_X_run_0 0 rfl rfl
theorem d_X_run_1 : vm_D q_X_run.2.1 1 1 2 (.iload_n 2) := vm_dD b_X_run_0 1 rfl rfl
theorem d_X_run_2 : vm_D q_X_run.2.1 2 1 3 (.iconst 2) := vm_dD b_X_run_0 2 rfl rfl
theorem d_X_run_3 : vm_D q_X_run.2.1 3 3 6 (.invokevirtual 159) := vm_dD b_X_run_0 3 rfl rfl
theorem d_X_run_6 : vm_D q_X_run.2.1 6 1 7 (.iconst 0) := vm_dD b_X_run_0 4 rfl rfl
theorem d_X_run_7 : vm_D q_X_run.2.1 7 1 8 (.istore_n 3) := vm_dD b_X_run_0 5 rfl rfl
theorem d_X_run_8 : vm_D q_X_run.2.1 8 1 9 (.iconst 0) := vm_dD b_X_run_0 6 rfl rfl
theorem d_X_run_9 : vm_D q_X_run.2.1 9 2 11 (.istore 4) := vm_dD b_X_run_0 7 rfl rfl
theorem d_X_run_11 : vm_D q_X_run.2.1 11 2 13 (.iload 4) := vm_dD b_X_run_0 8 rfl rfl
theorem d_X_run_13 : vm_D q_X_run.2.1 13 1 14 (.aload_n 0) := vm_dD b_X_run_0 9 rfl rfl
theorem d_X_run_14 : vm_D q_X_run.2.1 14 3 17 (.getfield 36) := vm_dD b_X_run_0 10 rfl rfl
theorem d_X_run_17 : vm_D q_X_run.2.1 17 3 20 (.getfield 102) := vm_dD b_X_run_0 11 rfl rfl
theorem d_X_run_20 : vm_B q_X_run.2.1 20 23 103 (fun o => .if_icmp .ge o) := ⟨83, vm_db b_X_run_0 (i := 12) rfl, rfl, by decide⟩
theorem d_X_run_23 : vm_D q_X_run.2.1 23 1 24 (.iconst 1) := vm_dD b_X_run_0 13 rfl rfl
theorem d_X_run_24 : vm_D q_X_run.2.1 24 2 26 (.istore 5) := vm_dD b_X_run_0 14 rfl rfl
theorem d_X_run_26 : vm_D q_X_run.2.1 26 2 28 (.iload 4) := vm_dD b_X_run_0 15 rfl rfl
theorem d_X_run_28 : vm_D q_X_run.2.1 28 1 29 (.iconst 2) := vm_dD b_X_run_0 16 rfl rfl
theorem d_X_run_29 : vm_D q_X_run.2.1 29 2 31 (.iload 5) := vm_dD b_X_run_0 17 rfl rfl
theorem d_X_run_31 : vm_D q_X_run.2.1 31 1 32 (.imul) := vm_dD b_X_run_0 18 rfl rfl
theorem d_X_run_32 : vm_D q_X_run.2.1 32 1 33 (.iadd) := vm_dD b_X_run_0 19 rfl rfl
theorem d_X_run_33 : vm_D q_X_run.2.1 33 1 34 (.aload_n 0) := vm_dD b_X_run_0 20 rfl rfl
theorem d_X_run_34 : vm_D q_X_run.2.1 34 3 37 (.getfield 36) := vm_dD b_X_run_0 21 rfl rfl
theorem d_X_run_37 : vm_D q_X_run.2.1 37 3 40 (.getfield 102) := vm_dD b_X_run_0 22 rfl rfl
theorem d_X_run_40 : vm_B q_X_run.2.1 40 43 97 (fun o => .if_icmp .gt o) := ⟨57, vm_db b_X_run_0 (i := 23) rfl, rfl, by decide⟩
theorem d_X_run_43 : vm_D q_X_run.2.1 43 1 44 (.aload_n 0) := vm_dD b_X_run_0 24 rfl rfl
theorem d_X_run_44 : vm_D q_X_run.2.1 44 2 46 (.iload 4) := vm_dD b_X_run_0 25 rfl rfl
theorem d_X_run_46 : vm_D q_X_run.2.1 46 2 48 (.iload 5) := vm_dD b_X_run_0 26 rfl rfl
theorem d_X_run_48 : vm_D q_X_run.2.1 48 3 51 (.invokevirtual 170) := vm_dD b_X_run_0 27 rfl rfl
theorem d_X_run_51 : vm_D q_X_run.2.1 51 2 53 (.istore 6) := vm_dD b_X_run_0 28 rfl rfl
theorem d_X_run_53 : vm_D q_X_run.2.1 53 2 55 (.iload 6) := vm_dD b_X_run_0 29 rfl rfl
theorem d_X_run_55 : vm_B q_X_run.2.1 55 58 61 (fun o => .ifCond .ne o) := ⟨6, vm_db b_X_run_0 (i := 30) rfl, rfl, by decide⟩
theorem d_X_run_91 : vm_D q_X_run.2.1 91 3 94 (.iinc 5 1) := vm_dD b_X_run_0 47 rfl rfl
theorem d_X_run_94 : ∃ off : Int, decode q_X_run.2.1 94 = .ok (.goto off, 3) ∧ ((94 : Nat) : Int) + off = ((26 : Nat) : Int) := ⟨-68, vm_db b_X_run_0 (i := 48) rfl, by decide⟩
theorem d_X_run_61 : vm_D q_X_run.2.1 61 1 62 (.iload_n 3) := vm_dD b_X_run_0 32 rfl rfl
theorem d_X_run_62 : vm_D q_X_run.2.1 62 1 63 (.iload_n 1) := vm_dD b_X_run_0 33 rfl rfl
theorem d_X_run_63 : vm_B q_X_run.2.1 63 66 88 (fun o => .if_icmp .ne o) := ⟨25, vm_db b_X_run_0 (i := 34) rfl, rfl, by decide⟩
theorem d_X_run_88 : vm_D q_X_run.2.1 88 3 91 (.iinc 3 1) := vm_dD b_X_run_0 46 rfl rfl
theorem d_X_run_66 : vm_D q_X_run.2.1 66 1 67 (.iload_n 2) := vm_dD b_X_run_0 35 rfl rfl
theorem d_X_run_67 : vm_B q_X_run.2.1 67 70 75 (fun o => .ifCond .ne o) := ⟨8, vm_db b_X_run_0 (i := 36) rfl, rfl, by decide⟩
theorem d_X_run_75 : vm_D q_X_run.2.1 75 1 76 (.iload_n 2) := vm_dD b_X_run_0 39 rfl rfl
theorem d_X_run_76 : vm_D q_X_run.2.1 76 1 77 (.iconst 1) := vm_dD b_X_run_0 40 rfl rfl
theorem d_X_run_77 : vm_B q_X_run.2.1 77 80 85 (fun o => .if_icmp .ne o) := ⟨8, vm_db b_X_run_0 (i := 41) rfl, rfl, by decide⟩
theorem d_X_run_85 : vm_D q_X_run.2.1 85 2 87 (.iload 5) := vm_dD b_X_run_0 44 rfl rfl
theorem d_X_run_87 : vm_D q_X_run.2.1 87 1 88 (.ireturn) := vm_dD b_X_run_0 45 rfl rfl
theorem d_X_run_80 : vm_D q_X_run.2.1 80 2 82 (.iload 6) := vm_dD b_X_run_0 42 rfl rfl
theorem d_X_run_82 : ∃ off : Int, decode q_X_run.2.1 82 = .ok (.goto off, 3) ∧ ((82 : Nat) : Int) + off = ((87 : Nat) : Int) := ⟨5, vm_db b_X_run_0 (i := 43) rfl, by decide⟩
theorem d_X_run_70 : vm_D q_X_run.2.1 70 2 72 (.iload 4) := vm_dD b_X_run_0 37 rfl rfl
theorem d_X_run_72 : ∃ off : Int, decode q_X_run.2.1 72 = .ok (.goto off, 3) ∧ ((72 : Nat) : Int) + off = ((87 : Nat) : Int) := ⟨15, vm_db b_X_run_0 (i := 38) rfl, by decide⟩
theorem d_X_run_58 : ∃ off : Int, decode q_X_run.2.1 58 = .ok (.goto off, 3) ∧ ((58 : Nat) : Int) + off = ((91 : Nat) : Int) := ⟨33, vm_db b_X_run_0 (i := 31) rfl, by decide⟩
theorem d_X_run_97 : vm_D q_X_run.2.1 97 3 100 (.iinc 4 1) := vm_dD b_X_run_0 49 rfl rfl
theorem d_X_run_100 : ∃ off : Int, decode q_X_run.2.1 100 = .ok (.goto off, 3) ∧ ((100 : Nat) : Int) + off = ((11 : Nat) : Int) := ⟨-89, vm_db b_X_run_0 (i := 50) rfl, by decide⟩
theorem d_X_run_103 : vm_D q_X_run.2.1 103 1 104 (.iload_n 1) := vm_dD b_X_run_0 51 rfl rfl
theorem d_X_run_104 : vm_D q_X_run.2.1 104 1 105 (.iconst (-1)) := vm_dD b_X_run_0 52 rfl rfl
theorem d_X_run_105 : vm_B q_X_run.2.1 105 108 112 (fun o => .if_icmp .ne o) := ⟨7, vm_db b_X_run_0 (i := 53) rfl, rfl, by decide⟩
theorem d_X_run_112 : vm_D q_X_run.2.1 112 1 113 (.iconst (-1)) := vm_dD b_X_run_0 56 rfl rfl
theorem d_X_run_113 : vm_D q_X_run.2.1 113 1 114 (.ireturn) := vm_dD b_X_run_0 57 rfl rfl
theorem d_X_run_108 : vm_D q_X_run.2.1 108 1 109 (.iload_n 3) := vm_dD b_X_run_0 54 rfl rfl
theorem d_X_run_109 : ∃ off : Int, decode q_X_run.2.1 109 = .ok (.goto off, 3) ∧ ((109 : Nat) : Int) + off = ((113 : Nat) : Int) := ⟨4, vm_db b_X_run_0 (i := 55) rfl, by decide⟩
def q_X_factors : vm_Y := ("RepeatFree", cX10_factors, 6, false, [])
def t_X_factors_0 : List (Nat × Instr × Nat) := [(0, .aload_n 0, 1), (1, .iload_n 1, 1), (2, .iconst 1, 1), (3, .bipush 64, 2), (5, .invokevirtual 173, 3), (8, .iconst 0, 1), (9, .istore_n 2, 1), (10, .iload_n 1, 1), (11, .iconst 1, 1), (12, .isub, 1), (13, .istore_n 3, 1), (14, .iload_n 3, 1), (15, .aload_n 0, 1), (16, .getfield 36, 3), (19, .getfield 102, 3), (22, .if_icmp .ge 63, 3), (25, .iconst 0, 1), (26, .istore 4, 2), (28, .iload_n 1, 1), (29, .iconst 1, 1), (30, .isub, 1), (31, .istore 5, 2), (33, .iload 5, 2), (35, .iload_n 3, 1), (36, .if_icmp .ge 35, 3), (39, .iload 4, 2), (41, .ifCond .ne 30, 3), (44, .aload_n 0, 1), (45, .getfield 36, 3), (48, .iload_n 3, 1), (49, .iload 5, 2), (51, .invokevirtual 163, 3), (54, .iload_n 1, 1), (55, .if_icmp .lt 7, 3), (58, .iconst 1, 1), (59, .goto 4, 3), (62, .iconst 0, 1), (63, .istore 4, 2), (65, .iinc 5 1, 3), (68, .goto (-35), 3), (71, .iload 4, 2), (73, .ifCond .ne 6, 3), (76, .iinc 2 1, 3), (79, .iinc 3 1, 3), (82, .goto (-68), 3), (85, .iload_n 2, 1), (86, .ireturn, 1)]
theorem b_X_factors_0 : (t_X_factors_0.all fun q => decide (decode q_X_factors.2.1 q.1 = .ok (q.2.1, q.2.2))) = true := by decide +kernel
theorem d_X_factors_0 : vm_D q_X_factors.2.1 0 1 1 (.aload_n 0) := vm_dD b_X_factors_0 0 rfl rfl
theorem d_X_factors_1 : vm_D q_X_factors.2.1 1 1 2 (.iload_n 1) := vm_dD b_X_factors_0 1 rfl rfl
theorem d_X_factors_2 : vm_D q_X_factors.2.1 2 1 3 (.iconst 1) := vm_dD b_X_factors_0 2 rfl rfl
theorem d_X_factors_3 : vm_D q_X_factors.2.1 3 2 5 (.bipush 64) := vm_dD b_X_factors_0 3 rfl rfl
theorem d_X_factors_5 : vm_D q_X_factors.2.1 5 3 8 (.invokevirtual 173) := vm_dD b_X_factors_0 4 rfl rfl
theorem d_X_factors_8 : vm_D q_X_factors.2.1 8 1 9 (.iconst 0) := vm_dD b_X_factors_0 5 rfl rfl
theorem d_X_factors_9 : vm_D q_X_factors.2.1 9 1 10 (.istore_n 2) := vm_dD b_X_factors_0 6 rfl rfl
theorem d_X_factors_10 : vm_D q_X_factors.2.1 10 1 11 (.iload_n 1) := vm_dD b_X_factors_0 7 rfl rfl
theorem d_X_factors_11 : vm_D q_X_factors.2.1 11 1 12 (.iconst 1) := vm_dD b_X_factors_0 8 rfl rfl
theorem d_X_factors_12 : vm_D q_X_factors.2.1 12 1 13 (.isub) := vm_dD b_X_factors_0 9 rfl rfl
theorem d_X_factors_13 : vm_D q_X_factors.2.1 13 1 14 (.istore_n 3) := vm_dD b_X_factors_0 10 rfl rfl
theorem d_X_factors_14 : vm_D q_X_factors.2.1 14 1 15 (.iload_n 3) := vm_dD b_X_factors_0 11 rfl rfl
theorem d_X_factors_15 : vm_D q_X_factors.2.1 15 1 16 (.aload_n 0) := vm_dD b_X_factors_0 12 rfl rfl
theorem d_X_factors_16 : vm_D q_X_factors.2.1 16 3 19 (.getfield 36) := vm_dD b_X_factors_0 13 rfl rfl
theorem d_X_factors_19 : vm_D q_X_factors.2.1 19 3 22 (.getfield 102) := vm_dD b_X_factors_0 14 rfl rfl
theorem d_X_factors_22 : vm_B q_X_factors.2.1 22 25 85 (fun o => .if_icmp .ge o) := ⟨63, vm_db b_X_factors_0 (i := 15) rfl, rfl, by decide⟩
theorem d_X_factors_25 : vm_D q_X_factors.2.1 25 1 26 (.iconst 0) := vm_dD b_X_factors_0 16 rfl rfl
theorem d_X_factors_26 : vm_D q_X_factors.2.1 26 2 28 (.istore 4) := vm_dD b_X_factors_0 17 rfl rfl
theorem d_X_factors_28 : vm_D q_X_factors.2.1 28 1 29 (.iload_n 1) := vm_dD b_X_factors_0 18 rfl rfl
theorem d_X_factors_29 : vm_D q_X_factors.2.1 29 1 30 (.iconst 1) := vm_dD b_X_factors_0 19 rfl rfl
theorem d_X_factors_30 : vm_D q_X_factors.2.1 30 1 31 (.isub) := vm_dD b_X_factors_0 20 rfl rfl
theorem d_X_factors_31 : vm_D q_X_factors.2.1 31 2 33 (.istore 5) := vm_dD b_X_factors_0 21 rfl rfl
theorem d_X_factors_33 : vm_D q_X_factors.2.1 33 2 35 (.iload 5) := vm_dD b_X_factors_0 22 rfl rfl
theorem d_X_factors_35 : vm_D q_X_factors.2.1 35 1 36 (.iload_n 3) := vm_dD b_X_factors_0 23 rfl rfl
theorem d_X_factors_36 : vm_B q_X_factors.2.1 36 39 71 (fun o => .if_icmp .ge o) := ⟨35, vm_db b_X_factors_0 (i := 24) rfl, rfl, by decide⟩
theorem d_X_factors_39 : vm_D q_X_factors.2.1 39 2 41 (.iload 4) := vm_dD b_X_factors_0 25 rfl rfl
theorem d_X_factors_41 : vm_B q_X_factors.2.1 41 44 71 (fun o => .ifCond .ne o) := ⟨30, vm_db b_X_factors_0 (i := 26) rfl, rfl, by decide⟩
theorem d_X_factors_44 : vm_D q_X_factors.2.1 44 1 45 (.aload_n 0) := vm_dD b_X_factors_0 27 rfl rfl
theorem d_X_factors_45 : vm_D q_X_factors.2.1 45 3 48 (.getfield 36) := vm_dD b_X_factors_0 28 rfl rfl
theorem d_X_factors_48 : vm_D q_X_factors.2.1 48 1 49 (.iload_n 3) := vm_dD b_X_factors_0 29 rfl rfl
theorem d_X_factors_49 : vm_D q_X_factors.2.1 49 2 51 (.iload 5) := vm_dD b_X_factors_0 30 rfl rfl
theorem d_X_factors_51 : vm_D q_X_factors.2.1 51 3 54 (.invokevirtual 163) := vm_dD b_X_factors_0 31 rfl rfl
theorem d_X_factors_54 : vm_D q_X_factors.2.1 54 1 55 (.iload_n 1) := vm_dD b_X_factors_0 32 rfl rfl
theorem d_X_factors_55 : vm_B q_X_factors.2.1 55 58 62 (fun o => .if_icmp .lt o) := ⟨7, vm_db b_X_factors_0 (i := 33) rfl, rfl, by decide⟩
theorem d_X_factors_63 : vm_D q_X_factors.2.1 63 2 65 (.istore 4) := vm_dD b_X_factors_0 37 rfl rfl
theorem d_X_factors_65 : vm_D q_X_factors.2.1 65 3 68 (.iinc 5 1) := vm_dD b_X_factors_0 38 rfl rfl
theorem d_X_factors_68 : ∃ off : Int, decode q_X_factors.2.1 68 = .ok (.goto off, 3) ∧ ((68 : Nat) : Int) + off = ((33 : Nat) : Int) := ⟨-35, vm_db b_X_factors_0 (i := 39) rfl, by decide⟩
theorem d_X_factors_62 : vm_D q_X_factors.2.1 62 1 63 (.iconst 0) := vm_dD b_X_factors_0 36 rfl rfl
theorem d_X_factors_58 : vm_D q_X_factors.2.1 58 1 59 (.iconst 1) := vm_dD b_X_factors_0 34 rfl rfl
theorem d_X_factors_59 : ∃ off : Int, decode q_X_factors.2.1 59 = .ok (.goto off, 3) ∧ ((59 : Nat) : Int) + off = ((63 : Nat) : Int) := ⟨4, vm_db b_X_factors_0 (i := 35) rfl, by decide⟩
theorem d_X_factors_71 : vm_D q_X_factors.2.1 71 2 73 (.iload 4) := vm_dD b_X_factors_0 40 rfl rfl
theorem d_X_factors_73 : vm_B q_X_factors.2.1 73 76 79 (fun o => .ifCond .ne o) := ⟨6, vm_db b_X_factors_0 (i := 41) rfl, rfl, by decide⟩
theorem d_X_factors_79 : vm_D q_X_factors.2.1 79 3 82 (.iinc 3 1) := vm_dD b_X_factors_0 43 rfl rfl
theorem d_X_factors_82 : ∃ off : Int, decode q_X_factors.2.1 82 = .ok (.goto off, 3) ∧ ((82 : Nat) : Int) + off = ((14 : Nat) : Int) := ⟨-68, vm_db b_X_factors_0 (i := 44) rfl, by decide⟩
theorem d_X_factors_76 : vm_D q_X_factors.2.1 76 3 79 (.iinc 2 1) := vm_dD b_X_factors_0 42 rfl rfl
theorem d_X_factors_85 : vm_D q_X_factors.2.1 85 1 86 (.iload_n 2) := vm_dD b_X_factors_0 45 rfl rfl
theorem d_X_factors_86 : vm_D q_X_factors.2.1 86 1 87 (.ireturn) := vm_dD b_X_factors_0 46 rfl rfl
def q_X_mirror : vm_Y := ("RepeatFree", cX10_mirror, 5, false, [])
def t_X_mirror_0 : List (Nat × Instr × Nat) := [(0, .iconst 0, 1), (1, .istore_n 1, 1), (2, .iconst 0, 1), (3, .istore_n 2, 1), (4, .iload_n 2, 1), (5, .iconst 2, 1), (6, .aload_n 0, 1), (7, .getfield 36, 3), (10, .getfield 102, 3), (13, .imul, 1), (14, .iconst 1, 1), (15, .isub, 1), (16, .if_icmp .ge 76, 3), (19, .iload_n 2, 1), (20, .iconst 2, 1), (21, .idiv, 1), (22, .istore_n 3, 1), (23, .iload_n 3, 1), (24, .iload_n 2, 1), (25, .iconst 2, 1), (26, .irem, 1), (27, .iadd, 1), (28, .istore 4, 2), (30, .iload_n 3, 1), (31, .ifCond .lt 44, 3), (34, .iload 4, 2), (36, .aload_n 0, 1), (37, .getfield 36, 3), (40, .getfield 102, 3), (43, .if_icmp .ge 32, 3), (46, .aload_n 0, 1), (47, .getfield 36, 3), (50, .iload_n 3, 1), (51, .invokevirtual 106, 3), (54, .aload_n 0, 1), (55, .getfield 36, 3), (58, .iload 4, 2), (60, .invokevirtual 106, 3), (63, .if_icmp .ne 12, 3), (66, .iinc 3 (-1), 3), (69, .iinc 4 1, 3), (72, .goto (-42), 3), (75, .iload_n 1, 1), (76, .iload 4, 2), (78, .iload_n 3, 1), (79, .isub, 1), (80, .iconst 1, 1), (81, .isub, 1), (82, .invokestatic 177, 3), (85, .istore_n 1, 1), (86, .iinc 2 1, 3), (89, .goto (-85), 3), (92, .iload_n 1, 1), (93, .ireturn, 1)]
theorem b_X_mirror_0 : (t_X_mirror_0.all fun q => decide (decode q_X_mirror.2.1 q.1 = .ok (q.2.1, q.2.2))) = true := by decide +kernel
theorem d_X_mirror_0 : vm_D q_X_mirror.2.1 0 1 1 (.iconst 0) := vm_dD b_X_mirror_0 0 rfl rfl
theorem d_X_mirror_1 : vm_D q_X_mirror.2.1 1 1 2 (.istore_n 1) := vm_dD b_X_mirror_0 1 rfl rfl
theorem d_X_mirror_2 : vm_D q_X_mirror.2.1 2 1 3 (.iconst 0) := vm_dD b_X_mirror_0 2 rfl rfl
theorem d_X_mirror_3 : vm_D q_X_mirror.2.1 3 1 4 (.istore_n 2) := vm_dD b_X_mirror_0 3 rfl rfl
theorem d_X_mirror_4 : vm_D q_X_mirror.2.1 4 1 5 (.iload_n 2) := vm_dD b_X_mirror_0 4 rfl rfl
theorem d_X_mirror_5 : vm_D q_X_mirror.2.1 5 1 6 (.iconst 2) := vm_dD b_X_mirror_0 5 rfl rfl
theorem d_X_mirror_6 : vm_D q_X_mirror.2.1 6 1 7 (.aload_n 0) := vm_dD b_X_mirror_0 6 rfl rfl
theorem d_X_mirror_7 : vm_D q_X_mirror.2.1 7 3 10 (.getfield 36) := vm_dD b_X_mirror_0 7 rfl rfl
theorem d_X_mirror_10 : vm_D q_X_mirror.2.1 10 3 13 (.getfield 102) := vm_dD b_X_mirror_0 8 rfl rfl
theorem d_X_mirror_13 : vm_D q_X_mirror.2.1 13 1 14 (.imul) := vm_dD b_X_mirror_0 9 rfl rfl
theorem d_X_mirror_14 : vm_D q_X_mirror.2.1 14 1 15 (.iconst 1) := vm_dD b_X_mirror_0 10 rfl rfl
theorem d_X_mirror_15 : vm_D q_X_mirror.2.1 15 1 16 (.isub) := vm_dD b_X_mirror_0 11 rfl rfl
theorem d_X_mirror_16 : vm_B q_X_mirror.2.1 16 19 92 (fun o => .if_icmp .ge o) := ⟨76, vm_db b_X_mirror_0 (i := 12) rfl, rfl, by decide⟩
theorem d_X_mirror_19 : vm_D q_X_mirror.2.1 19 1 20 (.iload_n 2) := vm_dD b_X_mirror_0 13 rfl rfl
theorem d_X_mirror_20 : vm_D q_X_mirror.2.1 20 1 21 (.iconst 2) := vm_dD b_X_mirror_0 14 rfl rfl
theorem d_X_mirror_21 : vm_D q_X_mirror.2.1 21 1 22 (.idiv) := vm_dD b_X_mirror_0 15 rfl rfl
theorem d_X_mirror_22 : vm_D q_X_mirror.2.1 22 1 23 (.istore_n 3) := vm_dD b_X_mirror_0 16 rfl rfl
theorem d_X_mirror_23 : vm_D q_X_mirror.2.1 23 1 24 (.iload_n 3) := vm_dD b_X_mirror_0 17 rfl rfl
theorem d_X_mirror_24 : vm_D q_X_mirror.2.1 24 1 25 (.iload_n 2) := vm_dD b_X_mirror_0 18 rfl rfl
theorem d_X_mirror_25 : vm_D q_X_mirror.2.1 25 1 26 (.iconst 2) := vm_dD b_X_mirror_0 19 rfl rfl
theorem d_X_mirror_26 : vm_D q_X_mirror.2.1 26 1 27 (.irem) := vm_dD b_X_mirror_0 20 rfl rfl
theorem d_X_mirror_27 : vm_D q_X_mirror.2.1 27 1 28 (.iadd) := vm_dD b_X_mirror_0 21 rfl rfl
theorem d_X_mirror_28 : vm_D q_X_mirror.2.1 28 2 30 (.istore 4) := vm_dD b_X_mirror_0 22 rfl rfl
theorem d_X_mirror_30 : vm_D q_X_mirror.2.1 30 1 31 (.iload_n 3) := vm_dD b_X_mirror_0 23 rfl rfl
theorem d_X_mirror_31 : vm_B q_X_mirror.2.1 31 34 75 (fun o => .ifCond .lt o) := ⟨44, vm_db b_X_mirror_0 (i := 24) rfl, rfl, by decide⟩
theorem d_X_mirror_34 : vm_D q_X_mirror.2.1 34 2 36 (.iload 4) := vm_dD b_X_mirror_0 25 rfl rfl
theorem d_X_mirror_36 : vm_D q_X_mirror.2.1 36 1 37 (.aload_n 0) := vm_dD b_X_mirror_0 26 rfl rfl
theorem d_X_mirror_37 : vm_D q_X_mirror.2.1 37 3 40 (.getfield 36) := vm_dD b_X_mirror_0 27 rfl rfl
theorem d_X_mirror_40 : vm_D q_X_mirror.2.1 40 3 43 (.getfield 102) := vm_dD b_X_mirror_0 28 rfl rfl
theorem d_X_mirror_43 : vm_B q_X_mirror.2.1 43 46 75 (fun o => .if_icmp .ge o) := ⟨32, vm_db b_X_mirror_0 (i := 29) rfl, rfl, by decide⟩
theorem d_X_mirror_46 : vm_D q_X_mirror.2.1 46 1 47 (.aload_n 0) := vm_dD b_X_mirror_0 30 rfl rfl
theorem d_X_mirror_47 : vm_D q_X_mirror.2.1 47 3 50 (.getfield 36) := vm_dD b_X_mirror_0 31 rfl rfl
theorem d_X_mirror_50 : vm_D q_X_mirror.2.1 50 1 51 (.iload_n 3) := vm_dD b_X_mirror_0 32 rfl rfl
theorem d_X_mirror_51 : vm_D q_X_mirror.2.1 51 3 54 (.invokevirtual 106) := vm_dD b_X_mirror_0 33 rfl rfl
theorem d_X_mirror_54 : vm_D q_X_mirror.2.1 54 1 55 (.aload_n 0) := vm_dD b_X_mirror_0 34 rfl rfl
theorem d_X_mirror_55 : vm_D q_X_mirror.2.1 55 3 58 (.getfield 36) := vm_dD b_X_mirror_0 35 rfl rfl
theorem d_X_mirror_58 : vm_D q_X_mirror.2.1 58 2 60 (.iload 4) := vm_dD b_X_mirror_0 36 rfl rfl
theorem d_X_mirror_60 : vm_D q_X_mirror.2.1 60 3 63 (.invokevirtual 106) := vm_dD b_X_mirror_0 37 rfl rfl
theorem d_X_mirror_63 : vm_B q_X_mirror.2.1 63 66 75 (fun o => .if_icmp .ne o) := ⟨12, vm_db b_X_mirror_0 (i := 38) rfl, rfl, by decide⟩
theorem d_X_mirror_66 : vm_D q_X_mirror.2.1 66 3 69 (.iinc 3 (-1)) := vm_dD b_X_mirror_0 39 rfl rfl
theorem d_X_mirror_69 : vm_D q_X_mirror.2.1 69 3 72 (.iinc 4 1) := vm_dD b_X_mirror_0 40 rfl rfl
theorem d_X_mirror_72 : ∃ off : Int, decode q_X_mirror.2.1 72 = .ok (.goto off, 3) ∧ ((72 : Nat) : Int) + off = ((30 : Nat) : Int) := ⟨-42, vm_db b_X_mirror_0 (i := 41) rfl, by decide⟩
theorem d_X_mirror_75 : vm_D q_X_mirror.2.1 75 1 76 (.iload_n 1) := vm_dD b_X_mirror_0 42 rfl rfl
theorem d_X_mirror_76 : vm_D q_X_mirror.2.1 76 2 78 (.iload 4) := vm_dD b_X_mirror_0 43 rfl rfl
theorem d_X_mirror_78 : vm_D q_X_mirror.2.1 78 1 79 (.iload_n 3) := vm_dD b_X_mirror_0 44 rfl rfl
theorem d_X_mirror_79 : vm_D q_X_mirror.2.1 79 1 80 (.isub) := vm_dD b_X_mirror_0 45 rfl rfl
theorem d_X_mirror_80 : vm_D q_X_mirror.2.1 80 1 81 (.iconst 1) := vm_dD b_X_mirror_0 46 rfl rfl
theorem d_X_mirror_81 : vm_D q_X_mirror.2.1 81 1 82 (.isub) := vm_dD b_X_mirror_0 47 rfl rfl
theorem d_X_mirror_82 : vm_D q_X_mirror.2.1 82 3 85 (.invokestatic 177) := vm_dD b_X_mirror_0 48 rfl rfl
theorem d_X_mirror_85 : vm_D q_X_mirror.2.1 85 1 86 (.istore_n 1) := vm_dD b_X_mirror_0 49 rfl rfl
theorem d_X_mirror_86 : vm_D q_X_mirror.2.1 86 3 89 (.iinc 2 1) := vm_dD b_X_mirror_0 50 rfl rfl
theorem d_X_mirror_89 : ∃ off : Int, decode q_X_mirror.2.1 89 = .ok (.goto off, 3) ∧ ((89 : Nat) : Int) + off = ((4 : Nat) : Int) := ⟨-85, vm_db b_X_mirror_0 (i := 51) rfl, by decide⟩
theorem d_X_mirror_92 : vm_D q_X_mirror.2.1 92 1 93 (.iload_n 1) := vm_dD b_X_mirror_0 52 rfl rfl
theorem d_X_mirror_93 : vm_D q_X_mirror.2.1 93 1 94 (.ireturn) := vm_dD b_X_mirror_0 53 rfl rfl
def q_X_lyndon : vm_Y := ("RepeatFree", cX10_lyndon, 5, false, [])
def t_X_lyndon_0 : List (Nat × Instr × Nat) := [(0, .iconst 0, 1), (1, .istore_n 2, 1), (2, .iconst 0, 1), (3, .istore_n 3, 1), (4, .iconst 1, 1), (5, .istore 4, 2), (7, .iload 4, 2), (9, .aload_n 0, 1), (10, .getfield 36, 3), (13, .getfield 102, 3), (16, .if_icmp .gt 53, 3), (19, .iload 4, 2), (21, .aload_n 0, 1), (22, .getfield 36, 3), (25, .getfield 102, 3), (28, .if_icmp .ge 19, 3), (31, .aload_n 0, 1), (32, .getfield 36, 3), (35, .iload 4, 2), (37, .iload_n 2, 1), (38, .invokevirtual 182, 3), (41, .ifCond .ne 6, 3), (44, .goto 19, 3), (47, .iload_n 3, 1), (48, .iload_n 1, 1), (49, .if_icmp .ne 8, 3), (52, .iload 4, 2), (54, .iload_n 2, 1), (55, .isub, 1), (56, .ireturn, 1), (57, .iinc 3 1, 3), (60, .iload 4, 2), (62, .istore_n 2, 1), (63, .iinc 4 1, 3), (66, .goto (-59), 3), (69, .iload_n 1, 1), (70, .iconst (-1), 1), (71, .if_icmp .ne 7, 3), (74, .iload_n 3, 1), (75, .goto 4, 3), (78, .iconst (-1), 1), (79, .ireturn, 1)]
theorem b_X_lyndon_0 : (t_X_lyndon_0.all fun q => decide (decode q_X_lyndon.2.1 q.1 = .ok (q.2.1, q.2.2))) = true := by decide +kernel
theorem d_X_lyndon_0 : vm_D q_X_lyndon.2.1 0 1 1 (.iconst 0) := vm_dD b_X_lyndon_0 0 rfl rfl
theorem d_X_lyndon_1 : vm_D q_X_lyndon.2.1 1 1 2 (.istore_n 2) := vm_dD b_X_lyndon_0 1 rfl rfl
theorem d_X_lyndon_2 : vm_D q_X_lyndon.2.1 2 1 3 (.iconst 0) := vm_dD b_X_lyndon_0 2 rfl rfl
theorem d_X_lyndon_3 : vm_D q_X_lyndon.2.1 3 1 4 (.istore_n 3) := vm_dD b_X_lyndon_0 3 rfl rfl
theorem d_X_lyndon_4 : vm_D q_X_lyndon.2.1 4 1 5 (.iconst 1) := vm_dD b_X_lyndon_0 4 rfl rfl
theorem d_X_lyndon_5 : vm_D q_X_lyndon.2.1 5 2 7 (.istore 4) := vm_dD b_X_lyndon_0 5 rfl rfl
theorem d_X_lyndon_7 : vm_D q_X_lyndon.2.1 7 2 9 (.iload 4) := vm_dD b_X_lyndon_0 6 rfl rfl
theorem d_X_lyndon_9 : vm_D q_X_lyndon.2.1 9 1 10 (.aload_n 0) := vm_dD b_X_lyndon_0 7 rfl rfl
theorem d_X_lyndon_10 : vm_D q_X_lyndon.2.1 10 3 13 (.getfield 36) := vm_dD b_X_lyndon_0 8 rfl rfl
theorem d_X_lyndon_13 : vm_D q_X_lyndon.2.1 13 3 16 (.getfield 102) := vm_dD b_X_lyndon_0 9 rfl rfl
theorem d_X_lyndon_16 : vm_B q_X_lyndon.2.1 16 19 69 (fun o => .if_icmp .gt o) := ⟨53, vm_db b_X_lyndon_0 (i := 10) rfl, rfl, by decide⟩
theorem d_X_lyndon_19 : vm_D q_X_lyndon.2.1 19 2 21 (.iload 4) := vm_dD b_X_lyndon_0 11 rfl rfl
theorem d_X_lyndon_21 : vm_D q_X_lyndon.2.1 21 1 22 (.aload_n 0) := vm_dD b_X_lyndon_0 12 rfl rfl
theorem d_X_lyndon_22 : vm_D q_X_lyndon.2.1 22 3 25 (.getfield 36) := vm_dD b_X_lyndon_0 13 rfl rfl
theorem d_X_lyndon_25 : vm_D q_X_lyndon.2.1 25 3 28 (.getfield 102) := vm_dD b_X_lyndon_0 14 rfl rfl
theorem d_X_lyndon_28 : vm_B q_X_lyndon.2.1 28 31 47 (fun o => .if_icmp .ge o) := ⟨19, vm_db b_X_lyndon_0 (i := 15) rfl, rfl, by decide⟩
theorem d_X_lyndon_63 : vm_D q_X_lyndon.2.1 63 3 66 (.iinc 4 1) := vm_dD b_X_lyndon_0 33 rfl rfl
theorem d_X_lyndon_66 : ∃ off : Int, decode q_X_lyndon.2.1 66 = .ok (.goto off, 3) ∧ ((66 : Nat) : Int) + off = ((7 : Nat) : Int) := ⟨-59, vm_db b_X_lyndon_0 (i := 34) rfl, by decide⟩
theorem d_X_lyndon_47 : vm_D q_X_lyndon.2.1 47 1 48 (.iload_n 3) := vm_dD b_X_lyndon_0 23 rfl rfl
theorem d_X_lyndon_48 : vm_D q_X_lyndon.2.1 48 1 49 (.iload_n 1) := vm_dD b_X_lyndon_0 24 rfl rfl
theorem d_X_lyndon_49 : vm_B q_X_lyndon.2.1 49 52 57 (fun o => .if_icmp .ne o) := ⟨8, vm_db b_X_lyndon_0 (i := 25) rfl, rfl, by decide⟩
theorem d_X_lyndon_57 : vm_D q_X_lyndon.2.1 57 3 60 (.iinc 3 1) := vm_dD b_X_lyndon_0 30 rfl rfl
theorem d_X_lyndon_60 : vm_D q_X_lyndon.2.1 60 2 62 (.iload 4) := vm_dD b_X_lyndon_0 31 rfl rfl
theorem d_X_lyndon_62 : vm_D q_X_lyndon.2.1 62 1 63 (.istore_n 2) := vm_dD b_X_lyndon_0 32 rfl rfl
theorem d_X_lyndon_52 : vm_D q_X_lyndon.2.1 52 2 54 (.iload 4) := vm_dD b_X_lyndon_0 26 rfl rfl
theorem d_X_lyndon_54 : vm_D q_X_lyndon.2.1 54 1 55 (.iload_n 2) := vm_dD b_X_lyndon_0 27 rfl rfl
theorem d_X_lyndon_55 : vm_D q_X_lyndon.2.1 55 1 56 (.isub) := vm_dD b_X_lyndon_0 28 rfl rfl
theorem d_X_lyndon_56 : vm_D q_X_lyndon.2.1 56 1 57 (.ireturn) := vm_dD b_X_lyndon_0 29 rfl rfl
theorem d_X_lyndon_31 : vm_D q_X_lyndon.2.1 31 1 32 (.aload_n 0) := vm_dD b_X_lyndon_0 16 rfl rfl
theorem d_X_lyndon_32 : vm_D q_X_lyndon.2.1 32 3 35 (.getfield 36) := vm_dD b_X_lyndon_0 17 rfl rfl
theorem d_X_lyndon_35 : vm_D q_X_lyndon.2.1 35 2 37 (.iload 4) := vm_dD b_X_lyndon_0 18 rfl rfl
theorem d_X_lyndon_37 : vm_D q_X_lyndon.2.1 37 1 38 (.iload_n 2) := vm_dD b_X_lyndon_0 19 rfl rfl
theorem d_X_lyndon_38 : vm_D q_X_lyndon.2.1 38 3 41 (.invokevirtual 182) := vm_dD b_X_lyndon_0 20 rfl rfl
theorem d_X_lyndon_41 : vm_B q_X_lyndon.2.1 41 44 47 (fun o => .ifCond .ne o) := ⟨6, vm_db b_X_lyndon_0 (i := 21) rfl, rfl, by decide⟩
theorem d_X_lyndon_44 : ∃ off : Int, decode q_X_lyndon.2.1 44 = .ok (.goto off, 3) ∧ ((44 : Nat) : Int) + off = ((63 : Nat) : Int) := ⟨19, vm_db b_X_lyndon_0 (i := 22) rfl, by decide⟩
theorem d_X_lyndon_69 : vm_D q_X_lyndon.2.1 69 1 70 (.iload_n 1) := vm_dD b_X_lyndon_0 35 rfl rfl
theorem d_X_lyndon_70 : vm_D q_X_lyndon.2.1 70 1 71 (.iconst (-1)) := vm_dD b_X_lyndon_0 36 rfl rfl
theorem d_X_lyndon_71 : vm_B q_X_lyndon.2.1 71 74 78 (fun o => .if_icmp .ne o) := ⟨7, vm_db b_X_lyndon_0 (i := 37) rfl, rfl, by decide⟩
theorem d_X_lyndon_78 : vm_D q_X_lyndon.2.1 78 1 79 (.iconst (-1)) := vm_dD b_X_lyndon_0 40 rfl rfl
theorem d_X_lyndon_79 : vm_D q_X_lyndon.2.1 79 1 80 (.ireturn) := vm_dD b_X_lyndon_0 41 rfl rfl
theorem d_X_lyndon_74 : vm_D q_X_lyndon.2.1 74 1 75 (.iload_n 3) := vm_dD b_X_lyndon_0 38 rfl rfl
theorem d_X_lyndon_75 : ∃ off : Int, decode q_X_lyndon.2.1 75 = .ok (.goto off, 3) ∧ ((75 : Nat) : Int) + off = ((79 : Nat) : Int) := ⟨4, vm_db b_X_lyndon_0 (i := 39) rfl, by decide⟩
def q_X_turned : vm_Y := ("RepeatFree", cX10_turned, 3, false, [])
def t_X_turned_0 : List (Nat × Instr × Nat) := [(0, .aload_n 0, 1), (1, .getfield 36, 3), (4, .getfield 102, 3), (7, .ifCond .ne 5, 3), (10, .iconst (-1), 1), (11, .ireturn, 1), (12, .iconst 0, 1), (13, .istore_n 1, 1), (14, .iconst 1, 1), (15, .istore_n 2, 1), (16, .iload_n 2, 1), (17, .aload_n 0, 1), (18, .getfield 36, 3), (21, .getfield 102, 3), (24, .if_icmp .ge 23, 3), (27, .aload_n 0, 1), (28, .getfield 36, 3), (31, .iload_n 2, 1), (32, .iload_n 1, 1), (33, .invokevirtual 186, 3), (36, .ifCond .eq 5, 3), (39, .iload_n 2, 1), (40, .istore_n 1, 1), (41, .iinc 2 1, 3), (44, .goto (-28), 3), (47, .iload_n 1, 1), (48, .ireturn, 1)]
theorem b_X_turned_0 : (t_X_turned_0.all fun q => decide (decode q_X_turned.2.1 q.1 = .ok (q.2.1, q.2.2))) = true := by decide +kernel
theorem d_X_turned_0 : vm_D q_X_turned.2.1 0 1 1 (.aload_n 0) := vm_dD b_X_turned_0 0 rfl rfl
theorem d_X_turned_1 : vm_D q_X_turned.2.1 1 3 4 (.getfield 36) := vm_dD b_X_turned_0 1 rfl rfl
theorem d_X_turned_4 : vm_D q_X_turned.2.1 4 3 7 (.getfield 102) := vm_dD b_X_turned_0 2 rfl rfl
theorem d_X_turned_7 : vm_B q_X_turned.2.1 7 10 12 (fun o => .ifCond .ne o) := ⟨5, vm_db b_X_turned_0 (i := 3) rfl, rfl, by decide⟩
theorem d_X_turned_12 : vm_D q_X_turned.2.1 12 1 13 (.iconst 0) := vm_dD b_X_turned_0 6 rfl rfl
theorem d_X_turned_13 : vm_D q_X_turned.2.1 13 1 14 (.istore_n 1) := vm_dD b_X_turned_0 7 rfl rfl
theorem d_X_turned_14 : vm_D q_X_turned.2.1 14 1 15 (.iconst 1) := vm_dD b_X_turned_0 8 rfl rfl
theorem d_X_turned_15 : vm_D q_X_turned.2.1 15 1 16 (.istore_n 2) := vm_dD b_X_turned_0 9 rfl rfl
theorem d_X_turned_16 : vm_D q_X_turned.2.1 16 1 17 (.iload_n 2) := vm_dD b_X_turned_0 10 rfl rfl
theorem d_X_turned_17 : vm_D q_X_turned.2.1 17 1 18 (.aload_n 0) := vm_dD b_X_turned_0 11 rfl rfl
theorem d_X_turned_18 : vm_D q_X_turned.2.1 18 3 21 (.getfield 36) := vm_dD b_X_turned_0 12 rfl rfl
theorem d_X_turned_21 : vm_D q_X_turned.2.1 21 3 24 (.getfield 102) := vm_dD b_X_turned_0 13 rfl rfl
theorem d_X_turned_24 : vm_B q_X_turned.2.1 24 27 47 (fun o => .if_icmp .ge o) := ⟨23, vm_db b_X_turned_0 (i := 14) rfl, rfl, by decide⟩
theorem d_X_turned_27 : vm_D q_X_turned.2.1 27 1 28 (.aload_n 0) := vm_dD b_X_turned_0 15 rfl rfl
theorem d_X_turned_28 : vm_D q_X_turned.2.1 28 3 31 (.getfield 36) := vm_dD b_X_turned_0 16 rfl rfl
theorem d_X_turned_31 : vm_D q_X_turned.2.1 31 1 32 (.iload_n 2) := vm_dD b_X_turned_0 17 rfl rfl
theorem d_X_turned_32 : vm_D q_X_turned.2.1 32 1 33 (.iload_n 1) := vm_dD b_X_turned_0 18 rfl rfl
theorem d_X_turned_33 : vm_D q_X_turned.2.1 33 3 36 (.invokevirtual 186) := vm_dD b_X_turned_0 19 rfl rfl
theorem d_X_turned_36 : vm_B q_X_turned.2.1 36 39 41 (fun o => .ifCond .eq o) := ⟨5, vm_db b_X_turned_0 (i := 20) rfl, rfl, by decide⟩
theorem d_X_turned_41 : vm_D q_X_turned.2.1 41 3 44 (.iinc 2 1) := vm_dD b_X_turned_0 23 rfl rfl
theorem d_X_turned_44 : ∃ off : Int, decode q_X_turned.2.1 44 = .ok (.goto off, 3) ∧ ((44 : Nat) : Int) + off = ((16 : Nat) : Int) := ⟨-28, vm_db b_X_turned_0 (i := 24) rfl, by decide⟩
theorem d_X_turned_39 : vm_D q_X_turned.2.1 39 1 40 (.iload_n 2) := vm_dD b_X_turned_0 21 rfl rfl
theorem d_X_turned_40 : vm_D q_X_turned.2.1 40 1 41 (.istore_n 1) := vm_dD b_X_turned_0 22 rfl rfl
theorem d_X_turned_47 : vm_D q_X_turned.2.1 47 1 48 (.iload_n 1) := vm_dD b_X_turned_0 25 rfl rfl
theorem d_X_turned_48 : vm_D q_X_turned.2.1 48 1 49 (.ireturn) := vm_dD b_X_turned_0 26 rfl rfl
theorem d_X_turned_10 : vm_D q_X_turned.2.1 10 1 11 (.iconst (-1)) := vm_dD b_X_turned_0 4 rfl rfl
theorem d_X_turned_11 : vm_D q_X_turned.2.1 11 1 12 (.ireturn) := vm_dD b_X_turned_0 5 rfl rfl
def q_X_local : vm_Y := ("RepeatFree", cX10_local, 3, false, [])
def t_X_local_0 : List (Nat × Instr × Nat) := [(0, .aload_n 0, 1), (1, .iload_n 1, 1), (2, .iconst 1, 1), (3, .aload_n 0, 1), (4, .getfield 36, 3), (7, .getfield 102, 3), (10, .iconst 1, 1), (11, .isub, 1), (12, .invokevirtual 173, 3), (15, .iconst 1, 1), (16, .istore_n 2, 1), (17, .iload_n 2, 1), (18, .aload_n 0, 1), (19, .getfield 36, 3), (22, .getfield 102, 3), (25, .if_icmp .ge 21, 3), (28, .aload_n 0, 1), (29, .getfield 36, 3), (32, .iload_n 1, 1), (33, .iload_n 2, 1), (34, .invokevirtual 189, 3), (37, .ifCond .ne 9, 3), (40, .iinc 2 1, 3), (43, .goto (-26), 3), (46, .iload_n 2, 1), (47, .ireturn, 1)]
theorem b_X_local_0 : (t_X_local_0.all fun q => decide (decode q_X_local.2.1 q.1 = .ok (q.2.1, q.2.2))) = true := by decide +kernel
theorem d_X_local_0 : vm_D q_X_local.2.1 0 1 1 (.aload_n 0) := vm_dD b_X_local_0 0 rfl rfl
theorem d_X_local_1 : vm_D q_X_local.2.1 1 1 2 (.iload_n 1) := vm_dD b_X_local_0 1 rfl rfl
theorem d_X_local_2 : vm_D q_X_local.2.1 2 1 3 (.iconst 1) := vm_dD b_X_local_0 2 rfl rfl
theorem d_X_local_3 : vm_D q_X_local.2.1 3 1 4 (.aload_n 0) := vm_dD b_X_local_0 3 rfl rfl
theorem d_X_local_4 : vm_D q_X_local.2.1 4 3 7 (.getfield 36) := vm_dD b_X_local_0 4 rfl rfl
theorem d_X_local_7 : vm_D q_X_local.2.1 7 3 10 (.getfield 102) := vm_dD b_X_local_0 5 rfl rfl
theorem d_X_local_10 : vm_D q_X_local.2.1 10 1 11 (.iconst 1) := vm_dD b_X_local_0 6 rfl rfl
theorem d_X_local_11 : vm_D q_X_local.2.1 11 1 12 (.isub) := vm_dD b_X_local_0 7 rfl rfl
theorem d_X_local_12 : vm_D q_X_local.2.1 12 3 15 (.invokevirtual 173) := vm_dD b_X_local_0 8 rfl rfl
theorem d_X_local_15 : vm_D q_X_local.2.1 15 1 16 (.iconst 1) := vm_dD b_X_local_0 9 rfl rfl
theorem d_X_local_16 : vm_D q_X_local.2.1 16 1 17 (.istore_n 2) := vm_dD b_X_local_0 10 rfl rfl
theorem d_X_local_17 : vm_D q_X_local.2.1 17 1 18 (.iload_n 2) := vm_dD b_X_local_0 11 rfl rfl
theorem d_X_local_18 : vm_D q_X_local.2.1 18 1 19 (.aload_n 0) := vm_dD b_X_local_0 12 rfl rfl
theorem d_X_local_19 : vm_D q_X_local.2.1 19 3 22 (.getfield 36) := vm_dD b_X_local_0 13 rfl rfl
theorem d_X_local_22 : vm_D q_X_local.2.1 22 3 25 (.getfield 102) := vm_dD b_X_local_0 14 rfl rfl
theorem d_X_local_25 : vm_B q_X_local.2.1 25 28 46 (fun o => .if_icmp .ge o) := ⟨21, vm_db b_X_local_0 (i := 15) rfl, rfl, by decide⟩
theorem d_X_local_28 : vm_D q_X_local.2.1 28 1 29 (.aload_n 0) := vm_dD b_X_local_0 16 rfl rfl
theorem d_X_local_29 : vm_D q_X_local.2.1 29 3 32 (.getfield 36) := vm_dD b_X_local_0 17 rfl rfl
theorem d_X_local_32 : vm_D q_X_local.2.1 32 1 33 (.iload_n 1) := vm_dD b_X_local_0 18 rfl rfl
theorem d_X_local_33 : vm_D q_X_local.2.1 33 1 34 (.iload_n 2) := vm_dD b_X_local_0 19 rfl rfl
theorem d_X_local_34 : vm_D q_X_local.2.1 34 3 37 (.invokevirtual 189) := vm_dD b_X_local_0 20 rfl rfl
theorem d_X_local_37 : vm_B q_X_local.2.1 37 40 46 (fun o => .ifCond .ne o) := ⟨9, vm_db b_X_local_0 (i := 21) rfl, rfl, by decide⟩
theorem d_X_local_40 : vm_D q_X_local.2.1 40 3 43 (.iinc 2 1) := vm_dD b_X_local_0 22 rfl rfl
theorem d_X_local_43 : ∃ off : Int, decode q_X_local.2.1 43 = .ok (.goto off, 3) ∧ ((43 : Nat) : Int) + off = ((17 : Nat) : Int) := ⟨-26, vm_db b_X_local_0 (i := 23) rfl, by decide⟩
theorem d_X_local_46 : vm_D q_X_local.2.1 46 1 47 (.iload_n 2) := vm_dD b_X_local_0 24 rfl rfl
theorem d_X_local_47 : vm_D q_X_local.2.1 47 1 48 (.ireturn) := vm_dD b_X_local_0 25 rfl rfl
def q_X_met : vm_Y := ("RepeatFree", cX10_met, 5, false, [])
def t_X_met_0 : List (Nat × Instr × Nat) := [(0, .aload_n 0, 1), (1, .iload_n 1, 1), (2, .invokevirtual 192, 3), (5, .astore_n 3, 1), (6, .aload_n 0, 1), (7, .iload_n 2, 1), (8, .iconst 3, 1), (9, .invokevirtual 159, 3), (12, .iconst 0, 1), (13, .istore 4, 2), (15, .iload 4, 2), (17, .aload_n 3, 1), (18, .getfield 195, 3), (21, .iadd, 1), (22, .aload_n 0, 1), (23, .getfield 36, 3), (26, .getfield 102, 3), (29, .if_icmp .gt 65, 3), (32, .aload_n 0, 1), (33, .getfield 36, 3), (36, .aload_n 3, 1), (37, .aload_n 0, 1), (38, .getfield 29, 3), (41, .iconst 0, 1), (42, .iload 4, 2), (44, .iconst 1, 1), (45, .invokestatic 198, 3), (48, .ifCond .eq 40, 3), (51, .aload_n 0, 1), (52, .getfield 29, 3), (55, .aload_n 0, 1), (56, .getfield 36, 3), (59, .aload_n 3, 1), (60, .iload 4, 2), (62, .iconst 0, 1), (63, .iconst 0, 1), (64, .invokevirtual 202, 3), (67, .pop, 1), (68, .iload_n 2, 1), (69, .ifCond .ne 8, 3), (72, .iload 4, 2), (74, .goto 13, 3), (77, .aload_n 0, 1), (78, .getfield 29, 3), (81, .iload_n 2, 1), (82, .iconst 1, 1), (83, .isub, 1), (84, .invokevirtual 206, 3), (87, .ireturn, 1), (88, .iinc 4 1, 3), (91, .goto (-76), 3), (94, .iconst (-1), 1), (95, .ireturn, 1)]
theorem b_X_met_0 : (t_X_met_0.all fun q => decide (decode q_X_met.2.1 q.1 = .ok (q.2.1, q.2.2))) = true := by decide +kernel
theorem d_X_met_0 : vm_D q_X_met.2.1 0 1 1 (.aload_n 0) := vm_dD b_X_met_0 0 rfl rfl
theorem d_X_met_1 : vm_D q_X_met.2.1 1 1 2 (.iload_n 1) := vm_dD b_X_met_0 1 rfl rfl
theorem d_X_met_2 : vm_D q_X_met.2.1 2 3 5 (.invokevirtual 192) := vm_dD b_X_met_0 2 rfl rfl
theorem d_X_met_5 : vm_D q_X_met.2.1 5 1 6 (.astore_n 3) := vm_dD b_X_met_0 3 rfl rfl
theorem d_X_met_6 : vm_D q_X_met.2.1 6 1 7 (.aload_n 0) := vm_dD b_X_met_0 4 rfl rfl
theorem d_X_met_7 : vm_D q_X_met.2.1 7 1 8 (.iload_n 2) := vm_dD b_X_met_0 5 rfl rfl
theorem d_X_met_8 : vm_D q_X_met.2.1 8 1 9 (.iconst 3) := vm_dD b_X_met_0 6 rfl rfl
theorem d_X_met_9 : vm_D q_X_met.2.1 9 3 12 (.invokevirtual 159) := vm_dD b_X_met_0 7 rfl rfl
theorem d_X_met_12 : vm_D q_X_met.2.1 12 1 13 (.iconst 0) := vm_dD b_X_met_0 8 rfl rfl
theorem d_X_met_13 : vm_D q_X_met.2.1 13 2 15 (.istore 4) := vm_dD b_X_met_0 9 rfl rfl
theorem d_X_met_15 : vm_D q_X_met.2.1 15 2 17 (.iload 4) := vm_dD b_X_met_0 10 rfl rfl
theorem d_X_met_17 : vm_D q_X_met.2.1 17 1 18 (.aload_n 3) := vm_dD b_X_met_0 11 rfl rfl
theorem d_X_met_18 : vm_D q_X_met.2.1 18 3 21 (.getfield 195) := vm_dD b_X_met_0 12 rfl rfl
theorem d_X_met_21 : vm_D q_X_met.2.1 21 1 22 (.iadd) := vm_dD b_X_met_0 13 rfl rfl
theorem d_X_met_22 : vm_D q_X_met.2.1 22 1 23 (.aload_n 0) := vm_dD b_X_met_0 14 rfl rfl
theorem d_X_met_23 : vm_D q_X_met.2.1 23 3 26 (.getfield 36) := vm_dD b_X_met_0 15 rfl rfl
theorem d_X_met_26 : vm_D q_X_met.2.1 26 3 29 (.getfield 102) := vm_dD b_X_met_0 16 rfl rfl
theorem d_X_met_29 : vm_B q_X_met.2.1 29 32 94 (fun o => .if_icmp .gt o) := ⟨65, vm_db b_X_met_0 (i := 17) rfl, rfl, by decide⟩
theorem d_X_met_32 : vm_D q_X_met.2.1 32 1 33 (.aload_n 0) := vm_dD b_X_met_0 18 rfl rfl
theorem d_X_met_33 : vm_D q_X_met.2.1 33 3 36 (.getfield 36) := vm_dD b_X_met_0 19 rfl rfl
theorem d_X_met_36 : vm_D q_X_met.2.1 36 1 37 (.aload_n 3) := vm_dD b_X_met_0 20 rfl rfl
theorem d_X_met_37 : vm_D q_X_met.2.1 37 1 38 (.aload_n 0) := vm_dD b_X_met_0 21 rfl rfl
theorem d_X_met_38 : vm_D q_X_met.2.1 38 3 41 (.getfield 29) := vm_dD b_X_met_0 22 rfl rfl
theorem d_X_met_41 : vm_D q_X_met.2.1 41 1 42 (.iconst 0) := vm_dD b_X_met_0 23 rfl rfl
theorem d_X_met_42 : vm_D q_X_met.2.1 42 2 44 (.iload 4) := vm_dD b_X_met_0 24 rfl rfl
theorem d_X_met_44 : vm_D q_X_met.2.1 44 1 45 (.iconst 1) := vm_dD b_X_met_0 25 rfl rfl
theorem d_X_met_45 : vm_D q_X_met.2.1 45 3 48 (.invokestatic 198) := vm_dD b_X_met_0 26 rfl rfl
theorem d_X_met_48 : vm_B q_X_met.2.1 48 51 88 (fun o => .ifCond .eq o) := ⟨40, vm_db b_X_met_0 (i := 27) rfl, rfl, by decide⟩
theorem d_X_met_88 : vm_D q_X_met.2.1 88 3 91 (.iinc 4 1) := vm_dD b_X_met_0 49 rfl rfl
theorem d_X_met_91 : ∃ off : Int, decode q_X_met.2.1 91 = .ok (.goto off, 3) ∧ ((91 : Nat) : Int) + off = ((15 : Nat) : Int) := ⟨-76, vm_db b_X_met_0 (i := 50) rfl, by decide⟩
theorem d_X_met_51 : vm_D q_X_met.2.1 51 1 52 (.aload_n 0) := vm_dD b_X_met_0 28 rfl rfl
theorem d_X_met_52 : vm_D q_X_met.2.1 52 3 55 (.getfield 29) := vm_dD b_X_met_0 29 rfl rfl
theorem d_X_met_55 : vm_D q_X_met.2.1 55 1 56 (.aload_n 0) := vm_dD b_X_met_0 30 rfl rfl
theorem d_X_met_56 : vm_D q_X_met.2.1 56 3 59 (.getfield 36) := vm_dD b_X_met_0 31 rfl rfl
theorem d_X_met_59 : vm_D q_X_met.2.1 59 1 60 (.aload_n 3) := vm_dD b_X_met_0 32 rfl rfl
theorem d_X_met_60 : vm_D q_X_met.2.1 60 2 62 (.iload 4) := vm_dD b_X_met_0 33 rfl rfl
theorem d_X_met_62 : vm_D q_X_met.2.1 62 1 63 (.iconst 0) := vm_dD b_X_met_0 34 rfl rfl
theorem d_X_met_63 : vm_D q_X_met.2.1 63 1 64 (.iconst 0) := vm_dD b_X_met_0 35 rfl rfl
theorem d_X_met_64 : vm_D q_X_met.2.1 64 3 67 (.invokevirtual 202) := vm_dD b_X_met_0 36 rfl rfl
theorem d_X_met_67 : vm_D q_X_met.2.1 67 1 68 (.pop) := vm_dD b_X_met_0 37 rfl rfl
theorem d_X_met_68 : vm_D q_X_met.2.1 68 1 69 (.iload_n 2) := vm_dD b_X_met_0 38 rfl rfl
theorem d_X_met_69 : vm_B q_X_met.2.1 69 72 77 (fun o => .ifCond .ne o) := ⟨8, vm_db b_X_met_0 (i := 39) rfl, rfl, by decide⟩
theorem d_X_met_77 : vm_D q_X_met.2.1 77 1 78 (.aload_n 0) := vm_dD b_X_met_0 42 rfl rfl
theorem d_X_met_78 : vm_D q_X_met.2.1 78 3 81 (.getfield 29) := vm_dD b_X_met_0 43 rfl rfl
theorem d_X_met_81 : vm_D q_X_met.2.1 81 1 82 (.iload_n 2) := vm_dD b_X_met_0 44 rfl rfl
theorem d_X_met_82 : vm_D q_X_met.2.1 82 1 83 (.iconst 1) := vm_dD b_X_met_0 45 rfl rfl
theorem d_X_met_83 : vm_D q_X_met.2.1 83 1 84 (.isub) := vm_dD b_X_met_0 46 rfl rfl
theorem d_X_met_84 : vm_D q_X_met.2.1 84 3 87 (.invokevirtual 206) := vm_dD b_X_met_0 47 rfl rfl
theorem d_X_met_87 : vm_D q_X_met.2.1 87 1 88 (.ireturn) := vm_dD b_X_met_0 48 rfl rfl
theorem d_X_met_72 : vm_D q_X_met.2.1 72 2 74 (.iload 4) := vm_dD b_X_met_0 40 rfl rfl
theorem d_X_met_74 : ∃ off : Int, decode q_X_met.2.1 74 = .ok (.goto off, 3) ∧ ((74 : Nat) : Int) + off = ((87 : Nat) : Int) := ⟨13, vm_db b_X_met_0 (i := 41) rfl, by decide⟩
theorem d_X_met_94 : vm_D q_X_met.2.1 94 1 95 (.iconst (-1)) := vm_dD b_X_met_0 51 rfl rfl
theorem d_X_met_95 : vm_D q_X_met.2.1 95 1 96 (.ireturn) := vm_dD b_X_met_0 52 rfl rfl
def q_X_whole : vm_Y := ("RepeatFree", cX10_whole, 6, false, [])
def t_X_whole_0 : List (Nat × Instr × Nat) := [(0, .aload_n 0, 1), (1, .iload_n 1, 1), (2, .invokevirtual 192, 3), (5, .astore 4, 2), (7, .aload_n 0, 1), (8, .iload_n 3, 1), (9, .iconst 2, 1), (10, .invokevirtual 159, 3), (13, .aload_n 0, 1), (14, .getfield 29, 3), (17, .aload_n 0, 1), (18, .getfield 36, 3), (21, .aload 4, 2), (23, .iconst 0, 1), (24, .iconst 1, 1), (25, .iload_n 2, 1), (26, .invokevirtual 202, 3), (29, .istore 5, 2), (31, .iload_n 2, 1), (32, .iconst (-1), 1), (33, .if_icmp .ne 6, 3), (36, .iload 5, 2), (38, .ireturn, 1), (39, .iload_n 2, 1), (40, .ifCond .lt 20, 3), (43, .iload_n 2, 1), (44, .iload 5, 2), (46, .if_icmp .ge 14, 3), (49, .aload_n 0, 1), (50, .getfield 29, 3), (53, .iload_n 3, 1), (54, .invokevirtual 206, 3), (57, .goto 4, 3), (60, .iconst (-1), 1), (61, .ireturn, 1)]
theorem b_X_whole_0 : (t_X_whole_0.all fun q => decide (decode q_X_whole.2.1 q.1 = .ok (q.2.1, q.2.2))) = true := by decide +kernel
theorem d_X_whole_0 : vm_D q_X_whole.2.1 0 1 1 (.aload_n 0) := vm_dD b_X_whole_0 0 rfl rfl
theorem d_X_whole_1 : vm_D q_X_whole.2.1 1 1 2 (.iload_n 1) := vm_dD b_X_whole_0 1 rfl rfl
theorem d_X_whole_2 : vm_D q_X_whole.2.1 2 3 5 (.invokevirtual 192) := vm_dD b_X_whole_0 2 rfl rfl
theorem d_X_whole_5 : vm_D q_X_whole.2.1 5 2 7 (.astore 4) := vm_dD b_X_whole_0 3 rfl rfl
theorem d_X_whole_7 : vm_D q_X_whole.2.1 7 1 8 (.aload_n 0) := vm_dD b_X_whole_0 4 rfl rfl
theorem d_X_whole_8 : vm_D q_X_whole.2.1 8 1 9 (.iload_n 3) := vm_dD b_X_whole_0 5 rfl rfl
theorem d_X_whole_9 : vm_D q_X_whole.2.1 9 1 10 (.iconst 2) := vm_dD b_X_whole_0 6 rfl rfl
theorem d_X_whole_10 : vm_D q_X_whole.2.1 10 3 13 (.invokevirtual 159) := vm_dD b_X_whole_0 7 rfl rfl
theorem d_X_whole_13 : vm_D q_X_whole.2.1 13 1 14 (.aload_n 0) := vm_dD b_X_whole_0 8 rfl rfl
theorem d_X_whole_14 : vm_D q_X_whole.2.1 14 3 17 (.getfield 29) := vm_dD b_X_whole_0 9 rfl rfl
theorem d_X_whole_17 : vm_D q_X_whole.2.1 17 1 18 (.aload_n 0) := vm_dD b_X_whole_0 10 rfl rfl
theorem d_X_whole_18 : vm_D q_X_whole.2.1 18 3 21 (.getfield 36) := vm_dD b_X_whole_0 11 rfl rfl
theorem d_X_whole_21 : vm_D q_X_whole.2.1 21 2 23 (.aload 4) := vm_dD b_X_whole_0 12 rfl rfl
theorem d_X_whole_23 : vm_D q_X_whole.2.1 23 1 24 (.iconst 0) := vm_dD b_X_whole_0 13 rfl rfl
theorem d_X_whole_24 : vm_D q_X_whole.2.1 24 1 25 (.iconst 1) := vm_dD b_X_whole_0 14 rfl rfl
theorem d_X_whole_25 : vm_D q_X_whole.2.1 25 1 26 (.iload_n 2) := vm_dD b_X_whole_0 15 rfl rfl
theorem d_X_whole_26 : vm_D q_X_whole.2.1 26 3 29 (.invokevirtual 202) := vm_dD b_X_whole_0 16 rfl rfl
theorem d_X_whole_29 : vm_D q_X_whole.2.1 29 2 31 (.istore 5) := vm_dD b_X_whole_0 17 rfl rfl
theorem d_X_whole_31 : vm_D q_X_whole.2.1 31 1 32 (.iload_n 2) := vm_dD b_X_whole_0 18 rfl rfl
theorem d_X_whole_32 : vm_D q_X_whole.2.1 32 1 33 (.iconst (-1)) := vm_dD b_X_whole_0 19 rfl rfl
theorem d_X_whole_33 : vm_B q_X_whole.2.1 33 36 39 (fun o => .if_icmp .ne o) := ⟨6, vm_db b_X_whole_0 (i := 20) rfl, rfl, by decide⟩
theorem d_X_whole_39 : vm_D q_X_whole.2.1 39 1 40 (.iload_n 2) := vm_dD b_X_whole_0 23 rfl rfl
theorem d_X_whole_40 : vm_B q_X_whole.2.1 40 43 60 (fun o => .ifCond .lt o) := ⟨20, vm_db b_X_whole_0 (i := 24) rfl, rfl, by decide⟩
theorem d_X_whole_60 : vm_D q_X_whole.2.1 60 1 61 (.iconst (-1)) := vm_dD b_X_whole_0 33 rfl rfl
theorem d_X_whole_61 : vm_D q_X_whole.2.1 61 1 62 (.ireturn) := vm_dD b_X_whole_0 34 rfl rfl
theorem d_X_whole_43 : vm_D q_X_whole.2.1 43 1 44 (.iload_n 2) := vm_dD b_X_whole_0 25 rfl rfl
theorem d_X_whole_44 : vm_D q_X_whole.2.1 44 2 46 (.iload 5) := vm_dD b_X_whole_0 26 rfl rfl
theorem d_X_whole_46 : vm_B q_X_whole.2.1 46 49 60 (fun o => .if_icmp .ge o) := ⟨14, vm_db b_X_whole_0 (i := 27) rfl, rfl, by decide⟩
theorem d_X_whole_49 : vm_D q_X_whole.2.1 49 1 50 (.aload_n 0) := vm_dD b_X_whole_0 28 rfl rfl
theorem d_X_whole_50 : vm_D q_X_whole.2.1 50 3 53 (.getfield 29) := vm_dD b_X_whole_0 29 rfl rfl
theorem d_X_whole_53 : vm_D q_X_whole.2.1 53 1 54 (.iload_n 3) := vm_dD b_X_whole_0 30 rfl rfl
theorem d_X_whole_54 : vm_D q_X_whole.2.1 54 3 57 (.invokevirtual 206) := vm_dD b_X_whole_0 31 rfl rfl
theorem d_X_whole_57 : ∃ off : Int, decode q_X_whole.2.1 57 = .ok (.goto off, 3) ∧ ((57 : Nat) : Int) + off = ((61 : Nat) : Int) := ⟨4, vm_db b_X_whole_0 (i := 32) rfl, by decide⟩
theorem d_X_whole_36 : vm_D q_X_whole.2.1 36 2 38 (.iload 5) := vm_dD b_X_whole_0 21 rfl rfl
theorem d_X_whole_38 : vm_D q_X_whole.2.1 38 1 39 (.ireturn) := vm_dD b_X_whole_0 22 rfl rfl
def q_X_cannot : vm_Y := ("RepeatFree", cX10_cannot, 2, false, [])
def t_X_cannot_0 : List (Nat × Instr × Nat) := [(0, .aload_n 0, 1), (1, .iload_n 1, 1), (2, .invokevirtual 192, 3), (5, .invokevirtual 209, 3), (8, .ireturn, 1)]
theorem b_X_cannot_0 : (t_X_cannot_0.all fun q => decide (decode q_X_cannot.2.1 q.1 = .ok (q.2.1, q.2.2))) = true := by decide +kernel
theorem d_X_cannot_0 : vm_D q_X_cannot.2.1 0 1 1 (.aload_n 0) := vm_dD b_X_cannot_0 0 rfl rfl
theorem d_X_cannot_1 : vm_D q_X_cannot.2.1 1 1 2 (.iload_n 1) := vm_dD b_X_cannot_0 1 rfl rfl
theorem d_X_cannot_2 : vm_D q_X_cannot.2.1 2 3 5 (.invokevirtual 192) := vm_dD b_X_cannot_0 2 rfl rfl
theorem d_X_cannot_5 : vm_D q_X_cannot.2.1 5 3 8 (.invokevirtual 209) := vm_dD b_X_cannot_0 3 rfl rfl
theorem d_X_cannot_8 : vm_D q_X_cannot.2.1 8 1 9 (.ireturn) := vm_dD b_X_cannot_0 4 rfl rfl
def q_X_loose : vm_Y := ("RepeatFree", cX10_loose, 7, false, [])
def t_X_loose_0 : List (Nat × Instr × Nat) := [(0, .aload_n 0, 1), (1, .iload_n 1, 1), (2, .invokevirtual 192, 3), (5, .astore_n 3, 1), (6, .aload_n 3, 1), (7, .invokevirtual 213, 3), (10, .istore 4, 2), (12, .iconst 0, 1), (13, .istore 5, 2), (15, .iconst 1, 1), (16, .istore 6, 2), (18, .iload 6, 2), (20, .iload 4, 2), (22, .if_icmp .gt 45, 3), (25, .iload 6, 2), (27, .iload 4, 2), (29, .iconst (-1), 1), (30, .ixor, 1), (31, .iand, 1), (32, .ifCond .ne 29, 3), (35, .aload_n 3, 1), (36, .iload 4, 2), (38, .iload 6, 2), (40, .invokevirtual 216, 3), (43, .ifCond .ne 6, 3), (46, .goto 15, 3), (49, .iload 5, 2), (51, .iload_n 2, 1), (52, .if_icmp .ne 6, 3), (55, .iload 6, 2), (57, .ireturn, 1), (58, .iinc 5 1, 3), (61, .iinc 6 1, 3), (64, .goto (-46), 3), (67, .iload_n 2, 1), (68, .iconst (-1), 1), (69, .if_icmp .ne 8, 3), (72, .iload 5, 2), (74, .goto 4, 3), (77, .iconst (-1), 1), (78, .ireturn, 1)]
theorem b_X_loose_0 : (t_X_loose_0.all fun q => decide (decode q_X_loose.2.1 q.1 = .ok (q.2.1, q.2.2))) = true := by decide +kernel
theorem d_X_loose_0 : vm_D q_X_loose.2.1 0 1 1 (.aload_n 0) := vm_dD b_X_loose_0 0 rfl rfl
theorem d_X_loose_1 : vm_D q_X_loose.2.1 1 1 2 (.iload_n 1) := vm_dD b_X_loose_0 1 rfl rfl
theorem d_X_loose_2 : vm_D q_X_loose.2.1 2 3 5 (.invokevirtual 192) := vm_dD b_X_loose_0 2 rfl rfl
theorem d_X_loose_5 : vm_D q_X_loose.2.1 5 1 6 (.astore_n 3) := vm_dD b_X_loose_0 3 rfl rfl
theorem d_X_loose_6 : vm_D q_X_loose.2.1 6 1 7 (.aload_n 3) := vm_dD b_X_loose_0 4 rfl rfl
theorem d_X_loose_7 : vm_D q_X_loose.2.1 7 3 10 (.invokevirtual 213) := vm_dD b_X_loose_0 5 rfl rfl
theorem d_X_loose_10 : vm_D q_X_loose.2.1 10 2 12 (.istore 4) := vm_dD b_X_loose_0 6 rfl rfl
theorem d_X_loose_12 : vm_D q_X_loose.2.1 12 1 13 (.iconst 0) := vm_dD b_X_loose_0 7 rfl rfl
theorem d_X_loose_13 : vm_D q_X_loose.2.1 13 2 15 (.istore 5) := vm_dD b_X_loose_0 8 rfl rfl
theorem d_X_loose_15 : vm_D q_X_loose.2.1 15 1 16 (.iconst 1) := vm_dD b_X_loose_0 9 rfl rfl
theorem d_X_loose_16 : vm_D q_X_loose.2.1 16 2 18 (.istore 6) := vm_dD b_X_loose_0 10 rfl rfl
theorem d_X_loose_18 : vm_D q_X_loose.2.1 18 2 20 (.iload 6) := vm_dD b_X_loose_0 11 rfl rfl
theorem d_X_loose_20 : vm_D q_X_loose.2.1 20 2 22 (.iload 4) := vm_dD b_X_loose_0 12 rfl rfl
theorem d_X_loose_22 : vm_B q_X_loose.2.1 22 25 67 (fun o => .if_icmp .gt o) := ⟨45, vm_db b_X_loose_0 (i := 13) rfl, rfl, by decide⟩
theorem d_X_loose_25 : vm_D q_X_loose.2.1 25 2 27 (.iload 6) := vm_dD b_X_loose_0 14 rfl rfl
theorem d_X_loose_27 : vm_D q_X_loose.2.1 27 2 29 (.iload 4) := vm_dD b_X_loose_0 15 rfl rfl
theorem d_X_loose_29 : vm_D q_X_loose.2.1 29 1 30 (.iconst (-1)) := vm_dD b_X_loose_0 16 rfl rfl
theorem d_X_loose_30 : vm_D q_X_loose.2.1 30 1 31 (.ixor) := vm_dD b_X_loose_0 17 rfl rfl
theorem d_X_loose_31 : vm_D q_X_loose.2.1 31 1 32 (.iand) := vm_dD b_X_loose_0 18 rfl rfl
theorem d_X_loose_32 : vm_B q_X_loose.2.1 32 35 61 (fun o => .ifCond .ne o) := ⟨29, vm_db b_X_loose_0 (i := 19) rfl, rfl, by decide⟩
theorem d_X_loose_61 : vm_D q_X_loose.2.1 61 3 64 (.iinc 6 1) := vm_dD b_X_loose_0 32 rfl rfl
theorem d_X_loose_64 : ∃ off : Int, decode q_X_loose.2.1 64 = .ok (.goto off, 3) ∧ ((64 : Nat) : Int) + off = ((18 : Nat) : Int) := ⟨-46, vm_db b_X_loose_0 (i := 33) rfl, by decide⟩
theorem d_X_loose_35 : vm_D q_X_loose.2.1 35 1 36 (.aload_n 3) := vm_dD b_X_loose_0 20 rfl rfl
theorem d_X_loose_36 : vm_D q_X_loose.2.1 36 2 38 (.iload 4) := vm_dD b_X_loose_0 21 rfl rfl
theorem d_X_loose_38 : vm_D q_X_loose.2.1 38 2 40 (.iload 6) := vm_dD b_X_loose_0 22 rfl rfl
theorem d_X_loose_40 : vm_D q_X_loose.2.1 40 3 43 (.invokevirtual 216) := vm_dD b_X_loose_0 23 rfl rfl
theorem d_X_loose_43 : vm_B q_X_loose.2.1 43 46 49 (fun o => .ifCond .ne o) := ⟨6, vm_db b_X_loose_0 (i := 24) rfl, rfl, by decide⟩
theorem d_X_loose_49 : vm_D q_X_loose.2.1 49 2 51 (.iload 5) := vm_dD b_X_loose_0 26 rfl rfl
theorem d_X_loose_51 : vm_D q_X_loose.2.1 51 1 52 (.iload_n 2) := vm_dD b_X_loose_0 27 rfl rfl
theorem d_X_loose_52 : vm_B q_X_loose.2.1 52 55 58 (fun o => .if_icmp .ne o) := ⟨6, vm_db b_X_loose_0 (i := 28) rfl, rfl, by decide⟩
theorem d_X_loose_58 : vm_D q_X_loose.2.1 58 3 61 (.iinc 5 1) := vm_dD b_X_loose_0 31 rfl rfl
theorem d_X_loose_55 : vm_D q_X_loose.2.1 55 2 57 (.iload 6) := vm_dD b_X_loose_0 29 rfl rfl
theorem d_X_loose_57 : vm_D q_X_loose.2.1 57 1 58 (.ireturn) := vm_dD b_X_loose_0 30 rfl rfl
theorem d_X_loose_46 : ∃ off : Int, decode q_X_loose.2.1 46 = .ok (.goto off, 3) ∧ ((46 : Nat) : Int) + off = ((61 : Nat) : Int) := ⟨15, vm_db b_X_loose_0 (i := 25) rfl, by decide⟩
theorem d_X_loose_67 : vm_D q_X_loose.2.1 67 1 68 (.iload_n 2) := vm_dD b_X_loose_0 34 rfl rfl
theorem d_X_loose_68 : vm_D q_X_loose.2.1 68 1 69 (.iconst (-1)) := vm_dD b_X_loose_0 35 rfl rfl
theorem d_X_loose_69 : vm_B q_X_loose.2.1 69 72 77 (fun o => .if_icmp .ne o) := ⟨8, vm_db b_X_loose_0 (i := 36) rfl, rfl, by decide⟩
theorem d_X_loose_77 : vm_D q_X_loose.2.1 77 1 78 (.iconst (-1)) := vm_dD b_X_loose_0 39 rfl rfl
theorem d_X_loose_78 : vm_D q_X_loose.2.1 78 1 79 (.ireturn) := vm_dD b_X_loose_0 40 rfl rfl
theorem d_X_loose_72 : vm_D q_X_loose.2.1 72 2 74 (.iload 5) := vm_dD b_X_loose_0 37 rfl rfl
theorem d_X_loose_74 : ∃ off : Int, decode q_X_loose.2.1 74 = .ok (.goto off, 3) ∧ ((74 : Nat) : Int) + off = ((78 : Nat) : Int) := ⟨4, vm_db b_X_loose_0 (i := 38) rfl, by decide⟩
def q_X_pattern : vm_Y := ("RepeatFree", cX10_pattern, 4, false, [])
def t_X_pattern_0 : List (Nat × Instr × Nat) := [(0, .aload_n 0, 1), (1, .iload_n 1, 1), (2, .invokevirtual 192, 3), (5, .astore_n 3, 1), (6, .aload_n 0, 1), (7, .iload_n 2, 1), (8, .iconst 2, 1), (9, .invokevirtual 159, 3), (12, .iload_n 2, 1), (13, .ifCond .ne 10, 3), (16, .aload_n 3, 1), (17, .getfield 195, 3), (20, .goto 27, 3), (23, .iload_n 2, 1), (24, .iconst 1, 1), (25, .if_icmp .ne 10, 3), (28, .aload_n 3, 1), (29, .invokevirtual 213, 3), (32, .goto 15, 3), (35, .aload_n 3, 1), (36, .getfield 219, 3), (39, .ifCond .eq 7, 3), (42, .iconst 1, 1), (43, .goto 4, 3), (46, .iconst 0, 1), (47, .ireturn, 1)]
theorem b_X_pattern_0 : (t_X_pattern_0.all fun q => decide (decode q_X_pattern.2.1 q.1 = .ok (q.2.1, q.2.2))) = true := by decide +kernel
theorem d_X_pattern_0 : vm_D q_X_pattern.2.1 0 1 1 (.aload_n 0) := vm_dD b_X_pattern_0 0 rfl rfl
theorem d_X_pattern_1 : vm_D q_X_pattern.2.1 1 1 2 (.iload_n 1) := vm_dD b_X_pattern_0 1 rfl rfl
theorem d_X_pattern_2 : vm_D q_X_pattern.2.1 2 3 5 (.invokevirtual 192) := vm_dD b_X_pattern_0 2 rfl rfl
theorem d_X_pattern_5 : vm_D q_X_pattern.2.1 5 1 6 (.astore_n 3) := vm_dD b_X_pattern_0 3 rfl rfl
theorem d_X_pattern_6 : vm_D q_X_pattern.2.1 6 1 7 (.aload_n 0) := vm_dD b_X_pattern_0 4 rfl rfl
theorem d_X_pattern_7 : vm_D q_X_pattern.2.1 7 1 8 (.iload_n 2) := vm_dD b_X_pattern_0 5 rfl rfl
theorem d_X_pattern_8 : vm_D q_X_pattern.2.1 8 1 9 (.iconst 2) := vm_dD b_X_pattern_0 6 rfl rfl
theorem d_X_pattern_9 : vm_D q_X_pattern.2.1 9 3 12 (.invokevirtual 159) := vm_dD b_X_pattern_0 7 rfl rfl
theorem d_X_pattern_12 : vm_D q_X_pattern.2.1 12 1 13 (.iload_n 2) := vm_dD b_X_pattern_0 8 rfl rfl
theorem d_X_pattern_13 : vm_B q_X_pattern.2.1 13 16 23 (fun o => .ifCond .ne o) := ⟨10, vm_db b_X_pattern_0 (i := 9) rfl, rfl, by decide⟩
theorem d_X_pattern_23 : vm_D q_X_pattern.2.1 23 1 24 (.iload_n 2) := vm_dD b_X_pattern_0 13 rfl rfl
theorem d_X_pattern_24 : vm_D q_X_pattern.2.1 24 1 25 (.iconst 1) := vm_dD b_X_pattern_0 14 rfl rfl
theorem d_X_pattern_25 : vm_B q_X_pattern.2.1 25 28 35 (fun o => .if_icmp .ne o) := ⟨10, vm_db b_X_pattern_0 (i := 15) rfl, rfl, by decide⟩
theorem d_X_pattern_35 : vm_D q_X_pattern.2.1 35 1 36 (.aload_n 3) := vm_dD b_X_pattern_0 19 rfl rfl
theorem d_X_pattern_36 : vm_D q_X_pattern.2.1 36 3 39 (.getfield 219) := vm_dD b_X_pattern_0 20 rfl rfl
theorem d_X_pattern_39 : vm_B q_X_pattern.2.1 39 42 46 (fun o => .ifCond .eq o) := ⟨7, vm_db b_X_pattern_0 (i := 21) rfl, rfl, by decide⟩
theorem d_X_pattern_46 : vm_D q_X_pattern.2.1 46 1 47 (.iconst 0) := vm_dD b_X_pattern_0 24 rfl rfl
theorem d_X_pattern_47 : vm_D q_X_pattern.2.1 47 1 48 (.ireturn) := vm_dD b_X_pattern_0 25 rfl rfl
theorem d_X_pattern_42 : vm_D q_X_pattern.2.1 42 1 43 (.iconst 1) := vm_dD b_X_pattern_0 22 rfl rfl
theorem d_X_pattern_43 : ∃ off : Int, decode q_X_pattern.2.1 43 = .ok (.goto off, 3) ∧ ((43 : Nat) : Int) + off = ((47 : Nat) : Int) := ⟨4, vm_db b_X_pattern_0 (i := 23) rfl, by decide⟩
theorem d_X_pattern_28 : vm_D q_X_pattern.2.1 28 1 29 (.aload_n 3) := vm_dD b_X_pattern_0 16 rfl rfl
theorem d_X_pattern_29 : vm_D q_X_pattern.2.1 29 3 32 (.invokevirtual 213) := vm_dD b_X_pattern_0 17 rfl rfl
theorem d_X_pattern_32 : ∃ off : Int, decode q_X_pattern.2.1 32 = .ok (.goto off, 3) ∧ ((32 : Nat) : Int) + off = ((47 : Nat) : Int) := ⟨15, vm_db b_X_pattern_0 (i := 18) rfl, by decide⟩
theorem d_X_pattern_16 : vm_D q_X_pattern.2.1 16 1 17 (.aload_n 3) := vm_dD b_X_pattern_0 10 rfl rfl
theorem d_X_pattern_17 : vm_D q_X_pattern.2.1 17 3 20 (.getfield 195) := vm_dD b_X_pattern_0 11 rfl rfl
theorem d_X_pattern_20 : ∃ off : Int, decode q_X_pattern.2.1 20 = .ok (.goto off, 3) ∧ ((20 : Nat) : Int) + off = ((47 : Nat) : Int) := ⟨27, vm_db b_X_pattern_0 (i := 12) rfl, by decide⟩
def q_X_avoid : vm_Y := ("RepeatFree", cX10_avoid, 5, false, [])
def t_X_avoid_0 : List (Nat × Instr × Nat) := [(0, .aload_n 0, 1), (1, .iload_n 1, 1), (2, .invokevirtual 192, 3), (5, .astore_n 3, 1), (6, .aload_n 3, 1), (7, .getfield 219, 3), (10, .istore 4, 2), (12, .aload_n 3, 1), (13, .iload_n 2, 1), (14, .putfield 219, 3), (17, .iload 4, 2), (19, .ireturn, 1)]
theorem b_X_avoid_0 : (t_X_avoid_0.all fun q => decide (decode q_X_avoid.2.1 q.1 = .ok (q.2.1, q.2.2))) = true := by decide +kernel
theorem d_X_avoid_0 : vm_D q_X_avoid.2.1 0 1 1 (.aload_n 0) := vm_dD b_X_avoid_0 0 rfl rfl
theorem d_X_avoid_1 : vm_D q_X_avoid.2.1 1 1 2 (.iload_n 1) := vm_dD b_X_avoid_0 1 rfl rfl
theorem d_X_avoid_2 : vm_D q_X_avoid.2.1 2 3 5 (.invokevirtual 192) := vm_dD b_X_avoid_0 2 rfl rfl
theorem d_X_avoid_5 : vm_D q_X_avoid.2.1 5 1 6 (.astore_n 3) := vm_dD b_X_avoid_0 3 rfl rfl
theorem d_X_avoid_6 : vm_D q_X_avoid.2.1 6 1 7 (.aload_n 3) := vm_dD b_X_avoid_0 4 rfl rfl
theorem d_X_avoid_7 : vm_D q_X_avoid.2.1 7 3 10 (.getfield 219) := vm_dD b_X_avoid_0 5 rfl rfl
theorem d_X_avoid_10 : vm_D q_X_avoid.2.1 10 2 12 (.istore 4) := vm_dD b_X_avoid_0 6 rfl rfl
theorem d_X_avoid_12 : vm_D q_X_avoid.2.1 12 1 13 (.aload_n 3) := vm_dD b_X_avoid_0 7 rfl rfl
theorem d_X_avoid_13 : vm_D q_X_avoid.2.1 13 1 14 (.iload_n 2) := vm_dD b_X_avoid_0 8 rfl rfl
theorem d_X_avoid_14 : vm_D q_X_avoid.2.1 14 3 17 (.putfield 219) := vm_dD b_X_avoid_0 9 rfl rfl
theorem d_X_avoid_17 : vm_D q_X_avoid.2.1 17 2 19 (.iload 4) := vm_dD b_X_avoid_0 10 rfl rfl
theorem d_X_avoid_19 : vm_D q_X_avoid.2.1 19 1 20 (.ireturn) := vm_dD b_X_avoid_0 11 rfl rfl
def q_X_limit : vm_Y := ("RepeatFree", cX10_limit, 5, false, [])
def t_X_limit_0 : List (Nat × Instr × Nat) := [(0, .aload_n 0, 1), (1, .iload_n 1, 1), (2, .iconst 0, 1), (3, .iconst 2, 1), (4, .invokevirtual 173, 3), (7, .aload_n 0, 1), (8, .iload_n 2, 1), (9, .iconst 1, 1), (10, .bipush 99, 2), (12, .invokevirtual 173, 3), (15, .aload_n 0, 1), (16, .iload_n 3, 1), (17, .iconst 1, 1), (18, .bipush 9, 2), (20, .invokevirtual 173, 3), (23, .aload_n 0, 1), (24, .getfield 19, 3), (27, .getfield 223, 3), (30, .istore 4, 2), (32, .aload_n 0, 1), (33, .getfield 19, 3), (36, .iload_n 1, 1), (37, .iload_n 2, 1), (38, .iload_n 3, 1), (39, .invokevirtual 226, 3), (42, .iload 4, 2), (44, .ireturn, 1)]
theorem b_X_limit_0 : (t_X_limit_0.all fun q => decide (decode q_X_limit.2.1 q.1 = .ok (q.2.1, q.2.2))) = true := by decide +kernel
theorem d_X_limit_0 : vm_D q_X_limit.2.1 0 1 1 (.aload_n 0) := vm_dD b_X_limit_0 0 rfl rfl
theorem d_X_limit_1 : vm_D q_X_limit.2.1 1 1 2 (.iload_n 1) := vm_dD b_X_limit_0 1 rfl rfl
theorem d_X_limit_2 : vm_D q_X_limit.2.1 2 1 3 (.iconst 0) := vm_dD b_X_limit_0 2 rfl rfl
theorem d_X_limit_3 : vm_D q_X_limit.2.1 3 1 4 (.iconst 2) := vm_dD b_X_limit_0 3 rfl rfl
theorem d_X_limit_4 : vm_D q_X_limit.2.1 4 3 7 (.invokevirtual 173) := vm_dD b_X_limit_0 4 rfl rfl
theorem d_X_limit_7 : vm_D q_X_limit.2.1 7 1 8 (.aload_n 0) := vm_dD b_X_limit_0 5 rfl rfl
theorem d_X_limit_8 : vm_D q_X_limit.2.1 8 1 9 (.iload_n 2) := vm_dD b_X_limit_0 6 rfl rfl
theorem d_X_limit_9 : vm_D q_X_limit.2.1 9 1 10 (.iconst 1) := vm_dD b_X_limit_0 7 rfl rfl
theorem d_X_limit_10 : vm_D q_X_limit.2.1 10 2 12 (.bipush 99) := vm_dD b_X_limit_0 8 rfl rfl
theorem d_X_limit_12 : vm_D q_X_limit.2.1 12 3 15 (.invokevirtual 173) := vm_dD b_X_limit_0 9 rfl rfl
theorem d_X_limit_15 : vm_D q_X_limit.2.1 15 1 16 (.aload_n 0) := vm_dD b_X_limit_0 10 rfl rfl
theorem d_X_limit_16 : vm_D q_X_limit.2.1 16 1 17 (.iload_n 3) := vm_dD b_X_limit_0 11 rfl rfl
theorem d_X_limit_17 : vm_D q_X_limit.2.1 17 1 18 (.iconst 1) := vm_dD b_X_limit_0 12 rfl rfl
theorem d_X_limit_18 : vm_D q_X_limit.2.1 18 2 20 (.bipush 9) := vm_dD b_X_limit_0 13 rfl rfl
theorem d_X_limit_20 : vm_D q_X_limit.2.1 20 3 23 (.invokevirtual 173) := vm_dD b_X_limit_0 14 rfl rfl
theorem d_X_limit_23 : vm_D q_X_limit.2.1 23 1 24 (.aload_n 0) := vm_dD b_X_limit_0 15 rfl rfl
theorem d_X_limit_24 : vm_D q_X_limit.2.1 24 3 27 (.getfield 19) := vm_dD b_X_limit_0 16 rfl rfl
theorem d_X_limit_27 : vm_D q_X_limit.2.1 27 3 30 (.getfield 223) := vm_dD b_X_limit_0 17 rfl rfl
theorem d_X_limit_30 : vm_D q_X_limit.2.1 30 2 32 (.istore 4) := vm_dD b_X_limit_0 18 rfl rfl
theorem d_X_limit_32 : vm_D q_X_limit.2.1 32 1 33 (.aload_n 0) := vm_dD b_X_limit_0 19 rfl rfl
theorem d_X_limit_33 : vm_D q_X_limit.2.1 33 3 36 (.getfield 19) := vm_dD b_X_limit_0 20 rfl rfl
theorem d_X_limit_36 : vm_D q_X_limit.2.1 36 1 37 (.iload_n 1) := vm_dD b_X_limit_0 21 rfl rfl
theorem d_X_limit_37 : vm_D q_X_limit.2.1 37 1 38 (.iload_n 2) := vm_dD b_X_limit_0 22 rfl rfl
theorem d_X_limit_38 : vm_D q_X_limit.2.1 38 1 39 (.iload_n 3) := vm_dD b_X_limit_0 23 rfl rfl
theorem d_X_limit_39 : vm_D q_X_limit.2.1 39 3 42 (.invokevirtual 226) := vm_dD b_X_limit_0 24 rfl rfl
theorem d_X_limit_42 : vm_D q_X_limit.2.1 42 2 44 (.iload 4) := vm_dD b_X_limit_0 25 rfl rfl
theorem d_X_limit_44 : vm_D q_X_limit.2.1 44 1 45 (.ireturn) := vm_dD b_X_limit_0 26 rfl rfl
def q_X_goes : vm_Y := ("RepeatFree", cX10_goes, 1, false, [])
def t_X_goes_0 : List (Nat × Instr × Nat) := [(0, .aload_n 0, 1), (1, .getfield 36, 3), (4, .getfield 102, 3), (7, .bipush 64, 2), (9, .if_icmp .ge 18, 3), (12, .aload_n 0, 1), (13, .getfield 36, 3), (16, .aload_n 0, 1), (17, .getfield 19, 3), (20, .invokevirtual 155, 3), (23, .iconst (-1), 1), (24, .if_icmp .eq 5, 3), (27, .iconst 0, 1), (28, .ireturn, 1), (29, .aload_n 0, 1), (30, .getfield 46, 3), (33, .aload_n 0, 1), (34, .getfield 19, 3), (37, .aload_n 0, 1), (38, .getfield 36, 3), (41, .invokevirtual 229, 3), (44, .ireturn, 1)]
theorem b_X_goes_0 : (t_X_goes_0.all fun q => decide (decode q_X_goes.2.1 q.1 = .ok (q.2.1, q.2.2))) = true := by decide +kernel
theorem d_X_goes_0 : vm_D q_X_goes.2.1 0 1 1 (.aload_n 0) := vm_dD b_X_goes_0 0 rfl rfl
theorem d_X_goes_1 : vm_D q_X_goes.2.1 1 3 4 (.getfield 36) := vm_dD b_X_goes_0 1 rfl rfl
theorem d_X_goes_4 : vm_D q_X_goes.2.1 4 3 7 (.getfield 102) := vm_dD b_X_goes_0 2 rfl rfl
theorem d_X_goes_7 : vm_D q_X_goes.2.1 7 2 9 (.bipush 64) := vm_dD b_X_goes_0 3 rfl rfl
theorem d_X_goes_9 : vm_B q_X_goes.2.1 9 12 27 (fun o => .if_icmp .ge o) := ⟨18, vm_db b_X_goes_0 (i := 4) rfl, rfl, by decide⟩
theorem d_X_goes_27 : vm_D q_X_goes.2.1 27 1 28 (.iconst 0) := vm_dD b_X_goes_0 12 rfl rfl
theorem d_X_goes_28 : vm_D q_X_goes.2.1 28 1 29 (.ireturn) := vm_dD b_X_goes_0 13 rfl rfl
theorem d_X_goes_12 : vm_D q_X_goes.2.1 12 1 13 (.aload_n 0) := vm_dD b_X_goes_0 5 rfl rfl
theorem d_X_goes_13 : vm_D q_X_goes.2.1 13 3 16 (.getfield 36) := vm_dD b_X_goes_0 6 rfl rfl
theorem d_X_goes_16 : vm_D q_X_goes.2.1 16 1 17 (.aload_n 0) := vm_dD b_X_goes_0 7 rfl rfl
theorem d_X_goes_17 : vm_D q_X_goes.2.1 17 3 20 (.getfield 19) := vm_dD b_X_goes_0 8 rfl rfl
theorem d_X_goes_20 : vm_D q_X_goes.2.1 20 3 23 (.invokevirtual 155) := vm_dD b_X_goes_0 9 rfl rfl
theorem d_X_goes_23 : vm_D q_X_goes.2.1 23 1 24 (.iconst (-1)) := vm_dD b_X_goes_0 10 rfl rfl
theorem d_X_goes_24 : vm_B q_X_goes.2.1 24 27 29 (fun o => .if_icmp .eq o) := ⟨5, vm_db b_X_goes_0 (i := 11) rfl, rfl, by decide⟩
theorem d_X_goes_29 : vm_D q_X_goes.2.1 29 1 30 (.aload_n 0) := vm_dD b_X_goes_0 14 rfl rfl
theorem d_X_goes_30 : vm_D q_X_goes.2.1 30 3 33 (.getfield 46) := vm_dD b_X_goes_0 15 rfl rfl
theorem d_X_goes_33 : vm_D q_X_goes.2.1 33 1 34 (.aload_n 0) := vm_dD b_X_goes_0 16 rfl rfl
theorem d_X_goes_34 : vm_D q_X_goes.2.1 34 3 37 (.getfield 19) := vm_dD b_X_goes_0 17 rfl rfl
theorem d_X_goes_37 : vm_D q_X_goes.2.1 37 1 38 (.aload_n 0) := vm_dD b_X_goes_0 18 rfl rfl
theorem d_X_goes_38 : vm_D q_X_goes.2.1 38 3 41 (.getfield 36) := vm_dD b_X_goes_0 19 rfl rfl
theorem d_X_goes_41 : vm_D q_X_goes.2.1 41 3 44 (.invokevirtual 229) := vm_dD b_X_goes_0 20 rfl rfl
theorem d_X_goes_44 : vm_D q_X_goes.2.1 44 1 45 (.ireturn) := vm_dD b_X_goes_0 21 rfl rfl
def q_X_ahead : vm_Y := ("RepeatFree", cX10_ahead, 4, false, [])
def t_X_ahead_0 : List (Nat × Instr × Nat) := [(0, .aload_n 0, 1), (1, .getfield 36, 3), (4, .getfield 102, 3), (7, .bipush 64, 2), (9, .if_icmp .lt 5, 3), (12, .iconst 0, 1), (13, .ireturn, 1), (14, .iconst 0, 1), (15, .istore_n 1, 1), (16, .iconst 0, 1), (17, .istore_n 2, 1), (18, .iload_n 2, 1), (19, .aload_n 0, 1), (20, .getfield 19, 3), (23, .getfield 91, 3), (26, .if_icmp .ge 79, 3), (29, .aload_n 0, 1), (30, .getfield 40, 3), (33, .invokevirtual 87, 3), (36, .aload_n 0, 1), (37, .getfield 40, 3), (40, .iload_n 2, 1), (41, .invokevirtual 119, 3), (44, .iconst 0, 1), (45, .istore_n 3, 1), (46, .iload_n 3, 1), (47, .aload_n 0, 1), (48, .getfield 36, 3), (51, .getfield 102, 3), (54, .if_icmp .ge 24, 3), (57, .aload_n 0, 1), (58, .getfield 40, 3), (61, .aload_n 0, 1), (62, .getfield 36, 3), (65, .iload_n 3, 1), (66, .invokevirtual 106, 3), (69, .invokevirtual 119, 3), (72, .iinc 3 1, 3), (75, .goto (-29), 3), (78, .aload_n 0, 1), (79, .getfield 40, 3), (82, .aload_n 0, 1), (83, .getfield 19, 3), (86, .invokevirtual 155, 3), (89, .iconst (-1), 1), (90, .if_icmp .ne 9, 3), (93, .iload_n 1, 1), (94, .iconst 1, 1), (95, .iload_n 2, 1), (96, .ishl, 1), (97, .ior, 1), (98, .istore_n 1, 1), (99, .iinc 2 1, 3), (102, .goto (-84), 3), (105, .iload_n 1, 1), (106, .ireturn, 1)]
theorem b_X_ahead_0 : (t_X_ahead_0.all fun q => decide (decode q_X_ahead.2.1 q.1 = .ok (q.2.1, q.2.2))) = true := by decide +kernel
theorem d_X_ahead_0 : vm_D q_X_ahead.2.1 0 1 1 (.aload_n 0) := vm_dD b_X_ahead_0 0 rfl rfl
theorem d_X_ahead_1 : vm_D q_X_ahead.2.1 1 3 4 (.getfield 36) := vm_dD b_X_ahead_0 1 rfl rfl
theorem d_X_ahead_4 : vm_D q_X_ahead.2.1 4 3 7 (.getfield 102) := vm_dD b_X_ahead_0 2 rfl rfl
theorem d_X_ahead_7 : vm_D q_X_ahead.2.1 7 2 9 (.bipush 64) := vm_dD b_X_ahead_0 3 rfl rfl
theorem d_X_ahead_9 : vm_B q_X_ahead.2.1 9 12 14 (fun o => .if_icmp .lt o) := ⟨5, vm_db b_X_ahead_0 (i := 4) rfl, rfl, by decide⟩
theorem d_X_ahead_14 : vm_D q_X_ahead.2.1 14 1 15 (.iconst 0) := vm_dD b_X_ahead_0 7 rfl rfl
theorem d_X_ahead_15 : vm_D q_X_ahead.2.1 15 1 16 (.istore_n 1) := vm_dD b_X_ahead_0 8 rfl rfl
theorem d_X_ahead_16 : vm_D q_X_ahead.2.1 16 1 17 (.iconst 0) := vm_dD b_X_ahead_0 9 rfl rfl
theorem d_X_ahead_17 : vm_D q_X_ahead.2.1 17 1 18 (.istore_n 2) := vm_dD b_X_ahead_0 10 rfl rfl
theorem d_X_ahead_18 : vm_D q_X_ahead.2.1 18 1 19 (.iload_n 2) := vm_dD b_X_ahead_0 11 rfl rfl
theorem d_X_ahead_19 : vm_D q_X_ahead.2.1 19 1 20 (.aload_n 0) := vm_dD b_X_ahead_0 12 rfl rfl
theorem d_X_ahead_20 : vm_D q_X_ahead.2.1 20 3 23 (.getfield 19) := vm_dD b_X_ahead_0 13 rfl rfl
theorem d_X_ahead_23 : vm_D q_X_ahead.2.1 23 3 26 (.getfield 91) := vm_dD b_X_ahead_0 14 rfl rfl
theorem d_X_ahead_26 : vm_B q_X_ahead.2.1 26 29 105 (fun o => .if_icmp .ge o) := ⟨79, vm_db b_X_ahead_0 (i := 15) rfl, rfl, by decide⟩
theorem d_X_ahead_29 : vm_D q_X_ahead.2.1 29 1 30 (.aload_n 0) := vm_dD b_X_ahead_0 16 rfl rfl
theorem d_X_ahead_30 : vm_D q_X_ahead.2.1 30 3 33 (.getfield 40) := vm_dD b_X_ahead_0 17 rfl rfl
theorem d_X_ahead_33 : vm_D q_X_ahead.2.1 33 3 36 (.invokevirtual 87) := vm_dD b_X_ahead_0 18 rfl rfl
theorem d_X_ahead_36 : vm_D q_X_ahead.2.1 36 1 37 (.aload_n 0) := vm_dD b_X_ahead_0 19 rfl rfl
theorem d_X_ahead_37 : vm_D q_X_ahead.2.1 37 3 40 (.getfield 40) := vm_dD b_X_ahead_0 20 rfl rfl
theorem d_X_ahead_40 : vm_D q_X_ahead.2.1 40 1 41 (.iload_n 2) := vm_dD b_X_ahead_0 21 rfl rfl
theorem d_X_ahead_41 : vm_D q_X_ahead.2.1 41 3 44 (.invokevirtual 119) := vm_dD b_X_ahead_0 22 rfl rfl
theorem d_X_ahead_44 : vm_D q_X_ahead.2.1 44 1 45 (.iconst 0) := vm_dD b_X_ahead_0 23 rfl rfl
theorem d_X_ahead_45 : vm_D q_X_ahead.2.1 45 1 46 (.istore_n 3) := vm_dD b_X_ahead_0 24 rfl rfl
theorem d_X_ahead_46 : vm_D q_X_ahead.2.1 46 1 47 (.iload_n 3) := vm_dD b_X_ahead_0 25 rfl rfl
theorem d_X_ahead_47 : vm_D q_X_ahead.2.1 47 1 48 (.aload_n 0) := vm_dD b_X_ahead_0 26 rfl rfl
theorem d_X_ahead_48 : vm_D q_X_ahead.2.1 48 3 51 (.getfield 36) := vm_dD b_X_ahead_0 27 rfl rfl
theorem d_X_ahead_51 : vm_D q_X_ahead.2.1 51 3 54 (.getfield 102) := vm_dD b_X_ahead_0 28 rfl rfl
theorem d_X_ahead_54 : vm_B q_X_ahead.2.1 54 57 78 (fun o => .if_icmp .ge o) := ⟨24, vm_db b_X_ahead_0 (i := 29) rfl, rfl, by decide⟩
theorem d_X_ahead_57 : vm_D q_X_ahead.2.1 57 1 58 (.aload_n 0) := vm_dD b_X_ahead_0 30 rfl rfl
theorem d_X_ahead_58 : vm_D q_X_ahead.2.1 58 3 61 (.getfield 40) := vm_dD b_X_ahead_0 31 rfl rfl
theorem d_X_ahead_61 : vm_D q_X_ahead.2.1 61 1 62 (.aload_n 0) := vm_dD b_X_ahead_0 32 rfl rfl
theorem d_X_ahead_62 : vm_D q_X_ahead.2.1 62 3 65 (.getfield 36) := vm_dD b_X_ahead_0 33 rfl rfl
theorem d_X_ahead_65 : vm_D q_X_ahead.2.1 65 1 66 (.iload_n 3) := vm_dD b_X_ahead_0 34 rfl rfl
theorem d_X_ahead_66 : vm_D q_X_ahead.2.1 66 3 69 (.invokevirtual 106) := vm_dD b_X_ahead_0 35 rfl rfl
theorem d_X_ahead_69 : vm_D q_X_ahead.2.1 69 3 72 (.invokevirtual 119) := vm_dD b_X_ahead_0 36 rfl rfl
theorem d_X_ahead_72 : vm_D q_X_ahead.2.1 72 3 75 (.iinc 3 1) := vm_dD b_X_ahead_0 37 rfl rfl
theorem d_X_ahead_75 : ∃ off : Int, decode q_X_ahead.2.1 75 = .ok (.goto off, 3) ∧ ((75 : Nat) : Int) + off = ((46 : Nat) : Int) := ⟨-29, vm_db b_X_ahead_0 (i := 38) rfl, by decide⟩
theorem d_X_ahead_78 : vm_D q_X_ahead.2.1 78 1 79 (.aload_n 0) := vm_dD b_X_ahead_0 39 rfl rfl
theorem d_X_ahead_79 : vm_D q_X_ahead.2.1 79 3 82 (.getfield 40) := vm_dD b_X_ahead_0 40 rfl rfl
theorem d_X_ahead_82 : vm_D q_X_ahead.2.1 82 1 83 (.aload_n 0) := vm_dD b_X_ahead_0 41 rfl rfl
theorem d_X_ahead_83 : vm_D q_X_ahead.2.1 83 3 86 (.getfield 19) := vm_dD b_X_ahead_0 42 rfl rfl
theorem d_X_ahead_86 : vm_D q_X_ahead.2.1 86 3 89 (.invokevirtual 155) := vm_dD b_X_ahead_0 43 rfl rfl
theorem d_X_ahead_89 : vm_D q_X_ahead.2.1 89 1 90 (.iconst (-1)) := vm_dD b_X_ahead_0 44 rfl rfl
theorem d_X_ahead_90 : vm_B q_X_ahead.2.1 90 93 99 (fun o => .if_icmp .ne o) := ⟨9, vm_db b_X_ahead_0 (i := 45) rfl, rfl, by decide⟩
theorem d_X_ahead_99 : vm_D q_X_ahead.2.1 99 3 102 (.iinc 2 1) := vm_dD b_X_ahead_0 52 rfl rfl
theorem d_X_ahead_102 : ∃ off : Int, decode q_X_ahead.2.1 102 = .ok (.goto off, 3) ∧ ((102 : Nat) : Int) + off = ((18 : Nat) : Int) := ⟨-84, vm_db b_X_ahead_0 (i := 53) rfl, by decide⟩
theorem d_X_ahead_93 : vm_D q_X_ahead.2.1 93 1 94 (.iload_n 1) := vm_dD b_X_ahead_0 46 rfl rfl
theorem d_X_ahead_94 : vm_D q_X_ahead.2.1 94 1 95 (.iconst 1) := vm_dD b_X_ahead_0 47 rfl rfl
theorem d_X_ahead_95 : vm_D q_X_ahead.2.1 95 1 96 (.iload_n 2) := vm_dD b_X_ahead_0 48 rfl rfl
theorem d_X_ahead_96 : vm_D q_X_ahead.2.1 96 1 97 (.ishl) := vm_dD b_X_ahead_0 49 rfl rfl
theorem d_X_ahead_97 : vm_D q_X_ahead.2.1 97 1 98 (.ior) := vm_dD b_X_ahead_0 50 rfl rfl
theorem d_X_ahead_98 : vm_D q_X_ahead.2.1 98 1 99 (.istore_n 1) := vm_dD b_X_ahead_0 51 rfl rfl
theorem d_X_ahead_105 : vm_D q_X_ahead.2.1 105 1 106 (.iload_n 1) := vm_dD b_X_ahead_0 54 rfl rfl
theorem d_X_ahead_106 : vm_D q_X_ahead.2.1 106 1 107 (.ireturn) := vm_dD b_X_ahead_0 55 rfl rfl
theorem d_X_ahead_12 : vm_D q_X_ahead.2.1 12 1 13 (.iconst 0) := vm_dD b_X_ahead_0 5 rfl rfl
theorem d_X_ahead_13 : vm_D q_X_ahead.2.1 13 1 14 (.ireturn) := vm_dD b_X_ahead_0 6 rfl rfl
def q_X_further : vm_Y := ("RepeatFree", cX10_further, 2, false, [])
def t_X_further_0 : List (Nat × Instr × Nat) := [(0, .bipush 20, 2), (2, .bipush 64, 2), (4, .aload_n 0, 1), (5, .getfield 36, 3), (8, .getfield 102, 3), (11, .isub, 1), (12, .invokestatic 233, 3), (15, .istore_n 1, 1), (16, .iload_n 1, 1), (17, .ifCond .le 18, 3), (20, .aload_n 0, 1), (21, .getfield 36, 3), (24, .aload_n 0, 1), (25, .getfield 19, 3), (28, .invokevirtual 155, 3), (31, .iconst (-1), 1), (32, .if_icmp .eq 5, 3), (35, .iconst 0, 1), (36, .ireturn, 1), (37, .aload_n 0, 1), (38, .getfield 46, 3), (41, .aload_n 0, 1), (42, .getfield 19, 3), (45, .invokevirtual 236, 3), (48, .aload_n 0, 1), (49, .getfield 46, 3), (52, .aload_n 0, 1), (53, .getfield 36, 3), (56, .aload_n 0, 1), (57, .getfield 36, 3), (60, .getfield 102, 3), (63, .aload_n 0, 1), (64, .getfield 36, 3), (67, .getfield 102, 3), (70, .aload_n 0, 1), (71, .getfield 36, 3), (74, .getfield 102, 3), (77, .iload_n 1, 1), (78, .iadd, 1), (79, .invokevirtual 240, 3), (82, .aload_n 0, 1), (83, .getfield 46, 3), (86, .invokevirtual 244, 3), (89, .ireturn, 1)]
theorem b_X_further_0 : (t_X_further_0.all fun q => decide (decode q_X_further.2.1 q.1 = .ok (q.2.1, q.2.2))) = true := by decide +kernel
theorem d_X_further_0 : vm_D q_X_further.2.1 0 2 2 (.bipush 20) := vm_dD b_X_further_0 0 rfl rfl
theorem d_X_further_2 : vm_D q_X_further.2.1 2 2 4 (.bipush 64) := vm_dD b_X_further_0 1 rfl rfl
theorem d_X_further_4 : vm_D q_X_further.2.1 4 1 5 (.aload_n 0) := vm_dD b_X_further_0 2 rfl rfl
theorem d_X_further_5 : vm_D q_X_further.2.1 5 3 8 (.getfield 36) := vm_dD b_X_further_0 3 rfl rfl
theorem d_X_further_8 : vm_D q_X_further.2.1 8 3 11 (.getfield 102) := vm_dD b_X_further_0 4 rfl rfl
theorem d_X_further_11 : vm_D q_X_further.2.1 11 1 12 (.isub) := vm_dD b_X_further_0 5 rfl rfl
theorem d_X_further_12 : vm_D q_X_further.2.1 12 3 15 (.invokestatic 233) := vm_dD b_X_further_0 6 rfl rfl
theorem d_X_further_15 : vm_D q_X_further.2.1 15 1 16 (.istore_n 1) := vm_dD b_X_further_0 7 rfl rfl
theorem d_X_further_16 : vm_D q_X_further.2.1 16 1 17 (.iload_n 1) := vm_dD b_X_further_0 8 rfl rfl
theorem d_X_further_17 : vm_B q_X_further.2.1 17 20 35 (fun o => .ifCond .le o) := ⟨18, vm_db b_X_further_0 (i := 9) rfl, rfl, by decide⟩
theorem d_X_further_35 : vm_D q_X_further.2.1 35 1 36 (.iconst 0) := vm_dD b_X_further_0 17 rfl rfl
theorem d_X_further_36 : vm_D q_X_further.2.1 36 1 37 (.ireturn) := vm_dD b_X_further_0 18 rfl rfl
theorem d_X_further_20 : vm_D q_X_further.2.1 20 1 21 (.aload_n 0) := vm_dD b_X_further_0 10 rfl rfl
theorem d_X_further_21 : vm_D q_X_further.2.1 21 3 24 (.getfield 36) := vm_dD b_X_further_0 11 rfl rfl
theorem d_X_further_24 : vm_D q_X_further.2.1 24 1 25 (.aload_n 0) := vm_dD b_X_further_0 12 rfl rfl
theorem d_X_further_25 : vm_D q_X_further.2.1 25 3 28 (.getfield 19) := vm_dD b_X_further_0 13 rfl rfl
theorem d_X_further_28 : vm_D q_X_further.2.1 28 3 31 (.invokevirtual 155) := vm_dD b_X_further_0 14 rfl rfl
theorem d_X_further_31 : vm_D q_X_further.2.1 31 1 32 (.iconst (-1)) := vm_dD b_X_further_0 15 rfl rfl
theorem d_X_further_32 : vm_B q_X_further.2.1 32 35 37 (fun o => .if_icmp .eq o) := ⟨5, vm_db b_X_further_0 (i := 16) rfl, rfl, by decide⟩
theorem d_X_further_37 : vm_D q_X_further.2.1 37 1 38 (.aload_n 0) := vm_dD b_X_further_0 19 rfl rfl
theorem d_X_further_38 : vm_D q_X_further.2.1 38 3 41 (.getfield 46) := vm_dD b_X_further_0 20 rfl rfl
theorem d_X_further_41 : vm_D q_X_further.2.1 41 1 42 (.aload_n 0) := vm_dD b_X_further_0 21 rfl rfl
theorem d_X_further_42 : vm_D q_X_further.2.1 42 3 45 (.getfield 19) := vm_dD b_X_further_0 22 rfl rfl
theorem d_X_further_45 : vm_D q_X_further.2.1 45 3 48 (.invokevirtual 236) := vm_dD b_X_further_0 23 rfl rfl
theorem d_X_further_48 : vm_D q_X_further.2.1 48 1 49 (.aload_n 0) := vm_dD b_X_further_0 24 rfl rfl
theorem d_X_further_49 : vm_D q_X_further.2.1 49 3 52 (.getfield 46) := vm_dD b_X_further_0 25 rfl rfl
theorem d_X_further_52 : vm_D q_X_further.2.1 52 1 53 (.aload_n 0) := vm_dD b_X_further_0 26 rfl rfl
theorem d_X_further_53 : vm_D q_X_further.2.1 53 3 56 (.getfield 36) := vm_dD b_X_further_0 27 rfl rfl
theorem d_X_further_56 : vm_D q_X_further.2.1 56 1 57 (.aload_n 0) := vm_dD b_X_further_0 28 rfl rfl
theorem d_X_further_57 : vm_D q_X_further.2.1 57 3 60 (.getfield 36) := vm_dD b_X_further_0 29 rfl rfl
theorem d_X_further_60 : vm_D q_X_further.2.1 60 3 63 (.getfield 102) := vm_dD b_X_further_0 30 rfl rfl
theorem d_X_further_63 : vm_D q_X_further.2.1 63 1 64 (.aload_n 0) := vm_dD b_X_further_0 31 rfl rfl
theorem d_X_further_64 : vm_D q_X_further.2.1 64 3 67 (.getfield 36) := vm_dD b_X_further_0 32 rfl rfl
theorem d_X_further_67 : vm_D q_X_further.2.1 67 3 70 (.getfield 102) := vm_dD b_X_further_0 33 rfl rfl
theorem d_X_further_70 : vm_D q_X_further.2.1 70 1 71 (.aload_n 0) := vm_dD b_X_further_0 34 rfl rfl
theorem d_X_further_71 : vm_D q_X_further.2.1 71 3 74 (.getfield 36) := vm_dD b_X_further_0 35 rfl rfl
theorem d_X_further_74 : vm_D q_X_further.2.1 74 3 77 (.getfield 102) := vm_dD b_X_further_0 36 rfl rfl
theorem d_X_further_77 : vm_D q_X_further.2.1 77 1 78 (.iload_n 1) := vm_dD b_X_further_0 37 rfl rfl
theorem d_X_further_78 : vm_D q_X_further.2.1 78 1 79 (.iadd) := vm_dD b_X_further_0 38 rfl rfl
theorem d_X_further_79 : vm_D q_X_further.2.1 79 3 82 (.invokevirtual 240) := vm_dD b_X_further_0 39 rfl rfl
theorem d_X_further_82 : vm_D q_X_further.2.1 82 1 83 (.aload_n 0) := vm_dD b_X_further_0 40 rfl rfl
theorem d_X_further_83 : vm_D q_X_further.2.1 83 3 86 (.getfield 46) := vm_dD b_X_further_0 41 rfl rfl
theorem d_X_further_86 : vm_D q_X_further.2.1 86 3 89 (.invokevirtual 244) := vm_dD b_X_further_0 42 rfl rfl
theorem d_X_further_89 : vm_D q_X_further.2.1 89 1 90 (.ireturn) := vm_dD b_X_further_0 43 rfl rfl
def q_X_longest : vm_Y := ("RepeatFree", cX10_longest, 1, false, [])
def t_X_longest_0 : List (Nat × Instr × Nat) := [(0, .aload_n 0, 1), (1, .getfield 46, 3), (4, .aload_n 0, 1), (5, .getfield 19, 3), (8, .invokevirtual 236, 3), (11, .aload_n 0, 1), (12, .getfield 46, 3), (15, .aload_n 0, 1), (16, .getfield 36, 3), (19, .iconst 0, 1), (20, .iconst 0, 1), (21, .bipush 40, 2), (23, .invokevirtual 240, 3), (26, .aload_n 0, 1), (27, .getfield 46, 3), (30, .invokevirtual 244, 3), (33, .ireturn, 1)]
theorem b_X_longest_0 : (t_X_longest_0.all fun q => decide (decode q_X_longest.2.1 q.1 = .ok (q.2.1, q.2.2))) = true := by decide +kernel
theorem d_X_longest_0 : vm_D q_X_longest.2.1 0 1 1 (.aload_n 0) := vm_dD b_X_longest_0 0 rfl rfl
theorem d_X_longest_1 : vm_D q_X_longest.2.1 1 3 4 (.getfield 46) := vm_dD b_X_longest_0 1 rfl rfl
theorem d_X_longest_4 : vm_D q_X_longest.2.1 4 1 5 (.aload_n 0) := vm_dD b_X_longest_0 2 rfl rfl
theorem d_X_longest_5 : vm_D q_X_longest.2.1 5 3 8 (.getfield 19) := vm_dD b_X_longest_0 3 rfl rfl
theorem d_X_longest_8 : vm_D q_X_longest.2.1 8 3 11 (.invokevirtual 236) := vm_dD b_X_longest_0 4 rfl rfl
theorem d_X_longest_11 : vm_D q_X_longest.2.1 11 1 12 (.aload_n 0) := vm_dD b_X_longest_0 5 rfl rfl
theorem d_X_longest_12 : vm_D q_X_longest.2.1 12 3 15 (.getfield 46) := vm_dD b_X_longest_0 6 rfl rfl
theorem d_X_longest_15 : vm_D q_X_longest.2.1 15 1 16 (.aload_n 0) := vm_dD b_X_longest_0 7 rfl rfl
theorem d_X_longest_16 : vm_D q_X_longest.2.1 16 3 19 (.getfield 36) := vm_dD b_X_longest_0 8 rfl rfl
theorem d_X_longest_19 : vm_D q_X_longest.2.1 19 1 20 (.iconst 0) := vm_dD b_X_longest_0 9 rfl rfl
theorem d_X_longest_20 : vm_D q_X_longest.2.1 20 1 21 (.iconst 0) := vm_dD b_X_longest_0 10 rfl rfl
theorem d_X_longest_21 : vm_D q_X_longest.2.1 21 2 23 (.bipush 40) := vm_dD b_X_longest_0 11 rfl rfl
theorem d_X_longest_23 : vm_D q_X_longest.2.1 23 3 26 (.invokevirtual 240) := vm_dD b_X_longest_0 12 rfl rfl
theorem d_X_longest_26 : vm_D q_X_longest.2.1 26 1 27 (.aload_n 0) := vm_dD b_X_longest_0 13 rfl rfl
theorem d_X_longest_27 : vm_D q_X_longest.2.1 27 3 30 (.getfield 46) := vm_dD b_X_longest_0 14 rfl rfl
theorem d_X_longest_30 : vm_D q_X_longest.2.1 30 3 33 (.invokevirtual 244) := vm_dD b_X_longest_0 15 rfl rfl
theorem d_X_longest_33 : vm_D q_X_longest.2.1 33 1 34 (.ireturn) := vm_dD b_X_longest_0 16 rfl rfl
def q_X_becomeNth : vm_Y := ("RepeatFree", cX10_becomeNth, 5, false, [])
def t_X_becomeNth_0 : List (Nat × Instr × Nat) := [(0, .aload_n 0, 1), (1, .getfield 46, 3), (4, .aload_n 0, 1), (5, .getfield 19, 3), (8, .invokevirtual 236, 3), (11, .aload_n 0, 1), (12, .getfield 46, 3), (15, .aload_n 0, 1), (16, .getfield 36, 3), (19, .iconst 0, 1), (20, .iconst 0, 1), (21, .iload_n 1, 1), (22, .invokevirtual 240, 3), (25, .aload_n 0, 1), (26, .getfield 46, 3), (29, .invokevirtual 250, 3), (32, .istore_n 3, 1), (33, .iconst 0, 1), (34, .istore 4, 2), (36, .iload 4, 2), (38, .iload_n 2, 1), (39, .if_icmp .ge 30, 3), (42, .iload 4, 2), (44, .sipush 5000, 3), (47, .if_icmp .ge 22, 3), (50, .iload_n 3, 1), (51, .iconst 1, 1), (52, .if_icmp .ne 17, 3), (55, .aload_n 0, 1), (56, .getfield 46, 3), (59, .invokevirtual 250, 3), (62, .istore_n 3, 1), (63, .iinc 4 1, 3), (66, .goto (-30), 3), (69, .iload_n 3, 1), (70, .iconst 1, 1), (71, .if_icmp .eq 5, 3), (74, .iload_n 3, 1), (75, .ireturn, 1), (76, .aload_n 0, 1), (77, .aload_n 0, 1), (78, .getfield 46, 3), (81, .getfield 253, 3), (84, .invokevirtual 98, 3), (87, .aload_n 0, 1), (88, .getfield 46, 3), (91, .getfield 256, 3), (94, .ireturn, 1)]
theorem b_X_becomeNth_0 : (t_X_becomeNth_0.all fun q => decide (decode q_X_becomeNth.2.1 q.1 = .ok (q.2.1, q.2.2))) = true := by decide +kernel
theorem d_X_becomeNth_0 : vm_D q_X_becomeNth.2.1 0 1 1 (.aload_n 0) := vm_dD b_X_becomeNth_0 0 rfl rfl
theorem d_X_becomeNth_1 : vm_D q_X_becomeNth.2.1 1 3 4 (.getfield 46) := vm_dD b_X_becomeNth_0 1 rfl rfl
theorem d_X_becomeNth_4 : vm_D q_X_becomeNth.2.1 4 1 5 (.aload_n 0) := vm_dD b_X_becomeNth_0 2 rfl rfl
theorem d_X_becomeNth_5 : vm_D q_X_becomeNth.2.1 5 3 8 (.getfield 19) := vm_dD b_X_becomeNth_0 3 rfl rfl
theorem d_X_becomeNth_8 : vm_D q_X_becomeNth.2.1 8 3 11 (.invokevirtual 236) := vm_dD b_X_becomeNth_0 4 rfl rfl
theorem d_X_becomeNth_11 : vm_D q_X_becomeNth.2.1 11 1 12 (.aload_n 0) := vm_dD b_X_becomeNth_0 5 rfl rfl
theorem d_X_becomeNth_12 : vm_D q_X_becomeNth.2.1 12 3 15 (.getfield 46) := vm_dD b_X_becomeNth_0 6 rfl rfl
theorem d_X_becomeNth_15 : vm_D q_X_becomeNth.2.1 15 1 16 (.aload_n 0) := vm_dD b_X_becomeNth_0 7 rfl rfl
theorem d_X_becomeNth_16 : vm_D q_X_becomeNth.2.1 16 3 19 (.getfield 36) := vm_dD b_X_becomeNth_0 8 rfl rfl
theorem d_X_becomeNth_19 : vm_D q_X_becomeNth.2.1 19 1 20 (.iconst 0) := vm_dD b_X_becomeNth_0 9 rfl rfl
theorem d_X_becomeNth_20 : vm_D q_X_becomeNth.2.1 20 1 21 (.iconst 0) := vm_dD b_X_becomeNth_0 10 rfl rfl
theorem d_X_becomeNth_21 : vm_D q_X_becomeNth.2.1 21 1 22 (.iload_n 1) := vm_dD b_X_becomeNth_0 11 rfl rfl
theorem d_X_becomeNth_22 : vm_D q_X_becomeNth.2.1 22 3 25 (.invokevirtual 240) := vm_dD b_X_becomeNth_0 12 rfl rfl
theorem d_X_becomeNth_25 : vm_D q_X_becomeNth.2.1 25 1 26 (.aload_n 0) := vm_dD b_X_becomeNth_0 13 rfl rfl
theorem d_X_becomeNth_26 : vm_D q_X_becomeNth.2.1 26 3 29 (.getfield 46) := vm_dD b_X_becomeNth_0 14 rfl rfl
theorem d_X_becomeNth_29 : vm_D q_X_becomeNth.2.1 29 3 32 (.invokevirtual 250) := vm_dD b_X_becomeNth_0 15 rfl rfl
theorem d_X_becomeNth_32 : vm_D q_X_becomeNth.2.1 32 1 33 (.istore_n 3) := vm_dD b_X_becomeNth_0 16 rfl rfl
theorem d_X_becomeNth_33 : vm_D q_X_becomeNth.2.1 33 1 34 (.iconst 0) := vm_dD b_X_becomeNth_0 17 rfl rfl
theorem d_X_becomeNth_34 : vm_D q_X_becomeNth.2.1 34 2 36 (.istore 4) := vm_dD b_X_becomeNth_0 18 rfl rfl
theorem d_X_becomeNth_36 : vm_D q_X_becomeNth.2.1 36 2 38 (.iload 4) := vm_dD b_X_becomeNth_0 19 rfl rfl
theorem d_X_becomeNth_38 : vm_D q_X_becomeNth.2.1 38 1 39 (.iload_n 2) := vm_dD b_X_becomeNth_0 20 rfl rfl
theorem d_X_becomeNth_39 : vm_B q_X_becomeNth.2.1 39 42 69 (fun o => .if_icmp .ge o) := ⟨30, vm_db b_X_becomeNth_0 (i := 21) rfl, rfl, by decide⟩
theorem d_X_becomeNth_42 : vm_D q_X_becomeNth.2.1 42 2 44 (.iload 4) := vm_dD b_X_becomeNth_0 22 rfl rfl
theorem d_X_becomeNth_44 : vm_D q_X_becomeNth.2.1 44 3 47 (.sipush 5000) := vm_dD b_X_becomeNth_0 23 rfl rfl
theorem d_X_becomeNth_47 : vm_B q_X_becomeNth.2.1 47 50 69 (fun o => .if_icmp .ge o) := ⟨22, vm_db b_X_becomeNth_0 (i := 24) rfl, rfl, by decide⟩
theorem d_X_becomeNth_50 : vm_D q_X_becomeNth.2.1 50 1 51 (.iload_n 3) := vm_dD b_X_becomeNth_0 25 rfl rfl
theorem d_X_becomeNth_51 : vm_D q_X_becomeNth.2.1 51 1 52 (.iconst 1) := vm_dD b_X_becomeNth_0 26 rfl rfl
theorem d_X_becomeNth_52 : vm_B q_X_becomeNth.2.1 52 55 69 (fun o => .if_icmp .ne o) := ⟨17, vm_db b_X_becomeNth_0 (i := 27) rfl, rfl, by decide⟩
theorem d_X_becomeNth_55 : vm_D q_X_becomeNth.2.1 55 1 56 (.aload_n 0) := vm_dD b_X_becomeNth_0 28 rfl rfl
theorem d_X_becomeNth_56 : vm_D q_X_becomeNth.2.1 56 3 59 (.getfield 46) := vm_dD b_X_becomeNth_0 29 rfl rfl
theorem d_X_becomeNth_59 : vm_D q_X_becomeNth.2.1 59 3 62 (.invokevirtual 250) := vm_dD b_X_becomeNth_0 30 rfl rfl
theorem d_X_becomeNth_62 : vm_D q_X_becomeNth.2.1 62 1 63 (.istore_n 3) := vm_dD b_X_becomeNth_0 31 rfl rfl
theorem d_X_becomeNth_63 : vm_D q_X_becomeNth.2.1 63 3 66 (.iinc 4 1) := vm_dD b_X_becomeNth_0 32 rfl rfl
theorem d_X_becomeNth_66 : ∃ off : Int, decode q_X_becomeNth.2.1 66 = .ok (.goto off, 3) ∧ ((66 : Nat) : Int) + off = ((36 : Nat) : Int) := ⟨-30, vm_db b_X_becomeNth_0 (i := 33) rfl, by decide⟩
theorem d_X_becomeNth_69 : vm_D q_X_becomeNth.2.1 69 1 70 (.iload_n 3) := vm_dD b_X_becomeNth_0 34 rfl rfl
theorem d_X_becomeNth_70 : vm_D q_X_becomeNth.2.1 70 1 71 (.iconst 1) := vm_dD b_X_becomeNth_0 35 rfl rfl
theorem d_X_becomeNth_71 : vm_B q_X_becomeNth.2.1 71 74 76 (fun o => .if_icmp .eq o) := ⟨5, vm_db b_X_becomeNth_0 (i := 36) rfl, rfl, by decide⟩
theorem d_X_becomeNth_76 : vm_D q_X_becomeNth.2.1 76 1 77 (.aload_n 0) := vm_dD b_X_becomeNth_0 39 rfl rfl
theorem d_X_becomeNth_77 : vm_D q_X_becomeNth.2.1 77 1 78 (.aload_n 0) := vm_dD b_X_becomeNth_0 40 rfl rfl
theorem d_X_becomeNth_78 : vm_D q_X_becomeNth.2.1 78 3 81 (.getfield 46) := vm_dD b_X_becomeNth_0 41 rfl rfl
theorem d_X_becomeNth_81 : vm_D q_X_becomeNth.2.1 81 3 84 (.getfield 253) := vm_dD b_X_becomeNth_0 42 rfl rfl
theorem d_X_becomeNth_84 : vm_D q_X_becomeNth.2.1 84 3 87 (.invokevirtual 98) := vm_dD b_X_becomeNth_0 43 rfl rfl
theorem d_X_becomeNth_87 : vm_D q_X_becomeNth.2.1 87 1 88 (.aload_n 0) := vm_dD b_X_becomeNth_0 44 rfl rfl
theorem d_X_becomeNth_88 : vm_D q_X_becomeNth.2.1 88 3 91 (.getfield 46) := vm_dD b_X_becomeNth_0 45 rfl rfl
theorem d_X_becomeNth_91 : vm_D q_X_becomeNth.2.1 91 3 94 (.getfield 256) := vm_dD b_X_becomeNth_0 46 rfl rfl
theorem d_X_becomeNth_94 : vm_D q_X_becomeNth.2.1 94 1 95 (.ireturn) := vm_dD b_X_becomeNth_0 47 rfl rfl
theorem d_X_becomeNth_74 : vm_D q_X_becomeNth.2.1 74 1 75 (.iload_n 3) := vm_dD b_X_becomeNth_0 37 rfl rfl
theorem d_X_becomeNth_75 : vm_D q_X_becomeNth.2.1 75 1 76 (.ireturn) := vm_dD b_X_becomeNth_0 38 rfl rfl
def q_X_first : vm_Y := ("RepeatFree", cX10_first, 2, false, [])
def t_X_first_0 : List (Nat × Instr × Nat) := [(0, .aload_n 0, 1), (1, .iload_n 1, 1), (2, .iconst 1, 1), (3, .bipush 40, 2), (5, .invokevirtual 173, 3), (8, .aload_n 0, 1), (9, .iload_n 1, 1), (10, .iconst 0, 1), (11, .invokevirtual 247, 3), (14, .ireturn, 1)]
theorem b_X_first_0 : (t_X_first_0.all fun q => decide (decode q_X_first.2.1 q.1 = .ok (q.2.1, q.2.2))) = true := by decide +kernel
theorem d_X_first_0 : vm_D q_X_first.2.1 0 1 1 (.aload_n 0) := vm_dD b_X_first_0 0 rfl rfl
theorem d_X_first_1 : vm_D q_X_first.2.1 1 1 2 (.iload_n 1) := vm_dD b_X_first_0 1 rfl rfl
theorem d_X_first_2 : vm_D q_X_first.2.1 2 1 3 (.iconst 1) := vm_dD b_X_first_0 2 rfl rfl
theorem d_X_first_3 : vm_D q_X_first.2.1 3 2 5 (.bipush 40) := vm_dD b_X_first_0 3 rfl rfl
theorem d_X_first_5 : vm_D q_X_first.2.1 5 3 8 (.invokevirtual 173) := vm_dD b_X_first_0 4 rfl rfl
theorem d_X_first_8 : vm_D q_X_first.2.1 8 1 9 (.aload_n 0) := vm_dD b_X_first_0 5 rfl rfl
theorem d_X_first_9 : vm_D q_X_first.2.1 9 1 10 (.iload_n 1) := vm_dD b_X_first_0 6 rfl rfl
theorem d_X_first_10 : vm_D q_X_first.2.1 10 1 11 (.iconst 0) := vm_dD b_X_first_0 7 rfl rfl
theorem d_X_first_11 : vm_D q_X_first.2.1 11 3 14 (.invokevirtual 247) := vm_dD b_X_first_0 8 rfl rfl
theorem d_X_first_14 : vm_D q_X_first.2.1 14 1 15 (.ireturn) := vm_dD b_X_first_0 9 rfl rfl
def q_X_nth : vm_Y := ("RepeatFree", cX10_nth, 3, false, [])
def t_X_nth_0 : List (Nat × Instr × Nat) := [(0, .aload_n 0, 1), (1, .iload_n 1, 1), (2, .iconst 1, 1), (3, .bipush 40, 2), (5, .invokevirtual 173, 3), (8, .iload_n 2, 1), (9, .ifCond .ge 11, 3), (12, .new 84, 3), (15, .dup, 1), (16, .invokespecial 86, 3), (19, .athrow, 1), (20, .aload_n 0, 1), (21, .iload_n 1, 1), (22, .iload_n 2, 1), (23, .invokevirtual 247, 3), (26, .ireturn, 1)]
theorem b_X_nth_0 : (t_X_nth_0.all fun q => decide (decode q_X_nth.2.1 q.1 = .ok (q.2.1, q.2.2))) = true := by decide +kernel
theorem d_X_nth_0 : vm_D q_X_nth.2.1 0 1 1 (.aload_n 0) := vm_dD b_X_nth_0 0 rfl rfl
theorem d_X_nth_1 : vm_D q_X_nth.2.1 1 1 2 (.iload_n 1) := vm_dD b_X_nth_0 1 rfl rfl
theorem d_X_nth_2 : vm_D q_X_nth.2.1 2 1 3 (.iconst 1) := vm_dD b_X_nth_0 2 rfl rfl
theorem d_X_nth_3 : vm_D q_X_nth.2.1 3 2 5 (.bipush 40) := vm_dD b_X_nth_0 3 rfl rfl
theorem d_X_nth_5 : vm_D q_X_nth.2.1 5 3 8 (.invokevirtual 173) := vm_dD b_X_nth_0 4 rfl rfl
theorem d_X_nth_8 : vm_D q_X_nth.2.1 8 1 9 (.iload_n 2) := vm_dD b_X_nth_0 5 rfl rfl
theorem d_X_nth_9 : vm_B q_X_nth.2.1 9 12 20 (fun o => .ifCond .ge o) := ⟨11, vm_db b_X_nth_0 (i := 6) rfl, rfl, by decide⟩
theorem d_X_nth_20 : vm_D q_X_nth.2.1 20 1 21 (.aload_n 0) := vm_dD b_X_nth_0 11 rfl rfl
theorem d_X_nth_21 : vm_D q_X_nth.2.1 21 1 22 (.iload_n 1) := vm_dD b_X_nth_0 12 rfl rfl
theorem d_X_nth_22 : vm_D q_X_nth.2.1 22 1 23 (.iload_n 2) := vm_dD b_X_nth_0 13 rfl rfl
theorem d_X_nth_23 : vm_D q_X_nth.2.1 23 3 26 (.invokevirtual 247) := vm_dD b_X_nth_0 14 rfl rfl
theorem d_X_nth_26 : vm_D q_X_nth.2.1 26 1 27 (.ireturn) := vm_dD b_X_nth_0 15 rfl rfl
theorem d_X_nth_12 : vm_D q_X_nth.2.1 12 3 15 (.new 84) := vm_dD b_X_nth_0 7 rfl rfl
theorem d_X_nth_15 : vm_D q_X_nth.2.1 15 1 16 (.dup) := vm_dD b_X_nth_0 8 rfl rfl
theorem d_X_nth_16 : vm_D q_X_nth.2.1 16 3 19 (.invokespecial 86) := vm_dD b_X_nth_0 9 rfl rfl
theorem d_X_nth_19 : vm_D q_X_nth.2.1 19 1 20 (.athrow) := vm_dD b_X_nth_0 10 rfl rfl
def q_X_checkSearched : vm_Y := ("RepeatFree", cX10_checkSearched, 1, false, [])
def t_X_checkSearched_0 : List (Nat × Instr × Nat) := [(0, .aload_n 0, 1), (1, .getfield 36, 3), (4, .getfield 102, 3), (7, .bipush 40, 2), (9, .if_icmp .le 11, 3), (12, .new 113, 3), (15, .dup, 1), (16, .invokespecial 115, 3), (19, .athrow, 1), (20, .return_, 1)]
theorem b_X_checkSearched_0 : (t_X_checkSearched_0.all fun q => decide (decode q_X_checkSearched.2.1 q.1 = .ok (q.2.1, q.2.2))) = true := by decide +kernel
theorem d_X_checkSearched_0 : vm_D q_X_checkSearched.2.1 0 1 1 (.aload_n 0) := vm_dD b_X_checkSearched_0 0 rfl rfl
theorem d_X_checkSearched_1 : vm_D q_X_checkSearched.2.1 1 3 4 (.getfield 36) := vm_dD b_X_checkSearched_0 1 rfl rfl
theorem d_X_checkSearched_4 : vm_D q_X_checkSearched.2.1 4 3 7 (.getfield 102) := vm_dD b_X_checkSearched_0 2 rfl rfl
theorem d_X_checkSearched_7 : vm_D q_X_checkSearched.2.1 7 2 9 (.bipush 40) := vm_dD b_X_checkSearched_0 3 rfl rfl
theorem d_X_checkSearched_9 : vm_B q_X_checkSearched.2.1 9 12 20 (fun o => .if_icmp .le o) := ⟨11, vm_db b_X_checkSearched_0 (i := 4) rfl, rfl, by decide⟩
theorem d_X_checkSearched_20 : vm_D q_X_checkSearched.2.1 20 1 21 (.return_) := vm_dD b_X_checkSearched_0 9 rfl rfl
theorem d_X_checkSearched_12 : vm_D q_X_checkSearched.2.1 12 3 15 (.new 113) := vm_dD b_X_checkSearched_0 5 rfl rfl
theorem d_X_checkSearched_15 : vm_D q_X_checkSearched.2.1 15 1 16 (.dup) := vm_dD b_X_checkSearched_0 6 rfl rfl
theorem d_X_checkSearched_16 : vm_D q_X_checkSearched.2.1 16 3 19 (.invokespecial 115) := vm_dD b_X_checkSearched_0 7 rfl rfl
theorem d_X_checkSearched_19 : vm_D q_X_checkSearched.2.1 19 1 20 (.athrow) := vm_dD b_X_checkSearched_0 8 rfl rfl
def q_X_next : vm_Y := ("RepeatFree", cX10_next, 5, false, [])
def t_X_next_0 : List (Nat × Instr × Nat) := [(0, .aload_n 0, 1), (1, .invokevirtual 259, 3), (4, .aload_n 0, 1), (5, .getfield 36, 3), (8, .getfield 102, 3), (11, .ifCond .ne 5, 3), (14, .iconst (-1), 1), (15, .ireturn, 1), (16, .aload_n 0, 1), (17, .getfield 36, 3), (20, .aload_n 0, 1), (21, .getfield 19, 3), (24, .invokevirtual 155, 3), (27, .istore_n 1, 1), (28, .iload_n 1, 1), (29, .iconst (-1), 1), (30, .if_icmp .ne 15, 3), (33, .aload_n 0, 1), (34, .getfield 36, 3), (37, .getfield 102, 3), (40, .iconst 1, 1), (41, .isub, 1), (42, .goto 4, 3), (45, .iload_n 1, 1), (46, .istore_n 2, 1), (47, .aload_n 0, 1), (48, .getfield 46, 3), (51, .aload_n 0, 1), (52, .getfield 19, 3), (55, .invokevirtual 236, 3), (58, .aload_n 0, 1), (59, .getfield 46, 3), (62, .aload_n 0, 1), (63, .getfield 36, 3), (66, .iload_n 2, 1), (67, .iconst 0, 1), (68, .aload_n 0, 1), (69, .getfield 36, 3), (72, .getfield 102, 3), (75, .invokevirtual 240, 3), (78, .aload_n 0, 1), (79, .getfield 46, 3), (82, .aload_n 0, 1), (83, .getfield 36, 3), (86, .iload_n 2, 1), (87, .invokevirtual 106, 3), (90, .iconst 1, 1), (91, .iadd, 1), (92, .putfield 262, 3), (95, .aload_n 0, 1), (96, .getfield 46, 3), (99, .invokevirtual 250, 3), (102, .istore_n 3, 1), (103, .iload_n 3, 1), (104, .iconst 1, 1), (105, .if_icmp .eq 5, 3), (108, .iload_n 3, 1), (109, .ireturn, 1), (110, .aload_n 0, 1), (111, .getfield 36, 3)]
theorem b_X_next_0 : (t_X_next_0.all fun q => decide (decode q_X_next.2.1 q.1 = .ok (q.2.1, q.2.2))) = true := by decide +kernel
def t_X_next_1 : List (Nat × Instr × Nat) := [(114, .aload_n 0, 1), (115, .getfield 46, 3), (118, .getfield 253, 3), (121, .invokevirtual 265, 3), (124, .istore 4, 2), (126, .aload_n 0, 1), (127, .aload_n 0, 1), (128, .getfield 46, 3), (131, .getfield 253, 3), (134, .invokevirtual 98, 3), (137, .iload 4, 2), (139, .ireturn, 1)]
theorem b_X_next_1 : (t_X_next_1.all fun q => decide (decode q_X_next.2.1 q.1 = .ok (q.2.1, q.2.2))) = true := by decide +kernel
theorem d_X_next_0 : vm_D q_X_next.2.1 0 1 1 (.aload_n 0) := vm_dD b_X_next_0 0 rfl rfl
theorem d_X_next_1 : vm_D q_X_next.2.1 1 3 4 (.invokevirtual 259) := vm_dD b_X_next_0 1 rfl rfl
theorem d_X_next_4 : vm_D q_X_next.2.1 4 1 5 (.aload_n 0) := vm_dD b_X_next_0 2 rfl rfl
theorem d_X_next_5 : vm_D q_X_next.2.1 5 3 8 (.getfield 36) := vm_dD b_X_next_0 3 rfl rfl
theorem d_X_next_8 : vm_D q_X_next.2.1 8 3 11 (.getfield 102) := vm_dD b_X_next_0 4 rfl rfl
theorem d_X_next_11 : vm_B q_X_next.2.1 11 14 16 (fun o => .ifCond .ne o) := ⟨5, vm_db b_X_next_0 (i := 5) rfl, rfl, by decide⟩
theorem d_X_next_16 : vm_D q_X_next.2.1 16 1 17 (.aload_n 0) := vm_dD b_X_next_0 8 rfl rfl
theorem d_X_next_17 : vm_D q_X_next.2.1 17 3 20 (.getfield 36) := vm_dD b_X_next_0 9 rfl rfl
theorem d_X_next_20 : vm_D q_X_next.2.1 20 1 21 (.aload_n 0) := vm_dD b_X_next_0 10 rfl rfl
theorem d_X_next_21 : vm_D q_X_next.2.1 21 3 24 (.getfield 19) := vm_dD b_X_next_0 11 rfl rfl
theorem d_X_next_24 : vm_D q_X_next.2.1 24 3 27 (.invokevirtual 155) := vm_dD b_X_next_0 12 rfl rfl
theorem d_X_next_27 : vm_D q_X_next.2.1 27 1 28 (.istore_n 1) := vm_dD b_X_next_0 13 rfl rfl
theorem d_X_next_28 : vm_D q_X_next.2.1 28 1 29 (.iload_n 1) := vm_dD b_X_next_0 14 rfl rfl
theorem d_X_next_29 : vm_D q_X_next.2.1 29 1 30 (.iconst (-1)) := vm_dD b_X_next_0 15 rfl rfl
theorem d_X_next_30 : vm_B q_X_next.2.1 30 33 45 (fun o => .if_icmp .ne o) := ⟨15, vm_db b_X_next_0 (i := 16) rfl, rfl, by decide⟩
theorem d_X_next_46 : vm_D q_X_next.2.1 46 1 47 (.istore_n 2) := vm_dD b_X_next_0 24 rfl rfl
theorem d_X_next_47 : vm_D q_X_next.2.1 47 1 48 (.aload_n 0) := vm_dD b_X_next_0 25 rfl rfl
theorem d_X_next_48 : vm_D q_X_next.2.1 48 3 51 (.getfield 46) := vm_dD b_X_next_0 26 rfl rfl
theorem d_X_next_51 : vm_D q_X_next.2.1 51 1 52 (.aload_n 0) := vm_dD b_X_next_0 27 rfl rfl
theorem d_X_next_52 : vm_D q_X_next.2.1 52 3 55 (.getfield 19) := vm_dD b_X_next_0 28 rfl rfl
theorem d_X_next_55 : vm_D q_X_next.2.1 55 3 58 (.invokevirtual 236) := vm_dD b_X_next_0 29 rfl rfl
theorem d_X_next_58 : vm_D q_X_next.2.1 58 1 59 (.aload_n 0) := vm_dD b_X_next_0 30 rfl rfl
theorem d_X_next_59 : vm_D q_X_next.2.1 59 3 62 (.getfield 46) := vm_dD b_X_next_0 31 rfl rfl
theorem d_X_next_62 : vm_D q_X_next.2.1 62 1 63 (.aload_n 0) := vm_dD b_X_next_0 32 rfl rfl
theorem d_X_next_63 : vm_D q_X_next.2.1 63 3 66 (.getfield 36) := vm_dD b_X_next_0 33 rfl rfl
theorem d_X_next_66 : vm_D q_X_next.2.1 66 1 67 (.iload_n 2) := vm_dD b_X_next_0 34 rfl rfl
theorem d_X_next_67 : vm_D q_X_next.2.1 67 1 68 (.iconst 0) := vm_dD b_X_next_0 35 rfl rfl
theorem d_X_next_68 : vm_D q_X_next.2.1 68 1 69 (.aload_n 0) := vm_dD b_X_next_0 36 rfl rfl
theorem d_X_next_69 : vm_D q_X_next.2.1 69 3 72 (.getfield 36) := vm_dD b_X_next_0 37 rfl rfl
theorem d_X_next_72 : vm_D q_X_next.2.1 72 3 75 (.getfield 102) := vm_dD b_X_next_0 38 rfl rfl
theorem d_X_next_75 : vm_D q_X_next.2.1 75 3 78 (.invokevirtual 240) := vm_dD b_X_next_0 39 rfl rfl
theorem d_X_next_78 : vm_D q_X_next.2.1 78 1 79 (.aload_n 0) := vm_dD b_X_next_0 40 rfl rfl
theorem d_X_next_79 : vm_D q_X_next.2.1 79 3 82 (.getfield 46) := vm_dD b_X_next_0 41 rfl rfl
theorem d_X_next_82 : vm_D q_X_next.2.1 82 1 83 (.aload_n 0) := vm_dD b_X_next_0 42 rfl rfl
theorem d_X_next_83 : vm_D q_X_next.2.1 83 3 86 (.getfield 36) := vm_dD b_X_next_0 43 rfl rfl
theorem d_X_next_86 : vm_D q_X_next.2.1 86 1 87 (.iload_n 2) := vm_dD b_X_next_0 44 rfl rfl
theorem d_X_next_87 : vm_D q_X_next.2.1 87 3 90 (.invokevirtual 106) := vm_dD b_X_next_0 45 rfl rfl
theorem d_X_next_90 : vm_D q_X_next.2.1 90 1 91 (.iconst 1) := vm_dD b_X_next_0 46 rfl rfl
theorem d_X_next_91 : vm_D q_X_next.2.1 91 1 92 (.iadd) := vm_dD b_X_next_0 47 rfl rfl
theorem d_X_next_92 : vm_D q_X_next.2.1 92 3 95 (.putfield 262) := vm_dD b_X_next_0 48 rfl rfl
theorem d_X_next_95 : vm_D q_X_next.2.1 95 1 96 (.aload_n 0) := vm_dD b_X_next_0 49 rfl rfl
theorem d_X_next_96 : vm_D q_X_next.2.1 96 3 99 (.getfield 46) := vm_dD b_X_next_0 50 rfl rfl
theorem d_X_next_99 : vm_D q_X_next.2.1 99 3 102 (.invokevirtual 250) := vm_dD b_X_next_0 51 rfl rfl
theorem d_X_next_102 : vm_D q_X_next.2.1 102 1 103 (.istore_n 3) := vm_dD b_X_next_0 52 rfl rfl
theorem d_X_next_103 : vm_D q_X_next.2.1 103 1 104 (.iload_n 3) := vm_dD b_X_next_0 53 rfl rfl
theorem d_X_next_104 : vm_D q_X_next.2.1 104 1 105 (.iconst 1) := vm_dD b_X_next_0 54 rfl rfl
theorem d_X_next_105 : vm_B q_X_next.2.1 105 108 110 (fun o => .if_icmp .eq o) := ⟨5, vm_db b_X_next_0 (i := 55) rfl, rfl, by decide⟩
theorem d_X_next_110 : vm_D q_X_next.2.1 110 1 111 (.aload_n 0) := vm_dD b_X_next_0 58 rfl rfl
theorem d_X_next_111 : vm_D q_X_next.2.1 111 3 114 (.getfield 36) := vm_dD b_X_next_0 59 rfl rfl
theorem d_X_next_114 : vm_D q_X_next.2.1 114 1 115 (.aload_n 0) := vm_dD b_X_next_1 0 rfl rfl
theorem d_X_next_115 : vm_D q_X_next.2.1 115 3 118 (.getfield 46) := vm_dD b_X_next_1 1 rfl rfl
theorem d_X_next_118 : vm_D q_X_next.2.1 118 3 121 (.getfield 253) := vm_dD b_X_next_1 2 rfl rfl
theorem d_X_next_121 : vm_D q_X_next.2.1 121 3 124 (.invokevirtual 265) := vm_dD b_X_next_1 3 rfl rfl
theorem d_X_next_124 : vm_D q_X_next.2.1 124 2 126 (.istore 4) := vm_dD b_X_next_1 4 rfl rfl
theorem d_X_next_126 : vm_D q_X_next.2.1 126 1 127 (.aload_n 0) := vm_dD b_X_next_1 5 rfl rfl
theorem d_X_next_127 : vm_D q_X_next.2.1 127 1 128 (.aload_n 0) := vm_dD b_X_next_1 6 rfl rfl
theorem d_X_next_128 : vm_D q_X_next.2.1 128 3 131 (.getfield 46) := vm_dD b_X_next_1 7 rfl rfl
theorem d_X_next_131 : vm_D q_X_next.2.1 131 3 134 (.getfield 253) := vm_dD b_X_next_1 8 rfl rfl
theorem d_X_next_134 : vm_D q_X_next.2.1 134 3 137 (.invokevirtual 98) := vm_dD b_X_next_1 9 rfl rfl
theorem d_X_next_137 : vm_D q_X_next.2.1 137 2 139 (.iload 4) := vm_dD b_X_next_1 10 rfl rfl
theorem d_X_next_139 : vm_D q_X_next.2.1 139 1 140 (.ireturn) := vm_dD b_X_next_1 11 rfl rfl
theorem d_X_next_108 : vm_D q_X_next.2.1 108 1 109 (.iload_n 3) := vm_dD b_X_next_0 56 rfl rfl
theorem d_X_next_109 : vm_D q_X_next.2.1 109 1 110 (.ireturn) := vm_dD b_X_next_0 57 rfl rfl
theorem d_X_next_45 : vm_D q_X_next.2.1 45 1 46 (.iload_n 1) := vm_dD b_X_next_0 23 rfl rfl
theorem d_X_next_33 : vm_D q_X_next.2.1 33 1 34 (.aload_n 0) := vm_dD b_X_next_0 17 rfl rfl
theorem d_X_next_34 : vm_D q_X_next.2.1 34 3 37 (.getfield 36) := vm_dD b_X_next_0 18 rfl rfl
theorem d_X_next_37 : vm_D q_X_next.2.1 37 3 40 (.getfield 102) := vm_dD b_X_next_0 19 rfl rfl
theorem d_X_next_40 : vm_D q_X_next.2.1 40 1 41 (.iconst 1) := vm_dD b_X_next_0 20 rfl rfl
theorem d_X_next_41 : vm_D q_X_next.2.1 41 1 42 (.isub) := vm_dD b_X_next_0 21 rfl rfl
theorem d_X_next_42 : ∃ off : Int, decode q_X_next.2.1 42 = .ok (.goto off, 3) ∧ ((42 : Nat) : Int) + off = ((46 : Nat) : Int) := ⟨4, vm_db b_X_next_0 (i := 22) rfl, by decide⟩
theorem d_X_next_14 : vm_D q_X_next.2.1 14 1 15 (.iconst (-1)) := vm_dD b_X_next_0 6 rfl rfl
theorem d_X_next_15 : vm_D q_X_next.2.1 15 1 16 (.ireturn) := vm_dD b_X_next_0 7 rfl rfl
def q_X_howMany : vm_Y := ("RepeatFree", cX10_howMany, 4, false, [])
def t_X_howMany_0 : List (Nat × Instr × Nat) := [(0, .iload_n 1, 1), (1, .ifCond .ne 5, 3), (4, .iconst 1, 1), (5, .ireturn, 1), (6, .aload_n 0, 1), (7, .getfield 46, 3), (10, .aload_n 0, 1), (11, .getfield 19, 3), (14, .invokevirtual 236, 3), (17, .aload_n 0, 1), (18, .getfield 46, 3), (21, .aload_n 0, 1), (22, .getfield 36, 3), (25, .iconst 0, 1), (26, .iconst 0, 1), (27, .iload_n 1, 1), (28, .invokevirtual 240, 3), (31, .iconst 0, 1), (32, .istore_n 2, 1), (33, .aload_n 0, 1), (34, .getfield 46, 3), (37, .invokevirtual 250, 3), (40, .istore_n 3, 1), (41, .iload_n 2, 1), (42, .sipush 5000, 3), (45, .if_icmp .ge 22, 3), (48, .iload_n 3, 1), (49, .iconst 1, 1), (50, .if_icmp .ne 17, 3), (53, .aload_n 0, 1), (54, .getfield 46, 3), (57, .invokevirtual 250, 3), (60, .istore_n 3, 1), (61, .iinc 2 1, 3), (64, .goto (-23), 3), (67, .iload_n 3, 1), (68, .bipush (-2), 2), (70, .if_icmp .ne 8, 3), (73, .bipush (-2), 2), (75, .goto 4, 3), (78, .iload_n 2, 1), (79, .ireturn, 1)]
theorem b_X_howMany_0 : (t_X_howMany_0.all fun q => decide (decode q_X_howMany.2.1 q.1 = .ok (q.2.1, q.2.2))) = true := by decide +kernel
theorem d_X_howMany_0 : vm_D q_X_howMany.2.1 0 1 1 (.iload_n 1) := vm_dD b_X_howMany_0 0 rfl rfl
theorem d_X_howMany_1 : vm_B q_X_howMany.2.1 1 4 6 (fun o => .ifCond .ne o) := ⟨5, vm_db b_X_howMany_0 (i := 1) rfl, rfl, by decide⟩
theorem d_X_howMany_6 : vm_D q_X_howMany.2.1 6 1 7 (.aload_n 0) := vm_dD b_X_howMany_0 4 rfl rfl
theorem d_X_howMany_7 : vm_D q_X_howMany.2.1 7 3 10 (.getfield 46) := vm_dD b_X_howMany_0 5 rfl rfl
theorem d_X_howMany_10 : vm_D q_X_howMany.2.1 10 1 11 (.aload_n 0) := vm_dD b_X_howMany_0 6 rfl rfl
theorem d_X_howMany_11 : vm_D q_X_howMany.2.1 11 3 14 (.getfield 19) := vm_dD b_X_howMany_0 7 rfl rfl
theorem d_X_howMany_14 : vm_D q_X_howMany.2.1 14 3 17 (.invokevirtual 236) := vm_dD b_X_howMany_0 8 rfl rfl
theorem d_X_howMany_17 : vm_D q_X_howMany.2.1 17 1 18 (.aload_n 0) := vm_dD b_X_howMany_0 9 rfl rfl
theorem d_X_howMany_18 : vm_D q_X_howMany.2.1 18 3 21 (.getfield 46) := vm_dD b_X_howMany_0 10 rfl rfl
theorem d_X_howMany_21 : vm_D q_X_howMany.2.1 21 1 22 (.aload_n 0) := vm_dD b_X_howMany_0 11 rfl rfl
theorem d_X_howMany_22 : vm_D q_X_howMany.2.1 22 3 25 (.getfield 36) := vm_dD b_X_howMany_0 12 rfl rfl
theorem d_X_howMany_25 : vm_D q_X_howMany.2.1 25 1 26 (.iconst 0) := vm_dD b_X_howMany_0 13 rfl rfl
theorem d_X_howMany_26 : vm_D q_X_howMany.2.1 26 1 27 (.iconst 0) := vm_dD b_X_howMany_0 14 rfl rfl
theorem d_X_howMany_27 : vm_D q_X_howMany.2.1 27 1 28 (.iload_n 1) := vm_dD b_X_howMany_0 15 rfl rfl
theorem d_X_howMany_28 : vm_D q_X_howMany.2.1 28 3 31 (.invokevirtual 240) := vm_dD b_X_howMany_0 16 rfl rfl
theorem d_X_howMany_31 : vm_D q_X_howMany.2.1 31 1 32 (.iconst 0) := vm_dD b_X_howMany_0 17 rfl rfl
theorem d_X_howMany_32 : vm_D q_X_howMany.2.1 32 1 33 (.istore_n 2) := vm_dD b_X_howMany_0 18 rfl rfl
theorem d_X_howMany_33 : vm_D q_X_howMany.2.1 33 1 34 (.aload_n 0) := vm_dD b_X_howMany_0 19 rfl rfl
theorem d_X_howMany_34 : vm_D q_X_howMany.2.1 34 3 37 (.getfield 46) := vm_dD b_X_howMany_0 20 rfl rfl
theorem d_X_howMany_37 : vm_D q_X_howMany.2.1 37 3 40 (.invokevirtual 250) := vm_dD b_X_howMany_0 21 rfl rfl
theorem d_X_howMany_40 : vm_D q_X_howMany.2.1 40 1 41 (.istore_n 3) := vm_dD b_X_howMany_0 22 rfl rfl
theorem d_X_howMany_41 : vm_D q_X_howMany.2.1 41 1 42 (.iload_n 2) := vm_dD b_X_howMany_0 23 rfl rfl
theorem d_X_howMany_42 : vm_D q_X_howMany.2.1 42 3 45 (.sipush 5000) := vm_dD b_X_howMany_0 24 rfl rfl
theorem d_X_howMany_45 : vm_B q_X_howMany.2.1 45 48 67 (fun o => .if_icmp .ge o) := ⟨22, vm_db b_X_howMany_0 (i := 25) rfl, rfl, by decide⟩
theorem d_X_howMany_48 : vm_D q_X_howMany.2.1 48 1 49 (.iload_n 3) := vm_dD b_X_howMany_0 26 rfl rfl
theorem d_X_howMany_49 : vm_D q_X_howMany.2.1 49 1 50 (.iconst 1) := vm_dD b_X_howMany_0 27 rfl rfl
theorem d_X_howMany_50 : vm_B q_X_howMany.2.1 50 53 67 (fun o => .if_icmp .ne o) := ⟨17, vm_db b_X_howMany_0 (i := 28) rfl, rfl, by decide⟩
theorem d_X_howMany_53 : vm_D q_X_howMany.2.1 53 1 54 (.aload_n 0) := vm_dD b_X_howMany_0 29 rfl rfl
theorem d_X_howMany_54 : vm_D q_X_howMany.2.1 54 3 57 (.getfield 46) := vm_dD b_X_howMany_0 30 rfl rfl
theorem d_X_howMany_57 : vm_D q_X_howMany.2.1 57 3 60 (.invokevirtual 250) := vm_dD b_X_howMany_0 31 rfl rfl
theorem d_X_howMany_60 : vm_D q_X_howMany.2.1 60 1 61 (.istore_n 3) := vm_dD b_X_howMany_0 32 rfl rfl
theorem d_X_howMany_61 : vm_D q_X_howMany.2.1 61 3 64 (.iinc 2 1) := vm_dD b_X_howMany_0 33 rfl rfl
theorem d_X_howMany_64 : ∃ off : Int, decode q_X_howMany.2.1 64 = .ok (.goto off, 3) ∧ ((64 : Nat) : Int) + off = ((41 : Nat) : Int) := ⟨-23, vm_db b_X_howMany_0 (i := 34) rfl, by decide⟩
theorem d_X_howMany_67 : vm_D q_X_howMany.2.1 67 1 68 (.iload_n 3) := vm_dD b_X_howMany_0 35 rfl rfl
theorem d_X_howMany_68 : vm_D q_X_howMany.2.1 68 2 70 (.bipush (-2)) := vm_dD b_X_howMany_0 36 rfl rfl
theorem d_X_howMany_70 : vm_B q_X_howMany.2.1 70 73 78 (fun o => .if_icmp .ne o) := ⟨8, vm_db b_X_howMany_0 (i := 37) rfl, rfl, by decide⟩
theorem d_X_howMany_78 : vm_D q_X_howMany.2.1 78 1 79 (.iload_n 2) := vm_dD b_X_howMany_0 40 rfl rfl
theorem d_X_howMany_79 : vm_D q_X_howMany.2.1 79 1 80 (.ireturn) := vm_dD b_X_howMany_0 41 rfl rfl
theorem d_X_howMany_73 : vm_D q_X_howMany.2.1 73 2 75 (.bipush (-2)) := vm_dD b_X_howMany_0 38 rfl rfl
theorem d_X_howMany_75 : ∃ off : Int, decode q_X_howMany.2.1 75 = .ok (.goto off, 3) ∧ ((75 : Nat) : Int) + off = ((79 : Nat) : Int) := ⟨4, vm_db b_X_howMany_0 (i := 39) rfl, by decide⟩
theorem d_X_howMany_4 : vm_D q_X_howMany.2.1 4 1 5 (.iconst 1) := vm_dD b_X_howMany_0 2 rfl rfl
theorem d_X_howMany_5 : vm_D q_X_howMany.2.1 5 1 6 (.ireturn) := vm_dD b_X_howMany_0 3 rfl rfl
def q_X_many : vm_Y := ("RepeatFree", cX10_many, 2, false, [])
def t_X_many_0 : List (Nat × Instr × Nat) := [(0, .aload_n 0, 1), (1, .iload_n 1, 1), (2, .iconst 0, 1), (3, .bipush 40, 2), (5, .invokevirtual 173, 3), (8, .aload_n 0, 1), (9, .iload_n 1, 1), (10, .invokevirtual 269, 3), (13, .ireturn, 1)]
theorem b_X_many_0 : (t_X_many_0.all fun q => decide (decode q_X_many.2.1 q.1 = .ok (q.2.1, q.2.2))) = true := by decide +kernel
theorem d_X_many_0 : vm_D q_X_many.2.1 0 1 1 (.aload_n 0) := vm_dD b_X_many_0 0 rfl rfl
theorem d_X_many_1 : vm_D q_X_many.2.1 1 1 2 (.iload_n 1) := vm_dD b_X_many_0 1 rfl rfl
theorem d_X_many_2 : vm_D q_X_many.2.1 2 1 3 (.iconst 0) := vm_dD b_X_many_0 2 rfl rfl
theorem d_X_many_3 : vm_D q_X_many.2.1 3 2 5 (.bipush 40) := vm_dD b_X_many_0 3 rfl rfl
theorem d_X_many_5 : vm_D q_X_many.2.1 5 3 8 (.invokevirtual 173) := vm_dD b_X_many_0 4 rfl rfl
theorem d_X_many_8 : vm_D q_X_many.2.1 8 1 9 (.aload_n 0) := vm_dD b_X_many_0 5 rfl rfl
theorem d_X_many_9 : vm_D q_X_many.2.1 9 1 10 (.iload_n 1) := vm_dD b_X_many_0 6 rfl rfl
theorem d_X_many_10 : vm_D q_X_many.2.1 10 3 13 (.invokevirtual 269) := vm_dD b_X_many_0 7 rfl rfl
theorem d_X_many_13 : vm_D q_X_many.2.1 13 1 14 (.ireturn) := vm_dD b_X_many_0 8 rfl rfl
def q_X_growth : vm_Y := ("RepeatFree", cX10_growth, 4, false, [])
def t_X_growth_0 : List (Nat × Instr × Nat) := [(0, .aload_n 0, 1), (1, .iload_n 1, 1), (2, .iconst 0, 1), (3, .bipush 39, 2), (5, .invokevirtual 173, 3), (8, .aload_n 0, 1), (9, .iload_n 1, 1), (10, .invokevirtual 269, 3), (13, .istore_n 2, 1), (14, .iload_n 2, 1), (15, .bipush (-2), 2), (17, .if_icmp .ne 6, 3), (20, .bipush (-2), 2), (22, .ireturn, 1), (23, .iload_n 2, 1), (24, .ifCond .gt 5, 3), (27, .iconst (-1), 1), (28, .ireturn, 1), (29, .aload_n 0, 1), (30, .iload_n 1, 1), (31, .iconst 1, 1), (32, .iadd, 1), (33, .invokevirtual 269, 3), (36, .istore_n 3, 1), (37, .iload_n 3, 1), (38, .bipush (-2), 2), (40, .if_icmp .ne 8, 3), (43, .bipush (-2), 2), (45, .goto 10, 3), (48, .sipush 1000, 3), (51, .iload_n 3, 1), (52, .imul, 1), (53, .iload_n 2, 1), (54, .idiv, 1), (55, .ireturn, 1)]
theorem b_X_growth_0 : (t_X_growth_0.all fun q => decide (decode q_X_growth.2.1 q.1 = .ok (q.2.1, q.2.2))) = true := by decide +kernel
theorem d_X_growth_0 : vm_D q_X_growth.2.1 0 1 1 (.aload_n 0) := vm_dD b_X_growth_0 0 rfl rfl
theorem d_X_growth_1 : vm_D q_X_growth.2.1 1 1 2 (.iload_n 1) := vm_dD b_X_growth_0 1 rfl rfl
theorem d_X_growth_2 : vm_D q_X_growth.2.1 2 1 3 (.iconst 0) := vm_dD b_X_growth_0 2 rfl rfl
theorem d_X_growth_3 : vm_D q_X_growth.2.1 3 2 5 (.bipush 39) := vm_dD b_X_growth_0 3 rfl rfl
theorem d_X_growth_5 : vm_D q_X_growth.2.1 5 3 8 (.invokevirtual 173) := vm_dD b_X_growth_0 4 rfl rfl
theorem d_X_growth_8 : vm_D q_X_growth.2.1 8 1 9 (.aload_n 0) := vm_dD b_X_growth_0 5 rfl rfl
theorem d_X_growth_9 : vm_D q_X_growth.2.1 9 1 10 (.iload_n 1) := vm_dD b_X_growth_0 6 rfl rfl
theorem d_X_growth_10 : vm_D q_X_growth.2.1 10 3 13 (.invokevirtual 269) := vm_dD b_X_growth_0 7 rfl rfl
theorem d_X_growth_13 : vm_D q_X_growth.2.1 13 1 14 (.istore_n 2) := vm_dD b_X_growth_0 8 rfl rfl
theorem d_X_growth_14 : vm_D q_X_growth.2.1 14 1 15 (.iload_n 2) := vm_dD b_X_growth_0 9 rfl rfl
theorem d_X_growth_15 : vm_D q_X_growth.2.1 15 2 17 (.bipush (-2)) := vm_dD b_X_growth_0 10 rfl rfl
theorem d_X_growth_17 : vm_B q_X_growth.2.1 17 20 23 (fun o => .if_icmp .ne o) := ⟨6, vm_db b_X_growth_0 (i := 11) rfl, rfl, by decide⟩
theorem d_X_growth_23 : vm_D q_X_growth.2.1 23 1 24 (.iload_n 2) := vm_dD b_X_growth_0 14 rfl rfl
theorem d_X_growth_24 : vm_B q_X_growth.2.1 24 27 29 (fun o => .ifCond .gt o) := ⟨5, vm_db b_X_growth_0 (i := 15) rfl, rfl, by decide⟩
theorem d_X_growth_29 : vm_D q_X_growth.2.1 29 1 30 (.aload_n 0) := vm_dD b_X_growth_0 18 rfl rfl
theorem d_X_growth_30 : vm_D q_X_growth.2.1 30 1 31 (.iload_n 1) := vm_dD b_X_growth_0 19 rfl rfl
theorem d_X_growth_31 : vm_D q_X_growth.2.1 31 1 32 (.iconst 1) := vm_dD b_X_growth_0 20 rfl rfl
theorem d_X_growth_32 : vm_D q_X_growth.2.1 32 1 33 (.iadd) := vm_dD b_X_growth_0 21 rfl rfl
theorem d_X_growth_33 : vm_D q_X_growth.2.1 33 3 36 (.invokevirtual 269) := vm_dD b_X_growth_0 22 rfl rfl
theorem d_X_growth_36 : vm_D q_X_growth.2.1 36 1 37 (.istore_n 3) := vm_dD b_X_growth_0 23 rfl rfl
theorem d_X_growth_37 : vm_D q_X_growth.2.1 37 1 38 (.iload_n 3) := vm_dD b_X_growth_0 24 rfl rfl
theorem d_X_growth_38 : vm_D q_X_growth.2.1 38 2 40 (.bipush (-2)) := vm_dD b_X_growth_0 25 rfl rfl
theorem d_X_growth_40 : vm_B q_X_growth.2.1 40 43 48 (fun o => .if_icmp .ne o) := ⟨8, vm_db b_X_growth_0 (i := 26) rfl, rfl, by decide⟩
theorem d_X_growth_48 : vm_D q_X_growth.2.1 48 3 51 (.sipush 1000) := vm_dD b_X_growth_0 29 rfl rfl
theorem d_X_growth_51 : vm_D q_X_growth.2.1 51 1 52 (.iload_n 3) := vm_dD b_X_growth_0 30 rfl rfl
theorem d_X_growth_52 : vm_D q_X_growth.2.1 52 1 53 (.imul) := vm_dD b_X_growth_0 31 rfl rfl
theorem d_X_growth_53 : vm_D q_X_growth.2.1 53 1 54 (.iload_n 2) := vm_dD b_X_growth_0 32 rfl rfl
theorem d_X_growth_54 : vm_D q_X_growth.2.1 54 1 55 (.idiv) := vm_dD b_X_growth_0 33 rfl rfl
theorem d_X_growth_55 : vm_D q_X_growth.2.1 55 1 56 (.ireturn) := vm_dD b_X_growth_0 34 rfl rfl
theorem d_X_growth_43 : vm_D q_X_growth.2.1 43 2 45 (.bipush (-2)) := vm_dD b_X_growth_0 27 rfl rfl
theorem d_X_growth_45 : ∃ off : Int, decode q_X_growth.2.1 45 = .ok (.goto off, 3) ∧ ((45 : Nat) : Int) + off = ((55 : Nat) : Int) := ⟨10, vm_db b_X_growth_0 (i := 28) rfl, by decide⟩
theorem d_X_growth_27 : vm_D q_X_growth.2.1 27 1 28 (.iconst (-1)) := vm_dD b_X_growth_0 16 rfl rfl
theorem d_X_growth_28 : vm_D q_X_growth.2.1 28 1 29 (.ireturn) := vm_dD b_X_growth_0 17 rfl rfl
theorem d_X_growth_20 : vm_D q_X_growth.2.1 20 2 22 (.bipush (-2)) := vm_dD b_X_growth_0 12 rfl rfl
theorem d_X_growth_22 : vm_D q_X_growth.2.1 22 1 23 (.ireturn) := vm_dD b_X_growth_0 13 rfl rfl
def q_X_stuck : vm_Y := ("RepeatFree", cX10_stuck, 5, false, [])
def t_X_stuck_0 : List (Nat × Instr × Nat) := [(0, .aload_n 0, 1), (1, .iload_n 1, 1), (2, .iconst 0, 1), (3, .bipush 40, 2), (5, .invokevirtual 173, 3), (8, .aload_n 0, 1), (9, .getfield 46, 3), (12, .aload_n 0, 1), (13, .getfield 19, 3), (16, .invokevirtual 236, 3), (19, .aload_n 0, 1), (20, .getfield 46, 3), (23, .aload_n 0, 1), (24, .getfield 36, 3), (27, .iconst 0, 1), (28, .iconst 0, 1), (29, .iload_n 1, 1), (30, .invokevirtual 240, 3), (33, .iload_n 1, 1), (34, .ifCond .ne 30, 3), (37, .aload_n 0, 1), (38, .getfield 46, 3), (41, .aload_n 0, 1), (42, .getfield 19, 3), (45, .aload_n 0, 1), (46, .getfield 46, 3), (49, .getfield 253, 3), (52, .invokevirtual 229, 3), (55, .ifCond .ne 7, 3), (58, .iconst 1, 1), (59, .goto 4, 3), (62, .iconst 0, 1), (63, .ireturn, 1), (64, .iconst 0, 1), (65, .istore_n 2, 1), (66, .aload_n 0, 1), (67, .getfield 46, 3), (70, .invokevirtual 250, 3), (73, .istore_n 3, 1), (74, .iconst 0, 1), (75, .istore 4, 2), (77, .iload 4, 2), (79, .sipush 5000, 3), (82, .if_icmp .ge 46, 3), (85, .iload_n 3, 1), (86, .iconst 1, 1), (87, .if_icmp .ne 41, 3), (90, .aload_n 0, 1), (91, .getfield 46, 3), (94, .aload_n 0, 1), (95, .getfield 19, 3), (98, .aload_n 0, 1), (99, .getfield 46, 3), (102, .getfield 253, 3), (105, .invokevirtual 229, 3), (108, .ifCond .ne 6, 3), (111, .iinc 2 1, 3), (114, .aload_n 0, 1), (115, .getfield 46, 3), (118, .invokevirtual 250, 3)]
theorem b_X_stuck_0 : (t_X_stuck_0.all fun q => decide (decode q_X_stuck.2.1 q.1 = .ok (q.2.1, q.2.2))) = true := by decide +kernel
def t_X_stuck_1 : List (Nat × Instr × Nat) := [(121, .istore_n 3, 1), (122, .iinc 4 1, 3), (125, .goto (-48), 3), (128, .iload_n 3, 1), (129, .bipush (-2), 2), (131, .if_icmp .ne 8, 3), (134, .bipush (-2), 2), (136, .goto 4, 3), (139, .iload_n 2, 1), (140, .ireturn, 1)]
theorem b_X_stuck_1 : (t_X_stuck_1.all fun q => decide (decode q_X_stuck.2.1 q.1 = .ok (q.2.1, q.2.2))) = true := by decide +kernel
theorem d_X_stuck_0 : vm_D q_X_stuck.2.1 0 1 1 (.aload_n 0) := vm_dD b_X_stuck_0 0 rfl rfl
theorem d_X_stuck_1 : vm_D q_X_stuck.2.1 1 1 2 (.iload_n 1) := vm_dD b_X_stuck_0 1 rfl rfl
theorem d_X_stuck_2 : vm_D q_X_stuck.2.1 2 1 3 (.iconst 0) := vm_dD b_X_stuck_0 2 rfl rfl
theorem d_X_stuck_3 : vm_D q_X_stuck.2.1 3 2 5 (.bipush 40) := vm_dD b_X_stuck_0 3 rfl rfl
theorem d_X_stuck_5 : vm_D q_X_stuck.2.1 5 3 8 (.invokevirtual 173) := vm_dD b_X_stuck_0 4 rfl rfl
theorem d_X_stuck_8 : vm_D q_X_stuck.2.1 8 1 9 (.aload_n 0) := vm_dD b_X_stuck_0 5 rfl rfl
theorem d_X_stuck_9 : vm_D q_X_stuck.2.1 9 3 12 (.getfield 46) := vm_dD b_X_stuck_0 6 rfl rfl
theorem d_X_stuck_12 : vm_D q_X_stuck.2.1 12 1 13 (.aload_n 0) := vm_dD b_X_stuck_0 7 rfl rfl
theorem d_X_stuck_13 : vm_D q_X_stuck.2.1 13 3 16 (.getfield 19) := vm_dD b_X_stuck_0 8 rfl rfl
theorem d_X_stuck_16 : vm_D q_X_stuck.2.1 16 3 19 (.invokevirtual 236) := vm_dD b_X_stuck_0 9 rfl rfl
theorem d_X_stuck_19 : vm_D q_X_stuck.2.1 19 1 20 (.aload_n 0) := vm_dD b_X_stuck_0 10 rfl rfl
theorem d_X_stuck_20 : vm_D q_X_stuck.2.1 20 3 23 (.getfield 46) := vm_dD b_X_stuck_0 11 rfl rfl
theorem d_X_stuck_23 : vm_D q_X_stuck.2.1 23 1 24 (.aload_n 0) := vm_dD b_X_stuck_0 12 rfl rfl
theorem d_X_stuck_24 : vm_D q_X_stuck.2.1 24 3 27 (.getfield 36) := vm_dD b_X_stuck_0 13 rfl rfl
theorem d_X_stuck_27 : vm_D q_X_stuck.2.1 27 1 28 (.iconst 0) := vm_dD b_X_stuck_0 14 rfl rfl
theorem d_X_stuck_28 : vm_D q_X_stuck.2.1 28 1 29 (.iconst 0) := vm_dD b_X_stuck_0 15 rfl rfl
theorem d_X_stuck_29 : vm_D q_X_stuck.2.1 29 1 30 (.iload_n 1) := vm_dD b_X_stuck_0 16 rfl rfl
theorem d_X_stuck_30 : vm_D q_X_stuck.2.1 30 3 33 (.invokevirtual 240) := vm_dD b_X_stuck_0 17 rfl rfl
theorem d_X_stuck_33 : vm_D q_X_stuck.2.1 33 1 34 (.iload_n 1) := vm_dD b_X_stuck_0 18 rfl rfl
theorem d_X_stuck_34 : vm_B q_X_stuck.2.1 34 37 64 (fun o => .ifCond .ne o) := ⟨30, vm_db b_X_stuck_0 (i := 19) rfl, rfl, by decide⟩
theorem d_X_stuck_64 : vm_D q_X_stuck.2.1 64 1 65 (.iconst 0) := vm_dD b_X_stuck_0 33 rfl rfl
theorem d_X_stuck_65 : vm_D q_X_stuck.2.1 65 1 66 (.istore_n 2) := vm_dD b_X_stuck_0 34 rfl rfl
theorem d_X_stuck_66 : vm_D q_X_stuck.2.1 66 1 67 (.aload_n 0) := vm_dD b_X_stuck_0 35 rfl rfl
theorem d_X_stuck_67 : vm_D q_X_stuck.2.1 67 3 70 (.getfield 46) := vm_dD b_X_stuck_0 36 rfl rfl
theorem d_X_stuck_70 : vm_D q_X_stuck.2.1 70 3 73 (.invokevirtual 250) := vm_dD b_X_stuck_0 37 rfl rfl
theorem d_X_stuck_73 : vm_D q_X_stuck.2.1 73 1 74 (.istore_n 3) := vm_dD b_X_stuck_0 38 rfl rfl
theorem d_X_stuck_74 : vm_D q_X_stuck.2.1 74 1 75 (.iconst 0) := vm_dD b_X_stuck_0 39 rfl rfl
theorem d_X_stuck_75 : vm_D q_X_stuck.2.1 75 2 77 (.istore 4) := vm_dD b_X_stuck_0 40 rfl rfl
theorem d_X_stuck_77 : vm_D q_X_stuck.2.1 77 2 79 (.iload 4) := vm_dD b_X_stuck_0 41 rfl rfl
theorem d_X_stuck_79 : vm_D q_X_stuck.2.1 79 3 82 (.sipush 5000) := vm_dD b_X_stuck_0 42 rfl rfl
theorem d_X_stuck_82 : vm_B q_X_stuck.2.1 82 85 128 (fun o => .if_icmp .ge o) := ⟨46, vm_db b_X_stuck_0 (i := 43) rfl, rfl, by decide⟩
theorem d_X_stuck_85 : vm_D q_X_stuck.2.1 85 1 86 (.iload_n 3) := vm_dD b_X_stuck_0 44 rfl rfl
theorem d_X_stuck_86 : vm_D q_X_stuck.2.1 86 1 87 (.iconst 1) := vm_dD b_X_stuck_0 45 rfl rfl
theorem d_X_stuck_87 : vm_B q_X_stuck.2.1 87 90 128 (fun o => .if_icmp .ne o) := ⟨41, vm_db b_X_stuck_0 (i := 46) rfl, rfl, by decide⟩
theorem d_X_stuck_90 : vm_D q_X_stuck.2.1 90 1 91 (.aload_n 0) := vm_dD b_X_stuck_0 47 rfl rfl
theorem d_X_stuck_91 : vm_D q_X_stuck.2.1 91 3 94 (.getfield 46) := vm_dD b_X_stuck_0 48 rfl rfl
theorem d_X_stuck_94 : vm_D q_X_stuck.2.1 94 1 95 (.aload_n 0) := vm_dD b_X_stuck_0 49 rfl rfl
theorem d_X_stuck_95 : vm_D q_X_stuck.2.1 95 3 98 (.getfield 19) := vm_dD b_X_stuck_0 50 rfl rfl
theorem d_X_stuck_98 : vm_D q_X_stuck.2.1 98 1 99 (.aload_n 0) := vm_dD b_X_stuck_0 51 rfl rfl
theorem d_X_stuck_99 : vm_D q_X_stuck.2.1 99 3 102 (.getfield 46) := vm_dD b_X_stuck_0 52 rfl rfl
theorem d_X_stuck_102 : vm_D q_X_stuck.2.1 102 3 105 (.getfield 253) := vm_dD b_X_stuck_0 53 rfl rfl
theorem d_X_stuck_105 : vm_D q_X_stuck.2.1 105 3 108 (.invokevirtual 229) := vm_dD b_X_stuck_0 54 rfl rfl
theorem d_X_stuck_108 : vm_B q_X_stuck.2.1 108 111 114 (fun o => .ifCond .ne o) := ⟨6, vm_db b_X_stuck_0 (i := 55) rfl, rfl, by decide⟩
theorem d_X_stuck_114 : vm_D q_X_stuck.2.1 114 1 115 (.aload_n 0) := vm_dD b_X_stuck_0 57 rfl rfl
theorem d_X_stuck_115 : vm_D q_X_stuck.2.1 115 3 118 (.getfield 46) := vm_dD b_X_stuck_0 58 rfl rfl
theorem d_X_stuck_118 : vm_D q_X_stuck.2.1 118 3 121 (.invokevirtual 250) := vm_dD b_X_stuck_0 59 rfl rfl
theorem d_X_stuck_121 : vm_D q_X_stuck.2.1 121 1 122 (.istore_n 3) := vm_dD b_X_stuck_1 0 rfl rfl
theorem d_X_stuck_122 : vm_D q_X_stuck.2.1 122 3 125 (.iinc 4 1) := vm_dD b_X_stuck_1 1 rfl rfl
theorem d_X_stuck_125 : ∃ off : Int, decode q_X_stuck.2.1 125 = .ok (.goto off, 3) ∧ ((125 : Nat) : Int) + off = ((77 : Nat) : Int) := ⟨-48, vm_db b_X_stuck_1 (i := 2) rfl, by decide⟩
theorem d_X_stuck_111 : vm_D q_X_stuck.2.1 111 3 114 (.iinc 2 1) := vm_dD b_X_stuck_0 56 rfl rfl
theorem d_X_stuck_128 : vm_D q_X_stuck.2.1 128 1 129 (.iload_n 3) := vm_dD b_X_stuck_1 3 rfl rfl
theorem d_X_stuck_129 : vm_D q_X_stuck.2.1 129 2 131 (.bipush (-2)) := vm_dD b_X_stuck_1 4 rfl rfl
theorem d_X_stuck_131 : vm_B q_X_stuck.2.1 131 134 139 (fun o => .if_icmp .ne o) := ⟨8, vm_db b_X_stuck_1 (i := 5) rfl, rfl, by decide⟩
theorem d_X_stuck_139 : vm_D q_X_stuck.2.1 139 1 140 (.iload_n 2) := vm_dD b_X_stuck_1 8 rfl rfl
theorem d_X_stuck_140 : vm_D q_X_stuck.2.1 140 1 141 (.ireturn) := vm_dD b_X_stuck_1 9 rfl rfl
theorem d_X_stuck_134 : vm_D q_X_stuck.2.1 134 2 136 (.bipush (-2)) := vm_dD b_X_stuck_1 6 rfl rfl
theorem d_X_stuck_136 : ∃ off : Int, decode q_X_stuck.2.1 136 = .ok (.goto off, 3) ∧ ((136 : Nat) : Int) + off = ((140 : Nat) : Int) := ⟨4, vm_db b_X_stuck_1 (i := 7) rfl, by decide⟩
theorem d_X_stuck_37 : vm_D q_X_stuck.2.1 37 1 38 (.aload_n 0) := vm_dD b_X_stuck_0 20 rfl rfl
theorem d_X_stuck_38 : vm_D q_X_stuck.2.1 38 3 41 (.getfield 46) := vm_dD b_X_stuck_0 21 rfl rfl
theorem d_X_stuck_41 : vm_D q_X_stuck.2.1 41 1 42 (.aload_n 0) := vm_dD b_X_stuck_0 22 rfl rfl
theorem d_X_stuck_42 : vm_D q_X_stuck.2.1 42 3 45 (.getfield 19) := vm_dD b_X_stuck_0 23 rfl rfl
theorem d_X_stuck_45 : vm_D q_X_stuck.2.1 45 1 46 (.aload_n 0) := vm_dD b_X_stuck_0 24 rfl rfl
theorem d_X_stuck_46 : vm_D q_X_stuck.2.1 46 3 49 (.getfield 46) := vm_dD b_X_stuck_0 25 rfl rfl
theorem d_X_stuck_49 : vm_D q_X_stuck.2.1 49 3 52 (.getfield 253) := vm_dD b_X_stuck_0 26 rfl rfl
theorem d_X_stuck_52 : vm_D q_X_stuck.2.1 52 3 55 (.invokevirtual 229) := vm_dD b_X_stuck_0 27 rfl rfl
theorem d_X_stuck_55 : vm_B q_X_stuck.2.1 55 58 62 (fun o => .ifCond .ne o) := ⟨7, vm_db b_X_stuck_0 (i := 28) rfl, rfl, by decide⟩
theorem d_X_stuck_62 : vm_D q_X_stuck.2.1 62 1 63 (.iconst 0) := vm_dD b_X_stuck_0 31 rfl rfl
theorem d_X_stuck_63 : vm_D q_X_stuck.2.1 63 1 64 (.ireturn) := vm_dD b_X_stuck_0 32 rfl rfl
theorem d_X_stuck_58 : vm_D q_X_stuck.2.1 58 1 59 (.iconst 1) := vm_dD b_X_stuck_0 29 rfl rfl
theorem d_X_stuck_59 : ∃ off : Int, decode q_X_stuck.2.1 59 = .ok (.goto off, 3) ∧ ((59 : Nat) : Int) + off = ((63 : Nat) : Int) := ⟨4, vm_db b_X_stuck_0 (i := 30) rfl, by decide⟩
def q_X_rank : vm_Y := ("RepeatFree", cX10_rank, 3, false, [])
def t_X_rank_0 : List (Nat × Instr × Nat) := [(0, .aload_n 0, 1), (1, .invokevirtual 259, 3), (4, .aload_n 0, 1), (5, .getfield 36, 3), (8, .getfield 102, 3), (11, .ifCond .ne 5, 3), (14, .iconst 0, 1), (15, .ireturn, 1), (16, .aload_n 0, 1), (17, .getfield 46, 3), (20, .aload_n 0, 1), (21, .getfield 19, 3), (24, .invokevirtual 236, 3), (27, .aload_n 0, 1), (28, .getfield 46, 3), (31, .aload_n 0, 1), (32, .getfield 36, 3), (35, .iconst 0, 1), (36, .iconst 0, 1), (37, .aload_n 0, 1), (38, .getfield 36, 3), (41, .getfield 102, 3), (44, .invokevirtual 240, 3), (47, .aload_n 0, 1), (48, .getfield 46, 3), (51, .invokevirtual 250, 3), (54, .istore_n 1, 1), (55, .iconst 0, 1), (56, .istore_n 2, 1), (57, .iload_n 2, 1), (58, .sipush 5000, 3), (61, .if_icmp .ge 39, 3), (64, .iload_n 1, 1), (65, .iconst 1, 1), (66, .if_icmp .ne 34, 3), (69, .aload_n 0, 1), (70, .getfield 46, 3), (73, .getfield 253, 3), (76, .aload_n 0, 1), (77, .getfield 36, 3), (80, .invokevirtual 272, 3), (83, .ifCond .eq 17, 3), (86, .aload_n 0, 1), (87, .getfield 46, 3), (90, .invokevirtual 250, 3), (93, .istore_n 1, 1), (94, .iinc 2 1, 3), (97, .goto (-40), 3), (100, .iload_n 1, 1), (101, .bipush (-2), 2), (103, .if_icmp .ne 8, 3), (106, .bipush (-2), 2), (108, .goto 4, 3), (111, .iload_n 2, 1), (112, .ireturn, 1)]
theorem b_X_rank_0 : (t_X_rank_0.all fun q => decide (decode q_X_rank.2.1 q.1 = .ok (q.2.1, q.2.2))) = true := by decide +kernel
theorem d_X_rank_0 : vm_D q_X_rank.2.1 0 1 1 (.aload_n 0) := vm_dD b_X_rank_0 0 rfl rfl
theorem d_X_rank_1 : vm_D q_X_rank.2.1 1 3 4 (.invokevirtual 259) := vm_dD b_X_rank_0 1 rfl rfl
theorem d_X_rank_4 : vm_D q_X_rank.2.1 4 1 5 (.aload_n 0) := vm_dD b_X_rank_0 2 rfl rfl
theorem d_X_rank_5 : vm_D q_X_rank.2.1 5 3 8 (.getfield 36) := vm_dD b_X_rank_0 3 rfl rfl
theorem d_X_rank_8 : vm_D q_X_rank.2.1 8 3 11 (.getfield 102) := vm_dD b_X_rank_0 4 rfl rfl
theorem d_X_rank_11 : vm_B q_X_rank.2.1 11 14 16 (fun o => .ifCond .ne o) := ⟨5, vm_db b_X_rank_0 (i := 5) rfl, rfl, by decide⟩
theorem d_X_rank_16 : vm_D q_X_rank.2.1 16 1 17 (.aload_n 0) := vm_dD b_X_rank_0 8 rfl rfl
theorem d_X_rank_17 : vm_D q_X_rank.2.1 17 3 20 (.getfield 46) := vm_dD b_X_rank_0 9 rfl rfl
theorem d_X_rank_20 : vm_D q_X_rank.2.1 20 1 21 (.aload_n 0) := vm_dD b_X_rank_0 10 rfl rfl
theorem d_X_rank_21 : vm_D q_X_rank.2.1 21 3 24 (.getfield 19) := vm_dD b_X_rank_0 11 rfl rfl
theorem d_X_rank_24 : vm_D q_X_rank.2.1 24 3 27 (.invokevirtual 236) := vm_dD b_X_rank_0 12 rfl rfl
theorem d_X_rank_27 : vm_D q_X_rank.2.1 27 1 28 (.aload_n 0) := vm_dD b_X_rank_0 13 rfl rfl
theorem d_X_rank_28 : vm_D q_X_rank.2.1 28 3 31 (.getfield 46) := vm_dD b_X_rank_0 14 rfl rfl
theorem d_X_rank_31 : vm_D q_X_rank.2.1 31 1 32 (.aload_n 0) := vm_dD b_X_rank_0 15 rfl rfl
theorem d_X_rank_32 : vm_D q_X_rank.2.1 32 3 35 (.getfield 36) := vm_dD b_X_rank_0 16 rfl rfl
theorem d_X_rank_35 : vm_D q_X_rank.2.1 35 1 36 (.iconst 0) := vm_dD b_X_rank_0 17 rfl rfl
theorem d_X_rank_36 : vm_D q_X_rank.2.1 36 1 37 (.iconst 0) := vm_dD b_X_rank_0 18 rfl rfl
theorem d_X_rank_37 : vm_D q_X_rank.2.1 37 1 38 (.aload_n 0) := vm_dD b_X_rank_0 19 rfl rfl
theorem d_X_rank_38 : vm_D q_X_rank.2.1 38 3 41 (.getfield 36) := vm_dD b_X_rank_0 20 rfl rfl
theorem d_X_rank_41 : vm_D q_X_rank.2.1 41 3 44 (.getfield 102) := vm_dD b_X_rank_0 21 rfl rfl
theorem d_X_rank_44 : vm_D q_X_rank.2.1 44 3 47 (.invokevirtual 240) := vm_dD b_X_rank_0 22 rfl rfl
theorem d_X_rank_47 : vm_D q_X_rank.2.1 47 1 48 (.aload_n 0) := vm_dD b_X_rank_0 23 rfl rfl
theorem d_X_rank_48 : vm_D q_X_rank.2.1 48 3 51 (.getfield 46) := vm_dD b_X_rank_0 24 rfl rfl
theorem d_X_rank_51 : vm_D q_X_rank.2.1 51 3 54 (.invokevirtual 250) := vm_dD b_X_rank_0 25 rfl rfl
theorem d_X_rank_54 : vm_D q_X_rank.2.1 54 1 55 (.istore_n 1) := vm_dD b_X_rank_0 26 rfl rfl
theorem d_X_rank_55 : vm_D q_X_rank.2.1 55 1 56 (.iconst 0) := vm_dD b_X_rank_0 27 rfl rfl
theorem d_X_rank_56 : vm_D q_X_rank.2.1 56 1 57 (.istore_n 2) := vm_dD b_X_rank_0 28 rfl rfl
theorem d_X_rank_57 : vm_D q_X_rank.2.1 57 1 58 (.iload_n 2) := vm_dD b_X_rank_0 29 rfl rfl
theorem d_X_rank_58 : vm_D q_X_rank.2.1 58 3 61 (.sipush 5000) := vm_dD b_X_rank_0 30 rfl rfl
theorem d_X_rank_61 : vm_B q_X_rank.2.1 61 64 100 (fun o => .if_icmp .ge o) := ⟨39, vm_db b_X_rank_0 (i := 31) rfl, rfl, by decide⟩
theorem d_X_rank_64 : vm_D q_X_rank.2.1 64 1 65 (.iload_n 1) := vm_dD b_X_rank_0 32 rfl rfl
theorem d_X_rank_65 : vm_D q_X_rank.2.1 65 1 66 (.iconst 1) := vm_dD b_X_rank_0 33 rfl rfl
theorem d_X_rank_66 : vm_B q_X_rank.2.1 66 69 100 (fun o => .if_icmp .ne o) := ⟨34, vm_db b_X_rank_0 (i := 34) rfl, rfl, by decide⟩
theorem d_X_rank_69 : vm_D q_X_rank.2.1 69 1 70 (.aload_n 0) := vm_dD b_X_rank_0 35 rfl rfl
theorem d_X_rank_70 : vm_D q_X_rank.2.1 70 3 73 (.getfield 46) := vm_dD b_X_rank_0 36 rfl rfl
theorem d_X_rank_73 : vm_D q_X_rank.2.1 73 3 76 (.getfield 253) := vm_dD b_X_rank_0 37 rfl rfl
theorem d_X_rank_76 : vm_D q_X_rank.2.1 76 1 77 (.aload_n 0) := vm_dD b_X_rank_0 38 rfl rfl
theorem d_X_rank_77 : vm_D q_X_rank.2.1 77 3 80 (.getfield 36) := vm_dD b_X_rank_0 39 rfl rfl
theorem d_X_rank_80 : vm_D q_X_rank.2.1 80 3 83 (.invokevirtual 272) := vm_dD b_X_rank_0 40 rfl rfl
theorem d_X_rank_83 : vm_B q_X_rank.2.1 83 86 100 (fun o => .ifCond .eq o) := ⟨17, vm_db b_X_rank_0 (i := 41) rfl, rfl, by decide⟩
theorem d_X_rank_86 : vm_D q_X_rank.2.1 86 1 87 (.aload_n 0) := vm_dD b_X_rank_0 42 rfl rfl
theorem d_X_rank_87 : vm_D q_X_rank.2.1 87 3 90 (.getfield 46) := vm_dD b_X_rank_0 43 rfl rfl
theorem d_X_rank_90 : vm_D q_X_rank.2.1 90 3 93 (.invokevirtual 250) := vm_dD b_X_rank_0 44 rfl rfl
theorem d_X_rank_93 : vm_D q_X_rank.2.1 93 1 94 (.istore_n 1) := vm_dD b_X_rank_0 45 rfl rfl
theorem d_X_rank_94 : vm_D q_X_rank.2.1 94 3 97 (.iinc 2 1) := vm_dD b_X_rank_0 46 rfl rfl
theorem d_X_rank_97 : ∃ off : Int, decode q_X_rank.2.1 97 = .ok (.goto off, 3) ∧ ((97 : Nat) : Int) + off = ((57 : Nat) : Int) := ⟨-40, vm_db b_X_rank_0 (i := 47) rfl, by decide⟩
theorem d_X_rank_100 : vm_D q_X_rank.2.1 100 1 101 (.iload_n 1) := vm_dD b_X_rank_0 48 rfl rfl
theorem d_X_rank_101 : vm_D q_X_rank.2.1 101 2 103 (.bipush (-2)) := vm_dD b_X_rank_0 49 rfl rfl
theorem d_X_rank_103 : vm_B q_X_rank.2.1 103 106 111 (fun o => .if_icmp .ne o) := ⟨8, vm_db b_X_rank_0 (i := 50) rfl, rfl, by decide⟩
theorem d_X_rank_111 : vm_D q_X_rank.2.1 111 1 112 (.iload_n 2) := vm_dD b_X_rank_0 53 rfl rfl
theorem d_X_rank_112 : vm_D q_X_rank.2.1 112 1 113 (.ireturn) := vm_dD b_X_rank_0 54 rfl rfl
theorem d_X_rank_106 : vm_D q_X_rank.2.1 106 2 108 (.bipush (-2)) := vm_dD b_X_rank_0 51 rfl rfl
theorem d_X_rank_108 : ∃ off : Int, decode q_X_rank.2.1 108 = .ok (.goto off, 3) ∧ ((108 : Nat) : Int) + off = ((112 : Nat) : Int) := ⟨4, vm_db b_X_rank_0 (i := 52) rfl, by decide⟩
theorem d_X_rank_14 : vm_D q_X_rank.2.1 14 1 15 (.iconst 0) := vm_dD b_X_rank_0 6 rfl rfl
theorem d_X_rank_15 : vm_D q_X_rank.2.1 15 1 16 (.ireturn) := vm_dD b_X_rank_0 7 rfl rfl
def q_X_image : vm_Y := ("RepeatFree", cX10_image, 5, false, [])
def t_X_image_0 : List (Nat × Instr × Nat) := [(0, .aload_n 0, 1), (1, .iload_n 1, 1), (2, .invokevirtual 275, 3), (5, .astore_n 2, 1), (6, .iconst 0, 1), (7, .istore_n 3, 1), (8, .iconst 0, 1), (9, .istore 4, 2), (11, .iload 4, 2), (13, .aload_n 0, 1), (14, .getfield 36, 3), (17, .getfield 102, 3), (20, .if_icmp .ge 25, 3), (23, .iload_n 3, 1), (24, .aload_n 2, 1), (25, .aload_n 0, 1), (26, .getfield 36, 3), (29, .iload 4, 2), (31, .invokevirtual 106, 3), (34, .invokevirtual 278, 3), (37, .iadd, 1), (38, .istore_n 3, 1), (39, .iinc 4 1, 3), (42, .goto (-31), 3), (45, .iload_n 3, 1), (46, .bipush 64, 2), (48, .if_icmp .le 11, 3), (51, .new 113, 3), (54, .dup, 1), (55, .invokespecial 115, 3), (58, .athrow, 1), (59, .aload_n 2, 1), (60, .aload_n 0, 1), (61, .getfield 36, 3), (64, .aload_n 0, 1), (65, .getfield 40, 3), (68, .invokevirtual 283, 3), (71, .aload_n 0, 1), (72, .aload_n 0, 1), (73, .getfield 40, 3), (76, .invokevirtual 98, 3), (79, .aload_n 0, 1), (80, .getfield 36, 3), (83, .getfield 102, 3), (86, .ireturn, 1)]
theorem b_X_image_0 : (t_X_image_0.all fun q => decide (decode q_X_image.2.1 q.1 = .ok (q.2.1, q.2.2))) = true := by decide +kernel
theorem d_X_image_0 : vm_D q_X_image.2.1 0 1 1 (.aload_n 0) := vm_dD b_X_image_0 0 rfl rfl
theorem d_X_image_1 : vm_D q_X_image.2.1 1 1 2 (.iload_n 1) := vm_dD b_X_image_0 1 rfl rfl
theorem d_X_image_2 : vm_D q_X_image.2.1 2 3 5 (.invokevirtual 275) := vm_dD b_X_image_0 2 rfl rfl
theorem d_X_image_5 : vm_D q_X_image.2.1 5 1 6 (.astore_n 2) := vm_dD b_X_image_0 3 rfl rfl
theorem d_X_image_6 : vm_D q_X_image.2.1 6 1 7 (.iconst 0) := vm_dD b_X_image_0 4 rfl rfl
theorem d_X_image_7 : vm_D q_X_image.2.1 7 1 8 (.istore_n 3) := vm_dD b_X_image_0 5 rfl rfl
theorem d_X_image_8 : vm_D q_X_image.2.1 8 1 9 (.iconst 0) := vm_dD b_X_image_0 6 rfl rfl
theorem d_X_image_9 : vm_D q_X_image.2.1 9 2 11 (.istore 4) := vm_dD b_X_image_0 7 rfl rfl
theorem d_X_image_11 : vm_D q_X_image.2.1 11 2 13 (.iload 4) := vm_dD b_X_image_0 8 rfl rfl
theorem d_X_image_13 : vm_D q_X_image.2.1 13 1 14 (.aload_n 0) := vm_dD b_X_image_0 9 rfl rfl
theorem d_X_image_14 : vm_D q_X_image.2.1 14 3 17 (.getfield 36) := vm_dD b_X_image_0 10 rfl rfl
theorem d_X_image_17 : vm_D q_X_image.2.1 17 3 20 (.getfield 102) := vm_dD b_X_image_0 11 rfl rfl
theorem d_X_image_20 : vm_B q_X_image.2.1 20 23 45 (fun o => .if_icmp .ge o) := ⟨25, vm_db b_X_image_0 (i := 12) rfl, rfl, by decide⟩
theorem d_X_image_23 : vm_D q_X_image.2.1 23 1 24 (.iload_n 3) := vm_dD b_X_image_0 13 rfl rfl
theorem d_X_image_24 : vm_D q_X_image.2.1 24 1 25 (.aload_n 2) := vm_dD b_X_image_0 14 rfl rfl
theorem d_X_image_25 : vm_D q_X_image.2.1 25 1 26 (.aload_n 0) := vm_dD b_X_image_0 15 rfl rfl
theorem d_X_image_26 : vm_D q_X_image.2.1 26 3 29 (.getfield 36) := vm_dD b_X_image_0 16 rfl rfl
theorem d_X_image_29 : vm_D q_X_image.2.1 29 2 31 (.iload 4) := vm_dD b_X_image_0 17 rfl rfl
theorem d_X_image_31 : vm_D q_X_image.2.1 31 3 34 (.invokevirtual 106) := vm_dD b_X_image_0 18 rfl rfl
theorem d_X_image_34 : vm_D q_X_image.2.1 34 3 37 (.invokevirtual 278) := vm_dD b_X_image_0 19 rfl rfl
theorem d_X_image_37 : vm_D q_X_image.2.1 37 1 38 (.iadd) := vm_dD b_X_image_0 20 rfl rfl
theorem d_X_image_38 : vm_D q_X_image.2.1 38 1 39 (.istore_n 3) := vm_dD b_X_image_0 21 rfl rfl
theorem d_X_image_39 : vm_D q_X_image.2.1 39 3 42 (.iinc 4 1) := vm_dD b_X_image_0 22 rfl rfl
theorem d_X_image_42 : ∃ off : Int, decode q_X_image.2.1 42 = .ok (.goto off, 3) ∧ ((42 : Nat) : Int) + off = ((11 : Nat) : Int) := ⟨-31, vm_db b_X_image_0 (i := 23) rfl, by decide⟩
theorem d_X_image_45 : vm_D q_X_image.2.1 45 1 46 (.iload_n 3) := vm_dD b_X_image_0 24 rfl rfl
theorem d_X_image_46 : vm_D q_X_image.2.1 46 2 48 (.bipush 64) := vm_dD b_X_image_0 25 rfl rfl
theorem d_X_image_48 : vm_B q_X_image.2.1 48 51 59 (fun o => .if_icmp .le o) := ⟨11, vm_db b_X_image_0 (i := 26) rfl, rfl, by decide⟩
theorem d_X_image_59 : vm_D q_X_image.2.1 59 1 60 (.aload_n 2) := vm_dD b_X_image_0 31 rfl rfl
theorem d_X_image_60 : vm_D q_X_image.2.1 60 1 61 (.aload_n 0) := vm_dD b_X_image_0 32 rfl rfl
theorem d_X_image_61 : vm_D q_X_image.2.1 61 3 64 (.getfield 36) := vm_dD b_X_image_0 33 rfl rfl
theorem d_X_image_64 : vm_D q_X_image.2.1 64 1 65 (.aload_n 0) := vm_dD b_X_image_0 34 rfl rfl
theorem d_X_image_65 : vm_D q_X_image.2.1 65 3 68 (.getfield 40) := vm_dD b_X_image_0 35 rfl rfl
theorem d_X_image_68 : vm_D q_X_image.2.1 68 3 71 (.invokevirtual 283) := vm_dD b_X_image_0 36 rfl rfl
theorem d_X_image_71 : vm_D q_X_image.2.1 71 1 72 (.aload_n 0) := vm_dD b_X_image_0 37 rfl rfl
theorem d_X_image_72 : vm_D q_X_image.2.1 72 1 73 (.aload_n 0) := vm_dD b_X_image_0 38 rfl rfl
theorem d_X_image_73 : vm_D q_X_image.2.1 73 3 76 (.getfield 40) := vm_dD b_X_image_0 39 rfl rfl
theorem d_X_image_76 : vm_D q_X_image.2.1 76 3 79 (.invokevirtual 98) := vm_dD b_X_image_0 40 rfl rfl
theorem d_X_image_79 : vm_D q_X_image.2.1 79 1 80 (.aload_n 0) := vm_dD b_X_image_0 41 rfl rfl
theorem d_X_image_80 : vm_D q_X_image.2.1 80 3 83 (.getfield 36) := vm_dD b_X_image_0 42 rfl rfl
theorem d_X_image_83 : vm_D q_X_image.2.1 83 3 86 (.getfield 102) := vm_dD b_X_image_0 43 rfl rfl
theorem d_X_image_86 : vm_D q_X_image.2.1 86 1 87 (.ireturn) := vm_dD b_X_image_0 44 rfl rfl
theorem d_X_image_51 : vm_D q_X_image.2.1 51 3 54 (.new 113) := vm_dD b_X_image_0 27 rfl rfl
theorem d_X_image_54 : vm_D q_X_image.2.1 54 1 55 (.dup) := vm_dD b_X_image_0 28 rfl rfl
theorem d_X_image_55 : vm_D q_X_image.2.1 55 3 58 (.invokespecial 115) := vm_dD b_X_image_0 29 rfl rfl
theorem d_X_image_58 : vm_D q_X_image.2.1 58 1 59 (.athrow) := vm_dD b_X_image_0 30 rfl rfl
def q_X_imaged : vm_Y := ("RepeatFree", cX10_imaged, 5, false, [])
def t_X_imaged_0 : List (Nat × Instr × Nat) := [(0, .aload_n 0, 1), (1, .iload_n 1, 1), (2, .invokevirtual 275, 3), (5, .astore 4, 2), (7, .aload_n 0, 1), (8, .iload_n 2, 1), (9, .invokevirtual 110, 3), (12, .iload_n 3, 1), (13, .iconst (-1), 1), (14, .if_icmp .ne 12, 3), (17, .aload 4, 2), (19, .iload_n 2, 1), (20, .invokevirtual 278, 3), (23, .goto 10, 3), (26, .aload 4, 2), (28, .iload_n 2, 1), (29, .iload_n 3, 1), (30, .invokevirtual 287, 3), (33, .ireturn, 1)]
theorem b_X_imaged_0 : (t_X_imaged_0.all fun q => decide (decode q_X_imaged.2.1 q.1 = .ok (q.2.1, q.2.2))) = true := by decide +kernel
theorem d_X_imaged_0 : vm_D q_X_imaged.2.1 0 1 1 (.aload_n 0) := vm_dD b_X_imaged_0 0 rfl rfl
theorem d_X_imaged_1 : vm_D q_X_imaged.2.1 1 1 2 (.iload_n 1) := vm_dD b_X_imaged_0 1 rfl rfl
theorem d_X_imaged_2 : vm_D q_X_imaged.2.1 2 3 5 (.invokevirtual 275) := vm_dD b_X_imaged_0 2 rfl rfl
theorem d_X_imaged_5 : vm_D q_X_imaged.2.1 5 2 7 (.astore 4) := vm_dD b_X_imaged_0 3 rfl rfl
theorem d_X_imaged_7 : vm_D q_X_imaged.2.1 7 1 8 (.aload_n 0) := vm_dD b_X_imaged_0 4 rfl rfl
theorem d_X_imaged_8 : vm_D q_X_imaged.2.1 8 1 9 (.iload_n 2) := vm_dD b_X_imaged_0 5 rfl rfl
theorem d_X_imaged_9 : vm_D q_X_imaged.2.1 9 3 12 (.invokevirtual 110) := vm_dD b_X_imaged_0 6 rfl rfl
theorem d_X_imaged_12 : vm_D q_X_imaged.2.1 12 1 13 (.iload_n 3) := vm_dD b_X_imaged_0 7 rfl rfl
theorem d_X_imaged_13 : vm_D q_X_imaged.2.1 13 1 14 (.iconst (-1)) := vm_dD b_X_imaged_0 8 rfl rfl
theorem d_X_imaged_14 : vm_B q_X_imaged.2.1 14 17 26 (fun o => .if_icmp .ne o) := ⟨12, vm_db b_X_imaged_0 (i := 9) rfl, rfl, by decide⟩
theorem d_X_imaged_26 : vm_D q_X_imaged.2.1 26 2 28 (.aload 4) := vm_dD b_X_imaged_0 14 rfl rfl
theorem d_X_imaged_28 : vm_D q_X_imaged.2.1 28 1 29 (.iload_n 2) := vm_dD b_X_imaged_0 15 rfl rfl
theorem d_X_imaged_29 : vm_D q_X_imaged.2.1 29 1 30 (.iload_n 3) := vm_dD b_X_imaged_0 16 rfl rfl
theorem d_X_imaged_30 : vm_D q_X_imaged.2.1 30 3 33 (.invokevirtual 287) := vm_dD b_X_imaged_0 17 rfl rfl
theorem d_X_imaged_33 : vm_D q_X_imaged.2.1 33 1 34 (.ireturn) := vm_dD b_X_imaged_0 18 rfl rfl
theorem d_X_imaged_17 : vm_D q_X_imaged.2.1 17 2 19 (.aload 4) := vm_dD b_X_imaged_0 10 rfl rfl
theorem d_X_imaged_19 : vm_D q_X_imaged.2.1 19 1 20 (.iload_n 2) := vm_dD b_X_imaged_0 11 rfl rfl
theorem d_X_imaged_20 : vm_D q_X_imaged.2.1 20 3 23 (.invokevirtual 278) := vm_dD b_X_imaged_0 12 rfl rfl
theorem d_X_imaged_23 : ∃ off : Int, decode q_X_imaged.2.1 23 = .ok (.goto off, 3) ∧ ((23 : Nat) : Int) + off = ((33 : Nat) : Int) := ⟨10, vm_db b_X_imaged_0 (i := 13) rfl, by decide⟩
def q_X_tallied : vm_Y := ("RepeatFree", cX10_tallied, 3, false, [])
def t_X_tallied_0 : List (Nat × Instr × Nat) := [(0, .iload_n 1, 1), (1, .ifCond .lt 21, 3), (4, .iload_n 1, 1), (5, .aload_n 0, 1), (6, .getfield 59, 3), (9, .arraylength, 1), (10, .if_icmp .ge 12, 3), (13, .iload_n 2, 1), (14, .ifCond .lt 8, 3), (17, .iload_n 2, 1), (18, .iconst 4, 1), (19, .if_icmp .lt 5, 3), (22, .lconst 0, 1), (23, .lreturn, 1), (24, .aload_n 0, 1), (25, .getfield 59, 3), (28, .iload_n 1, 1), (29, .aaload, 1), (30, .iload_n 2, 1), (31, .laload, 1), (32, .lreturn, 1)]
theorem b_X_tallied_0 : (t_X_tallied_0.all fun q => decide (decode q_X_tallied.2.1 q.1 = .ok (q.2.1, q.2.2))) = true := by decide +kernel
theorem d_X_tallied_0 : vm_D q_X_tallied.2.1 0 1 1 (.iload_n 1) := vm_dD b_X_tallied_0 0 rfl rfl
theorem d_X_tallied_1 : vm_B q_X_tallied.2.1 1 4 22 (fun o => .ifCond .lt o) := ⟨21, vm_db b_X_tallied_0 (i := 1) rfl, rfl, by decide⟩
theorem d_X_tallied_22 : vm_D q_X_tallied.2.1 22 1 23 (.lconst 0) := vm_dD b_X_tallied_0 12 rfl rfl
theorem d_X_tallied_23 : vm_D q_X_tallied.2.1 23 1 24 (.lreturn) := vm_dD b_X_tallied_0 13 rfl rfl
theorem d_X_tallied_4 : vm_D q_X_tallied.2.1 4 1 5 (.iload_n 1) := vm_dD b_X_tallied_0 2 rfl rfl
theorem d_X_tallied_5 : vm_D q_X_tallied.2.1 5 1 6 (.aload_n 0) := vm_dD b_X_tallied_0 3 rfl rfl
theorem d_X_tallied_6 : vm_D q_X_tallied.2.1 6 3 9 (.getfield 59) := vm_dD b_X_tallied_0 4 rfl rfl
theorem d_X_tallied_9 : vm_D q_X_tallied.2.1 9 1 10 (.arraylength) := vm_dD b_X_tallied_0 5 rfl rfl
theorem d_X_tallied_10 : vm_B q_X_tallied.2.1 10 13 22 (fun o => .if_icmp .ge o) := ⟨12, vm_db b_X_tallied_0 (i := 6) rfl, rfl, by decide⟩
theorem d_X_tallied_13 : vm_D q_X_tallied.2.1 13 1 14 (.iload_n 2) := vm_dD b_X_tallied_0 7 rfl rfl
theorem d_X_tallied_14 : vm_B q_X_tallied.2.1 14 17 22 (fun o => .ifCond .lt o) := ⟨8, vm_db b_X_tallied_0 (i := 8) rfl, rfl, by decide⟩
theorem d_X_tallied_17 : vm_D q_X_tallied.2.1 17 1 18 (.iload_n 2) := vm_dD b_X_tallied_0 9 rfl rfl
theorem d_X_tallied_18 : vm_D q_X_tallied.2.1 18 1 19 (.iconst 4) := vm_dD b_X_tallied_0 10 rfl rfl
theorem d_X_tallied_19 : vm_B q_X_tallied.2.1 19 22 24 (fun o => .if_icmp .lt o) := ⟨5, vm_db b_X_tallied_0 (i := 11) rfl, rfl, by decide⟩
theorem d_X_tallied_24 : vm_D q_X_tallied.2.1 24 1 25 (.aload_n 0) := vm_dD b_X_tallied_0 14 rfl rfl
theorem d_X_tallied_25 : vm_D q_X_tallied.2.1 25 3 28 (.getfield 59) := vm_dD b_X_tallied_0 15 rfl rfl
theorem d_X_tallied_28 : vm_D q_X_tallied.2.1 28 1 29 (.iload_n 1) := vm_dD b_X_tallied_0 16 rfl rfl
theorem d_X_tallied_29 : vm_D q_X_tallied.2.1 29 1 30 (.aaload) := vm_dD b_X_tallied_0 17 rfl rfl
theorem d_X_tallied_30 : vm_D q_X_tallied.2.1 30 1 31 (.iload_n 2) := vm_dD b_X_tallied_0 18 rfl rfl
theorem d_X_tallied_31 : vm_D q_X_tallied.2.1 31 1 32 (.laload) := vm_dD b_X_tallied_0 19 rfl rfl
theorem d_X_tallied_32 : vm_D q_X_tallied.2.1 32 1 33 (.lreturn) := vm_dD b_X_tallied_0 20 rfl rfl
def q_X_tally : vm_Y := ("RepeatFree", cX10_tally, 10, false, [])
def t_X_tally_0 : List (Nat × Instr × Nat) := [(0, .iconst 0, 1), (1, .istore 4, 2), (3, .iload 4, 2), (5, .iload_n 2, 1), (6, .if_icmp .gt 136, 3), (9, .iload 4, 2), (11, .aload_n 0, 1), (12, .getfield 59, 3), (15, .arraylength, 1), (16, .if_icmp .ge 126, 3), (19, .aload_n 0, 1), (20, .getfield 59, 3), (23, .iload 4, 2), (25, .aaload, 1), (26, .astore 5, 2), (28, .iconst 0, 1), (29, .istore 6, 2), (31, .iload 6, 2), (33, .aload_n 0, 1), (34, .getfield 19, 3), (37, .getfield 91, 3), (40, .if_icmp .ge 96, 3), (43, .iload 6, 2), (45, .aload 5, 2), (47, .arraylength, 1), (48, .if_icmp .ge 88, 3), (51, .lconst 0, 1), (52, .lstore 7, 2), (54, .iload 4, 2), (56, .ifCond .ne 21, 3), (59, .iload_n 3, 1), (60, .iconst (-1), 1), (61, .if_icmp .eq 9, 3), (64, .iload_n 3, 1), (65, .iload 6, 2), (67, .if_icmp .ne 7, 3), (70, .lconst 1, 1), (71, .goto 4, 3), (74, .lconst 0, 1), (75, .lstore 7, 2), (77, .iconst 0, 1), (78, .istore 9, 2), (80, .iload 4, 2), (82, .ifCond .le 41, 3), (85, .iload 9, 2), (87, .aload_n 1, 1), (88, .iload 6, 2), (90, .invokevirtual 278, 3), (93, .if_icmp .ge 30, 3), (96, .lload 7, 2), (98, .aload_n 0, 1), (99, .iload 4, 2), (101, .iconst 1, 1), (102, .isub, 1), (103, .aload_n 1, 1), (104, .iload 6, 2), (106, .iload 9, 2), (108, .invokevirtual 287, 3), (111, .invokevirtual 293, 3), (114, .ladd, 1)]
theorem b_X_tally_0 : (t_X_tally_0.all fun q => decide (decode q_X_tally.2.1 q.1 = .ok (q.2.1, q.2.2))) = true := by decide +kernel
def t_X_tally_1 : List (Nat × Instr × Nat) := [(115, .lstore 7, 2), (117, .iinc 9 1, 3), (120, .goto (-40), 3), (123, .aload 5, 2), (125, .iload 6, 2), (127, .lload 7, 2), (129, .lastore, 1), (130, .iinc 6 1, 3), (133, .goto (-102), 3), (136, .iinc 4 1, 3), (139, .goto (-136), 3), (142, .return_, 1)]
theorem b_X_tally_1 : (t_X_tally_1.all fun q => decide (decode q_X_tally.2.1 q.1 = .ok (q.2.1, q.2.2))) = true := by decide +kernel
theorem d_X_tally_0 : vm_D q_X_tally.2.1 0 1 1 (.iconst 0) := vm_dD b_X_tally_0 0 rfl rfl
theorem d_X_tally_1 : vm_D q_X_tally.2.1 1 2 3 (.istore 4) := vm_dD b_X_tally_0 1 rfl rfl
theorem d_X_tally_3 : vm_D q_X_tally.2.1 3 2 5 (.iload 4) := vm_dD b_X_tally_0 2 rfl rfl
theorem d_X_tally_5 : vm_D q_X_tally.2.1 5 1 6 (.iload_n 2) := vm_dD b_X_tally_0 3 rfl rfl
theorem d_X_tally_6 : vm_B q_X_tally.2.1 6 9 142 (fun o => .if_icmp .gt o) := ⟨136, vm_db b_X_tally_0 (i := 4) rfl, rfl, by decide⟩
theorem d_X_tally_9 : vm_D q_X_tally.2.1 9 2 11 (.iload 4) := vm_dD b_X_tally_0 5 rfl rfl
theorem d_X_tally_11 : vm_D q_X_tally.2.1 11 1 12 (.aload_n 0) := vm_dD b_X_tally_0 6 rfl rfl
theorem d_X_tally_12 : vm_D q_X_tally.2.1 12 3 15 (.getfield 59) := vm_dD b_X_tally_0 7 rfl rfl
theorem d_X_tally_15 : vm_D q_X_tally.2.1 15 1 16 (.arraylength) := vm_dD b_X_tally_0 8 rfl rfl
theorem d_X_tally_16 : vm_B q_X_tally.2.1 16 19 142 (fun o => .if_icmp .ge o) := ⟨126, vm_db b_X_tally_0 (i := 9) rfl, rfl, by decide⟩
theorem d_X_tally_19 : vm_D q_X_tally.2.1 19 1 20 (.aload_n 0) := vm_dD b_X_tally_0 10 rfl rfl
theorem d_X_tally_20 : vm_D q_X_tally.2.1 20 3 23 (.getfield 59) := vm_dD b_X_tally_0 11 rfl rfl
theorem d_X_tally_23 : vm_D q_X_tally.2.1 23 2 25 (.iload 4) := vm_dD b_X_tally_0 12 rfl rfl
theorem d_X_tally_25 : vm_D q_X_tally.2.1 25 1 26 (.aaload) := vm_dD b_X_tally_0 13 rfl rfl
theorem d_X_tally_26 : vm_D q_X_tally.2.1 26 2 28 (.astore 5) := vm_dD b_X_tally_0 14 rfl rfl
theorem d_X_tally_28 : vm_D q_X_tally.2.1 28 1 29 (.iconst 0) := vm_dD b_X_tally_0 15 rfl rfl
theorem d_X_tally_29 : vm_D q_X_tally.2.1 29 2 31 (.istore 6) := vm_dD b_X_tally_0 16 rfl rfl
theorem d_X_tally_31 : vm_D q_X_tally.2.1 31 2 33 (.iload 6) := vm_dD b_X_tally_0 17 rfl rfl
theorem d_X_tally_33 : vm_D q_X_tally.2.1 33 1 34 (.aload_n 0) := vm_dD b_X_tally_0 18 rfl rfl
theorem d_X_tally_34 : vm_D q_X_tally.2.1 34 3 37 (.getfield 19) := vm_dD b_X_tally_0 19 rfl rfl
theorem d_X_tally_37 : vm_D q_X_tally.2.1 37 3 40 (.getfield 91) := vm_dD b_X_tally_0 20 rfl rfl
theorem d_X_tally_40 : vm_B q_X_tally.2.1 40 43 136 (fun o => .if_icmp .ge o) := ⟨96, vm_db b_X_tally_0 (i := 21) rfl, rfl, by decide⟩
theorem d_X_tally_43 : vm_D q_X_tally.2.1 43 2 45 (.iload 6) := vm_dD b_X_tally_0 22 rfl rfl
theorem d_X_tally_45 : vm_D q_X_tally.2.1 45 2 47 (.aload 5) := vm_dD b_X_tally_0 23 rfl rfl
theorem d_X_tally_47 : vm_D q_X_tally.2.1 47 1 48 (.arraylength) := vm_dD b_X_tally_0 24 rfl rfl
theorem d_X_tally_48 : vm_B q_X_tally.2.1 48 51 136 (fun o => .if_icmp .ge o) := ⟨88, vm_db b_X_tally_0 (i := 25) rfl, rfl, by decide⟩
theorem d_X_tally_51 : vm_D q_X_tally.2.1 51 1 52 (.lconst 0) := vm_dD b_X_tally_0 26 rfl rfl
theorem d_X_tally_52 : vm_D q_X_tally.2.1 52 2 54 (.lstore 7) := vm_dD b_X_tally_0 27 rfl rfl
theorem d_X_tally_54 : vm_D q_X_tally.2.1 54 2 56 (.iload 4) := vm_dD b_X_tally_0 28 rfl rfl
theorem d_X_tally_56 : vm_B q_X_tally.2.1 56 59 77 (fun o => .ifCond .ne o) := ⟨21, vm_db b_X_tally_0 (i := 29) rfl, rfl, by decide⟩
theorem d_X_tally_77 : vm_D q_X_tally.2.1 77 1 78 (.iconst 0) := vm_dD b_X_tally_0 40 rfl rfl
theorem d_X_tally_78 : vm_D q_X_tally.2.1 78 2 80 (.istore 9) := vm_dD b_X_tally_0 41 rfl rfl
theorem d_X_tally_80 : vm_D q_X_tally.2.1 80 2 82 (.iload 4) := vm_dD b_X_tally_0 42 rfl rfl
theorem d_X_tally_82 : vm_B q_X_tally.2.1 82 85 123 (fun o => .ifCond .le o) := ⟨41, vm_db b_X_tally_0 (i := 43) rfl, rfl, by decide⟩
theorem d_X_tally_85 : vm_D q_X_tally.2.1 85 2 87 (.iload 9) := vm_dD b_X_tally_0 44 rfl rfl
theorem d_X_tally_87 : vm_D q_X_tally.2.1 87 1 88 (.aload_n 1) := vm_dD b_X_tally_0 45 rfl rfl
theorem d_X_tally_88 : vm_D q_X_tally.2.1 88 2 90 (.iload 6) := vm_dD b_X_tally_0 46 rfl rfl
theorem d_X_tally_90 : vm_D q_X_tally.2.1 90 3 93 (.invokevirtual 278) := vm_dD b_X_tally_0 47 rfl rfl
theorem d_X_tally_93 : vm_B q_X_tally.2.1 93 96 123 (fun o => .if_icmp .ge o) := ⟨30, vm_db b_X_tally_0 (i := 48) rfl, rfl, by decide⟩
theorem d_X_tally_96 : vm_D q_X_tally.2.1 96 2 98 (.lload 7) := vm_dD b_X_tally_0 49 rfl rfl
theorem d_X_tally_98 : vm_D q_X_tally.2.1 98 1 99 (.aload_n 0) := vm_dD b_X_tally_0 50 rfl rfl
theorem d_X_tally_99 : vm_D q_X_tally.2.1 99 2 101 (.iload 4) := vm_dD b_X_tally_0 51 rfl rfl
theorem d_X_tally_101 : vm_D q_X_tally.2.1 101 1 102 (.iconst 1) := vm_dD b_X_tally_0 52 rfl rfl
theorem d_X_tally_102 : vm_D q_X_tally.2.1 102 1 103 (.isub) := vm_dD b_X_tally_0 53 rfl rfl
theorem d_X_tally_103 : vm_D q_X_tally.2.1 103 1 104 (.aload_n 1) := vm_dD b_X_tally_0 54 rfl rfl
theorem d_X_tally_104 : vm_D q_X_tally.2.1 104 2 106 (.iload 6) := vm_dD b_X_tally_0 55 rfl rfl
theorem d_X_tally_106 : vm_D q_X_tally.2.1 106 2 108 (.iload 9) := vm_dD b_X_tally_0 56 rfl rfl
theorem d_X_tally_108 : vm_D q_X_tally.2.1 108 3 111 (.invokevirtual 287) := vm_dD b_X_tally_0 57 rfl rfl
theorem d_X_tally_111 : vm_D q_X_tally.2.1 111 3 114 (.invokevirtual 293) := vm_dD b_X_tally_0 58 rfl rfl
theorem d_X_tally_114 : vm_D q_X_tally.2.1 114 1 115 (.ladd) := vm_dD b_X_tally_0 59 rfl rfl
theorem d_X_tally_115 : vm_D q_X_tally.2.1 115 2 117 (.lstore 7) := vm_dD b_X_tally_1 0 rfl rfl
theorem d_X_tally_117 : vm_D q_X_tally.2.1 117 3 120 (.iinc 9 1) := vm_dD b_X_tally_1 1 rfl rfl
theorem d_X_tally_120 : ∃ off : Int, decode q_X_tally.2.1 120 = .ok (.goto off, 3) ∧ ((120 : Nat) : Int) + off = ((80 : Nat) : Int) := ⟨-40, vm_db b_X_tally_1 (i := 2) rfl, by decide⟩
theorem d_X_tally_123 : vm_D q_X_tally.2.1 123 2 125 (.aload 5) := vm_dD b_X_tally_1 3 rfl rfl
theorem d_X_tally_125 : vm_D q_X_tally.2.1 125 2 127 (.iload 6) := vm_dD b_X_tally_1 4 rfl rfl
theorem d_X_tally_127 : vm_D q_X_tally.2.1 127 2 129 (.lload 7) := vm_dD b_X_tally_1 5 rfl rfl
theorem d_X_tally_129 : vm_D q_X_tally.2.1 129 1 130 (.lastore) := vm_dD b_X_tally_1 6 rfl rfl
theorem d_X_tally_130 : vm_D q_X_tally.2.1 130 3 133 (.iinc 6 1) := vm_dD b_X_tally_1 7 rfl rfl
theorem d_X_tally_133 : ∃ off : Int, decode q_X_tally.2.1 133 = .ok (.goto off, 3) ∧ ((133 : Nat) : Int) + off = ((31 : Nat) : Int) := ⟨-102, vm_db b_X_tally_1 (i := 8) rfl, by decide⟩
theorem d_X_tally_59 : vm_D q_X_tally.2.1 59 1 60 (.iload_n 3) := vm_dD b_X_tally_0 30 rfl rfl
theorem d_X_tally_60 : vm_D q_X_tally.2.1 60 1 61 (.iconst (-1)) := vm_dD b_X_tally_0 31 rfl rfl
theorem d_X_tally_61 : vm_B q_X_tally.2.1 61 64 70 (fun o => .if_icmp .eq o) := ⟨9, vm_db b_X_tally_0 (i := 32) rfl, rfl, by decide⟩
theorem d_X_tally_75 : vm_D q_X_tally.2.1 75 2 77 (.lstore 7) := vm_dD b_X_tally_0 39 rfl rfl
theorem d_X_tally_70 : vm_D q_X_tally.2.1 70 1 71 (.lconst 1) := vm_dD b_X_tally_0 36 rfl rfl
theorem d_X_tally_71 : ∃ off : Int, decode q_X_tally.2.1 71 = .ok (.goto off, 3) ∧ ((71 : Nat) : Int) + off = ((75 : Nat) : Int) := ⟨4, vm_db b_X_tally_0 (i := 37) rfl, by decide⟩
theorem d_X_tally_64 : vm_D q_X_tally.2.1 64 1 65 (.iload_n 3) := vm_dD b_X_tally_0 33 rfl rfl
theorem d_X_tally_65 : vm_D q_X_tally.2.1 65 2 67 (.iload 6) := vm_dD b_X_tally_0 34 rfl rfl
theorem d_X_tally_67 : vm_B q_X_tally.2.1 67 70 74 (fun o => .if_icmp .ne o) := ⟨7, vm_db b_X_tally_0 (i := 35) rfl, rfl, by decide⟩
theorem d_X_tally_74 : vm_D q_X_tally.2.1 74 1 75 (.lconst 0) := vm_dD b_X_tally_0 38 rfl rfl
theorem d_X_tally_136 : vm_D q_X_tally.2.1 136 3 139 (.iinc 4 1) := vm_dD b_X_tally_1 9 rfl rfl
theorem d_X_tally_139 : ∃ off : Int, decode q_X_tally.2.1 139 = .ok (.goto off, 3) ∧ ((139 : Nat) : Int) + off = ((3 : Nat) : Int) := ⟨-136, vm_db b_X_tally_1 (i := 10) rfl, by decide⟩
theorem d_X_tally_142 : vm_D q_X_tally.2.1 142 1 143 (.return_) := vm_dD b_X_tally_1 11 rfl rfl
def q_X_length : vm_Y := ("RepeatFree", cX10_length, 5, false, [])
def t_X_length_0 : List (Nat × Instr × Nat) := [(0, .aload_n 0, 1), (1, .iload_n 1, 1), (2, .invokevirtual 275, 3), (5, .astore 4, 2), (7, .aload_n 0, 1), (8, .iload_n 2, 1), (9, .invokevirtual 110, 3), (12, .aload_n 0, 1), (13, .iload_n 3, 1), (14, .iconst 0, 1), (15, .bipush 12, 2), (17, .invokevirtual 173, 3), (20, .aload_n 0, 1), (21, .aload 4, 2), (23, .iload_n 3, 1), (24, .iconst (-1), 1), (25, .invokevirtual 289, 3), (28, .aload_n 0, 1), (29, .iload_n 3, 1), (30, .iload_n 2, 1), (31, .invokevirtual 293, 3), (34, .lreturn, 1)]
theorem b_X_length_0 : (t_X_length_0.all fun q => decide (decode q_X_length.2.1 q.1 = .ok (q.2.1, q.2.2))) = true := by decide +kernel
theorem d_X_length_0 : vm_D q_X_length.2.1 0 1 1 (.aload_n 0) := vm_dD b_X_length_0 0 rfl rfl
theorem d_X_length_1 : vm_D q_X_length.2.1 1 1 2 (.iload_n 1) := vm_dD b_X_length_0 1 rfl rfl
theorem d_X_length_2 : vm_D q_X_length.2.1 2 3 5 (.invokevirtual 275) := vm_dD b_X_length_0 2 rfl rfl
theorem d_X_length_5 : vm_D q_X_length.2.1 5 2 7 (.astore 4) := vm_dD b_X_length_0 3 rfl rfl
theorem d_X_length_7 : vm_D q_X_length.2.1 7 1 8 (.aload_n 0) := vm_dD b_X_length_0 4 rfl rfl
theorem d_X_length_8 : vm_D q_X_length.2.1 8 1 9 (.iload_n 2) := vm_dD b_X_length_0 5 rfl rfl
theorem d_X_length_9 : vm_D q_X_length.2.1 9 3 12 (.invokevirtual 110) := vm_dD b_X_length_0 6 rfl rfl
theorem d_X_length_12 : vm_D q_X_length.2.1 12 1 13 (.aload_n 0) := vm_dD b_X_length_0 7 rfl rfl
theorem d_X_length_13 : vm_D q_X_length.2.1 13 1 14 (.iload_n 3) := vm_dD b_X_length_0 8 rfl rfl
theorem d_X_length_14 : vm_D q_X_length.2.1 14 1 15 (.iconst 0) := vm_dD b_X_length_0 9 rfl rfl
theorem d_X_length_15 : vm_D q_X_length.2.1 15 2 17 (.bipush 12) := vm_dD b_X_length_0 10 rfl rfl
theorem d_X_length_17 : vm_D q_X_length.2.1 17 3 20 (.invokevirtual 173) := vm_dD b_X_length_0 11 rfl rfl
theorem d_X_length_20 : vm_D q_X_length.2.1 20 1 21 (.aload_n 0) := vm_dD b_X_length_0 12 rfl rfl
theorem d_X_length_21 : vm_D q_X_length.2.1 21 2 23 (.aload 4) := vm_dD b_X_length_0 13 rfl rfl
theorem d_X_length_23 : vm_D q_X_length.2.1 23 1 24 (.iload_n 3) := vm_dD b_X_length_0 14 rfl rfl
theorem d_X_length_24 : vm_D q_X_length.2.1 24 1 25 (.iconst (-1)) := vm_dD b_X_length_0 15 rfl rfl
theorem d_X_length_25 : vm_D q_X_length.2.1 25 3 28 (.invokevirtual 289) := vm_dD b_X_length_0 16 rfl rfl
theorem d_X_length_28 : vm_D q_X_length.2.1 28 1 29 (.aload_n 0) := vm_dD b_X_length_0 17 rfl rfl
theorem d_X_length_29 : vm_D q_X_length.2.1 29 1 30 (.iload_n 3) := vm_dD b_X_length_0 18 rfl rfl
theorem d_X_length_30 : vm_D q_X_length.2.1 30 1 31 (.iload_n 2) := vm_dD b_X_length_0 19 rfl rfl
theorem d_X_length_31 : vm_D q_X_length.2.1 31 3 34 (.invokevirtual 293) := vm_dD b_X_length_0 20 rfl rfl
theorem d_X_length_34 : vm_D q_X_length.2.1 34 1 35 (.lreturn) := vm_dD b_X_length_0 21 rfl rfl
def q_X_power : vm_Y := ("RepeatFree", cX10_power, 12, false, [])
def t_X_power_0 : List (Nat × Instr × Nat) := [(0, .aload_n 0, 1), (1, .iload_n 1, 1), (2, .invokevirtual 275, 3), (5, .astore 6, 2), (7, .aload_n 0, 1), (8, .iload_n 2, 1), (9, .invokevirtual 110, 3), (12, .aload_n 0, 1), (13, .iload_n 3, 1), (14, .iconst 0, 1), (15, .bipush 12, 2), (17, .invokevirtual 173, 3), (20, .aload_n 0, 1), (21, .aload 6, 2), (23, .iload_n 3, 1), (24, .iconst (-1), 1), (25, .invokevirtual 289, 3), (28, .lload 4, 2), (30, .lconst 0, 1), (31, .lcmp, 1), (32, .ifCond .lt 15, 3), (35, .lload 4, 2), (37, .aload_n 0, 1), (38, .iload_n 3, 1), (39, .iload_n 2, 1), (40, .invokevirtual 293, 3), (43, .lcmp, 1), (44, .ifCond .lt 5, 3), (47, .iconst (-1), 1), (48, .ireturn, 1), (49, .iload_n 2, 1), (50, .istore 7, 2), (52, .lload 4, 2), (54, .lstore 8, 2), (56, .iload_n 3, 1), (57, .iconst 1, 1), (58, .isub, 1), (59, .istore 10, 2), (61, .iload 10, 2), (63, .ifCond .lt 84, 3), (66, .iconst 0, 1), (67, .istore 11, 2), (69, .iload 11, 2), (71, .aload 6, 2), (73, .iload 7, 2), (75, .invokevirtual 278, 3), (78, .iconst 1, 1), (79, .isub, 1), (80, .if_icmp .ge 50, 3), (83, .lload 8, 2), (85, .aload_n 0, 1), (86, .iload 10, 2), (88, .aload 6, 2), (90, .iload 7, 2), (92, .iload 11, 2), (94, .invokevirtual 287, 3), (97, .invokevirtual 293, 3), (100, .lcmp, 1), (101, .ifCond .lt 29, 3), (104, .lload 8, 2)]
theorem b_X_power_0 : (t_X_power_0.all fun q => decide (decode q_X_power.2.1 q.1 = .ok (q.2.1, q.2.2))) = true := by decide +kernel
def t_X_power_1 : List (Nat × Instr × Nat) := [(106, .aload_n 0, 1), (107, .iload 10, 2), (109, .aload 6, 2), (111, .iload 7, 2), (113, .iload 11, 2), (115, .invokevirtual 287, 3), (118, .invokevirtual 293, 3), (121, .lsub, 1), (122, .lstore 8, 2), (124, .iinc 11 1, 3), (127, .goto (-58), 3), (130, .aload 6, 2), (132, .iload 7, 2), (134, .iload 11, 2), (136, .invokevirtual 287, 3), (139, .istore 7, 2), (141, .iinc 10 (-1), 3), (144, .goto (-83), 3), (147, .iload 7, 2), (149, .ireturn, 1)]
theorem b_X_power_1 : (t_X_power_1.all fun q => decide (decode q_X_power.2.1 q.1 = .ok (q.2.1, q.2.2))) = true := by decide +kernel
theorem d_X_power_0 : vm_D q_X_power.2.1 0 1 1 (.aload_n 0) := vm_dD b_X_power_0 0 rfl rfl
theorem d_X_power_1 : vm_D q_X_power.2.1 1 1 2 (.iload_n 1) := vm_dD b_X_power_0 1 rfl rfl
theorem d_X_power_2 : vm_D q_X_power.2.1 2 3 5 (.invokevirtual 275) := vm_dD b_X_power_0 2 rfl rfl
theorem d_X_power_5 : vm_D q_X_power.2.1 5 2 7 (.astore 6) := vm_dD b_X_power_0 3 rfl rfl
theorem d_X_power_7 : vm_D q_X_power.2.1 7 1 8 (.aload_n 0) := vm_dD b_X_power_0 4 rfl rfl
theorem d_X_power_8 : vm_D q_X_power.2.1 8 1 9 (.iload_n 2) := vm_dD b_X_power_0 5 rfl rfl
theorem d_X_power_9 : vm_D q_X_power.2.1 9 3 12 (.invokevirtual 110) := vm_dD b_X_power_0 6 rfl rfl
theorem d_X_power_12 : vm_D q_X_power.2.1 12 1 13 (.aload_n 0) := vm_dD b_X_power_0 7 rfl rfl
theorem d_X_power_13 : vm_D q_X_power.2.1 13 1 14 (.iload_n 3) := vm_dD b_X_power_0 8 rfl rfl
theorem d_X_power_14 : vm_D q_X_power.2.1 14 1 15 (.iconst 0) := vm_dD b_X_power_0 9 rfl rfl
theorem d_X_power_15 : vm_D q_X_power.2.1 15 2 17 (.bipush 12) := vm_dD b_X_power_0 10 rfl rfl
theorem d_X_power_17 : vm_D q_X_power.2.1 17 3 20 (.invokevirtual 173) := vm_dD b_X_power_0 11 rfl rfl
theorem d_X_power_20 : vm_D q_X_power.2.1 20 1 21 (.aload_n 0) := vm_dD b_X_power_0 12 rfl rfl
theorem d_X_power_21 : vm_D q_X_power.2.1 21 2 23 (.aload 6) := vm_dD b_X_power_0 13 rfl rfl
theorem d_X_power_23 : vm_D q_X_power.2.1 23 1 24 (.iload_n 3) := vm_dD b_X_power_0 14 rfl rfl
theorem d_X_power_24 : vm_D q_X_power.2.1 24 1 25 (.iconst (-1)) := vm_dD b_X_power_0 15 rfl rfl
theorem d_X_power_25 : vm_D q_X_power.2.1 25 3 28 (.invokevirtual 289) := vm_dD b_X_power_0 16 rfl rfl
theorem d_X_power_28 : vm_D q_X_power.2.1 28 2 30 (.lload 4) := vm_dD b_X_power_0 17 rfl rfl
theorem d_X_power_30 : vm_D q_X_power.2.1 30 1 31 (.lconst 0) := vm_dD b_X_power_0 18 rfl rfl
theorem d_X_power_31 : vm_D q_X_power.2.1 31 1 32 (.lcmp) := vm_dD b_X_power_0 19 rfl rfl
theorem d_X_power_32 : vm_B q_X_power.2.1 32 35 47 (fun o => .ifCond .lt o) := ⟨15, vm_db b_X_power_0 (i := 20) rfl, rfl, by decide⟩
theorem d_X_power_47 : vm_D q_X_power.2.1 47 1 48 (.iconst (-1)) := vm_dD b_X_power_0 28 rfl rfl
theorem d_X_power_48 : vm_D q_X_power.2.1 48 1 49 (.ireturn) := vm_dD b_X_power_0 29 rfl rfl
theorem d_X_power_35 : vm_D q_X_power.2.1 35 2 37 (.lload 4) := vm_dD b_X_power_0 21 rfl rfl
theorem d_X_power_37 : vm_D q_X_power.2.1 37 1 38 (.aload_n 0) := vm_dD b_X_power_0 22 rfl rfl
theorem d_X_power_38 : vm_D q_X_power.2.1 38 1 39 (.iload_n 3) := vm_dD b_X_power_0 23 rfl rfl
theorem d_X_power_39 : vm_D q_X_power.2.1 39 1 40 (.iload_n 2) := vm_dD b_X_power_0 24 rfl rfl
theorem d_X_power_40 : vm_D q_X_power.2.1 40 3 43 (.invokevirtual 293) := vm_dD b_X_power_0 25 rfl rfl
theorem d_X_power_43 : vm_D q_X_power.2.1 43 1 44 (.lcmp) := vm_dD b_X_power_0 26 rfl rfl
theorem d_X_power_44 : vm_B q_X_power.2.1 44 47 49 (fun o => .ifCond .lt o) := ⟨5, vm_db b_X_power_0 (i := 27) rfl, rfl, by decide⟩
theorem d_X_power_49 : vm_D q_X_power.2.1 49 1 50 (.iload_n 2) := vm_dD b_X_power_0 30 rfl rfl
theorem d_X_power_50 : vm_D q_X_power.2.1 50 2 52 (.istore 7) := vm_dD b_X_power_0 31 rfl rfl
theorem d_X_power_52 : vm_D q_X_power.2.1 52 2 54 (.lload 4) := vm_dD b_X_power_0 32 rfl rfl
theorem d_X_power_54 : vm_D q_X_power.2.1 54 2 56 (.lstore 8) := vm_dD b_X_power_0 33 rfl rfl
theorem d_X_power_56 : vm_D q_X_power.2.1 56 1 57 (.iload_n 3) := vm_dD b_X_power_0 34 rfl rfl
theorem d_X_power_57 : vm_D q_X_power.2.1 57 1 58 (.iconst 1) := vm_dD b_X_power_0 35 rfl rfl
theorem d_X_power_58 : vm_D q_X_power.2.1 58 1 59 (.isub) := vm_dD b_X_power_0 36 rfl rfl
theorem d_X_power_59 : vm_D q_X_power.2.1 59 2 61 (.istore 10) := vm_dD b_X_power_0 37 rfl rfl
theorem d_X_power_61 : vm_D q_X_power.2.1 61 2 63 (.iload 10) := vm_dD b_X_power_0 38 rfl rfl
theorem d_X_power_63 : vm_B q_X_power.2.1 63 66 147 (fun o => .ifCond .lt o) := ⟨84, vm_db b_X_power_0 (i := 39) rfl, rfl, by decide⟩
theorem d_X_power_66 : vm_D q_X_power.2.1 66 1 67 (.iconst 0) := vm_dD b_X_power_0 40 rfl rfl
theorem d_X_power_67 : vm_D q_X_power.2.1 67 2 69 (.istore 11) := vm_dD b_X_power_0 41 rfl rfl
theorem d_X_power_69 : vm_D q_X_power.2.1 69 2 71 (.iload 11) := vm_dD b_X_power_0 42 rfl rfl
theorem d_X_power_71 : vm_D q_X_power.2.1 71 2 73 (.aload 6) := vm_dD b_X_power_0 43 rfl rfl
theorem d_X_power_73 : vm_D q_X_power.2.1 73 2 75 (.iload 7) := vm_dD b_X_power_0 44 rfl rfl
theorem d_X_power_75 : vm_D q_X_power.2.1 75 3 78 (.invokevirtual 278) := vm_dD b_X_power_0 45 rfl rfl
theorem d_X_power_78 : vm_D q_X_power.2.1 78 1 79 (.iconst 1) := vm_dD b_X_power_0 46 rfl rfl
theorem d_X_power_79 : vm_D q_X_power.2.1 79 1 80 (.isub) := vm_dD b_X_power_0 47 rfl rfl
theorem d_X_power_80 : vm_B q_X_power.2.1 80 83 130 (fun o => .if_icmp .ge o) := ⟨50, vm_db b_X_power_0 (i := 48) rfl, rfl, by decide⟩
theorem d_X_power_83 : vm_D q_X_power.2.1 83 2 85 (.lload 8) := vm_dD b_X_power_0 49 rfl rfl
theorem d_X_power_85 : vm_D q_X_power.2.1 85 1 86 (.aload_n 0) := vm_dD b_X_power_0 50 rfl rfl
theorem d_X_power_86 : vm_D q_X_power.2.1 86 2 88 (.iload 10) := vm_dD b_X_power_0 51 rfl rfl
theorem d_X_power_88 : vm_D q_X_power.2.1 88 2 90 (.aload 6) := vm_dD b_X_power_0 52 rfl rfl
theorem d_X_power_90 : vm_D q_X_power.2.1 90 2 92 (.iload 7) := vm_dD b_X_power_0 53 rfl rfl
theorem d_X_power_92 : vm_D q_X_power.2.1 92 2 94 (.iload 11) := vm_dD b_X_power_0 54 rfl rfl
theorem d_X_power_94 : vm_D q_X_power.2.1 94 3 97 (.invokevirtual 287) := vm_dD b_X_power_0 55 rfl rfl
theorem d_X_power_97 : vm_D q_X_power.2.1 97 3 100 (.invokevirtual 293) := vm_dD b_X_power_0 56 rfl rfl
theorem d_X_power_100 : vm_D q_X_power.2.1 100 1 101 (.lcmp) := vm_dD b_X_power_0 57 rfl rfl
theorem d_X_power_101 : vm_B q_X_power.2.1 101 104 130 (fun o => .ifCond .lt o) := ⟨29, vm_db b_X_power_0 (i := 58) rfl, rfl, by decide⟩
theorem d_X_power_104 : vm_D q_X_power.2.1 104 2 106 (.lload 8) := vm_dD b_X_power_0 59 rfl rfl
theorem d_X_power_106 : vm_D q_X_power.2.1 106 1 107 (.aload_n 0) := vm_dD b_X_power_1 0 rfl rfl
theorem d_X_power_107 : vm_D q_X_power.2.1 107 2 109 (.iload 10) := vm_dD b_X_power_1 1 rfl rfl
theorem d_X_power_109 : vm_D q_X_power.2.1 109 2 111 (.aload 6) := vm_dD b_X_power_1 2 rfl rfl
theorem d_X_power_111 : vm_D q_X_power.2.1 111 2 113 (.iload 7) := vm_dD b_X_power_1 3 rfl rfl
theorem d_X_power_113 : vm_D q_X_power.2.1 113 2 115 (.iload 11) := vm_dD b_X_power_1 4 rfl rfl
theorem d_X_power_115 : vm_D q_X_power.2.1 115 3 118 (.invokevirtual 287) := vm_dD b_X_power_1 5 rfl rfl
theorem d_X_power_118 : vm_D q_X_power.2.1 118 3 121 (.invokevirtual 293) := vm_dD b_X_power_1 6 rfl rfl
theorem d_X_power_121 : vm_D q_X_power.2.1 121 1 122 (.lsub) := vm_dD b_X_power_1 7 rfl rfl
theorem d_X_power_122 : vm_D q_X_power.2.1 122 2 124 (.lstore 8) := vm_dD b_X_power_1 8 rfl rfl
theorem d_X_power_124 : vm_D q_X_power.2.1 124 3 127 (.iinc 11 1) := vm_dD b_X_power_1 9 rfl rfl
theorem d_X_power_127 : ∃ off : Int, decode q_X_power.2.1 127 = .ok (.goto off, 3) ∧ ((127 : Nat) : Int) + off = ((69 : Nat) : Int) := ⟨-58, vm_db b_X_power_1 (i := 10) rfl, by decide⟩
theorem d_X_power_130 : vm_D q_X_power.2.1 130 2 132 (.aload 6) := vm_dD b_X_power_1 11 rfl rfl
theorem d_X_power_132 : vm_D q_X_power.2.1 132 2 134 (.iload 7) := vm_dD b_X_power_1 12 rfl rfl
theorem d_X_power_134 : vm_D q_X_power.2.1 134 2 136 (.iload 11) := vm_dD b_X_power_1 13 rfl rfl
theorem d_X_power_136 : vm_D q_X_power.2.1 136 3 139 (.invokevirtual 287) := vm_dD b_X_power_1 14 rfl rfl
theorem d_X_power_139 : vm_D q_X_power.2.1 139 2 141 (.istore 7) := vm_dD b_X_power_1 15 rfl rfl
theorem d_X_power_141 : vm_D q_X_power.2.1 141 3 144 (.iinc 10 (-1)) := vm_dD b_X_power_1 16 rfl rfl
theorem d_X_power_144 : ∃ off : Int, decode q_X_power.2.1 144 = .ok (.goto off, 3) ∧ ((144 : Nat) : Int) + off = ((61 : Nat) : Int) := ⟨-83, vm_db b_X_power_1 (i := 17) rfl, by decide⟩
theorem d_X_power_147 : vm_D q_X_power.2.1 147 2 149 (.iload 7) := vm_dD b_X_power_1 18 rfl rfl
theorem d_X_power_149 : vm_D q_X_power.2.1 149 1 150 (.ireturn) := vm_dD b_X_power_1 19 rfl rfl
def q_X_often : vm_Y := ("RepeatFree", cX10_often, 6, false, [])
def t_X_often_0 : List (Nat × Instr × Nat) := [(0, .aload_n 0, 1), (1, .iload_n 1, 1), (2, .invokevirtual 275, 3), (5, .astore 5, 2), (7, .aload_n 0, 1), (8, .iload_n 2, 1), (9, .invokevirtual 110, 3), (12, .aload_n 0, 1), (13, .iload_n 3, 1), (14, .iconst 0, 1), (15, .bipush 12, 2), (17, .invokevirtual 173, 3), (20, .aload_n 0, 1), (21, .iload 4, 2), (23, .invokevirtual 110, 3), (26, .aload_n 0, 1), (27, .aload 5, 2), (29, .iload_n 3, 1), (30, .iload 4, 2), (32, .invokevirtual 289, 3), (35, .aload_n 0, 1), (36, .iload_n 3, 1), (37, .iload_n 2, 1), (38, .invokevirtual 293, 3), (41, .lreturn, 1)]
theorem b_X_often_0 : (t_X_often_0.all fun q => decide (decode q_X_often.2.1 q.1 = .ok (q.2.1, q.2.2))) = true := by decide +kernel
theorem d_X_often_0 : vm_D q_X_often.2.1 0 1 1 (.aload_n 0) := vm_dD b_X_often_0 0 rfl rfl
theorem d_X_often_1 : vm_D q_X_often.2.1 1 1 2 (.iload_n 1) := vm_dD b_X_often_0 1 rfl rfl
theorem d_X_often_2 : vm_D q_X_often.2.1 2 3 5 (.invokevirtual 275) := vm_dD b_X_often_0 2 rfl rfl
theorem d_X_often_5 : vm_D q_X_often.2.1 5 2 7 (.astore 5) := vm_dD b_X_often_0 3 rfl rfl
theorem d_X_often_7 : vm_D q_X_often.2.1 7 1 8 (.aload_n 0) := vm_dD b_X_often_0 4 rfl rfl
theorem d_X_often_8 : vm_D q_X_often.2.1 8 1 9 (.iload_n 2) := vm_dD b_X_often_0 5 rfl rfl
theorem d_X_often_9 : vm_D q_X_often.2.1 9 3 12 (.invokevirtual 110) := vm_dD b_X_often_0 6 rfl rfl
theorem d_X_often_12 : vm_D q_X_often.2.1 12 1 13 (.aload_n 0) := vm_dD b_X_often_0 7 rfl rfl
theorem d_X_often_13 : vm_D q_X_often.2.1 13 1 14 (.iload_n 3) := vm_dD b_X_often_0 8 rfl rfl
theorem d_X_often_14 : vm_D q_X_often.2.1 14 1 15 (.iconst 0) := vm_dD b_X_often_0 9 rfl rfl
theorem d_X_often_15 : vm_D q_X_often.2.1 15 2 17 (.bipush 12) := vm_dD b_X_often_0 10 rfl rfl
theorem d_X_often_17 : vm_D q_X_often.2.1 17 3 20 (.invokevirtual 173) := vm_dD b_X_often_0 11 rfl rfl
theorem d_X_often_20 : vm_D q_X_often.2.1 20 1 21 (.aload_n 0) := vm_dD b_X_often_0 12 rfl rfl
theorem d_X_often_21 : vm_D q_X_often.2.1 21 2 23 (.iload 4) := vm_dD b_X_often_0 13 rfl rfl
theorem d_X_often_23 : vm_D q_X_often.2.1 23 3 26 (.invokevirtual 110) := vm_dD b_X_often_0 14 rfl rfl
theorem d_X_often_26 : vm_D q_X_often.2.1 26 1 27 (.aload_n 0) := vm_dD b_X_often_0 15 rfl rfl
theorem d_X_often_27 : vm_D q_X_often.2.1 27 2 29 (.aload 5) := vm_dD b_X_often_0 16 rfl rfl
theorem d_X_often_29 : vm_D q_X_often.2.1 29 1 30 (.iload_n 3) := vm_dD b_X_often_0 17 rfl rfl
theorem d_X_often_30 : vm_D q_X_often.2.1 30 2 32 (.iload 4) := vm_dD b_X_often_0 18 rfl rfl
theorem d_X_often_32 : vm_D q_X_often.2.1 32 3 35 (.invokevirtual 289) := vm_dD b_X_often_0 19 rfl rfl
theorem d_X_often_35 : vm_D q_X_often.2.1 35 1 36 (.aload_n 0) := vm_dD b_X_often_0 20 rfl rfl
theorem d_X_often_36 : vm_D q_X_often.2.1 36 1 37 (.iload_n 3) := vm_dD b_X_often_0 21 rfl rfl
theorem d_X_often_37 : vm_D q_X_often.2.1 37 1 38 (.iload_n 2) := vm_dD b_X_often_0 22 rfl rfl
theorem d_X_often_38 : vm_D q_X_often.2.1 38 3 41 (.invokevirtual 293) := vm_dD b_X_often_0 23 rfl rfl
theorem d_X_often_41 : vm_D q_X_often.2.1 41 1 42 (.lreturn) := vm_dD b_X_often_0 24 rfl rfl
def q_X_imageBreaks : vm_Y := ("RepeatFree", cX10_imageBreaks, 5, false, [])
def t_X_imageBreaks_0 : List (Nat × Instr × Nat) := [(0, .aload_n 1, 1), (1, .aload_n 2, 1), (2, .aload_n 0, 1), (3, .getfield 40, 3), (6, .invokevirtual 283, 3), (9, .aload_n 0, 1), (10, .getfield 40, 3), (13, .getfield 102, 3), (16, .aload_n 1, 1), (17, .aload_n 2, 1), (18, .aload_n 2, 1), (19, .getfield 102, 3), (22, .iconst 1, 1), (23, .isub, 1), (24, .invokevirtual 106, 3), (27, .invokevirtual 278, 3), (30, .isub, 1), (31, .istore_n 3, 1), (32, .iconst 0, 1), (33, .iload_n 3, 1), (34, .invokestatic 177, 3), (37, .istore 4, 2), (39, .iload 4, 2), (41, .aload_n 0, 1), (42, .getfield 40, 3), (45, .getfield 102, 3), (48, .if_icmp .ge 27, 3), (51, .aload_n 0, 1), (52, .getfield 40, 3), (55, .aload_n 0, 1), (56, .getfield 19, 3), (59, .iload 4, 2), (61, .invokevirtual 308, 3), (64, .ifCond .eq 5, 3), (67, .iconst 1, 1), (68, .ireturn, 1), (69, .iinc 4 1, 3), (72, .goto (-33), 3), (75, .iconst 0, 1), (76, .ireturn, 1)]
theorem b_X_imageBreaks_0 : (t_X_imageBreaks_0.all fun q => decide (decode q_X_imageBreaks.2.1 q.1 = .ok (q.2.1, q.2.2))) = true := by decide +kernel
theorem d_X_imageBreaks_0 : vm_D q_X_imageBreaks.2.1 0 1 1 (.aload_n 1) := vm_dD b_X_imageBreaks_0 0 rfl rfl
theorem d_X_imageBreaks_1 : vm_D q_X_imageBreaks.2.1 1 1 2 (.aload_n 2) := vm_dD b_X_imageBreaks_0 1 rfl rfl
theorem d_X_imageBreaks_2 : vm_D q_X_imageBreaks.2.1 2 1 3 (.aload_n 0) := vm_dD b_X_imageBreaks_0 2 rfl rfl
theorem d_X_imageBreaks_3 : vm_D q_X_imageBreaks.2.1 3 3 6 (.getfield 40) := vm_dD b_X_imageBreaks_0 3 rfl rfl
theorem d_X_imageBreaks_6 : vm_D q_X_imageBreaks.2.1 6 3 9 (.invokevirtual 283) := vm_dD b_X_imageBreaks_0 4 rfl rfl
theorem d_X_imageBreaks_9 : vm_D q_X_imageBreaks.2.1 9 1 10 (.aload_n 0) := vm_dD b_X_imageBreaks_0 5 rfl rfl
theorem d_X_imageBreaks_10 : vm_D q_X_imageBreaks.2.1 10 3 13 (.getfield 40) := vm_dD b_X_imageBreaks_0 6 rfl rfl
theorem d_X_imageBreaks_13 : vm_D q_X_imageBreaks.2.1 13 3 16 (.getfield 102) := vm_dD b_X_imageBreaks_0 7 rfl rfl
theorem d_X_imageBreaks_16 : vm_D q_X_imageBreaks.2.1 16 1 17 (.aload_n 1) := vm_dD b_X_imageBreaks_0 8 rfl rfl
theorem d_X_imageBreaks_17 : vm_D q_X_imageBreaks.2.1 17 1 18 (.aload_n 2) := vm_dD b_X_imageBreaks_0 9 rfl rfl
theorem d_X_imageBreaks_18 : vm_D q_X_imageBreaks.2.1 18 1 19 (.aload_n 2) := vm_dD b_X_imageBreaks_0 10 rfl rfl
theorem d_X_imageBreaks_19 : vm_D q_X_imageBreaks.2.1 19 3 22 (.getfield 102) := vm_dD b_X_imageBreaks_0 11 rfl rfl
theorem d_X_imageBreaks_22 : vm_D q_X_imageBreaks.2.1 22 1 23 (.iconst 1) := vm_dD b_X_imageBreaks_0 12 rfl rfl
theorem d_X_imageBreaks_23 : vm_D q_X_imageBreaks.2.1 23 1 24 (.isub) := vm_dD b_X_imageBreaks_0 13 rfl rfl
theorem d_X_imageBreaks_24 : vm_D q_X_imageBreaks.2.1 24 3 27 (.invokevirtual 106) := vm_dD b_X_imageBreaks_0 14 rfl rfl
theorem d_X_imageBreaks_27 : vm_D q_X_imageBreaks.2.1 27 3 30 (.invokevirtual 278) := vm_dD b_X_imageBreaks_0 15 rfl rfl
theorem d_X_imageBreaks_30 : vm_D q_X_imageBreaks.2.1 30 1 31 (.isub) := vm_dD b_X_imageBreaks_0 16 rfl rfl
theorem d_X_imageBreaks_31 : vm_D q_X_imageBreaks.2.1 31 1 32 (.istore_n 3) := vm_dD b_X_imageBreaks_0 17 rfl rfl
theorem d_X_imageBreaks_32 : vm_D q_X_imageBreaks.2.1 32 1 33 (.iconst 0) := vm_dD b_X_imageBreaks_0 18 rfl rfl
theorem d_X_imageBreaks_33 : vm_D q_X_imageBreaks.2.1 33 1 34 (.iload_n 3) := vm_dD b_X_imageBreaks_0 19 rfl rfl
theorem d_X_imageBreaks_34 : vm_D q_X_imageBreaks.2.1 34 3 37 (.invokestatic 177) := vm_dD b_X_imageBreaks_0 20 rfl rfl
theorem d_X_imageBreaks_37 : vm_D q_X_imageBreaks.2.1 37 2 39 (.istore 4) := vm_dD b_X_imageBreaks_0 21 rfl rfl
theorem d_X_imageBreaks_39 : vm_D q_X_imageBreaks.2.1 39 2 41 (.iload 4) := vm_dD b_X_imageBreaks_0 22 rfl rfl
theorem d_X_imageBreaks_41 : vm_D q_X_imageBreaks.2.1 41 1 42 (.aload_n 0) := vm_dD b_X_imageBreaks_0 23 rfl rfl
theorem d_X_imageBreaks_42 : vm_D q_X_imageBreaks.2.1 42 3 45 (.getfield 40) := vm_dD b_X_imageBreaks_0 24 rfl rfl
theorem d_X_imageBreaks_45 : vm_D q_X_imageBreaks.2.1 45 3 48 (.getfield 102) := vm_dD b_X_imageBreaks_0 25 rfl rfl
theorem d_X_imageBreaks_48 : vm_B q_X_imageBreaks.2.1 48 51 75 (fun o => .if_icmp .ge o) := ⟨27, vm_db b_X_imageBreaks_0 (i := 26) rfl, rfl, by decide⟩
theorem d_X_imageBreaks_51 : vm_D q_X_imageBreaks.2.1 51 1 52 (.aload_n 0) := vm_dD b_X_imageBreaks_0 27 rfl rfl
theorem d_X_imageBreaks_52 : vm_D q_X_imageBreaks.2.1 52 3 55 (.getfield 40) := vm_dD b_X_imageBreaks_0 28 rfl rfl
theorem d_X_imageBreaks_55 : vm_D q_X_imageBreaks.2.1 55 1 56 (.aload_n 0) := vm_dD b_X_imageBreaks_0 29 rfl rfl
theorem d_X_imageBreaks_56 : vm_D q_X_imageBreaks.2.1 56 3 59 (.getfield 19) := vm_dD b_X_imageBreaks_0 30 rfl rfl
theorem d_X_imageBreaks_59 : vm_D q_X_imageBreaks.2.1 59 2 61 (.iload 4) := vm_dD b_X_imageBreaks_0 31 rfl rfl
theorem d_X_imageBreaks_61 : vm_D q_X_imageBreaks.2.1 61 3 64 (.invokevirtual 308) := vm_dD b_X_imageBreaks_0 32 rfl rfl
theorem d_X_imageBreaks_64 : vm_B q_X_imageBreaks.2.1 64 67 69 (fun o => .ifCond .eq o) := ⟨5, vm_db b_X_imageBreaks_0 (i := 33) rfl, rfl, by decide⟩
theorem d_X_imageBreaks_69 : vm_D q_X_imageBreaks.2.1 69 3 72 (.iinc 4 1) := vm_dD b_X_imageBreaks_0 36 rfl rfl
theorem d_X_imageBreaks_72 : ∃ off : Int, decode q_X_imageBreaks.2.1 72 = .ok (.goto off, 3) ∧ ((72 : Nat) : Int) + off = ((39 : Nat) : Int) := ⟨-33, vm_db b_X_imageBreaks_0 (i := 37) rfl, by decide⟩
theorem d_X_imageBreaks_67 : vm_D q_X_imageBreaks.2.1 67 1 68 (.iconst 1) := vm_dD b_X_imageBreaks_0 34 rfl rfl
theorem d_X_imageBreaks_68 : vm_D q_X_imageBreaks.2.1 68 1 69 (.ireturn) := vm_dD b_X_imageBreaks_0 35 rfl rfl
theorem d_X_imageBreaks_75 : vm_D q_X_imageBreaks.2.1 75 1 76 (.iconst 0) := vm_dD b_X_imageBreaks_0 38 rfl rfl
theorem d_X_imageBreaks_76 : vm_D q_X_imageBreaks.2.1 76 1 77 (.ireturn) := vm_dD b_X_imageBreaks_0 39 rfl rfl
def q_X_breaker : vm_Y := ("RepeatFree", cX10_breaker, 6, false, [])
def t_X_breaker_0 : List (Nat × Instr × Nat) := [(0, .aload_n 0, 1), (1, .getfield 46, 3), (4, .aload_n 0, 1), (5, .getfield 19, 3), (8, .invokevirtual 236, 3), (11, .iconst 1, 1), (12, .istore_n 3, 1), (13, .iload_n 3, 1), (14, .iload_n 2, 1), (15, .if_icmp .gt 100, 3), (18, .aload_n 0, 1), (19, .getfield 46, 3), (22, .aload_n 0, 1), (23, .getfield 36, 3), (26, .iconst 0, 1), (27, .iconst 0, 1), (28, .iload_n 3, 1), (29, .invokevirtual 240, 3), (32, .aload_n 0, 1), (33, .getfield 46, 3), (36, .invokevirtual 250, 3), (39, .istore 4, 2), (41, .iconst 0, 1), (42, .istore 5, 2), (44, .iload 5, 2), (46, .sipush 5000, 3), (49, .if_icmp .ge 50, 3), (52, .iload 4, 2), (54, .iconst 1, 1), (55, .if_icmp .ne 44, 3), (58, .aload_n 0, 1), (59, .aload_n 1, 1), (60, .aload_n 0, 1), (61, .getfield 46, 3), (64, .getfield 253, 3), (67, .invokevirtual 301, 3), (70, .ifCond .eq 14, 3), (73, .aload_n 0, 1), (74, .getfield 46, 3), (77, .getfield 253, 3), (80, .invokevirtual 305, 3), (83, .ireturn, 1), (84, .aload_n 0, 1), (85, .getfield 46, 3), (88, .invokevirtual 250, 3), (91, .istore 4, 2), (93, .iinc 5 1, 3), (96, .goto (-52), 3), (99, .iload 4, 2), (101, .bipush (-2), 2), (103, .if_icmp .ne 6, 3), (106, .bipush (-2), 2), (108, .ireturn, 1), (109, .iinc 3 1, 3), (112, .goto (-99), 3), (115, .iconst (-1), 1), (116, .ireturn, 1)]
theorem b_X_breaker_0 : (t_X_breaker_0.all fun q => decide (decode q_X_breaker.2.1 q.1 = .ok (q.2.1, q.2.2))) = true := by decide +kernel
theorem d_X_breaker_0 : vm_D q_X_breaker.2.1 0 1 1 (.aload_n 0) := vm_dD b_X_breaker_0 0 rfl rfl
theorem d_X_breaker_1 : vm_D q_X_breaker.2.1 1 3 4 (.getfield 46) := vm_dD b_X_breaker_0 1 rfl rfl
theorem d_X_breaker_4 : vm_D q_X_breaker.2.1 4 1 5 (.aload_n 0) := vm_dD b_X_breaker_0 2 rfl rfl
theorem d_X_breaker_5 : vm_D q_X_breaker.2.1 5 3 8 (.getfield 19) := vm_dD b_X_breaker_0 3 rfl rfl
theorem d_X_breaker_8 : vm_D q_X_breaker.2.1 8 3 11 (.invokevirtual 236) := vm_dD b_X_breaker_0 4 rfl rfl
theorem d_X_breaker_11 : vm_D q_X_breaker.2.1 11 1 12 (.iconst 1) := vm_dD b_X_breaker_0 5 rfl rfl
theorem d_X_breaker_12 : vm_D q_X_breaker.2.1 12 1 13 (.istore_n 3) := vm_dD b_X_breaker_0 6 rfl rfl
theorem d_X_breaker_13 : vm_D q_X_breaker.2.1 13 1 14 (.iload_n 3) := vm_dD b_X_breaker_0 7 rfl rfl
theorem d_X_breaker_14 : vm_D q_X_breaker.2.1 14 1 15 (.iload_n 2) := vm_dD b_X_breaker_0 8 rfl rfl
theorem d_X_breaker_15 : vm_B q_X_breaker.2.1 15 18 115 (fun o => .if_icmp .gt o) := ⟨100, vm_db b_X_breaker_0 (i := 9) rfl, rfl, by decide⟩
theorem d_X_breaker_18 : vm_D q_X_breaker.2.1 18 1 19 (.aload_n 0) := vm_dD b_X_breaker_0 10 rfl rfl
theorem d_X_breaker_19 : vm_D q_X_breaker.2.1 19 3 22 (.getfield 46) := vm_dD b_X_breaker_0 11 rfl rfl
theorem d_X_breaker_22 : vm_D q_X_breaker.2.1 22 1 23 (.aload_n 0) := vm_dD b_X_breaker_0 12 rfl rfl
theorem d_X_breaker_23 : vm_D q_X_breaker.2.1 23 3 26 (.getfield 36) := vm_dD b_X_breaker_0 13 rfl rfl
theorem d_X_breaker_26 : vm_D q_X_breaker.2.1 26 1 27 (.iconst 0) := vm_dD b_X_breaker_0 14 rfl rfl
theorem d_X_breaker_27 : vm_D q_X_breaker.2.1 27 1 28 (.iconst 0) := vm_dD b_X_breaker_0 15 rfl rfl
theorem d_X_breaker_28 : vm_D q_X_breaker.2.1 28 1 29 (.iload_n 3) := vm_dD b_X_breaker_0 16 rfl rfl
theorem d_X_breaker_29 : vm_D q_X_breaker.2.1 29 3 32 (.invokevirtual 240) := vm_dD b_X_breaker_0 17 rfl rfl
theorem d_X_breaker_32 : vm_D q_X_breaker.2.1 32 1 33 (.aload_n 0) := vm_dD b_X_breaker_0 18 rfl rfl
theorem d_X_breaker_33 : vm_D q_X_breaker.2.1 33 3 36 (.getfield 46) := vm_dD b_X_breaker_0 19 rfl rfl
theorem d_X_breaker_36 : vm_D q_X_breaker.2.1 36 3 39 (.invokevirtual 250) := vm_dD b_X_breaker_0 20 rfl rfl
theorem d_X_breaker_39 : vm_D q_X_breaker.2.1 39 2 41 (.istore 4) := vm_dD b_X_breaker_0 21 rfl rfl
theorem d_X_breaker_41 : vm_D q_X_breaker.2.1 41 1 42 (.iconst 0) := vm_dD b_X_breaker_0 22 rfl rfl
theorem d_X_breaker_42 : vm_D q_X_breaker.2.1 42 2 44 (.istore 5) := vm_dD b_X_breaker_0 23 rfl rfl
theorem d_X_breaker_44 : vm_D q_X_breaker.2.1 44 2 46 (.iload 5) := vm_dD b_X_breaker_0 24 rfl rfl
theorem d_X_breaker_46 : vm_D q_X_breaker.2.1 46 3 49 (.sipush 5000) := vm_dD b_X_breaker_0 25 rfl rfl
theorem d_X_breaker_49 : vm_B q_X_breaker.2.1 49 52 99 (fun o => .if_icmp .ge o) := ⟨50, vm_db b_X_breaker_0 (i := 26) rfl, rfl, by decide⟩
theorem d_X_breaker_52 : vm_D q_X_breaker.2.1 52 2 54 (.iload 4) := vm_dD b_X_breaker_0 27 rfl rfl
theorem d_X_breaker_54 : vm_D q_X_breaker.2.1 54 1 55 (.iconst 1) := vm_dD b_X_breaker_0 28 rfl rfl
theorem d_X_breaker_55 : vm_B q_X_breaker.2.1 55 58 99 (fun o => .if_icmp .ne o) := ⟨44, vm_db b_X_breaker_0 (i := 29) rfl, rfl, by decide⟩
theorem d_X_breaker_58 : vm_D q_X_breaker.2.1 58 1 59 (.aload_n 0) := vm_dD b_X_breaker_0 30 rfl rfl
theorem d_X_breaker_59 : vm_D q_X_breaker.2.1 59 1 60 (.aload_n 1) := vm_dD b_X_breaker_0 31 rfl rfl
theorem d_X_breaker_60 : vm_D q_X_breaker.2.1 60 1 61 (.aload_n 0) := vm_dD b_X_breaker_0 32 rfl rfl
theorem d_X_breaker_61 : vm_D q_X_breaker.2.1 61 3 64 (.getfield 46) := vm_dD b_X_breaker_0 33 rfl rfl
theorem d_X_breaker_64 : vm_D q_X_breaker.2.1 64 3 67 (.getfield 253) := vm_dD b_X_breaker_0 34 rfl rfl
theorem d_X_breaker_67 : vm_D q_X_breaker.2.1 67 3 70 (.invokevirtual 301) := vm_dD b_X_breaker_0 35 rfl rfl
theorem d_X_breaker_70 : vm_B q_X_breaker.2.1 70 73 84 (fun o => .ifCond .eq o) := ⟨14, vm_db b_X_breaker_0 (i := 36) rfl, rfl, by decide⟩
theorem d_X_breaker_84 : vm_D q_X_breaker.2.1 84 1 85 (.aload_n 0) := vm_dD b_X_breaker_0 42 rfl rfl
theorem d_X_breaker_85 : vm_D q_X_breaker.2.1 85 3 88 (.getfield 46) := vm_dD b_X_breaker_0 43 rfl rfl
theorem d_X_breaker_88 : vm_D q_X_breaker.2.1 88 3 91 (.invokevirtual 250) := vm_dD b_X_breaker_0 44 rfl rfl
theorem d_X_breaker_91 : vm_D q_X_breaker.2.1 91 2 93 (.istore 4) := vm_dD b_X_breaker_0 45 rfl rfl
theorem d_X_breaker_93 : vm_D q_X_breaker.2.1 93 3 96 (.iinc 5 1) := vm_dD b_X_breaker_0 46 rfl rfl
theorem d_X_breaker_96 : ∃ off : Int, decode q_X_breaker.2.1 96 = .ok (.goto off, 3) ∧ ((96 : Nat) : Int) + off = ((44 : Nat) : Int) := ⟨-52, vm_db b_X_breaker_0 (i := 47) rfl, by decide⟩
theorem d_X_breaker_73 : vm_D q_X_breaker.2.1 73 1 74 (.aload_n 0) := vm_dD b_X_breaker_0 37 rfl rfl
theorem d_X_breaker_74 : vm_D q_X_breaker.2.1 74 3 77 (.getfield 46) := vm_dD b_X_breaker_0 38 rfl rfl
theorem d_X_breaker_77 : vm_D q_X_breaker.2.1 77 3 80 (.getfield 253) := vm_dD b_X_breaker_0 39 rfl rfl
theorem d_X_breaker_80 : vm_D q_X_breaker.2.1 80 3 83 (.invokevirtual 305) := vm_dD b_X_breaker_0 40 rfl rfl
theorem d_X_breaker_83 : vm_D q_X_breaker.2.1 83 1 84 (.ireturn) := vm_dD b_X_breaker_0 41 rfl rfl
theorem d_X_breaker_99 : vm_D q_X_breaker.2.1 99 2 101 (.iload 4) := vm_dD b_X_breaker_0 48 rfl rfl
theorem d_X_breaker_101 : vm_D q_X_breaker.2.1 101 2 103 (.bipush (-2)) := vm_dD b_X_breaker_0 49 rfl rfl
theorem d_X_breaker_103 : vm_B q_X_breaker.2.1 103 106 109 (fun o => .if_icmp .ne o) := ⟨6, vm_db b_X_breaker_0 (i := 50) rfl, rfl, by decide⟩
theorem d_X_breaker_109 : vm_D q_X_breaker.2.1 109 3 112 (.iinc 3 1) := vm_dD b_X_breaker_0 53 rfl rfl
theorem d_X_breaker_112 : ∃ off : Int, decode q_X_breaker.2.1 112 = .ok (.goto off, 3) ∧ ((112 : Nat) : Int) + off = ((13 : Nat) : Int) := ⟨-99, vm_db b_X_breaker_0 (i := 54) rfl, by decide⟩
theorem d_X_breaker_106 : vm_D q_X_breaker.2.1 106 2 108 (.bipush (-2)) := vm_dD b_X_breaker_0 51 rfl rfl
theorem d_X_breaker_108 : vm_D q_X_breaker.2.1 108 1 109 (.ireturn) := vm_dD b_X_breaker_0 52 rfl rfl
theorem d_X_breaker_115 : vm_D q_X_breaker.2.1 115 1 116 (.iconst (-1)) := vm_dD b_X_breaker_0 55 rfl rfl
theorem d_X_breaker_116 : vm_D q_X_breaker.2.1 116 1 117 (.ireturn) := vm_dD b_X_breaker_0 56 rfl rfl
def q_X_keeps : vm_Y := ("RepeatFree", cX10_keeps, 5, false, [])
def t_X_keeps_0 : List (Nat × Instr × Nat) := [(0, .aload_n 0, 1), (1, .iload_n 1, 1), (2, .invokevirtual 275, 3), (5, .astore_n 3, 1), (6, .aload_n 0, 1), (7, .iload_n 2, 1), (8, .iconst 1, 1), (9, .bipush 6, 2), (11, .invokevirtual 173, 3), (14, .aload_n 0, 1), (15, .aload_n 3, 1), (16, .iload_n 2, 1), (17, .invokevirtual 297, 3), (20, .istore 4, 2), (22, .iload 4, 2), (24, .bipush (-2), 2), (26, .if_icmp .ne 8, 3), (29, .bipush (-2), 2), (31, .goto 14, 3), (34, .iload 4, 2), (36, .iconst (-1), 1), (37, .if_icmp .ne 7, 3), (40, .iconst 1, 1), (41, .goto 4, 3), (44, .iconst 0, 1), (45, .ireturn, 1)]
theorem b_X_keeps_0 : (t_X_keeps_0.all fun q => decide (decode q_X_keeps.2.1 q.1 = .ok (q.2.1, q.2.2))) = true := by decide +kernel
theorem d_X_keeps_0 : vm_D q_X_keeps.2.1 0 1 1 (.aload_n 0) := vm_dD b_X_keeps_0 0 rfl rfl
theorem d_X_keeps_1 : vm_D q_X_keeps.2.1 1 1 2 (.iload_n 1) := vm_dD b_X_keeps_0 1 rfl rfl
theorem d_X_keeps_2 : vm_D q_X_keeps.2.1 2 3 5 (.invokevirtual 275) := vm_dD b_X_keeps_0 2 rfl rfl
theorem d_X_keeps_5 : vm_D q_X_keeps.2.1 5 1 6 (.astore_n 3) := vm_dD b_X_keeps_0 3 rfl rfl
theorem d_X_keeps_6 : vm_D q_X_keeps.2.1 6 1 7 (.aload_n 0) := vm_dD b_X_keeps_0 4 rfl rfl
theorem d_X_keeps_7 : vm_D q_X_keeps.2.1 7 1 8 (.iload_n 2) := vm_dD b_X_keeps_0 5 rfl rfl
theorem d_X_keeps_8 : vm_D q_X_keeps.2.1 8 1 9 (.iconst 1) := vm_dD b_X_keeps_0 6 rfl rfl
theorem d_X_keeps_9 : vm_D q_X_keeps.2.1 9 2 11 (.bipush 6) := vm_dD b_X_keeps_0 7 rfl rfl
theorem d_X_keeps_11 : vm_D q_X_keeps.2.1 11 3 14 (.invokevirtual 173) := vm_dD b_X_keeps_0 8 rfl rfl
theorem d_X_keeps_14 : vm_D q_X_keeps.2.1 14 1 15 (.aload_n 0) := vm_dD b_X_keeps_0 9 rfl rfl
theorem d_X_keeps_15 : vm_D q_X_keeps.2.1 15 1 16 (.aload_n 3) := vm_dD b_X_keeps_0 10 rfl rfl
theorem d_X_keeps_16 : vm_D q_X_keeps.2.1 16 1 17 (.iload_n 2) := vm_dD b_X_keeps_0 11 rfl rfl
theorem d_X_keeps_17 : vm_D q_X_keeps.2.1 17 3 20 (.invokevirtual 297) := vm_dD b_X_keeps_0 12 rfl rfl
theorem d_X_keeps_20 : vm_D q_X_keeps.2.1 20 2 22 (.istore 4) := vm_dD b_X_keeps_0 13 rfl rfl
theorem d_X_keeps_22 : vm_D q_X_keeps.2.1 22 2 24 (.iload 4) := vm_dD b_X_keeps_0 14 rfl rfl
theorem d_X_keeps_24 : vm_D q_X_keeps.2.1 24 2 26 (.bipush (-2)) := vm_dD b_X_keeps_0 15 rfl rfl
theorem d_X_keeps_26 : vm_B q_X_keeps.2.1 26 29 34 (fun o => .if_icmp .ne o) := ⟨8, vm_db b_X_keeps_0 (i := 16) rfl, rfl, by decide⟩
theorem d_X_keeps_34 : vm_D q_X_keeps.2.1 34 2 36 (.iload 4) := vm_dD b_X_keeps_0 19 rfl rfl
theorem d_X_keeps_36 : vm_D q_X_keeps.2.1 36 1 37 (.iconst (-1)) := vm_dD b_X_keeps_0 20 rfl rfl
theorem d_X_keeps_37 : vm_B q_X_keeps.2.1 37 40 44 (fun o => .if_icmp .ne o) := ⟨7, vm_db b_X_keeps_0 (i := 21) rfl, rfl, by decide⟩
theorem d_X_keeps_44 : vm_D q_X_keeps.2.1 44 1 45 (.iconst 0) := vm_dD b_X_keeps_0 24 rfl rfl
theorem d_X_keeps_45 : vm_D q_X_keeps.2.1 45 1 46 (.ireturn) := vm_dD b_X_keeps_0 25 rfl rfl
theorem d_X_keeps_40 : vm_D q_X_keeps.2.1 40 1 41 (.iconst 1) := vm_dD b_X_keeps_0 22 rfl rfl
theorem d_X_keeps_41 : ∃ off : Int, decode q_X_keeps.2.1 41 = .ok (.goto off, 3) ∧ ((41 : Nat) : Int) + off = ((45 : Nat) : Int) := ⟨4, vm_db b_X_keeps_0 (i := 23) rfl, by decide⟩
theorem d_X_keeps_29 : vm_D q_X_keeps.2.1 29 2 31 (.bipush (-2)) := vm_dD b_X_keeps_0 17 rfl rfl
theorem d_X_keeps_31 : ∃ off : Int, decode q_X_keeps.2.1 31 = .ok (.goto off, 3) ∧ ((31 : Nat) : Int) + off = ((45 : Nat) : Int) := ⟨14, vm_db b_X_keeps_0 (i := 18) rfl, by decide⟩
def q_X_breaks : vm_Y := ("RepeatFree", cX10_breaks, 4, false, [])
def t_X_breaks_0 : List (Nat × Instr × Nat) := [(0, .aload_n 0, 1), (1, .iload_n 1, 1), (2, .invokevirtual 275, 3), (5, .astore_n 3, 1), (6, .aload_n 0, 1), (7, .iload_n 2, 1), (8, .iconst 1, 1), (9, .bipush 6, 2), (11, .invokevirtual 173, 3), (14, .aload_n 0, 1), (15, .aload_n 3, 1), (16, .iload_n 2, 1), (17, .invokevirtual 297, 3), (20, .ireturn, 1)]
theorem b_X_breaks_0 : (t_X_breaks_0.all fun q => decide (decode q_X_breaks.2.1 q.1 = .ok (q.2.1, q.2.2))) = true := by decide +kernel
theorem d_X_breaks_0 : vm_D q_X_breaks.2.1 0 1 1 (.aload_n 0) := vm_dD b_X_breaks_0 0 rfl rfl
theorem d_X_breaks_1 : vm_D q_X_breaks.2.1 1 1 2 (.iload_n 1) := vm_dD b_X_breaks_0 1 rfl rfl
theorem d_X_breaks_2 : vm_D q_X_breaks.2.1 2 3 5 (.invokevirtual 275) := vm_dD b_X_breaks_0 2 rfl rfl
theorem d_X_breaks_5 : vm_D q_X_breaks.2.1 5 1 6 (.astore_n 3) := vm_dD b_X_breaks_0 3 rfl rfl
theorem d_X_breaks_6 : vm_D q_X_breaks.2.1 6 1 7 (.aload_n 0) := vm_dD b_X_breaks_0 4 rfl rfl
theorem d_X_breaks_7 : vm_D q_X_breaks.2.1 7 1 8 (.iload_n 2) := vm_dD b_X_breaks_0 5 rfl rfl
theorem d_X_breaks_8 : vm_D q_X_breaks.2.1 8 1 9 (.iconst 1) := vm_dD b_X_breaks_0 6 rfl rfl
theorem d_X_breaks_9 : vm_D q_X_breaks.2.1 9 2 11 (.bipush 6) := vm_dD b_X_breaks_0 7 rfl rfl
theorem d_X_breaks_11 : vm_D q_X_breaks.2.1 11 3 14 (.invokevirtual 173) := vm_dD b_X_breaks_0 8 rfl rfl
theorem d_X_breaks_14 : vm_D q_X_breaks.2.1 14 1 15 (.aload_n 0) := vm_dD b_X_breaks_0 9 rfl rfl
theorem d_X_breaks_15 : vm_D q_X_breaks.2.1 15 1 16 (.aload_n 3) := vm_dD b_X_breaks_0 10 rfl rfl
theorem d_X_breaks_16 : vm_D q_X_breaks.2.1 16 1 17 (.iload_n 2) := vm_dD b_X_breaks_0 11 rfl rfl
theorem d_X_breaks_17 : vm_D q_X_breaks.2.1 17 3 20 (.invokevirtual 297) := vm_dD b_X_breaks_0 12 rfl rfl
theorem d_X_breaks_20 : vm_D q_X_breaks.2.1 20 1 21 (.ireturn) := vm_dD b_X_breaks_0 13 rfl rfl
def q_X_grows : vm_Y := ("RepeatFree", cX10_grows, 5, false, [])
def t_X_grows_0 : List (Nat × Instr × Nat) := [(0, .aload_n 0, 1), (1, .iload_n 1, 1), (2, .invokevirtual 275, 3), (5, .astore_n 2, 1), (6, .iconst 0, 1), (7, .istore_n 3, 1), (8, .iconst 0, 1), (9, .istore 4, 2), (11, .iload 4, 2), (13, .aload_n 0, 1), (14, .getfield 19, 3), (17, .getfield 91, 3), (20, .if_icmp .ge 25, 3), (23, .aload_n 2, 1), (24, .iload 4, 2), (26, .invokevirtual 312, 3), (29, .ifCond .eq 10, 3), (32, .iload_n 3, 1), (33, .iconst 1, 1), (34, .iload 4, 2), (36, .ishl, 1), (37, .ior, 1), (38, .istore_n 3, 1), (39, .iinc 4 1, 3), (42, .goto (-31), 3), (45, .iload_n 3, 1), (46, .ireturn, 1)]
theorem b_X_grows_0 : (t_X_grows_0.all fun q => decide (decode q_X_grows.2.1 q.1 = .ok (q.2.1, q.2.2))) = true := by decide +kernel
theorem d_X_grows_0 : vm_D q_X_grows.2.1 0 1 1 (.aload_n 0) := vm_dD b_X_grows_0 0 rfl rfl
theorem d_X_grows_1 : vm_D q_X_grows.2.1 1 1 2 (.iload_n 1) := vm_dD b_X_grows_0 1 rfl rfl
theorem d_X_grows_2 : vm_D q_X_grows.2.1 2 3 5 (.invokevirtual 275) := vm_dD b_X_grows_0 2 rfl rfl
theorem d_X_grows_5 : vm_D q_X_grows.2.1 5 1 6 (.astore_n 2) := vm_dD b_X_grows_0 3 rfl rfl
theorem d_X_grows_6 : vm_D q_X_grows.2.1 6 1 7 (.iconst 0) := vm_dD b_X_grows_0 4 rfl rfl
theorem d_X_grows_7 : vm_D q_X_grows.2.1 7 1 8 (.istore_n 3) := vm_dD b_X_grows_0 5 rfl rfl
theorem d_X_grows_8 : vm_D q_X_grows.2.1 8 1 9 (.iconst 0) := vm_dD b_X_grows_0 6 rfl rfl
theorem d_X_grows_9 : vm_D q_X_grows.2.1 9 2 11 (.istore 4) := vm_dD b_X_grows_0 7 rfl rfl
theorem d_X_grows_11 : vm_D q_X_grows.2.1 11 2 13 (.iload 4) := vm_dD b_X_grows_0 8 rfl rfl
theorem d_X_grows_13 : vm_D q_X_grows.2.1 13 1 14 (.aload_n 0) := vm_dD b_X_grows_0 9 rfl rfl
theorem d_X_grows_14 : vm_D q_X_grows.2.1 14 3 17 (.getfield 19) := vm_dD b_X_grows_0 10 rfl rfl
theorem d_X_grows_17 : vm_D q_X_grows.2.1 17 3 20 (.getfield 91) := vm_dD b_X_grows_0 11 rfl rfl
theorem d_X_grows_20 : vm_B q_X_grows.2.1 20 23 45 (fun o => .if_icmp .ge o) := ⟨25, vm_db b_X_grows_0 (i := 12) rfl, rfl, by decide⟩
theorem d_X_grows_23 : vm_D q_X_grows.2.1 23 1 24 (.aload_n 2) := vm_dD b_X_grows_0 13 rfl rfl
theorem d_X_grows_24 : vm_D q_X_grows.2.1 24 2 26 (.iload 4) := vm_dD b_X_grows_0 14 rfl rfl
theorem d_X_grows_26 : vm_D q_X_grows.2.1 26 3 29 (.invokevirtual 312) := vm_dD b_X_grows_0 15 rfl rfl
theorem d_X_grows_29 : vm_B q_X_grows.2.1 29 32 39 (fun o => .ifCond .eq o) := ⟨10, vm_db b_X_grows_0 (i := 16) rfl, rfl, by decide⟩
theorem d_X_grows_39 : vm_D q_X_grows.2.1 39 3 42 (.iinc 4 1) := vm_dD b_X_grows_0 23 rfl rfl
theorem d_X_grows_42 : ∃ off : Int, decode q_X_grows.2.1 42 = .ok (.goto off, 3) ∧ ((42 : Nat) : Int) + off = ((11 : Nat) : Int) := ⟨-31, vm_db b_X_grows_0 (i := 24) rfl, by decide⟩
theorem d_X_grows_32 : vm_D q_X_grows.2.1 32 1 33 (.iload_n 3) := vm_dD b_X_grows_0 17 rfl rfl
theorem d_X_grows_33 : vm_D q_X_grows.2.1 33 1 34 (.iconst 1) := vm_dD b_X_grows_0 18 rfl rfl
theorem d_X_grows_34 : vm_D q_X_grows.2.1 34 2 36 (.iload 4) := vm_dD b_X_grows_0 19 rfl rfl
theorem d_X_grows_36 : vm_D q_X_grows.2.1 36 1 37 (.ishl) := vm_dD b_X_grows_0 20 rfl rfl
theorem d_X_grows_37 : vm_D q_X_grows.2.1 37 1 38 (.ior) := vm_dD b_X_grows_0 21 rfl rfl
theorem d_X_grows_38 : vm_D q_X_grows.2.1 38 1 39 (.istore_n 3) := vm_dD b_X_grows_0 22 rfl rfl
theorem d_X_grows_45 : vm_D q_X_grows.2.1 45 1 46 (.iload_n 3) := vm_dD b_X_grows_0 25 rfl rfl
theorem d_X_grows_46 : vm_D q_X_grows.2.1 46 1 47 (.ireturn) := vm_dD b_X_grows_0 26 rfl rfl
def q_X_uniform : vm_Y := ("RepeatFree", cX10_uniform, 5, false, [])
def t_X_uniform_0 : List (Nat × Instr × Nat) := [(0, .aload_n 0, 1), (1, .iload_n 1, 1), (2, .invokevirtual 275, 3), (5, .astore_n 2, 1), (6, .aload_n 2, 1), (7, .iconst 0, 1), (8, .invokevirtual 278, 3), (11, .istore_n 3, 1), (12, .iconst 1, 1), (13, .istore 4, 2), (15, .iload 4, 2), (17, .aload_n 0, 1), (18, .getfield 19, 3), (21, .getfield 91, 3), (24, .if_icmp .ge 21, 3), (27, .aload_n 2, 1), (28, .iload 4, 2), (30, .invokevirtual 278, 3), (33, .iload_n 3, 1), (34, .if_icmp .eq 5, 3), (37, .iconst (-1), 1), (38, .ireturn, 1), (39, .iinc 4 1, 3), (42, .goto (-27), 3), (45, .iload_n 3, 1), (46, .ireturn, 1)]
theorem b_X_uniform_0 : (t_X_uniform_0.all fun q => decide (decode q_X_uniform.2.1 q.1 = .ok (q.2.1, q.2.2))) = true := by decide +kernel
theorem d_X_uniform_0 : vm_D q_X_uniform.2.1 0 1 1 (.aload_n 0) := vm_dD b_X_uniform_0 0 rfl rfl
theorem d_X_uniform_1 : vm_D q_X_uniform.2.1 1 1 2 (.iload_n 1) := vm_dD b_X_uniform_0 1 rfl rfl
theorem d_X_uniform_2 : vm_D q_X_uniform.2.1 2 3 5 (.invokevirtual 275) := vm_dD b_X_uniform_0 2 rfl rfl
theorem d_X_uniform_5 : vm_D q_X_uniform.2.1 5 1 6 (.astore_n 2) := vm_dD b_X_uniform_0 3 rfl rfl
theorem d_X_uniform_6 : vm_D q_X_uniform.2.1 6 1 7 (.aload_n 2) := vm_dD b_X_uniform_0 4 rfl rfl
theorem d_X_uniform_7 : vm_D q_X_uniform.2.1 7 1 8 (.iconst 0) := vm_dD b_X_uniform_0 5 rfl rfl
theorem d_X_uniform_8 : vm_D q_X_uniform.2.1 8 3 11 (.invokevirtual 278) := vm_dD b_X_uniform_0 6 rfl rfl
theorem d_X_uniform_11 : vm_D q_X_uniform.2.1 11 1 12 (.istore_n 3) := vm_dD b_X_uniform_0 7 rfl rfl
theorem d_X_uniform_12 : vm_D q_X_uniform.2.1 12 1 13 (.iconst 1) := vm_dD b_X_uniform_0 8 rfl rfl
theorem d_X_uniform_13 : vm_D q_X_uniform.2.1 13 2 15 (.istore 4) := vm_dD b_X_uniform_0 9 rfl rfl
theorem d_X_uniform_15 : vm_D q_X_uniform.2.1 15 2 17 (.iload 4) := vm_dD b_X_uniform_0 10 rfl rfl
theorem d_X_uniform_17 : vm_D q_X_uniform.2.1 17 1 18 (.aload_n 0) := vm_dD b_X_uniform_0 11 rfl rfl
theorem d_X_uniform_18 : vm_D q_X_uniform.2.1 18 3 21 (.getfield 19) := vm_dD b_X_uniform_0 12 rfl rfl
theorem d_X_uniform_21 : vm_D q_X_uniform.2.1 21 3 24 (.getfield 91) := vm_dD b_X_uniform_0 13 rfl rfl
theorem d_X_uniform_24 : vm_B q_X_uniform.2.1 24 27 45 (fun o => .if_icmp .ge o) := ⟨21, vm_db b_X_uniform_0 (i := 14) rfl, rfl, by decide⟩
theorem d_X_uniform_27 : vm_D q_X_uniform.2.1 27 1 28 (.aload_n 2) := vm_dD b_X_uniform_0 15 rfl rfl
theorem d_X_uniform_28 : vm_D q_X_uniform.2.1 28 2 30 (.iload 4) := vm_dD b_X_uniform_0 16 rfl rfl
theorem d_X_uniform_30 : vm_D q_X_uniform.2.1 30 3 33 (.invokevirtual 278) := vm_dD b_X_uniform_0 17 rfl rfl
theorem d_X_uniform_33 : vm_D q_X_uniform.2.1 33 1 34 (.iload_n 3) := vm_dD b_X_uniform_0 18 rfl rfl
theorem d_X_uniform_34 : vm_B q_X_uniform.2.1 34 37 39 (fun o => .if_icmp .eq o) := ⟨5, vm_db b_X_uniform_0 (i := 19) rfl, rfl, by decide⟩
theorem d_X_uniform_39 : vm_D q_X_uniform.2.1 39 3 42 (.iinc 4 1) := vm_dD b_X_uniform_0 22 rfl rfl
theorem d_X_uniform_42 : ∃ off : Int, decode q_X_uniform.2.1 42 = .ok (.goto off, 3) ∧ ((42 : Nat) : Int) + off = ((15 : Nat) : Int) := ⟨-27, vm_db b_X_uniform_0 (i := 23) rfl, by decide⟩
theorem d_X_uniform_37 : vm_D q_X_uniform.2.1 37 1 38 (.iconst (-1)) := vm_dD b_X_uniform_0 20 rfl rfl
theorem d_X_uniform_38 : vm_D q_X_uniform.2.1 38 1 39 (.ireturn) := vm_dD b_X_uniform_0 21 rfl rfl
theorem d_X_uniform_45 : vm_D q_X_uniform.2.1 45 1 46 (.iload_n 3) := vm_dD b_X_uniform_0 24 rfl rfl
theorem d_X_uniform_46 : vm_D q_X_uniform.2.1 46 1 47 (.ireturn) := vm_dD b_X_uniform_0 25 rfl rfl
def q_X_fill : vm_Y := ("RepeatFree", cX10_fill, 7, false, [])
def t_X_fill_0 : List (Nat × Instr × Nat) := [(0, .aload_n 0, 1), (1, .iload_n 1, 1), (2, .invokevirtual 275, 3), (5, .astore 4, 2), (7, .aload_n 0, 1), (8, .iload_n 2, 1), (9, .invokevirtual 110, 3), (12, .aload_n 0, 1), (13, .iload_n 3, 1), (14, .iconst 1, 1), (15, .bipush 64, 2), (17, .invokevirtual 173, 3), (20, .aload 4, 2), (22, .iload_n 2, 1), (23, .invokevirtual 312, 3), (26, .ifCond .ne 11, 3), (29, .new 113, 3), (32, .dup, 1), (33, .invokespecial 115, 3), (36, .athrow, 1), (37, .aload_n 0, 1), (38, .getfield 40, 3), (41, .invokevirtual 87, 3), (44, .aload_n 0, 1), (45, .getfield 40, 3), (48, .iload_n 2, 1), (49, .invokevirtual 119, 3), (52, .iconst 0, 1), (53, .istore 5, 2), (55, .iload 5, 2), (57, .iload_n 3, 1), (58, .if_icmp .ge 91, 3), (61, .aload_n 0, 1), (62, .getfield 40, 3), (65, .getfield 102, 3), (68, .iload_n 3, 1), (69, .if_icmp .ge 80, 3), (72, .iload 5, 2), (74, .ifCond .ne 7, 3), (77, .iconst 1, 1), (78, .goto 4, 3), (81, .iconst 0, 1), (82, .istore 6, 2), (84, .iload 6, 2), (86, .aload 4, 2), (88, .aload_n 0, 1), (89, .getfield 40, 3), (92, .iload 5, 2), (94, .invokevirtual 106, 3), (97, .invokevirtual 278, 3), (100, .if_icmp .ge 43, 3), (103, .aload_n 0, 1), (104, .getfield 40, 3), (107, .getfield 102, 3), (110, .iload_n 3, 1), (111, .if_icmp .ge 32, 3), (114, .aload_n 0, 1), (115, .getfield 40, 3), (118, .aload 4, 2), (120, .aload_n 0, 1)]
theorem b_X_fill_0 : (t_X_fill_0.all fun q => decide (decode q_X_fill.2.1 q.1 = .ok (q.2.1, q.2.2))) = true := by decide +kernel
def t_X_fill_1 : List (Nat × Instr × Nat) := [(121, .getfield 40, 3), (124, .iload 5, 2), (126, .invokevirtual 106, 3), (129, .iload 6, 2), (131, .invokevirtual 287, 3), (134, .invokevirtual 119, 3), (137, .iinc 6 1, 3), (140, .goto (-56), 3), (143, .iinc 5 1, 3), (146, .goto (-91), 3), (149, .aload_n 0, 1), (150, .aload_n 0, 1), (151, .getfield 40, 3), (154, .invokevirtual 98, 3), (157, .aload_n 0, 1), (158, .getfield 36, 3), (161, .aload_n 0, 1), (162, .getfield 19, 3), (165, .invokevirtual 155, 3), (168, .ireturn, 1)]
theorem b_X_fill_1 : (t_X_fill_1.all fun q => decide (decode q_X_fill.2.1 q.1 = .ok (q.2.1, q.2.2))) = true := by decide +kernel
theorem d_X_fill_0 : vm_D q_X_fill.2.1 0 1 1 (.aload_n 0) := vm_dD b_X_fill_0 0 rfl rfl
theorem d_X_fill_1 : vm_D q_X_fill.2.1 1 1 2 (.iload_n 1) := vm_dD b_X_fill_0 1 rfl rfl
theorem d_X_fill_2 : vm_D q_X_fill.2.1 2 3 5 (.invokevirtual 275) := vm_dD b_X_fill_0 2 rfl rfl
theorem d_X_fill_5 : vm_D q_X_fill.2.1 5 2 7 (.astore 4) := vm_dD b_X_fill_0 3 rfl rfl
theorem d_X_fill_7 : vm_D q_X_fill.2.1 7 1 8 (.aload_n 0) := vm_dD b_X_fill_0 4 rfl rfl
theorem d_X_fill_8 : vm_D q_X_fill.2.1 8 1 9 (.iload_n 2) := vm_dD b_X_fill_0 5 rfl rfl
theorem d_X_fill_9 : vm_D q_X_fill.2.1 9 3 12 (.invokevirtual 110) := vm_dD b_X_fill_0 6 rfl rfl
theorem d_X_fill_12 : vm_D q_X_fill.2.1 12 1 13 (.aload_n 0) := vm_dD b_X_fill_0 7 rfl rfl
theorem d_X_fill_13 : vm_D q_X_fill.2.1 13 1 14 (.iload_n 3) := vm_dD b_X_fill_0 8 rfl rfl
theorem d_X_fill_14 : vm_D q_X_fill.2.1 14 1 15 (.iconst 1) := vm_dD b_X_fill_0 9 rfl rfl
theorem d_X_fill_15 : vm_D q_X_fill.2.1 15 2 17 (.bipush 64) := vm_dD b_X_fill_0 10 rfl rfl
theorem d_X_fill_17 : vm_D q_X_fill.2.1 17 3 20 (.invokevirtual 173) := vm_dD b_X_fill_0 11 rfl rfl
theorem d_X_fill_20 : vm_D q_X_fill.2.1 20 2 22 (.aload 4) := vm_dD b_X_fill_0 12 rfl rfl
theorem d_X_fill_22 : vm_D q_X_fill.2.1 22 1 23 (.iload_n 2) := vm_dD b_X_fill_0 13 rfl rfl
theorem d_X_fill_23 : vm_D q_X_fill.2.1 23 3 26 (.invokevirtual 312) := vm_dD b_X_fill_0 14 rfl rfl
theorem d_X_fill_26 : vm_B q_X_fill.2.1 26 29 37 (fun o => .ifCond .ne o) := ⟨11, vm_db b_X_fill_0 (i := 15) rfl, rfl, by decide⟩
theorem d_X_fill_37 : vm_D q_X_fill.2.1 37 1 38 (.aload_n 0) := vm_dD b_X_fill_0 20 rfl rfl
theorem d_X_fill_38 : vm_D q_X_fill.2.1 38 3 41 (.getfield 40) := vm_dD b_X_fill_0 21 rfl rfl
theorem d_X_fill_41 : vm_D q_X_fill.2.1 41 3 44 (.invokevirtual 87) := vm_dD b_X_fill_0 22 rfl rfl
theorem d_X_fill_44 : vm_D q_X_fill.2.1 44 1 45 (.aload_n 0) := vm_dD b_X_fill_0 23 rfl rfl
theorem d_X_fill_45 : vm_D q_X_fill.2.1 45 3 48 (.getfield 40) := vm_dD b_X_fill_0 24 rfl rfl
theorem d_X_fill_48 : vm_D q_X_fill.2.1 48 1 49 (.iload_n 2) := vm_dD b_X_fill_0 25 rfl rfl
theorem d_X_fill_49 : vm_D q_X_fill.2.1 49 3 52 (.invokevirtual 119) := vm_dD b_X_fill_0 26 rfl rfl
theorem d_X_fill_52 : vm_D q_X_fill.2.1 52 1 53 (.iconst 0) := vm_dD b_X_fill_0 27 rfl rfl
theorem d_X_fill_53 : vm_D q_X_fill.2.1 53 2 55 (.istore 5) := vm_dD b_X_fill_0 28 rfl rfl
theorem d_X_fill_55 : vm_D q_X_fill.2.1 55 2 57 (.iload 5) := vm_dD b_X_fill_0 29 rfl rfl
theorem d_X_fill_57 : vm_D q_X_fill.2.1 57 1 58 (.iload_n 3) := vm_dD b_X_fill_0 30 rfl rfl
theorem d_X_fill_58 : vm_B q_X_fill.2.1 58 61 149 (fun o => .if_icmp .ge o) := ⟨91, vm_db b_X_fill_0 (i := 31) rfl, rfl, by decide⟩
theorem d_X_fill_61 : vm_D q_X_fill.2.1 61 1 62 (.aload_n 0) := vm_dD b_X_fill_0 32 rfl rfl
theorem d_X_fill_62 : vm_D q_X_fill.2.1 62 3 65 (.getfield 40) := vm_dD b_X_fill_0 33 rfl rfl
theorem d_X_fill_65 : vm_D q_X_fill.2.1 65 3 68 (.getfield 102) := vm_dD b_X_fill_0 34 rfl rfl
theorem d_X_fill_68 : vm_D q_X_fill.2.1 68 1 69 (.iload_n 3) := vm_dD b_X_fill_0 35 rfl rfl
theorem d_X_fill_69 : vm_B q_X_fill.2.1 69 72 149 (fun o => .if_icmp .ge o) := ⟨80, vm_db b_X_fill_0 (i := 36) rfl, rfl, by decide⟩
theorem d_X_fill_72 : vm_D q_X_fill.2.1 72 2 74 (.iload 5) := vm_dD b_X_fill_0 37 rfl rfl
theorem d_X_fill_74 : vm_B q_X_fill.2.1 74 77 81 (fun o => .ifCond .ne o) := ⟨7, vm_db b_X_fill_0 (i := 38) rfl, rfl, by decide⟩
theorem d_X_fill_82 : vm_D q_X_fill.2.1 82 2 84 (.istore 6) := vm_dD b_X_fill_0 42 rfl rfl
theorem d_X_fill_84 : vm_D q_X_fill.2.1 84 2 86 (.iload 6) := vm_dD b_X_fill_0 43 rfl rfl
theorem d_X_fill_86 : vm_D q_X_fill.2.1 86 2 88 (.aload 4) := vm_dD b_X_fill_0 44 rfl rfl
theorem d_X_fill_88 : vm_D q_X_fill.2.1 88 1 89 (.aload_n 0) := vm_dD b_X_fill_0 45 rfl rfl
theorem d_X_fill_89 : vm_D q_X_fill.2.1 89 3 92 (.getfield 40) := vm_dD b_X_fill_0 46 rfl rfl
theorem d_X_fill_92 : vm_D q_X_fill.2.1 92 2 94 (.iload 5) := vm_dD b_X_fill_0 47 rfl rfl
theorem d_X_fill_94 : vm_D q_X_fill.2.1 94 3 97 (.invokevirtual 106) := vm_dD b_X_fill_0 48 rfl rfl
theorem d_X_fill_97 : vm_D q_X_fill.2.1 97 3 100 (.invokevirtual 278) := vm_dD b_X_fill_0 49 rfl rfl
theorem d_X_fill_100 : vm_B q_X_fill.2.1 100 103 143 (fun o => .if_icmp .ge o) := ⟨43, vm_db b_X_fill_0 (i := 50) rfl, rfl, by decide⟩
theorem d_X_fill_103 : vm_D q_X_fill.2.1 103 1 104 (.aload_n 0) := vm_dD b_X_fill_0 51 rfl rfl
theorem d_X_fill_104 : vm_D q_X_fill.2.1 104 3 107 (.getfield 40) := vm_dD b_X_fill_0 52 rfl rfl
theorem d_X_fill_107 : vm_D q_X_fill.2.1 107 3 110 (.getfield 102) := vm_dD b_X_fill_0 53 rfl rfl
theorem d_X_fill_110 : vm_D q_X_fill.2.1 110 1 111 (.iload_n 3) := vm_dD b_X_fill_0 54 rfl rfl
theorem d_X_fill_111 : vm_B q_X_fill.2.1 111 114 143 (fun o => .if_icmp .ge o) := ⟨32, vm_db b_X_fill_0 (i := 55) rfl, rfl, by decide⟩
theorem d_X_fill_114 : vm_D q_X_fill.2.1 114 1 115 (.aload_n 0) := vm_dD b_X_fill_0 56 rfl rfl
theorem d_X_fill_115 : vm_D q_X_fill.2.1 115 3 118 (.getfield 40) := vm_dD b_X_fill_0 57 rfl rfl
theorem d_X_fill_118 : vm_D q_X_fill.2.1 118 2 120 (.aload 4) := vm_dD b_X_fill_0 58 rfl rfl
theorem d_X_fill_120 : vm_D q_X_fill.2.1 120 1 121 (.aload_n 0) := vm_dD b_X_fill_0 59 rfl rfl
theorem d_X_fill_121 : vm_D q_X_fill.2.1 121 3 124 (.getfield 40) := vm_dD b_X_fill_1 0 rfl rfl
theorem d_X_fill_124 : vm_D q_X_fill.2.1 124 2 126 (.iload 5) := vm_dD b_X_fill_1 1 rfl rfl
theorem d_X_fill_126 : vm_D q_X_fill.2.1 126 3 129 (.invokevirtual 106) := vm_dD b_X_fill_1 2 rfl rfl
theorem d_X_fill_129 : vm_D q_X_fill.2.1 129 2 131 (.iload 6) := vm_dD b_X_fill_1 3 rfl rfl
theorem d_X_fill_131 : vm_D q_X_fill.2.1 131 3 134 (.invokevirtual 287) := vm_dD b_X_fill_1 4 rfl rfl
theorem d_X_fill_134 : vm_D q_X_fill.2.1 134 3 137 (.invokevirtual 119) := vm_dD b_X_fill_1 5 rfl rfl
theorem d_X_fill_137 : vm_D q_X_fill.2.1 137 3 140 (.iinc 6 1) := vm_dD b_X_fill_1 6 rfl rfl
theorem d_X_fill_140 : ∃ off : Int, decode q_X_fill.2.1 140 = .ok (.goto off, 3) ∧ ((140 : Nat) : Int) + off = ((84 : Nat) : Int) := ⟨-56, vm_db b_X_fill_1 (i := 7) rfl, by decide⟩
theorem d_X_fill_143 : vm_D q_X_fill.2.1 143 3 146 (.iinc 5 1) := vm_dD b_X_fill_1 8 rfl rfl
theorem d_X_fill_146 : ∃ off : Int, decode q_X_fill.2.1 146 = .ok (.goto off, 3) ∧ ((146 : Nat) : Int) + off = ((55 : Nat) : Int) := ⟨-91, vm_db b_X_fill_1 (i := 9) rfl, by decide⟩
theorem d_X_fill_81 : vm_D q_X_fill.2.1 81 1 82 (.iconst 0) := vm_dD b_X_fill_0 41 rfl rfl
theorem d_X_fill_77 : vm_D q_X_fill.2.1 77 1 78 (.iconst 1) := vm_dD b_X_fill_0 39 rfl rfl
theorem d_X_fill_78 : ∃ off : Int, decode q_X_fill.2.1 78 = .ok (.goto off, 3) ∧ ((78 : Nat) : Int) + off = ((82 : Nat) : Int) := ⟨4, vm_db b_X_fill_0 (i := 40) rfl, by decide⟩
theorem d_X_fill_149 : vm_D q_X_fill.2.1 149 1 150 (.aload_n 0) := vm_dD b_X_fill_1 10 rfl rfl
theorem d_X_fill_150 : vm_D q_X_fill.2.1 150 1 151 (.aload_n 0) := vm_dD b_X_fill_1 11 rfl rfl
theorem d_X_fill_151 : vm_D q_X_fill.2.1 151 3 154 (.getfield 40) := vm_dD b_X_fill_1 12 rfl rfl
theorem d_X_fill_154 : vm_D q_X_fill.2.1 154 3 157 (.invokevirtual 98) := vm_dD b_X_fill_1 13 rfl rfl
theorem d_X_fill_157 : vm_D q_X_fill.2.1 157 1 158 (.aload_n 0) := vm_dD b_X_fill_1 14 rfl rfl
theorem d_X_fill_158 : vm_D q_X_fill.2.1 158 3 161 (.getfield 36) := vm_dD b_X_fill_1 15 rfl rfl
theorem d_X_fill_161 : vm_D q_X_fill.2.1 161 1 162 (.aload_n 0) := vm_dD b_X_fill_1 16 rfl rfl
theorem d_X_fill_162 : vm_D q_X_fill.2.1 162 3 165 (.getfield 19) := vm_dD b_X_fill_1 17 rfl rfl
theorem d_X_fill_165 : vm_D q_X_fill.2.1 165 3 168 (.invokevirtual 155) := vm_dD b_X_fill_1 18 rfl rfl
theorem d_X_fill_168 : vm_D q_X_fill.2.1 168 1 169 (.ireturn) := vm_dD b_X_fill_1 19 rfl rfl
theorem d_X_fill_29 : vm_D q_X_fill.2.1 29 3 32 (.new 113) := vm_dD b_X_fill_0 16 rfl rfl
theorem d_X_fill_32 : vm_D q_X_fill.2.1 32 1 33 (.dup) := vm_dD b_X_fill_0 17 rfl rfl
theorem d_X_fill_33 : vm_D q_X_fill.2.1 33 3 36 (.invokespecial 115) := vm_dD b_X_fill_0 18 rfl rfl
theorem d_X_fill_36 : vm_D q_X_fill.2.1 36 1 37 (.athrow) := vm_dD b_X_fill_0 19 rfl rfl
def q_X_sources : vm_Y := ("RepeatFree", cX10_sources, 8, false, [])
def t_X_sources_0 : List (Nat × Instr × Nat) := [(0, .aload_n 0, 1), (1, .iload_n 1, 1), (2, .invokevirtual 275, 3), (5, .astore_n 2, 1), (6, .aload_n 0, 1), (7, .getfield 62, 3), (10, .iconst 0, 1), (11, .lconst 1, 1), (12, .lastore, 1), (13, .iconst 1, 1), (14, .istore_n 3, 1), (15, .iload_n 3, 1), (16, .aload_n 0, 1), (17, .getfield 36, 3), (20, .getfield 102, 3), (23, .if_icmp .gt 98, 3), (26, .iload_n 3, 1), (27, .aload_n 0, 1), (28, .getfield 62, 3), (31, .arraylength, 1), (32, .if_icmp .ge 89, 3), (35, .lconst 0, 1), (36, .lstore 4, 2), (38, .iconst 0, 1), (39, .istore 6, 2), (41, .iload 6, 2), (43, .aload_n 0, 1), (44, .getfield 19, 3), (47, .getfield 91, 3), (50, .if_icmp .ge 57, 3), (53, .iload_n 3, 1), (54, .aload_n 2, 1), (55, .iload 6, 2), (57, .invokevirtual 278, 3), (60, .isub, 1), (61, .istore 7, 2), (63, .iload 7, 2), (65, .ifCond .lt 36, 3), (68, .iload 7, 2), (70, .iload_n 3, 1), (71, .if_icmp .ge 30, 3), (74, .aload_n 2, 1), (75, .aload_n 0, 1), (76, .getfield 36, 3), (79, .iload 7, 2), (81, .iload 6, 2), (83, .invokevirtual 316, 3), (86, .ifCond .eq 15, 3), (89, .lload 4, 2), (91, .aload_n 0, 1), (92, .getfield 62, 3), (95, .iload 7, 2), (97, .laload, 1), (98, .ladd, 1), (99, .lstore 4, 2), (101, .iinc 6 1, 3), (104, .goto (-63), 3), (107, .aload_n 0, 1), (108, .getfield 62, 3), (111, .iload_n 3, 1)]
theorem b_X_sources_0 : (t_X_sources_0.all fun q => decide (decode q_X_sources.2.1 q.1 = .ok (q.2.1, q.2.2))) = true := by decide +kernel
def t_X_sources_1 : List (Nat × Instr × Nat) := [(112, .lload 4, 2), (114, .lastore, 1), (115, .iinc 3 1, 3), (118, .goto (-103), 3), (121, .aload_n 0, 1), (122, .getfield 36, 3), (125, .getfield 102, 3), (128, .istore_n 3, 1), (129, .iload_n 3, 1), (130, .aload_n 0, 1), (131, .getfield 62, 3), (134, .arraylength, 1), (135, .if_icmp .ge 12, 3), (138, .aload_n 0, 1), (139, .getfield 62, 3), (142, .iload_n 3, 1), (143, .laload, 1), (144, .goto 4, 3), (147, .lconst 0, 1), (148, .lreturn, 1)]
theorem b_X_sources_1 : (t_X_sources_1.all fun q => decide (decode q_X_sources.2.1 q.1 = .ok (q.2.1, q.2.2))) = true := by decide +kernel
theorem d_X_sources_0 : vm_D q_X_sources.2.1 0 1 1 (.aload_n 0) := vm_dD b_X_sources_0 0 rfl rfl
theorem d_X_sources_1 : vm_D q_X_sources.2.1 1 1 2 (.iload_n 1) := vm_dD b_X_sources_0 1 rfl rfl
theorem d_X_sources_2 : vm_D q_X_sources.2.1 2 3 5 (.invokevirtual 275) := vm_dD b_X_sources_0 2 rfl rfl
theorem d_X_sources_5 : vm_D q_X_sources.2.1 5 1 6 (.astore_n 2) := vm_dD b_X_sources_0 3 rfl rfl
theorem d_X_sources_6 : vm_D q_X_sources.2.1 6 1 7 (.aload_n 0) := vm_dD b_X_sources_0 4 rfl rfl
theorem d_X_sources_7 : vm_D q_X_sources.2.1 7 3 10 (.getfield 62) := vm_dD b_X_sources_0 5 rfl rfl
theorem d_X_sources_10 : vm_D q_X_sources.2.1 10 1 11 (.iconst 0) := vm_dD b_X_sources_0 6 rfl rfl
theorem d_X_sources_11 : vm_D q_X_sources.2.1 11 1 12 (.lconst 1) := vm_dD b_X_sources_0 7 rfl rfl
theorem d_X_sources_12 : vm_D q_X_sources.2.1 12 1 13 (.lastore) := vm_dD b_X_sources_0 8 rfl rfl
theorem d_X_sources_13 : vm_D q_X_sources.2.1 13 1 14 (.iconst 1) := vm_dD b_X_sources_0 9 rfl rfl
theorem d_X_sources_14 : vm_D q_X_sources.2.1 14 1 15 (.istore_n 3) := vm_dD b_X_sources_0 10 rfl rfl
theorem d_X_sources_15 : vm_D q_X_sources.2.1 15 1 16 (.iload_n 3) := vm_dD b_X_sources_0 11 rfl rfl
theorem d_X_sources_16 : vm_D q_X_sources.2.1 16 1 17 (.aload_n 0) := vm_dD b_X_sources_0 12 rfl rfl
theorem d_X_sources_17 : vm_D q_X_sources.2.1 17 3 20 (.getfield 36) := vm_dD b_X_sources_0 13 rfl rfl
theorem d_X_sources_20 : vm_D q_X_sources.2.1 20 3 23 (.getfield 102) := vm_dD b_X_sources_0 14 rfl rfl
theorem d_X_sources_23 : vm_B q_X_sources.2.1 23 26 121 (fun o => .if_icmp .gt o) := ⟨98, vm_db b_X_sources_0 (i := 15) rfl, rfl, by decide⟩
theorem d_X_sources_26 : vm_D q_X_sources.2.1 26 1 27 (.iload_n 3) := vm_dD b_X_sources_0 16 rfl rfl
theorem d_X_sources_27 : vm_D q_X_sources.2.1 27 1 28 (.aload_n 0) := vm_dD b_X_sources_0 17 rfl rfl
theorem d_X_sources_28 : vm_D q_X_sources.2.1 28 3 31 (.getfield 62) := vm_dD b_X_sources_0 18 rfl rfl
theorem d_X_sources_31 : vm_D q_X_sources.2.1 31 1 32 (.arraylength) := vm_dD b_X_sources_0 19 rfl rfl
theorem d_X_sources_32 : vm_B q_X_sources.2.1 32 35 121 (fun o => .if_icmp .ge o) := ⟨89, vm_db b_X_sources_0 (i := 20) rfl, rfl, by decide⟩
theorem d_X_sources_35 : vm_D q_X_sources.2.1 35 1 36 (.lconst 0) := vm_dD b_X_sources_0 21 rfl rfl
theorem d_X_sources_36 : vm_D q_X_sources.2.1 36 2 38 (.lstore 4) := vm_dD b_X_sources_0 22 rfl rfl
theorem d_X_sources_38 : vm_D q_X_sources.2.1 38 1 39 (.iconst 0) := vm_dD b_X_sources_0 23 rfl rfl
theorem d_X_sources_39 : vm_D q_X_sources.2.1 39 2 41 (.istore 6) := vm_dD b_X_sources_0 24 rfl rfl
theorem d_X_sources_41 : vm_D q_X_sources.2.1 41 2 43 (.iload 6) := vm_dD b_X_sources_0 25 rfl rfl
theorem d_X_sources_43 : vm_D q_X_sources.2.1 43 1 44 (.aload_n 0) := vm_dD b_X_sources_0 26 rfl rfl
theorem d_X_sources_44 : vm_D q_X_sources.2.1 44 3 47 (.getfield 19) := vm_dD b_X_sources_0 27 rfl rfl
theorem d_X_sources_47 : vm_D q_X_sources.2.1 47 3 50 (.getfield 91) := vm_dD b_X_sources_0 28 rfl rfl
theorem d_X_sources_50 : vm_B q_X_sources.2.1 50 53 107 (fun o => .if_icmp .ge o) := ⟨57, vm_db b_X_sources_0 (i := 29) rfl, rfl, by decide⟩
theorem d_X_sources_53 : vm_D q_X_sources.2.1 53 1 54 (.iload_n 3) := vm_dD b_X_sources_0 30 rfl rfl
theorem d_X_sources_54 : vm_D q_X_sources.2.1 54 1 55 (.aload_n 2) := vm_dD b_X_sources_0 31 rfl rfl
theorem d_X_sources_55 : vm_D q_X_sources.2.1 55 2 57 (.iload 6) := vm_dD b_X_sources_0 32 rfl rfl
theorem d_X_sources_57 : vm_D q_X_sources.2.1 57 3 60 (.invokevirtual 278) := vm_dD b_X_sources_0 33 rfl rfl
theorem d_X_sources_60 : vm_D q_X_sources.2.1 60 1 61 (.isub) := vm_dD b_X_sources_0 34 rfl rfl
theorem d_X_sources_61 : vm_D q_X_sources.2.1 61 2 63 (.istore 7) := vm_dD b_X_sources_0 35 rfl rfl
theorem d_X_sources_63 : vm_D q_X_sources.2.1 63 2 65 (.iload 7) := vm_dD b_X_sources_0 36 rfl rfl
theorem d_X_sources_65 : vm_B q_X_sources.2.1 65 68 101 (fun o => .ifCond .lt o) := ⟨36, vm_db b_X_sources_0 (i := 37) rfl, rfl, by decide⟩
theorem d_X_sources_101 : vm_D q_X_sources.2.1 101 3 104 (.iinc 6 1) := vm_dD b_X_sources_0 55 rfl rfl
theorem d_X_sources_104 : ∃ off : Int, decode q_X_sources.2.1 104 = .ok (.goto off, 3) ∧ ((104 : Nat) : Int) + off = ((41 : Nat) : Int) := ⟨-63, vm_db b_X_sources_0 (i := 56) rfl, by decide⟩
theorem d_X_sources_68 : vm_D q_X_sources.2.1 68 2 70 (.iload 7) := vm_dD b_X_sources_0 38 rfl rfl
theorem d_X_sources_70 : vm_D q_X_sources.2.1 70 1 71 (.iload_n 3) := vm_dD b_X_sources_0 39 rfl rfl
theorem d_X_sources_71 : vm_B q_X_sources.2.1 71 74 101 (fun o => .if_icmp .ge o) := ⟨30, vm_db b_X_sources_0 (i := 40) rfl, rfl, by decide⟩
theorem d_X_sources_74 : vm_D q_X_sources.2.1 74 1 75 (.aload_n 2) := vm_dD b_X_sources_0 41 rfl rfl
theorem d_X_sources_75 : vm_D q_X_sources.2.1 75 1 76 (.aload_n 0) := vm_dD b_X_sources_0 42 rfl rfl
theorem d_X_sources_76 : vm_D q_X_sources.2.1 76 3 79 (.getfield 36) := vm_dD b_X_sources_0 43 rfl rfl
theorem d_X_sources_79 : vm_D q_X_sources.2.1 79 2 81 (.iload 7) := vm_dD b_X_sources_0 44 rfl rfl
theorem d_X_sources_81 : vm_D q_X_sources.2.1 81 2 83 (.iload 6) := vm_dD b_X_sources_0 45 rfl rfl
theorem d_X_sources_83 : vm_D q_X_sources.2.1 83 3 86 (.invokevirtual 316) := vm_dD b_X_sources_0 46 rfl rfl
theorem d_X_sources_86 : vm_B q_X_sources.2.1 86 89 101 (fun o => .ifCond .eq o) := ⟨15, vm_db b_X_sources_0 (i := 47) rfl, rfl, by decide⟩
theorem d_X_sources_89 : vm_D q_X_sources.2.1 89 2 91 (.lload 4) := vm_dD b_X_sources_0 48 rfl rfl
theorem d_X_sources_91 : vm_D q_X_sources.2.1 91 1 92 (.aload_n 0) := vm_dD b_X_sources_0 49 rfl rfl
theorem d_X_sources_92 : vm_D q_X_sources.2.1 92 3 95 (.getfield 62) := vm_dD b_X_sources_0 50 rfl rfl
theorem d_X_sources_95 : vm_D q_X_sources.2.1 95 2 97 (.iload 7) := vm_dD b_X_sources_0 51 rfl rfl
theorem d_X_sources_97 : vm_D q_X_sources.2.1 97 1 98 (.laload) := vm_dD b_X_sources_0 52 rfl rfl
theorem d_X_sources_98 : vm_D q_X_sources.2.1 98 1 99 (.ladd) := vm_dD b_X_sources_0 53 rfl rfl
theorem d_X_sources_99 : vm_D q_X_sources.2.1 99 2 101 (.lstore 4) := vm_dD b_X_sources_0 54 rfl rfl
theorem d_X_sources_107 : vm_D q_X_sources.2.1 107 1 108 (.aload_n 0) := vm_dD b_X_sources_0 57 rfl rfl
theorem d_X_sources_108 : vm_D q_X_sources.2.1 108 3 111 (.getfield 62) := vm_dD b_X_sources_0 58 rfl rfl
theorem d_X_sources_111 : vm_D q_X_sources.2.1 111 1 112 (.iload_n 3) := vm_dD b_X_sources_0 59 rfl rfl
theorem d_X_sources_112 : vm_D q_X_sources.2.1 112 2 114 (.lload 4) := vm_dD b_X_sources_1 0 rfl rfl
theorem d_X_sources_114 : vm_D q_X_sources.2.1 114 1 115 (.lastore) := vm_dD b_X_sources_1 1 rfl rfl
theorem d_X_sources_115 : vm_D q_X_sources.2.1 115 3 118 (.iinc 3 1) := vm_dD b_X_sources_1 2 rfl rfl
theorem d_X_sources_118 : ∃ off : Int, decode q_X_sources.2.1 118 = .ok (.goto off, 3) ∧ ((118 : Nat) : Int) + off = ((15 : Nat) : Int) := ⟨-103, vm_db b_X_sources_1 (i := 3) rfl, by decide⟩
theorem d_X_sources_121 : vm_D q_X_sources.2.1 121 1 122 (.aload_n 0) := vm_dD b_X_sources_1 4 rfl rfl
theorem d_X_sources_122 : vm_D q_X_sources.2.1 122 3 125 (.getfield 36) := vm_dD b_X_sources_1 5 rfl rfl
theorem d_X_sources_125 : vm_D q_X_sources.2.1 125 3 128 (.getfield 102) := vm_dD b_X_sources_1 6 rfl rfl
theorem d_X_sources_128 : vm_D q_X_sources.2.1 128 1 129 (.istore_n 3) := vm_dD b_X_sources_1 7 rfl rfl
theorem d_X_sources_129 : vm_D q_X_sources.2.1 129 1 130 (.iload_n 3) := vm_dD b_X_sources_1 8 rfl rfl
theorem d_X_sources_130 : vm_D q_X_sources.2.1 130 1 131 (.aload_n 0) := vm_dD b_X_sources_1 9 rfl rfl
theorem d_X_sources_131 : vm_D q_X_sources.2.1 131 3 134 (.getfield 62) := vm_dD b_X_sources_1 10 rfl rfl
theorem d_X_sources_134 : vm_D q_X_sources.2.1 134 1 135 (.arraylength) := vm_dD b_X_sources_1 11 rfl rfl
theorem d_X_sources_135 : vm_B q_X_sources.2.1 135 138 147 (fun o => .if_icmp .ge o) := ⟨12, vm_db b_X_sources_1 (i := 12) rfl, rfl, by decide⟩
theorem d_X_sources_147 : vm_D q_X_sources.2.1 147 1 148 (.lconst 0) := vm_dD b_X_sources_1 18 rfl rfl
theorem d_X_sources_148 : vm_D q_X_sources.2.1 148 1 149 (.lreturn) := vm_dD b_X_sources_1 19 rfl rfl
theorem d_X_sources_138 : vm_D q_X_sources.2.1 138 1 139 (.aload_n 0) := vm_dD b_X_sources_1 13 rfl rfl
theorem d_X_sources_139 : vm_D q_X_sources.2.1 139 3 142 (.getfield 62) := vm_dD b_X_sources_1 14 rfl rfl
theorem d_X_sources_142 : vm_D q_X_sources.2.1 142 1 143 (.iload_n 3) := vm_dD b_X_sources_1 15 rfl rfl
theorem d_X_sources_143 : vm_D q_X_sources.2.1 143 1 144 (.laload) := vm_dD b_X_sources_1 16 rfl rfl
theorem d_X_sources_144 : ∃ off : Int, decode q_X_sources.2.1 144 = .ok (.goto off, 3) ∧ ((144 : Nat) : Int) + off = ((148 : Nat) : Int) := ⟨4, vm_db b_X_sources_1 (i := 17) rfl, by decide⟩
def q_X_code : vm_Y := ("RepeatFree", cX10_code, 2, false, [])
def t_X_code_0 : List (Nat × Instr × Nat) := [(0, .aload_n 0, 1), (1, .iload_n 1, 1), (2, .invokevirtual 275, 3), (5, .aload_n 0, 1), (6, .getfield 19, 3), (9, .getfield 91, 3), (12, .invokevirtual 320, 3), (15, .ireturn, 1)]
theorem b_X_code_0 : (t_X_code_0.all fun q => decide (decode q_X_code.2.1 q.1 = .ok (q.2.1, q.2.2))) = true := by decide +kernel
theorem d_X_code_0 : vm_D q_X_code.2.1 0 1 1 (.aload_n 0) := vm_dD b_X_code_0 0 rfl rfl
theorem d_X_code_1 : vm_D q_X_code.2.1 1 1 2 (.iload_n 1) := vm_dD b_X_code_0 1 rfl rfl
theorem d_X_code_2 : vm_D q_X_code.2.1 2 3 5 (.invokevirtual 275) := vm_dD b_X_code_0 2 rfl rfl
theorem d_X_code_5 : vm_D q_X_code.2.1 5 1 6 (.aload_n 0) := vm_dD b_X_code_0 3 rfl rfl
theorem d_X_code_6 : vm_D q_X_code.2.1 6 3 9 (.getfield 19) := vm_dD b_X_code_0 4 rfl rfl
theorem d_X_code_9 : vm_D q_X_code.2.1 9 3 12 (.getfield 91) := vm_dD b_X_code_0 5 rfl rfl
theorem d_X_code_12 : vm_D q_X_code.2.1 12 3 15 (.invokevirtual 320) := vm_dD b_X_code_0 6 rfl rfl
theorem d_X_code_15 : vm_D q_X_code.2.1 15 1 16 (.ireturn) := vm_dD b_X_code_0 7 rfl rfl
def q_X_count : vm_Y := ("RepeatFree", cX10_count, 2, false, [])
def t_X_count_0 : List (Nat × Instr × Nat) := [(0, .iload_n 1, 1), (1, .tableswitch 123 0 8 #[51, 59, 67, 75, 83, 91, 99, 107, 115], 51), (52, .aload_n 0, 1), (53, .getfield 19, 3), (56, .getfield 91, 3), (59, .ireturn, 1), (60, .aload_n 0, 1), (61, .getfield 19, 3), (64, .getfield 138, 3), (67, .ireturn, 1), (68, .aload_n 0, 1), (69, .getfield 19, 3), (72, .getfield 148, 3), (75, .ireturn, 1), (76, .aload_n 0, 1), (77, .getfield 19, 3), (80, .invokevirtual 323, 3), (83, .ireturn, 1), (84, .aload_n 0, 1), (85, .getfield 36, 3), (88, .getfield 102, 3), (91, .ireturn, 1), (92, .aload_n 0, 1), (93, .getfield 53, 3), (96, .getfield 128, 3), (99, .ireturn, 1), (100, .aload_n 0, 1), (101, .getfield 19, 3), (104, .getfield 326, 3), (107, .ireturn, 1), (108, .aload_n 0, 1), (109, .getfield 19, 3), (112, .getfield 329, 3), (115, .ireturn, 1), (116, .aload_n 0, 1), (117, .getfield 19, 3), (120, .getfield 223, 3), (123, .ireturn, 1), (124, .iconst (-1), 1), (125, .ireturn, 1)]
theorem b_X_count_0 : (t_X_count_0.all fun q => decide (decode q_X_count.2.1 q.1 = .ok (q.2.1, q.2.2))) = true := by decide +kernel
theorem d_X_count_0 : vm_D q_X_count.2.1 0 1 1 (.iload_n 1) := vm_dD b_X_count_0 0 rfl rfl
theorem d_X_count_1 : decode q_X_count.2.1 1 = .ok (.tableswitch 123 0 8 #[51, 59, 67, 75, 83, 91, 99, 107, 115], 51) := vm_db b_X_count_0 (i := 1) rfl
theorem d_X_count_1_o : ∀ i, i < 9 → ∃ off : Int, (#[51, 59, 67, 75, 83, 91, 99, 107, 115] : Array Int)[i]? = some off ∧ ((1 : Nat) : Int) + off = ((([52, 60, 68, 76, 84, 92, 100, 108, 116] : List Nat).getD i 0 : Nat) : Int) := by
  intro i hi
  match i, hi with
  | 0, _ => exact ⟨_, rfl, rfl⟩
  | 1, _ => exact ⟨_, rfl, rfl⟩
  | 2, _ => exact ⟨_, rfl, rfl⟩
  | 3, _ => exact ⟨_, rfl, rfl⟩
  | 4, _ => exact ⟨_, rfl, rfl⟩
  | 5, _ => exact ⟨_, rfl, rfl⟩
  | 6, _ => exact ⟨_, rfl, rfl⟩
  | 7, _ => exact ⟨_, rfl, rfl⟩
  | 8, _ => exact ⟨_, rfl, rfl⟩
  | k + 9, hi => exact absurd hi (by omega)
theorem d_X_count_124 : vm_D q_X_count.2.1 124 1 125 (.iconst (-1)) := vm_dD b_X_count_0 38 rfl rfl
theorem d_X_count_125 : vm_D q_X_count.2.1 125 1 126 (.ireturn) := vm_dD b_X_count_0 39 rfl rfl
theorem d_X_count_52 : vm_D q_X_count.2.1 52 1 53 (.aload_n 0) := vm_dD b_X_count_0 2 rfl rfl
theorem d_X_count_53 : vm_D q_X_count.2.1 53 3 56 (.getfield 19) := vm_dD b_X_count_0 3 rfl rfl
theorem d_X_count_56 : vm_D q_X_count.2.1 56 3 59 (.getfield 91) := vm_dD b_X_count_0 4 rfl rfl
theorem d_X_count_59 : vm_D q_X_count.2.1 59 1 60 (.ireturn) := vm_dD b_X_count_0 5 rfl rfl
theorem d_X_count_60 : vm_D q_X_count.2.1 60 1 61 (.aload_n 0) := vm_dD b_X_count_0 6 rfl rfl
theorem d_X_count_61 : vm_D q_X_count.2.1 61 3 64 (.getfield 19) := vm_dD b_X_count_0 7 rfl rfl
theorem d_X_count_64 : vm_D q_X_count.2.1 64 3 67 (.getfield 138) := vm_dD b_X_count_0 8 rfl rfl
theorem d_X_count_67 : vm_D q_X_count.2.1 67 1 68 (.ireturn) := vm_dD b_X_count_0 9 rfl rfl
theorem d_X_count_68 : vm_D q_X_count.2.1 68 1 69 (.aload_n 0) := vm_dD b_X_count_0 10 rfl rfl
theorem d_X_count_69 : vm_D q_X_count.2.1 69 3 72 (.getfield 19) := vm_dD b_X_count_0 11 rfl rfl
theorem d_X_count_72 : vm_D q_X_count.2.1 72 3 75 (.getfield 148) := vm_dD b_X_count_0 12 rfl rfl
theorem d_X_count_75 : vm_D q_X_count.2.1 75 1 76 (.ireturn) := vm_dD b_X_count_0 13 rfl rfl
theorem d_X_count_76 : vm_D q_X_count.2.1 76 1 77 (.aload_n 0) := vm_dD b_X_count_0 14 rfl rfl
theorem d_X_count_77 : vm_D q_X_count.2.1 77 3 80 (.getfield 19) := vm_dD b_X_count_0 15 rfl rfl
theorem d_X_count_80 : vm_D q_X_count.2.1 80 3 83 (.invokevirtual 323) := vm_dD b_X_count_0 16 rfl rfl
theorem d_X_count_83 : vm_D q_X_count.2.1 83 1 84 (.ireturn) := vm_dD b_X_count_0 17 rfl rfl
theorem d_X_count_84 : vm_D q_X_count.2.1 84 1 85 (.aload_n 0) := vm_dD b_X_count_0 18 rfl rfl
theorem d_X_count_85 : vm_D q_X_count.2.1 85 3 88 (.getfield 36) := vm_dD b_X_count_0 19 rfl rfl
theorem d_X_count_88 : vm_D q_X_count.2.1 88 3 91 (.getfield 102) := vm_dD b_X_count_0 20 rfl rfl
theorem d_X_count_91 : vm_D q_X_count.2.1 91 1 92 (.ireturn) := vm_dD b_X_count_0 21 rfl rfl
theorem d_X_count_92 : vm_D q_X_count.2.1 92 1 93 (.aload_n 0) := vm_dD b_X_count_0 22 rfl rfl
theorem d_X_count_93 : vm_D q_X_count.2.1 93 3 96 (.getfield 53) := vm_dD b_X_count_0 23 rfl rfl
theorem d_X_count_96 : vm_D q_X_count.2.1 96 3 99 (.getfield 128) := vm_dD b_X_count_0 24 rfl rfl
theorem d_X_count_99 : vm_D q_X_count.2.1 99 1 100 (.ireturn) := vm_dD b_X_count_0 25 rfl rfl
theorem d_X_count_100 : vm_D q_X_count.2.1 100 1 101 (.aload_n 0) := vm_dD b_X_count_0 26 rfl rfl
theorem d_X_count_101 : vm_D q_X_count.2.1 101 3 104 (.getfield 19) := vm_dD b_X_count_0 27 rfl rfl
theorem d_X_count_104 : vm_D q_X_count.2.1 104 3 107 (.getfield 326) := vm_dD b_X_count_0 28 rfl rfl
theorem d_X_count_107 : vm_D q_X_count.2.1 107 1 108 (.ireturn) := vm_dD b_X_count_0 29 rfl rfl
theorem d_X_count_108 : vm_D q_X_count.2.1 108 1 109 (.aload_n 0) := vm_dD b_X_count_0 30 rfl rfl
theorem d_X_count_109 : vm_D q_X_count.2.1 109 3 112 (.getfield 19) := vm_dD b_X_count_0 31 rfl rfl
theorem d_X_count_112 : vm_D q_X_count.2.1 112 3 115 (.getfield 329) := vm_dD b_X_count_0 32 rfl rfl
theorem d_X_count_115 : vm_D q_X_count.2.1 115 1 116 (.ireturn) := vm_dD b_X_count_0 33 rfl rfl
theorem d_X_count_116 : vm_D q_X_count.2.1 116 1 117 (.aload_n 0) := vm_dD b_X_count_0 34 rfl rfl
theorem d_X_count_117 : vm_D q_X_count.2.1 117 3 120 (.getfield 19) := vm_dD b_X_count_0 35 rfl rfl
theorem d_X_count_120 : vm_D q_X_count.2.1 120 3 123 (.getfield 223) := vm_dD b_X_count_0 36 rfl rfl
theorem d_X_count_123 : vm_D q_X_count.2.1 123 1 124 (.ireturn) := vm_dD b_X_count_0 37 rfl rfl
