def q_M_thrown : vm_Y := ("RepeatFreeModel", cX11_thrown, 1, false, [])
def t_M_thrown_0 : List (Nat × Instr × Nat) := [(0, .aload_n 0, 1), (1, .getfield 3, 3), (4, .ireturn, 1)]
theorem b_M_thrown_0 : (t_M_thrown_0.all fun q => decide (decode q_M_thrown.2.1 q.1 = .ok (q.2.1, q.2.2))) = true := by decide +kernel
theorem d_M_thrown_0 : vm_D q_M_thrown.2.1 0 1 1 (.aload_n 0) := vm_dD b_M_thrown_0 0 rfl rfl
theorem d_M_thrown_1 : vm_D q_M_thrown.2.1 1 3 4 (.getfield 3) := vm_dD b_M_thrown_0 1 rfl rfl
theorem d_M_thrown_4 : vm_D q_M_thrown.2.1 4 1 5 (.ireturn) := vm_dD b_M_thrown_0 2 rfl rfl
def q_M_throwsIf : vm_Y := ("RepeatFreeModel", cX11_throwsIf, 3, false, [])
def t_M_throwsIf_0 : List (Nat × Instr × Nat) := [(0, .iload_n 1, 1), (1, .ifCond .eq 8, 3), (4, .aload_n 0, 1), (5, .iload_n 2, 1), (6, .putfield 3, 3), (9, .iload_n 1, 1), (10, .ireturn, 1)]
theorem b_M_throwsIf_0 : (t_M_throwsIf_0.all fun q => decide (decode q_M_throwsIf.2.1 q.1 = .ok (q.2.1, q.2.2))) = true := by decide +kernel
theorem d_M_throwsIf_0 : vm_D q_M_throwsIf.2.1 0 1 1 (.iload_n 1) := vm_dD b_M_throwsIf_0 0 rfl rfl
theorem d_M_throwsIf_1 : vm_B q_M_throwsIf.2.1 1 4 9 (fun o => .ifCond .eq o) := ⟨8, vm_db b_M_throwsIf_0 (i := 1) rfl, rfl, by decide⟩
theorem d_M_throwsIf_9 : vm_D q_M_throwsIf.2.1 9 1 10 (.iload_n 1) := vm_dD b_M_throwsIf_0 5 rfl rfl
theorem d_M_throwsIf_10 : vm_D q_M_throwsIf.2.1 10 1 11 (.ireturn) := vm_dD b_M_throwsIf_0 6 rfl rfl
theorem d_M_throwsIf_4 : vm_D q_M_throwsIf.2.1 4 1 5 (.aload_n 0) := vm_dD b_M_throwsIf_0 2 rfl rfl
theorem d_M_throwsIf_5 : vm_D q_M_throwsIf.2.1 5 1 6 (.iload_n 2) := vm_dD b_M_throwsIf_0 3 rfl rfl
theorem d_M_throwsIf_6 : vm_D q_M_throwsIf.2.1 6 3 9 (.putfield 3) := vm_dD b_M_throwsIf_0 4 rfl rfl
def q_M_in : vm_Y := ("RepeatFreeModel", cX11_in, 3, false, [])
def t_M_in_0 : List (Nat × Instr × Nat) := [(0, .iload_n 0, 1), (1, .iload_n 1, 1), (2, .if_icmp .lt 12, 3), (5, .iload_n 0, 1), (6, .iload_n 2, 1), (7, .if_icmp .gt 7, 3), (10, .iconst 1, 1), (11, .goto 4, 3), (14, .iconst 0, 1), (15, .ireturn, 1)]
theorem b_M_in_0 : (t_M_in_0.all fun q => decide (decode q_M_in.2.1 q.1 = .ok (q.2.1, q.2.2))) = true := by decide +kernel
theorem d_M_in_0 : vm_D q_M_in.2.1 0 1 1 (.iload_n 0) := vm_dD b_M_in_0 0 rfl rfl
theorem d_M_in_1 : vm_D q_M_in.2.1 1 1 2 (.iload_n 1) := vm_dD b_M_in_0 1 rfl rfl
theorem d_M_in_2 : vm_B q_M_in.2.1 2 5 14 (fun o => .if_icmp .lt o) := ⟨12, vm_db b_M_in_0 (i := 2) rfl, rfl, by decide⟩
theorem d_M_in_14 : vm_D q_M_in.2.1 14 1 15 (.iconst 0) := vm_dD b_M_in_0 8 rfl rfl
theorem d_M_in_15 : vm_D q_M_in.2.1 15 1 16 (.ireturn) := vm_dD b_M_in_0 9 rfl rfl
theorem d_M_in_5 : vm_D q_M_in.2.1 5 1 6 (.iload_n 0) := vm_dD b_M_in_0 3 rfl rfl
theorem d_M_in_6 : vm_D q_M_in.2.1 6 1 7 (.iload_n 2) := vm_dD b_M_in_0 4 rfl rfl
theorem d_M_in_7 : vm_B q_M_in.2.1 7 10 14 (fun o => .if_icmp .gt o) := ⟨7, vm_db b_M_in_0 (i := 5) rfl, rfl, by decide⟩
theorem d_M_in_10 : vm_D q_M_in.2.1 10 1 11 (.iconst 1) := vm_dD b_M_in_0 6 rfl rfl
theorem d_M_in_11 : ∃ off : Int, decode q_M_in.2.1 11 = .ok (.goto off, 3) ∧ ((11 : Nat) : Int) + off = ((15 : Nat) : Int) := ⟨4, vm_db b_M_in_0 (i := 7) rfl, by decide⟩
def q_M_feed : vm_Y := ("RepeatFreeModel", cX11_feed, 7, false, [])
def t_M_feed_0 : List (Nat × Instr × Nat) := [(0, .aload_n 0, 1), (1, .iconst 0, 1), (2, .putfield 3, 3), (5, .aload_n 0, 1), (6, .getfield 7, 3), (9, .bipush 20, 2), (11, .iadd, 1), (12, .sipush 400, 3), (15, .if_icmp .le 5, 3), (18, .iconst (-1), 1), (19, .ireturn, 1), (20, .aload_n 0, 1), (21, .getfield 10, 3), (24, .iconst 0, 1), (25, .iload_n 1, 1), (26, .iastore, 1), (27, .aload_n 0, 1), (28, .getfield 10, 3), (31, .iconst 1, 1), (32, .iload_n 2, 1), (33, .iastore, 1), (34, .aload_n 0, 1), (35, .getfield 10, 3), (38, .iconst 2, 1), (39, .iload_n 3, 1), (40, .iastore, 1), (41, .aload_n 0, 1), (42, .getfield 10, 3), (45, .iconst 3, 1), (46, .iload 4, 2), (48, .iastore, 1), (49, .aload_n 0, 1), (50, .getfield 10, 3), (53, .iconst 4, 1), (54, .iload 5, 2), (56, .iastore, 1), (57, .iconst 0, 1), (58, .istore 6, 2), (60, .iload 6, 2), (62, .bipush 20, 2), (64, .if_icmp .ge 42, 3), (67, .aload_n 0, 1), (68, .getfield 14, 3), (71, .aload_n 0, 1), (72, .getfield 7, 3), (75, .iload 6, 2), (77, .iadd, 1), (78, .aload_n 0, 1), (79, .getfield 10, 3), (82, .iload 6, 2), (84, .iconst 4, 1), (85, .idiv, 1), (86, .iaload, 1), (87, .bipush 24, 2), (89, .bipush 8, 2), (91, .iload 6, 2), (93, .iconst 4, 1), (94, .irem, 1), (95, .imul, 1), (96, .isub, 1)]
theorem b_M_feed_0 : (t_M_feed_0.all fun q => decide (decode q_M_feed.2.1 q.1 = .ok (q.2.1, q.2.2))) = true := by decide +kernel
def t_M_feed_1 : List (Nat × Instr × Nat) := [(97, .ishr, 1), (98, .i2b, 1), (99, .bastore, 1), (100, .iinc 6 1, 3), (103, .goto (-43), 3), (106, .aload_n 0, 1), (107, .dup, 1), (108, .getfield 7, 3), (111, .bipush 20, 2), (113, .iadd, 1), (114, .putfield 7, 3), (117, .aload_n 0, 1), (118, .getfield 7, 3), (121, .ireturn, 1)]
theorem b_M_feed_1 : (t_M_feed_1.all fun q => decide (decode q_M_feed.2.1 q.1 = .ok (q.2.1, q.2.2))) = true := by decide +kernel
theorem d_M_feed_0 : vm_D q_M_feed.2.1 0 1 1 (.aload_n 0) := vm_dD b_M_feed_0 0 rfl rfl
theorem d_M_feed_1 : vm_D q_M_feed.2.1 1 1 2 (.iconst 0) := vm_dD b_M_feed_0 1 rfl rfl
theorem d_M_feed_2 : vm_D q_M_feed.2.1 2 3 5 (.putfield 3) := vm_dD b_M_feed_0 2 rfl rfl
theorem d_M_feed_5 : vm_D q_M_feed.2.1 5 1 6 (.aload_n 0) := vm_dD b_M_feed_0 3 rfl rfl
theorem d_M_feed_6 : vm_D q_M_feed.2.1 6 3 9 (.getfield 7) := vm_dD b_M_feed_0 4 rfl rfl
theorem d_M_feed_9 : vm_D q_M_feed.2.1 9 2 11 (.bipush 20) := vm_dD b_M_feed_0 5 rfl rfl
theorem d_M_feed_11 : vm_D q_M_feed.2.1 11 1 12 (.iadd) := vm_dD b_M_feed_0 6 rfl rfl
theorem d_M_feed_12 : vm_D q_M_feed.2.1 12 3 15 (.sipush 400) := vm_dD b_M_feed_0 7 rfl rfl
theorem d_M_feed_15 : vm_B q_M_feed.2.1 15 18 20 (fun o => .if_icmp .le o) := ⟨5, vm_db b_M_feed_0 (i := 8) rfl, rfl, by decide⟩
theorem d_M_feed_20 : vm_D q_M_feed.2.1 20 1 21 (.aload_n 0) := vm_dD b_M_feed_0 11 rfl rfl
theorem d_M_feed_21 : vm_D q_M_feed.2.1 21 3 24 (.getfield 10) := vm_dD b_M_feed_0 12 rfl rfl
theorem d_M_feed_24 : vm_D q_M_feed.2.1 24 1 25 (.iconst 0) := vm_dD b_M_feed_0 13 rfl rfl
theorem d_M_feed_25 : vm_D q_M_feed.2.1 25 1 26 (.iload_n 1) := vm_dD b_M_feed_0 14 rfl rfl
theorem d_M_feed_26 : vm_D q_M_feed.2.1 26 1 27 (.iastore) := vm_dD b_M_feed_0 15 rfl rfl
theorem d_M_feed_27 : vm_D q_M_feed.2.1 27 1 28 (.aload_n 0) := vm_dD b_M_feed_0 16 rfl rfl
theorem d_M_feed_28 : vm_D q_M_feed.2.1 28 3 31 (.getfield 10) := vm_dD b_M_feed_0 17 rfl rfl
theorem d_M_feed_31 : vm_D q_M_feed.2.1 31 1 32 (.iconst 1) := vm_dD b_M_feed_0 18 rfl rfl
theorem d_M_feed_32 : vm_D q_M_feed.2.1 32 1 33 (.iload_n 2) := vm_dD b_M_feed_0 19 rfl rfl
theorem d_M_feed_33 : vm_D q_M_feed.2.1 33 1 34 (.iastore) := vm_dD b_M_feed_0 20 rfl rfl
theorem d_M_feed_34 : vm_D q_M_feed.2.1 34 1 35 (.aload_n 0) := vm_dD b_M_feed_0 21 rfl rfl
theorem d_M_feed_35 : vm_D q_M_feed.2.1 35 3 38 (.getfield 10) := vm_dD b_M_feed_0 22 rfl rfl
theorem d_M_feed_38 : vm_D q_M_feed.2.1 38 1 39 (.iconst 2) := vm_dD b_M_feed_0 23 rfl rfl
theorem d_M_feed_39 : vm_D q_M_feed.2.1 39 1 40 (.iload_n 3) := vm_dD b_M_feed_0 24 rfl rfl
theorem d_M_feed_40 : vm_D q_M_feed.2.1 40 1 41 (.iastore) := vm_dD b_M_feed_0 25 rfl rfl
theorem d_M_feed_41 : vm_D q_M_feed.2.1 41 1 42 (.aload_n 0) := vm_dD b_M_feed_0 26 rfl rfl
theorem d_M_feed_42 : vm_D q_M_feed.2.1 42 3 45 (.getfield 10) := vm_dD b_M_feed_0 27 rfl rfl
theorem d_M_feed_45 : vm_D q_M_feed.2.1 45 1 46 (.iconst 3) := vm_dD b_M_feed_0 28 rfl rfl
theorem d_M_feed_46 : vm_D q_M_feed.2.1 46 2 48 (.iload 4) := vm_dD b_M_feed_0 29 rfl rfl
theorem d_M_feed_48 : vm_D q_M_feed.2.1 48 1 49 (.iastore) := vm_dD b_M_feed_0 30 rfl rfl
theorem d_M_feed_49 : vm_D q_M_feed.2.1 49 1 50 (.aload_n 0) := vm_dD b_M_feed_0 31 rfl rfl
theorem d_M_feed_50 : vm_D q_M_feed.2.1 50 3 53 (.getfield 10) := vm_dD b_M_feed_0 32 rfl rfl
theorem d_M_feed_53 : vm_D q_M_feed.2.1 53 1 54 (.iconst 4) := vm_dD b_M_feed_0 33 rfl rfl
theorem d_M_feed_54 : vm_D q_M_feed.2.1 54 2 56 (.iload 5) := vm_dD b_M_feed_0 34 rfl rfl
theorem d_M_feed_56 : vm_D q_M_feed.2.1 56 1 57 (.iastore) := vm_dD b_M_feed_0 35 rfl rfl
theorem d_M_feed_57 : vm_D q_M_feed.2.1 57 1 58 (.iconst 0) := vm_dD b_M_feed_0 36 rfl rfl
theorem d_M_feed_58 : vm_D q_M_feed.2.1 58 2 60 (.istore 6) := vm_dD b_M_feed_0 37 rfl rfl
theorem d_M_feed_60 : vm_D q_M_feed.2.1 60 2 62 (.iload 6) := vm_dD b_M_feed_0 38 rfl rfl
theorem d_M_feed_62 : vm_D q_M_feed.2.1 62 2 64 (.bipush 20) := vm_dD b_M_feed_0 39 rfl rfl
theorem d_M_feed_64 : vm_B q_M_feed.2.1 64 67 106 (fun o => .if_icmp .ge o) := ⟨42, vm_db b_M_feed_0 (i := 40) rfl, rfl, by decide⟩
theorem d_M_feed_67 : vm_D q_M_feed.2.1 67 1 68 (.aload_n 0) := vm_dD b_M_feed_0 41 rfl rfl
theorem d_M_feed_68 : vm_D q_M_feed.2.1 68 3 71 (.getfield 14) := vm_dD b_M_feed_0 42 rfl rfl
theorem d_M_feed_71 : vm_D q_M_feed.2.1 71 1 72 (.aload_n 0) := vm_dD b_M_feed_0 43 rfl rfl
theorem d_M_feed_72 : vm_D q_M_feed.2.1 72 3 75 (.getfield 7) := vm_dD b_M_feed_0 44 rfl rfl
theorem d_M_feed_75 : vm_D q_M_feed.2.1 75 2 77 (.iload 6) := vm_dD b_M_feed_0 45 rfl rfl
theorem d_M_feed_77 : vm_D q_M_feed.2.1 77 1 78 (.iadd) := vm_dD b_M_feed_0 46 rfl rfl
theorem d_M_feed_78 : vm_D q_M_feed.2.1 78 1 79 (.aload_n 0) := vm_dD b_M_feed_0 47 rfl rfl
theorem d_M_feed_79 : vm_D q_M_feed.2.1 79 3 82 (.getfield 10) := vm_dD b_M_feed_0 48 rfl rfl
theorem d_M_feed_82 : vm_D q_M_feed.2.1 82 2 84 (.iload 6) := vm_dD b_M_feed_0 49 rfl rfl
theorem d_M_feed_84 : vm_D q_M_feed.2.1 84 1 85 (.iconst 4) := vm_dD b_M_feed_0 50 rfl rfl
theorem d_M_feed_85 : vm_D q_M_feed.2.1 85 1 86 (.idiv) := vm_dD b_M_feed_0 51 rfl rfl
theorem d_M_feed_86 : vm_D q_M_feed.2.1 86 1 87 (.iaload) := vm_dD b_M_feed_0 52 rfl rfl
theorem d_M_feed_87 : vm_D q_M_feed.2.1 87 2 89 (.bipush 24) := vm_dD b_M_feed_0 53 rfl rfl
theorem d_M_feed_89 : vm_D q_M_feed.2.1 89 2 91 (.bipush 8) := vm_dD b_M_feed_0 54 rfl rfl
theorem d_M_feed_91 : vm_D q_M_feed.2.1 91 2 93 (.iload 6) := vm_dD b_M_feed_0 55 rfl rfl
theorem d_M_feed_93 : vm_D q_M_feed.2.1 93 1 94 (.iconst 4) := vm_dD b_M_feed_0 56 rfl rfl
theorem d_M_feed_94 : vm_D q_M_feed.2.1 94 1 95 (.irem) := vm_dD b_M_feed_0 57 rfl rfl
theorem d_M_feed_95 : vm_D q_M_feed.2.1 95 1 96 (.imul) := vm_dD b_M_feed_0 58 rfl rfl
theorem d_M_feed_96 : vm_D q_M_feed.2.1 96 1 97 (.isub) := vm_dD b_M_feed_0 59 rfl rfl
theorem d_M_feed_97 : vm_D q_M_feed.2.1 97 1 98 (.ishr) := vm_dD b_M_feed_1 0 rfl rfl
theorem d_M_feed_98 : vm_D q_M_feed.2.1 98 1 99 (.i2b) := vm_dD b_M_feed_1 1 rfl rfl
theorem d_M_feed_99 : vm_D q_M_feed.2.1 99 1 100 (.bastore) := vm_dD b_M_feed_1 2 rfl rfl
theorem d_M_feed_100 : vm_D q_M_feed.2.1 100 3 103 (.iinc 6 1) := vm_dD b_M_feed_1 3 rfl rfl
theorem d_M_feed_103 : ∃ off : Int, decode q_M_feed.2.1 103 = .ok (.goto off, 3) ∧ ((103 : Nat) : Int) + off = ((60 : Nat) : Int) := ⟨-43, vm_db b_M_feed_1 (i := 4) rfl, by decide⟩
theorem d_M_feed_106 : vm_D q_M_feed.2.1 106 1 107 (.aload_n 0) := vm_dD b_M_feed_1 5 rfl rfl
theorem d_M_feed_107 : vm_D q_M_feed.2.1 107 1 108 (.dup) := vm_dD b_M_feed_1 6 rfl rfl
theorem d_M_feed_108 : vm_D q_M_feed.2.1 108 3 111 (.getfield 7) := vm_dD b_M_feed_1 7 rfl rfl
theorem d_M_feed_111 : vm_D q_M_feed.2.1 111 2 113 (.bipush 20) := vm_dD b_M_feed_1 8 rfl rfl
theorem d_M_feed_113 : vm_D q_M_feed.2.1 113 1 114 (.iadd) := vm_dD b_M_feed_1 9 rfl rfl
theorem d_M_feed_114 : vm_D q_M_feed.2.1 114 3 117 (.putfield 7) := vm_dD b_M_feed_1 10 rfl rfl
theorem d_M_feed_117 : vm_D q_M_feed.2.1 117 1 118 (.aload_n 0) := vm_dD b_M_feed_1 11 rfl rfl
theorem d_M_feed_118 : vm_D q_M_feed.2.1 118 3 121 (.getfield 7) := vm_dD b_M_feed_1 12 rfl rfl
theorem d_M_feed_121 : vm_D q_M_feed.2.1 121 1 122 (.ireturn) := vm_dD b_M_feed_1 13 rfl rfl
theorem d_M_feed_18 : vm_D q_M_feed.2.1 18 1 19 (.iconst (-1)) := vm_dD b_M_feed_0 9 rfl rfl
theorem d_M_feed_19 : vm_D q_M_feed.2.1 19 1 20 (.ireturn) := vm_dD b_M_feed_0 10 rfl rfl
def q_M_end : vm_Y := ("RepeatFreeModel", cX11_end, 2, false, [])
def t_M_end_0 : List (Nat × Instr × Nat) := [(0, .aload_n 0, 1), (1, .iconst 0, 1), (2, .putfield 3, 3), (5, .iload_n 1, 1), (6, .ifCond .lt 11, 3), (9, .iload_n 1, 1), (10, .aload_n 0, 1), (11, .getfield 7, 3), (14, .if_icmp .le 5, 3), (17, .iconst 0, 1), (18, .ireturn, 1), (19, .aload_n 0, 1), (20, .iload_n 1, 1), (21, .putfield 7, 3), (24, .iconst 1, 1), (25, .ireturn, 1)]
theorem b_M_end_0 : (t_M_end_0.all fun q => decide (decode q_M_end.2.1 q.1 = .ok (q.2.1, q.2.2))) = true := by decide +kernel
theorem d_M_end_0 : vm_D q_M_end.2.1 0 1 1 (.aload_n 0) := vm_dD b_M_end_0 0 rfl rfl
theorem d_M_end_1 : vm_D q_M_end.2.1 1 1 2 (.iconst 0) := vm_dD b_M_end_0 1 rfl rfl
theorem d_M_end_2 : vm_D q_M_end.2.1 2 3 5 (.putfield 3) := vm_dD b_M_end_0 2 rfl rfl
theorem d_M_end_5 : vm_D q_M_end.2.1 5 1 6 (.iload_n 1) := vm_dD b_M_end_0 3 rfl rfl
theorem d_M_end_6 : vm_B q_M_end.2.1 6 9 17 (fun o => .ifCond .lt o) := ⟨11, vm_db b_M_end_0 (i := 4) rfl, rfl, by decide⟩
theorem d_M_end_17 : vm_D q_M_end.2.1 17 1 18 (.iconst 0) := vm_dD b_M_end_0 9 rfl rfl
theorem d_M_end_18 : vm_D q_M_end.2.1 18 1 19 (.ireturn) := vm_dD b_M_end_0 10 rfl rfl
theorem d_M_end_9 : vm_D q_M_end.2.1 9 1 10 (.iload_n 1) := vm_dD b_M_end_0 5 rfl rfl
theorem d_M_end_10 : vm_D q_M_end.2.1 10 1 11 (.aload_n 0) := vm_dD b_M_end_0 6 rfl rfl
theorem d_M_end_11 : vm_D q_M_end.2.1 11 3 14 (.getfield 7) := vm_dD b_M_end_0 7 rfl rfl
theorem d_M_end_14 : vm_B q_M_end.2.1 14 17 19 (fun o => .if_icmp .le o) := ⟨5, vm_db b_M_end_0 (i := 8) rfl, rfl, by decide⟩
theorem d_M_end_19 : vm_D q_M_end.2.1 19 1 20 (.aload_n 0) := vm_dD b_M_end_0 11 rfl rfl
theorem d_M_end_20 : vm_D q_M_end.2.1 20 1 21 (.iload_n 1) := vm_dD b_M_end_0 12 rfl rfl
theorem d_M_end_21 : vm_D q_M_end.2.1 21 3 24 (.putfield 7) := vm_dD b_M_end_0 13 rfl rfl
theorem d_M_end_24 : vm_D q_M_end.2.1 24 1 25 (.iconst 1) := vm_dD b_M_end_0 14 rfl rfl
theorem d_M_end_25 : vm_D q_M_end.2.1 25 1 26 (.ireturn) := vm_dD b_M_end_0 15 rfl rfl
def q_M_begins : vm_Y := ("RepeatFreeModel", cX11_begins, 1, false, [])
def t_M_begins_0 : List (Nat × Instr × Nat) := [(0, .aload_n 0, 1), (1, .aload_n 0, 1), (2, .getfield 7, 3), (5, .putfield 18, 3), (8, .aload_n 0, 1), (9, .iconst 0, 1), (10, .putfield 7, 3), (13, .aload_n 0, 1), (14, .iconst 0, 1), (15, .putfield 21, 3), (18, .aload_n 0, 1), (19, .iconst (-1), 1), (20, .putfield 24, 3), (23, .return_, 1)]
theorem b_M_begins_0 : (t_M_begins_0.all fun q => decide (decode q_M_begins.2.1 q.1 = .ok (q.2.1, q.2.2))) = true := by decide +kernel
theorem d_M_begins_0 : vm_D q_M_begins.2.1 0 1 1 (.aload_n 0) := vm_dD b_M_begins_0 0 rfl rfl
theorem d_M_begins_1 : vm_D q_M_begins.2.1 1 1 2 (.aload_n 0) := vm_dD b_M_begins_0 1 rfl rfl
theorem d_M_begins_2 : vm_D q_M_begins.2.1 2 3 5 (.getfield 7) := vm_dD b_M_begins_0 2 rfl rfl
theorem d_M_begins_5 : vm_D q_M_begins.2.1 5 3 8 (.putfield 18) := vm_dD b_M_begins_0 3 rfl rfl
theorem d_M_begins_8 : vm_D q_M_begins.2.1 8 1 9 (.aload_n 0) := vm_dD b_M_begins_0 4 rfl rfl
theorem d_M_begins_9 : vm_D q_M_begins.2.1 9 1 10 (.iconst 0) := vm_dD b_M_begins_0 5 rfl rfl
theorem d_M_begins_10 : vm_D q_M_begins.2.1 10 3 13 (.putfield 7) := vm_dD b_M_begins_0 6 rfl rfl
theorem d_M_begins_13 : vm_D q_M_begins.2.1 13 1 14 (.aload_n 0) := vm_dD b_M_begins_0 7 rfl rfl
theorem d_M_begins_14 : vm_D q_M_begins.2.1 14 1 15 (.iconst 0) := vm_dD b_M_begins_0 8 rfl rfl
theorem d_M_begins_15 : vm_D q_M_begins.2.1 15 3 18 (.putfield 21) := vm_dD b_M_begins_0 9 rfl rfl
theorem d_M_begins_18 : vm_D q_M_begins.2.1 18 1 19 (.aload_n 0) := vm_dD b_M_begins_0 10 rfl rfl
theorem d_M_begins_19 : vm_D q_M_begins.2.1 19 1 20 (.iconst (-1)) := vm_dD b_M_begins_0 11 rfl rfl
theorem d_M_begins_20 : vm_D q_M_begins.2.1 20 3 23 (.putfield 24) := vm_dD b_M_begins_0 12 rfl rfl
theorem d_M_begins_23 : vm_D q_M_begins.2.1 23 1 24 (.return_) := vm_dD b_M_begins_0 13 rfl rfl
def q_M_hasFailed : vm_Y := ("RepeatFreeModel", cX11_hasFailed, 1, false, [])
def t_M_hasFailed_0 : List (Nat × Instr × Nat) := [(0, .aload_n 0, 1), (1, .getfield 24, 3), (4, .iconst (-1), 1), (5, .if_icmp .eq 7, 3), (8, .iconst 1, 1), (9, .goto 4, 3), (12, .iconst 0, 1), (13, .ireturn, 1)]
theorem b_M_hasFailed_0 : (t_M_hasFailed_0.all fun q => decide (decode q_M_hasFailed.2.1 q.1 = .ok (q.2.1, q.2.2))) = true := by decide +kernel
theorem d_M_hasFailed_0 : vm_D q_M_hasFailed.2.1 0 1 1 (.aload_n 0) := vm_dD b_M_hasFailed_0 0 rfl rfl
theorem d_M_hasFailed_1 : vm_D q_M_hasFailed.2.1 1 3 4 (.getfield 24) := vm_dD b_M_hasFailed_0 1 rfl rfl
theorem d_M_hasFailed_4 : vm_D q_M_hasFailed.2.1 4 1 5 (.iconst (-1)) := vm_dD b_M_hasFailed_0 2 rfl rfl
theorem d_M_hasFailed_5 : vm_B q_M_hasFailed.2.1 5 8 12 (fun o => .if_icmp .eq o) := ⟨7, vm_db b_M_hasFailed_0 (i := 3) rfl, rfl, by decide⟩
theorem d_M_hasFailed_12 : vm_D q_M_hasFailed.2.1 12 1 13 (.iconst 0) := vm_dD b_M_hasFailed_0 6 rfl rfl
theorem d_M_hasFailed_13 : vm_D q_M_hasFailed.2.1 13 1 14 (.ireturn) := vm_dD b_M_hasFailed_0 7 rfl rfl
theorem d_M_hasFailed_8 : vm_D q_M_hasFailed.2.1 8 1 9 (.iconst 1) := vm_dD b_M_hasFailed_0 4 rfl rfl
theorem d_M_hasFailed_9 : ∃ off : Int, decode q_M_hasFailed.2.1 9 = .ok (.goto off, 3) ∧ ((9 : Nat) : Int) + off = ((13 : Nat) : Int) := ⟨4, vm_db b_M_hasFailed_0 (i := 5) rfl, by decide⟩
def q_M_isAt : vm_Y := ("RepeatFreeModel", cX11_isAt, 3, false, [])
def t_M_isAt_0 : List (Nat × Instr × Nat) := [(0, .aload_n 0, 1), (1, .getfield 21, 3), (4, .aload_n 0, 1), (5, .getfield 18, 3), (8, .if_icmp .ge 33, 3), (11, .aload_n 0, 1), (12, .getfield 14, 3), (15, .aload_n 0, 1), (16, .getfield 21, 3), (19, .baload, 1), (20, .iload_n 1, 1), (21, .if_icmp .lt 20, 3), (24, .aload_n 0, 1), (25, .getfield 14, 3), (28, .aload_n 0, 1), (29, .getfield 21, 3), (32, .baload, 1), (33, .iload_n 2, 1), (34, .if_icmp .gt 7, 3), (37, .iconst 1, 1), (38, .goto 4, 3), (41, .iconst 0, 1), (42, .ireturn, 1)]
theorem b_M_isAt_0 : (t_M_isAt_0.all fun q => decide (decode q_M_isAt.2.1 q.1 = .ok (q.2.1, q.2.2))) = true := by decide +kernel
theorem d_M_isAt_0 : vm_D q_M_isAt.2.1 0 1 1 (.aload_n 0) := vm_dD b_M_isAt_0 0 rfl rfl
theorem d_M_isAt_1 : vm_D q_M_isAt.2.1 1 3 4 (.getfield 21) := vm_dD b_M_isAt_0 1 rfl rfl
theorem d_M_isAt_4 : vm_D q_M_isAt.2.1 4 1 5 (.aload_n 0) := vm_dD b_M_isAt_0 2 rfl rfl
theorem d_M_isAt_5 : vm_D q_M_isAt.2.1 5 3 8 (.getfield 18) := vm_dD b_M_isAt_0 3 rfl rfl
theorem d_M_isAt_8 : vm_B q_M_isAt.2.1 8 11 41 (fun o => .if_icmp .ge o) := ⟨33, vm_db b_M_isAt_0 (i := 4) rfl, rfl, by decide⟩
theorem d_M_isAt_41 : vm_D q_M_isAt.2.1 41 1 42 (.iconst 0) := vm_dD b_M_isAt_0 21 rfl rfl
theorem d_M_isAt_42 : vm_D q_M_isAt.2.1 42 1 43 (.ireturn) := vm_dD b_M_isAt_0 22 rfl rfl
theorem d_M_isAt_11 : vm_D q_M_isAt.2.1 11 1 12 (.aload_n 0) := vm_dD b_M_isAt_0 5 rfl rfl
theorem d_M_isAt_12 : vm_D q_M_isAt.2.1 12 3 15 (.getfield 14) := vm_dD b_M_isAt_0 6 rfl rfl
theorem d_M_isAt_15 : vm_D q_M_isAt.2.1 15 1 16 (.aload_n 0) := vm_dD b_M_isAt_0 7 rfl rfl
theorem d_M_isAt_16 : vm_D q_M_isAt.2.1 16 3 19 (.getfield 21) := vm_dD b_M_isAt_0 8 rfl rfl
theorem d_M_isAt_19 : vm_D q_M_isAt.2.1 19 1 20 (.baload) := vm_dD b_M_isAt_0 9 rfl rfl
theorem d_M_isAt_20 : vm_D q_M_isAt.2.1 20 1 21 (.iload_n 1) := vm_dD b_M_isAt_0 10 rfl rfl
theorem d_M_isAt_21 : vm_B q_M_isAt.2.1 21 24 41 (fun o => .if_icmp .lt o) := ⟨20, vm_db b_M_isAt_0 (i := 11) rfl, rfl, by decide⟩
theorem d_M_isAt_24 : vm_D q_M_isAt.2.1 24 1 25 (.aload_n 0) := vm_dD b_M_isAt_0 12 rfl rfl
theorem d_M_isAt_25 : vm_D q_M_isAt.2.1 25 3 28 (.getfield 14) := vm_dD b_M_isAt_0 13 rfl rfl
theorem d_M_isAt_28 : vm_D q_M_isAt.2.1 28 1 29 (.aload_n 0) := vm_dD b_M_isAt_0 14 rfl rfl
theorem d_M_isAt_29 : vm_D q_M_isAt.2.1 29 3 32 (.getfield 21) := vm_dD b_M_isAt_0 15 rfl rfl
theorem d_M_isAt_32 : vm_D q_M_isAt.2.1 32 1 33 (.baload) := vm_dD b_M_isAt_0 16 rfl rfl
theorem d_M_isAt_33 : vm_D q_M_isAt.2.1 33 1 34 (.iload_n 2) := vm_dD b_M_isAt_0 17 rfl rfl
theorem d_M_isAt_34 : vm_B q_M_isAt.2.1 34 37 41 (fun o => .if_icmp .gt o) := ⟨7, vm_db b_M_isAt_0 (i := 18) rfl, rfl, by decide⟩
theorem d_M_isAt_37 : vm_D q_M_isAt.2.1 37 1 38 (.iconst 1) := vm_dD b_M_isAt_0 19 rfl rfl
theorem d_M_isAt_38 : ∃ off : Int, decode q_M_isAt.2.1 38 = .ok (.goto off, 3) ∧ ((38 : Nat) : Int) + off = ((42 : Nat) : Int) := ⟨4, vm_db b_M_isAt_0 (i := 20) rfl, by decide⟩
def q_M_blanks : vm_Y := ("RepeatFreeModel", cX11_blanks, 1, false, [])
def t_M_blanks_0 : List (Nat × Instr × Nat) := [(0, .aload_n 0, 1), (1, .bipush 9, 2), (3, .bipush 10, 2), (5, .invokevirtual 27, 3), (8, .ifCond .ne 14, 3), (11, .aload_n 0, 1), (12, .bipush 32, 2), (14, .bipush 32, 2), (16, .invokevirtual 27, 3), (19, .ifCond .eq 16, 3), (22, .aload_n 0, 1), (23, .dup, 1), (24, .getfield 21, 3), (27, .iconst 1, 1), (28, .iadd, 1), (29, .putfield 21, 3), (32, .goto (-32), 3), (35, .aload_n 0, 1), (36, .aload_n 0, 1), (37, .getfield 21, 3), (40, .putfield 31, 3), (43, .return_, 1)]
theorem b_M_blanks_0 : (t_M_blanks_0.all fun q => decide (decode q_M_blanks.2.1 q.1 = .ok (q.2.1, q.2.2))) = true := by decide +kernel
theorem d_M_blanks_0 : vm_D q_M_blanks.2.1 0 1 1 (.aload_n 0) := vm_dD b_M_blanks_0 0 rfl rfl
theorem d_M_blanks_1 : vm_D q_M_blanks.2.1 1 2 3 (.bipush 9) := vm_dD b_M_blanks_0 1 rfl rfl
theorem d_M_blanks_3 : vm_D q_M_blanks.2.1 3 2 5 (.bipush 10) := vm_dD b_M_blanks_0 2 rfl rfl
theorem d_M_blanks_5 : vm_D q_M_blanks.2.1 5 3 8 (.invokevirtual 27) := vm_dD b_M_blanks_0 3 rfl rfl
theorem d_M_blanks_8 : vm_B q_M_blanks.2.1 8 11 22 (fun o => .ifCond .ne o) := ⟨14, vm_db b_M_blanks_0 (i := 4) rfl, rfl, by decide⟩
theorem d_M_blanks_22 : vm_D q_M_blanks.2.1 22 1 23 (.aload_n 0) := vm_dD b_M_blanks_0 10 rfl rfl
theorem d_M_blanks_23 : vm_D q_M_blanks.2.1 23 1 24 (.dup) := vm_dD b_M_blanks_0 11 rfl rfl
theorem d_M_blanks_24 : vm_D q_M_blanks.2.1 24 3 27 (.getfield 21) := vm_dD b_M_blanks_0 12 rfl rfl
theorem d_M_blanks_27 : vm_D q_M_blanks.2.1 27 1 28 (.iconst 1) := vm_dD b_M_blanks_0 13 rfl rfl
theorem d_M_blanks_28 : vm_D q_M_blanks.2.1 28 1 29 (.iadd) := vm_dD b_M_blanks_0 14 rfl rfl
theorem d_M_blanks_29 : vm_D q_M_blanks.2.1 29 3 32 (.putfield 21) := vm_dD b_M_blanks_0 15 rfl rfl
theorem d_M_blanks_32 : ∃ off : Int, decode q_M_blanks.2.1 32 = .ok (.goto off, 3) ∧ ((32 : Nat) : Int) + off = ((0 : Nat) : Int) := ⟨-32, vm_db b_M_blanks_0 (i := 16) rfl, by decide⟩
theorem d_M_blanks_11 : vm_D q_M_blanks.2.1 11 1 12 (.aload_n 0) := vm_dD b_M_blanks_0 5 rfl rfl
theorem d_M_blanks_12 : vm_D q_M_blanks.2.1 12 2 14 (.bipush 32) := vm_dD b_M_blanks_0 6 rfl rfl
theorem d_M_blanks_14 : vm_D q_M_blanks.2.1 14 2 16 (.bipush 32) := vm_dD b_M_blanks_0 7 rfl rfl
theorem d_M_blanks_16 : vm_D q_M_blanks.2.1 16 3 19 (.invokevirtual 27) := vm_dD b_M_blanks_0 8 rfl rfl
theorem d_M_blanks_19 : vm_B q_M_blanks.2.1 19 22 35 (fun o => .ifCond .eq o) := ⟨16, vm_db b_M_blanks_0 (i := 9) rfl, rfl, by decide⟩
theorem d_M_blanks_35 : vm_D q_M_blanks.2.1 35 1 36 (.aload_n 0) := vm_dD b_M_blanks_0 17 rfl rfl
theorem d_M_blanks_36 : vm_D q_M_blanks.2.1 36 1 37 (.aload_n 0) := vm_dD b_M_blanks_0 18 rfl rfl
theorem d_M_blanks_37 : vm_D q_M_blanks.2.1 37 3 40 (.getfield 21) := vm_dD b_M_blanks_0 19 rfl rfl
theorem d_M_blanks_40 : vm_D q_M_blanks.2.1 40 3 43 (.putfield 31) := vm_dD b_M_blanks_0 20 rfl rfl
theorem d_M_blanks_43 : vm_D q_M_blanks.2.1 43 1 44 (.return_) := vm_dD b_M_blanks_0 21 rfl rfl
def q_M_fails : vm_Y := ("RepeatFreeModel", cX11_fails, 1, false, [])
def t_M_fails_0 : List (Nat × Instr × Nat) := [(0, .aload_n 0, 1), (1, .getfield 24, 3), (4, .iconst (-1), 1), (5, .if_icmp .ne 11, 3), (8, .aload_n 0, 1), (9, .aload_n 0, 1), (10, .getfield 31, 3), (13, .putfield 24, 3), (16, .return_, 1)]
theorem b_M_fails_0 : (t_M_fails_0.all fun q => decide (decode q_M_fails.2.1 q.1 = .ok (q.2.1, q.2.2))) = true := by decide +kernel
theorem d_M_fails_0 : vm_D q_M_fails.2.1 0 1 1 (.aload_n 0) := vm_dD b_M_fails_0 0 rfl rfl
theorem d_M_fails_1 : vm_D q_M_fails.2.1 1 3 4 (.getfield 24) := vm_dD b_M_fails_0 1 rfl rfl
theorem d_M_fails_4 : vm_D q_M_fails.2.1 4 1 5 (.iconst (-1)) := vm_dD b_M_fails_0 2 rfl rfl
theorem d_M_fails_5 : vm_B q_M_fails.2.1 5 8 16 (fun o => .if_icmp .ne o) := ⟨11, vm_db b_M_fails_0 (i := 3) rfl, rfl, by decide⟩
theorem d_M_fails_16 : vm_D q_M_fails.2.1 16 1 17 (.return_) := vm_dD b_M_fails_0 8 rfl rfl
theorem d_M_fails_8 : vm_D q_M_fails.2.1 8 1 9 (.aload_n 0) := vm_dD b_M_fails_0 4 rfl rfl
theorem d_M_fails_9 : vm_D q_M_fails.2.1 9 1 10 (.aload_n 0) := vm_dD b_M_fails_0 5 rfl rfl
theorem d_M_fails_10 : vm_D q_M_fails.2.1 10 3 13 (.getfield 31) := vm_dD b_M_fails_0 6 rfl rfl
theorem d_M_fails_13 : vm_D q_M_fails.2.1 13 3 16 (.putfield 24) := vm_dD b_M_fails_0 7 rfl rfl
def q_M_asksSign : vm_Y := ("RepeatFreeModel", cX11_asksSign, 2, false, [])
def t_M_asksSign_0 : List (Nat × Instr × Nat) := [(0, .aload_n 0, 1), (1, .invokevirtual 34, 3), (4, .aload_n 0, 1), (5, .invokevirtual 38, 3), (8, .ifCond .eq 4, 3), (11, .return_, 1), (12, .aload_n 0, 1), (13, .iload_n 1, 1), (14, .iload_n 1, 1), (15, .invokevirtual 27, 3), (18, .ifCond .eq 16, 3), (21, .aload_n 0, 1), (22, .dup, 1), (23, .getfield 21, 3), (26, .iconst 1, 1), (27, .iadd, 1), (28, .putfield 21, 3), (31, .goto 7, 3), (34, .aload_n 0, 1), (35, .invokevirtual 42, 3), (38, .return_, 1)]
theorem b_M_asksSign_0 : (t_M_asksSign_0.all fun q => decide (decode q_M_asksSign.2.1 q.1 = .ok (q.2.1, q.2.2))) = true := by decide +kernel
theorem d_M_asksSign_0 : vm_D q_M_asksSign.2.1 0 1 1 (.aload_n 0) := vm_dD b_M_asksSign_0 0 rfl rfl
theorem d_M_asksSign_1 : vm_D q_M_asksSign.2.1 1 3 4 (.invokevirtual 34) := vm_dD b_M_asksSign_0 1 rfl rfl
theorem d_M_asksSign_4 : vm_D q_M_asksSign.2.1 4 1 5 (.aload_n 0) := vm_dD b_M_asksSign_0 2 rfl rfl
theorem d_M_asksSign_5 : vm_D q_M_asksSign.2.1 5 3 8 (.invokevirtual 38) := vm_dD b_M_asksSign_0 3 rfl rfl
theorem d_M_asksSign_8 : vm_B q_M_asksSign.2.1 8 11 12 (fun o => .ifCond .eq o) := ⟨4, vm_db b_M_asksSign_0 (i := 4) rfl, rfl, by decide⟩
theorem d_M_asksSign_12 : vm_D q_M_asksSign.2.1 12 1 13 (.aload_n 0) := vm_dD b_M_asksSign_0 6 rfl rfl
theorem d_M_asksSign_13 : vm_D q_M_asksSign.2.1 13 1 14 (.iload_n 1) := vm_dD b_M_asksSign_0 7 rfl rfl
theorem d_M_asksSign_14 : vm_D q_M_asksSign.2.1 14 1 15 (.iload_n 1) := vm_dD b_M_asksSign_0 8 rfl rfl
theorem d_M_asksSign_15 : vm_D q_M_asksSign.2.1 15 3 18 (.invokevirtual 27) := vm_dD b_M_asksSign_0 9 rfl rfl
theorem d_M_asksSign_18 : vm_B q_M_asksSign.2.1 18 21 34 (fun o => .ifCond .eq o) := ⟨16, vm_db b_M_asksSign_0 (i := 10) rfl, rfl, by decide⟩
theorem d_M_asksSign_34 : vm_D q_M_asksSign.2.1 34 1 35 (.aload_n 0) := vm_dD b_M_asksSign_0 18 rfl rfl
theorem d_M_asksSign_35 : vm_D q_M_asksSign.2.1 35 3 38 (.invokevirtual 42) := vm_dD b_M_asksSign_0 19 rfl rfl
theorem d_M_asksSign_38 : vm_D q_M_asksSign.2.1 38 1 39 (.return_) := vm_dD b_M_asksSign_0 20 rfl rfl
theorem d_M_asksSign_21 : vm_D q_M_asksSign.2.1 21 1 22 (.aload_n 0) := vm_dD b_M_asksSign_0 11 rfl rfl
theorem d_M_asksSign_22 : vm_D q_M_asksSign.2.1 22 1 23 (.dup) := vm_dD b_M_asksSign_0 12 rfl rfl
theorem d_M_asksSign_23 : vm_D q_M_asksSign.2.1 23 3 26 (.getfield 21) := vm_dD b_M_asksSign_0 13 rfl rfl
theorem d_M_asksSign_26 : vm_D q_M_asksSign.2.1 26 1 27 (.iconst 1) := vm_dD b_M_asksSign_0 14 rfl rfl
theorem d_M_asksSign_27 : vm_D q_M_asksSign.2.1 27 1 28 (.iadd) := vm_dD b_M_asksSign_0 15 rfl rfl
theorem d_M_asksSign_28 : vm_D q_M_asksSign.2.1 28 3 31 (.putfield 21) := vm_dD b_M_asksSign_0 16 rfl rfl
theorem d_M_asksSign_31 : ∃ off : Int, decode q_M_asksSign.2.1 31 = .ok (.goto off, 3) ∧ ((31 : Nat) : Int) + off = ((38 : Nat) : Int) := ⟨7, vm_db b_M_asksSign_0 (i := 17) rfl, by decide⟩
theorem d_M_asksSign_11 : vm_D q_M_asksSign.2.1 11 1 12 (.return_) := vm_dD b_M_asksSign_0 5 rfl rfl
def q_M_wordMany : vm_Y := ("RepeatFreeModel", cX11_wordMany, 2, false, [])
def t_M_wordMany_0 : List (Nat × Instr × Nat) := [(0, .aload_n 0, 1), (1, .invokevirtual 34, 3), (4, .aload_n 0, 1), (5, .getfield 21, 3), (8, .istore_n 1, 1), (9, .iload_n 1, 1), (10, .aload_n 0, 1), (11, .getfield 18, 3), (14, .if_icmp .ge 31, 3), (17, .aload_n 0, 1), (18, .getfield 14, 3), (21, .iload_n 1, 1), (22, .baload, 1), (23, .bipush 97, 2), (25, .if_icmp .lt 20, 3), (28, .aload_n 0, 1), (29, .getfield 14, 3), (32, .iload_n 1, 1), (33, .baload, 1), (34, .bipush 122, 2), (36, .if_icmp .gt 9, 3), (39, .iinc 1 1, 3), (42, .goto (-33), 3), (45, .iload_n 1, 1), (46, .aload_n 0, 1), (47, .getfield 21, 3), (50, .isub, 1), (51, .ireturn, 1)]
theorem b_M_wordMany_0 : (t_M_wordMany_0.all fun q => decide (decode q_M_wordMany.2.1 q.1 = .ok (q.2.1, q.2.2))) = true := by decide +kernel
theorem d_M_wordMany_0 : vm_D q_M_wordMany.2.1 0 1 1 (.aload_n 0) := vm_dD b_M_wordMany_0 0 rfl rfl
theorem d_M_wordMany_1 : vm_D q_M_wordMany.2.1 1 3 4 (.invokevirtual 34) := vm_dD b_M_wordMany_0 1 rfl rfl
theorem d_M_wordMany_4 : vm_D q_M_wordMany.2.1 4 1 5 (.aload_n 0) := vm_dD b_M_wordMany_0 2 rfl rfl
theorem d_M_wordMany_5 : vm_D q_M_wordMany.2.1 5 3 8 (.getfield 21) := vm_dD b_M_wordMany_0 3 rfl rfl
theorem d_M_wordMany_8 : vm_D q_M_wordMany.2.1 8 1 9 (.istore_n 1) := vm_dD b_M_wordMany_0 4 rfl rfl
theorem d_M_wordMany_9 : vm_D q_M_wordMany.2.1 9 1 10 (.iload_n 1) := vm_dD b_M_wordMany_0 5 rfl rfl
theorem d_M_wordMany_10 : vm_D q_M_wordMany.2.1 10 1 11 (.aload_n 0) := vm_dD b_M_wordMany_0 6 rfl rfl
theorem d_M_wordMany_11 : vm_D q_M_wordMany.2.1 11 3 14 (.getfield 18) := vm_dD b_M_wordMany_0 7 rfl rfl
theorem d_M_wordMany_14 : vm_B q_M_wordMany.2.1 14 17 45 (fun o => .if_icmp .ge o) := ⟨31, vm_db b_M_wordMany_0 (i := 8) rfl, rfl, by decide⟩
theorem d_M_wordMany_17 : vm_D q_M_wordMany.2.1 17 1 18 (.aload_n 0) := vm_dD b_M_wordMany_0 9 rfl rfl
theorem d_M_wordMany_18 : vm_D q_M_wordMany.2.1 18 3 21 (.getfield 14) := vm_dD b_M_wordMany_0 10 rfl rfl
theorem d_M_wordMany_21 : vm_D q_M_wordMany.2.1 21 1 22 (.iload_n 1) := vm_dD b_M_wordMany_0 11 rfl rfl
theorem d_M_wordMany_22 : vm_D q_M_wordMany.2.1 22 1 23 (.baload) := vm_dD b_M_wordMany_0 12 rfl rfl
theorem d_M_wordMany_23 : vm_D q_M_wordMany.2.1 23 2 25 (.bipush 97) := vm_dD b_M_wordMany_0 13 rfl rfl
theorem d_M_wordMany_25 : vm_B q_M_wordMany.2.1 25 28 45 (fun o => .if_icmp .lt o) := ⟨20, vm_db b_M_wordMany_0 (i := 14) rfl, rfl, by decide⟩
theorem d_M_wordMany_28 : vm_D q_M_wordMany.2.1 28 1 29 (.aload_n 0) := vm_dD b_M_wordMany_0 15 rfl rfl
theorem d_M_wordMany_29 : vm_D q_M_wordMany.2.1 29 3 32 (.getfield 14) := vm_dD b_M_wordMany_0 16 rfl rfl
theorem d_M_wordMany_32 : vm_D q_M_wordMany.2.1 32 1 33 (.iload_n 1) := vm_dD b_M_wordMany_0 17 rfl rfl
theorem d_M_wordMany_33 : vm_D q_M_wordMany.2.1 33 1 34 (.baload) := vm_dD b_M_wordMany_0 18 rfl rfl
theorem d_M_wordMany_34 : vm_D q_M_wordMany.2.1 34 2 36 (.bipush 122) := vm_dD b_M_wordMany_0 19 rfl rfl
theorem d_M_wordMany_36 : vm_B q_M_wordMany.2.1 36 39 45 (fun o => .if_icmp .gt o) := ⟨9, vm_db b_M_wordMany_0 (i := 20) rfl, rfl, by decide⟩
theorem d_M_wordMany_39 : vm_D q_M_wordMany.2.1 39 3 42 (.iinc 1 1) := vm_dD b_M_wordMany_0 21 rfl rfl
theorem d_M_wordMany_42 : ∃ off : Int, decode q_M_wordMany.2.1 42 = .ok (.goto off, 3) ∧ ((42 : Nat) : Int) + off = ((9 : Nat) : Int) := ⟨-33, vm_db b_M_wordMany_0 (i := 22) rfl, by decide⟩
theorem d_M_wordMany_45 : vm_D q_M_wordMany.2.1 45 1 46 (.iload_n 1) := vm_dD b_M_wordMany_0 23 rfl rfl
theorem d_M_wordMany_46 : vm_D q_M_wordMany.2.1 46 1 47 (.aload_n 0) := vm_dD b_M_wordMany_0 24 rfl rfl
theorem d_M_wordMany_47 : vm_D q_M_wordMany.2.1 47 3 50 (.getfield 21) := vm_dD b_M_wordMany_0 25 rfl rfl
theorem d_M_wordMany_50 : vm_D q_M_wordMany.2.1 50 1 51 (.isub) := vm_dD b_M_wordMany_0 26 rfl rfl
theorem d_M_wordMany_51 : vm_D q_M_wordMany.2.1 51 1 52 (.ireturn) := vm_dD b_M_wordMany_0 27 rfl rfl
def q_M_isWord : vm_Y := ("RepeatFreeModel", cX11_isWord, 4, false, [])
def t_M_isWord_0 : List (Nat × Instr × Nat) := [(0, .aload_n 0, 1), (1, .invokevirtual 38, 3), (4, .ifCond .ne 18, 3), (7, .aload_n 0, 1), (8, .invokevirtual 45, 3), (11, .aload_n 1, 1), (12, .invokevirtual 49, 3), (15, .if_icmp .ne 7, 3), (18, .iconst 1, 1), (19, .goto 4, 3), (22, .iconst 0, 1), (23, .istore_n 2, 1), (24, .iconst 0, 1), (25, .istore_n 3, 1), (26, .iload_n 2, 1), (27, .ifCond .eq 42, 3), (30, .iload_n 3, 1), (31, .aload_n 1, 1), (32, .invokevirtual 49, 3), (35, .if_icmp .ge 34, 3), (38, .aload_n 0, 1), (39, .getfield 14, 3), (42, .aload_n 0, 1), (43, .getfield 21, 3), (46, .iload_n 3, 1), (47, .iadd, 1), (48, .baload, 1), (49, .aload_n 1, 1), (50, .iload_n 3, 1), (51, .invokevirtual 54, 3), (54, .if_icmp .ne 7, 3), (57, .iconst 1, 1), (58, .goto 4, 3), (61, .iconst 0, 1), (62, .istore_n 2, 1), (63, .iinc 3 1, 3), (66, .goto (-40), 3), (69, .iload_n 2, 1), (70, .ireturn, 1)]
theorem b_M_isWord_0 : (t_M_isWord_0.all fun q => decide (decode q_M_isWord.2.1 q.1 = .ok (q.2.1, q.2.2))) = true := by decide +kernel
theorem d_M_isWord_0 : vm_D q_M_isWord.2.1 0 1 1 (.aload_n 0) := vm_dD b_M_isWord_0 0 rfl rfl
theorem d_M_isWord_1 : vm_D q_M_isWord.2.1 1 3 4 (.invokevirtual 38) := vm_dD b_M_isWord_0 1 rfl rfl
theorem d_M_isWord_4 : vm_B q_M_isWord.2.1 4 7 22 (fun o => .ifCond .ne o) := ⟨18, vm_db b_M_isWord_0 (i := 2) rfl, rfl, by decide⟩
theorem d_M_isWord_23 : vm_D q_M_isWord.2.1 23 1 24 (.istore_n 2) := vm_dD b_M_isWord_0 11 rfl rfl
theorem d_M_isWord_24 : vm_D q_M_isWord.2.1 24 1 25 (.iconst 0) := vm_dD b_M_isWord_0 12 rfl rfl
theorem d_M_isWord_25 : vm_D q_M_isWord.2.1 25 1 26 (.istore_n 3) := vm_dD b_M_isWord_0 13 rfl rfl
theorem d_M_isWord_26 : vm_D q_M_isWord.2.1 26 1 27 (.iload_n 2) := vm_dD b_M_isWord_0 14 rfl rfl
theorem d_M_isWord_27 : vm_B q_M_isWord.2.1 27 30 69 (fun o => .ifCond .eq o) := ⟨42, vm_db b_M_isWord_0 (i := 15) rfl, rfl, by decide⟩
theorem d_M_isWord_30 : vm_D q_M_isWord.2.1 30 1 31 (.iload_n 3) := vm_dD b_M_isWord_0 16 rfl rfl
theorem d_M_isWord_31 : vm_D q_M_isWord.2.1 31 1 32 (.aload_n 1) := vm_dD b_M_isWord_0 17 rfl rfl
theorem d_M_isWord_32 : vm_D q_M_isWord.2.1 32 3 35 (.invokevirtual 49) := vm_dD b_M_isWord_0 18 rfl rfl
theorem d_M_isWord_35 : vm_B q_M_isWord.2.1 35 38 69 (fun o => .if_icmp .ge o) := ⟨34, vm_db b_M_isWord_0 (i := 19) rfl, rfl, by decide⟩
theorem d_M_isWord_38 : vm_D q_M_isWord.2.1 38 1 39 (.aload_n 0) := vm_dD b_M_isWord_0 20 rfl rfl
theorem d_M_isWord_39 : vm_D q_M_isWord.2.1 39 3 42 (.getfield 14) := vm_dD b_M_isWord_0 21 rfl rfl
theorem d_M_isWord_42 : vm_D q_M_isWord.2.1 42 1 43 (.aload_n 0) := vm_dD b_M_isWord_0 22 rfl rfl
theorem d_M_isWord_43 : vm_D q_M_isWord.2.1 43 3 46 (.getfield 21) := vm_dD b_M_isWord_0 23 rfl rfl
theorem d_M_isWord_46 : vm_D q_M_isWord.2.1 46 1 47 (.iload_n 3) := vm_dD b_M_isWord_0 24 rfl rfl
theorem d_M_isWord_47 : vm_D q_M_isWord.2.1 47 1 48 (.iadd) := vm_dD b_M_isWord_0 25 rfl rfl
theorem d_M_isWord_48 : vm_D q_M_isWord.2.1 48 1 49 (.baload) := vm_dD b_M_isWord_0 26 rfl rfl
theorem d_M_isWord_49 : vm_D q_M_isWord.2.1 49 1 50 (.aload_n 1) := vm_dD b_M_isWord_0 27 rfl rfl
theorem d_M_isWord_50 : vm_D q_M_isWord.2.1 50 1 51 (.iload_n 3) := vm_dD b_M_isWord_0 28 rfl rfl
theorem d_M_isWord_51 : vm_D q_M_isWord.2.1 51 3 54 (.invokevirtual 54) := vm_dD b_M_isWord_0 29 rfl rfl
theorem d_M_isWord_54 : vm_B q_M_isWord.2.1 54 57 61 (fun o => .if_icmp .ne o) := ⟨7, vm_db b_M_isWord_0 (i := 30) rfl, rfl, by decide⟩
theorem d_M_isWord_62 : vm_D q_M_isWord.2.1 62 1 63 (.istore_n 2) := vm_dD b_M_isWord_0 34 rfl rfl
theorem d_M_isWord_63 : vm_D q_M_isWord.2.1 63 3 66 (.iinc 3 1) := vm_dD b_M_isWord_0 35 rfl rfl
theorem d_M_isWord_66 : ∃ off : Int, decode q_M_isWord.2.1 66 = .ok (.goto off, 3) ∧ ((66 : Nat) : Int) + off = ((26 : Nat) : Int) := ⟨-40, vm_db b_M_isWord_0 (i := 36) rfl, by decide⟩
theorem d_M_isWord_61 : vm_D q_M_isWord.2.1 61 1 62 (.iconst 0) := vm_dD b_M_isWord_0 33 rfl rfl
theorem d_M_isWord_57 : vm_D q_M_isWord.2.1 57 1 58 (.iconst 1) := vm_dD b_M_isWord_0 31 rfl rfl
theorem d_M_isWord_58 : ∃ off : Int, decode q_M_isWord.2.1 58 = .ok (.goto off, 3) ∧ ((58 : Nat) : Int) + off = ((62 : Nat) : Int) := ⟨4, vm_db b_M_isWord_0 (i := 32) rfl, by decide⟩
theorem d_M_isWord_69 : vm_D q_M_isWord.2.1 69 1 70 (.iload_n 2) := vm_dD b_M_isWord_0 37 rfl rfl
theorem d_M_isWord_70 : vm_D q_M_isWord.2.1 70 1 71 (.ireturn) := vm_dD b_M_isWord_0 38 rfl rfl
theorem d_M_isWord_22 : vm_D q_M_isWord.2.1 22 1 23 (.iconst 0) := vm_dD b_M_isWord_0 10 rfl rfl
theorem d_M_isWord_7 : vm_D q_M_isWord.2.1 7 1 8 (.aload_n 0) := vm_dD b_M_isWord_0 3 rfl rfl
theorem d_M_isWord_8 : vm_D q_M_isWord.2.1 8 3 11 (.invokevirtual 45) := vm_dD b_M_isWord_0 4 rfl rfl
theorem d_M_isWord_11 : vm_D q_M_isWord.2.1 11 1 12 (.aload_n 1) := vm_dD b_M_isWord_0 5 rfl rfl
theorem d_M_isWord_12 : vm_D q_M_isWord.2.1 12 3 15 (.invokevirtual 49) := vm_dD b_M_isWord_0 6 rfl rfl
theorem d_M_isWord_15 : vm_B q_M_isWord.2.1 15 18 22 (fun o => .if_icmp .ne o) := ⟨7, vm_db b_M_isWord_0 (i := 7) rfl, rfl, by decide⟩
theorem d_M_isWord_18 : vm_D q_M_isWord.2.1 18 1 19 (.iconst 1) := vm_dD b_M_isWord_0 8 rfl rfl
theorem d_M_isWord_19 : ∃ off : Int, decode q_M_isWord.2.1 19 = .ok (.goto off, 3) ∧ ((19 : Nat) : Int) + off = ((23 : Nat) : Int) := ⟨4, vm_db b_M_isWord_0 (i := 9) rfl, by decide⟩
def q_M_takesWord : vm_Y := ("RepeatFreeModel", cX11_takesWord, 3, false, [])
def t_M_takesWord_0 : List (Nat × Instr × Nat) := [(0, .aload_n 0, 1), (1, .aload_n 1, 1), (2, .invokevirtual 58, 3), (5, .istore_n 2, 1), (6, .iload_n 2, 1), (7, .ifCond .eq 16, 3), (10, .aload_n 0, 1), (11, .dup, 1), (12, .getfield 21, 3), (15, .aload_n 1, 1), (16, .invokevirtual 49, 3), (19, .iadd, 1), (20, .putfield 21, 3), (23, .iload_n 2, 1), (24, .ireturn, 1)]
theorem b_M_takesWord_0 : (t_M_takesWord_0.all fun q => decide (decode q_M_takesWord.2.1 q.1 = .ok (q.2.1, q.2.2))) = true := by decide +kernel
theorem d_M_takesWord_0 : vm_D q_M_takesWord.2.1 0 1 1 (.aload_n 0) := vm_dD b_M_takesWord_0 0 rfl rfl
theorem d_M_takesWord_1 : vm_D q_M_takesWord.2.1 1 1 2 (.aload_n 1) := vm_dD b_M_takesWord_0 1 rfl rfl
theorem d_M_takesWord_2 : vm_D q_M_takesWord.2.1 2 3 5 (.invokevirtual 58) := vm_dD b_M_takesWord_0 2 rfl rfl
theorem d_M_takesWord_5 : vm_D q_M_takesWord.2.1 5 1 6 (.istore_n 2) := vm_dD b_M_takesWord_0 3 rfl rfl
theorem d_M_takesWord_6 : vm_D q_M_takesWord.2.1 6 1 7 (.iload_n 2) := vm_dD b_M_takesWord_0 4 rfl rfl
theorem d_M_takesWord_7 : vm_B q_M_takesWord.2.1 7 10 23 (fun o => .ifCond .eq o) := ⟨16, vm_db b_M_takesWord_0 (i := 5) rfl, rfl, by decide⟩
theorem d_M_takesWord_23 : vm_D q_M_takesWord.2.1 23 1 24 (.iload_n 2) := vm_dD b_M_takesWord_0 13 rfl rfl
theorem d_M_takesWord_24 : vm_D q_M_takesWord.2.1 24 1 25 (.ireturn) := vm_dD b_M_takesWord_0 14 rfl rfl
theorem d_M_takesWord_10 : vm_D q_M_takesWord.2.1 10 1 11 (.aload_n 0) := vm_dD b_M_takesWord_0 6 rfl rfl
theorem d_M_takesWord_11 : vm_D q_M_takesWord.2.1 11 1 12 (.dup) := vm_dD b_M_takesWord_0 7 rfl rfl
theorem d_M_takesWord_12 : vm_D q_M_takesWord.2.1 12 3 15 (.getfield 21) := vm_dD b_M_takesWord_0 8 rfl rfl
theorem d_M_takesWord_15 : vm_D q_M_takesWord.2.1 15 1 16 (.aload_n 1) := vm_dD b_M_takesWord_0 9 rfl rfl
theorem d_M_takesWord_16 : vm_D q_M_takesWord.2.1 16 3 19 (.invokevirtual 49) := vm_dD b_M_takesWord_0 10 rfl rfl
theorem d_M_takesWord_19 : vm_D q_M_takesWord.2.1 19 1 20 (.iadd) := vm_dD b_M_takesWord_0 11 rfl rfl
theorem d_M_takesWord_20 : vm_D q_M_takesWord.2.1 20 3 23 (.putfield 21) := vm_dD b_M_takesWord_0 12 rfl rfl
def q_M_asksWord : vm_Y := ("RepeatFreeModel", cX11_asksWord, 2, false, [])
def t_M_asksWord_0 : List (Nat × Instr × Nat) := [(0, .aload_n 0, 1), (1, .invokevirtual 38, 3), (4, .ifCond .ne 15, 3), (7, .aload_n 0, 1), (8, .aload_n 1, 1), (9, .invokevirtual 62, 3), (12, .ifCond .ne 7, 3), (15, .aload_n 0, 1), (16, .invokevirtual 42, 3), (19, .return_, 1)]
theorem b_M_asksWord_0 : (t_M_asksWord_0.all fun q => decide (decode q_M_asksWord.2.1 q.1 = .ok (q.2.1, q.2.2))) = true := by decide +kernel
theorem d_M_asksWord_0 : vm_D q_M_asksWord.2.1 0 1 1 (.aload_n 0) := vm_dD b_M_asksWord_0 0 rfl rfl
theorem d_M_asksWord_1 : vm_D q_M_asksWord.2.1 1 3 4 (.invokevirtual 38) := vm_dD b_M_asksWord_0 1 rfl rfl
theorem d_M_asksWord_4 : vm_B q_M_asksWord.2.1 4 7 19 (fun o => .ifCond .ne o) := ⟨15, vm_db b_M_asksWord_0 (i := 2) rfl, rfl, by decide⟩
theorem d_M_asksWord_19 : vm_D q_M_asksWord.2.1 19 1 20 (.return_) := vm_dD b_M_asksWord_0 9 rfl rfl
theorem d_M_asksWord_7 : vm_D q_M_asksWord.2.1 7 1 8 (.aload_n 0) := vm_dD b_M_asksWord_0 3 rfl rfl
theorem d_M_asksWord_8 : vm_D q_M_asksWord.2.1 8 1 9 (.aload_n 1) := vm_dD b_M_asksWord_0 4 rfl rfl
theorem d_M_asksWord_9 : vm_D q_M_asksWord.2.1 9 3 12 (.invokevirtual 62) := vm_dD b_M_asksWord_0 5 rfl rfl
theorem d_M_asksWord_12 : vm_B q_M_asksWord.2.1 12 15 19 (fun o => .ifCond .ne o) := ⟨7, vm_db b_M_asksWord_0 (i := 6) rfl, rfl, by decide⟩
theorem d_M_asksWord_15 : vm_D q_M_asksWord.2.1 15 1 16 (.aload_n 0) := vm_dD b_M_asksWord_0 7 rfl rfl
theorem d_M_asksWord_16 : vm_D q_M_asksWord.2.1 16 3 19 (.invokevirtual 42) := vm_dD b_M_asksWord_0 8 rfl rfl
def q_M_number : vm_Y := ("RepeatFreeModel", cX11_number, 5, false, [])
def t_M_number_0 : List (Nat × Instr × Nat) := [(0, .aload_n 0, 1), (1, .invokevirtual 38, 3), (4, .ifCond .eq 5, 3), (7, .iload_n 1, 1), (8, .ireturn, 1), (9, .aload_n 0, 1), (10, .invokevirtual 34, 3), (13, .iconst 0, 1), (14, .istore_n 3, 1), (15, .aload_n 0, 1), (16, .bipush 48, 2), (18, .bipush 57, 2), (20, .invokevirtual 27, 3), (23, .ifCond .eq 47, 3), (26, .aload_n 0, 1), (27, .getfield 21, 3), (30, .aload_n 0, 1), (31, .getfield 31, 3), (34, .isub, 1), (35, .iconst 2, 1), (36, .if_icmp .ge 21, 3), (39, .bipush 10, 2), (41, .iload_n 3, 1), (42, .imul, 1), (43, .aload_n 0, 1), (44, .getfield 14, 3), (47, .aload_n 0, 1), (48, .getfield 21, 3), (51, .baload, 1), (52, .iadd, 1), (53, .bipush 48, 2), (55, .isub, 1), (56, .istore_n 3, 1), (57, .aload_n 0, 1), (58, .dup, 1), (59, .getfield 21, 3), (62, .iconst 1, 1), (63, .iadd, 1), (64, .putfield 21, 3), (67, .goto (-52), 3), (70, .aload_n 0, 1), (71, .getfield 21, 3), (74, .aload_n 0, 1), (75, .getfield 31, 3), (78, .isub, 1), (79, .istore 4, 2), (81, .iload 4, 2), (83, .ifCond .eq 18, 3), (86, .iload 4, 2), (88, .iconst 2, 1), (89, .if_icmp .gt 12, 3), (92, .iload_n 3, 1), (93, .iload_n 1, 1), (94, .iload_n 2, 1), (95, .invokestatic 65, 3), (98, .ifCond .ne 7, 3), (101, .aload_n 0, 1), (102, .invokevirtual 42, 3), (105, .iload_n 3, 1), (106, .ireturn, 1)]
theorem b_M_number_0 : (t_M_number_0.all fun q => decide (decode q_M_number.2.1 q.1 = .ok (q.2.1, q.2.2))) = true := by decide +kernel
theorem d_M_number_0 : vm_D q_M_number.2.1 0 1 1 (.aload_n 0) := vm_dD b_M_number_0 0 rfl rfl
theorem d_M_number_1 : vm_D q_M_number.2.1 1 3 4 (.invokevirtual 38) := vm_dD b_M_number_0 1 rfl rfl
theorem d_M_number_4 : vm_B q_M_number.2.1 4 7 9 (fun o => .ifCond .eq o) := ⟨5, vm_db b_M_number_0 (i := 2) rfl, rfl, by decide⟩
theorem d_M_number_9 : vm_D q_M_number.2.1 9 1 10 (.aload_n 0) := vm_dD b_M_number_0 5 rfl rfl
theorem d_M_number_10 : vm_D q_M_number.2.1 10 3 13 (.invokevirtual 34) := vm_dD b_M_number_0 6 rfl rfl
theorem d_M_number_13 : vm_D q_M_number.2.1 13 1 14 (.iconst 0) := vm_dD b_M_number_0 7 rfl rfl
theorem d_M_number_14 : vm_D q_M_number.2.1 14 1 15 (.istore_n 3) := vm_dD b_M_number_0 8 rfl rfl
theorem d_M_number_15 : vm_D q_M_number.2.1 15 1 16 (.aload_n 0) := vm_dD b_M_number_0 9 rfl rfl
theorem d_M_number_16 : vm_D q_M_number.2.1 16 2 18 (.bipush 48) := vm_dD b_M_number_0 10 rfl rfl
theorem d_M_number_18 : vm_D q_M_number.2.1 18 2 20 (.bipush 57) := vm_dD b_M_number_0 11 rfl rfl
theorem d_M_number_20 : vm_D q_M_number.2.1 20 3 23 (.invokevirtual 27) := vm_dD b_M_number_0 12 rfl rfl
theorem d_M_number_23 : vm_B q_M_number.2.1 23 26 70 (fun o => .ifCond .eq o) := ⟨47, vm_db b_M_number_0 (i := 13) rfl, rfl, by decide⟩
theorem d_M_number_26 : vm_D q_M_number.2.1 26 1 27 (.aload_n 0) := vm_dD b_M_number_0 14 rfl rfl
theorem d_M_number_27 : vm_D q_M_number.2.1 27 3 30 (.getfield 21) := vm_dD b_M_number_0 15 rfl rfl
theorem d_M_number_30 : vm_D q_M_number.2.1 30 1 31 (.aload_n 0) := vm_dD b_M_number_0 16 rfl rfl
theorem d_M_number_31 : vm_D q_M_number.2.1 31 3 34 (.getfield 31) := vm_dD b_M_number_0 17 rfl rfl
theorem d_M_number_34 : vm_D q_M_number.2.1 34 1 35 (.isub) := vm_dD b_M_number_0 18 rfl rfl
theorem d_M_number_35 : vm_D q_M_number.2.1 35 1 36 (.iconst 2) := vm_dD b_M_number_0 19 rfl rfl
theorem d_M_number_36 : vm_B q_M_number.2.1 36 39 57 (fun o => .if_icmp .ge o) := ⟨21, vm_db b_M_number_0 (i := 20) rfl, rfl, by decide⟩
theorem d_M_number_57 : vm_D q_M_number.2.1 57 1 58 (.aload_n 0) := vm_dD b_M_number_0 33 rfl rfl
theorem d_M_number_58 : vm_D q_M_number.2.1 58 1 59 (.dup) := vm_dD b_M_number_0 34 rfl rfl
theorem d_M_number_59 : vm_D q_M_number.2.1 59 3 62 (.getfield 21) := vm_dD b_M_number_0 35 rfl rfl
theorem d_M_number_62 : vm_D q_M_number.2.1 62 1 63 (.iconst 1) := vm_dD b_M_number_0 36 rfl rfl
theorem d_M_number_63 : vm_D q_M_number.2.1 63 1 64 (.iadd) := vm_dD b_M_number_0 37 rfl rfl
theorem d_M_number_64 : vm_D q_M_number.2.1 64 3 67 (.putfield 21) := vm_dD b_M_number_0 38 rfl rfl
theorem d_M_number_67 : ∃ off : Int, decode q_M_number.2.1 67 = .ok (.goto off, 3) ∧ ((67 : Nat) : Int) + off = ((15 : Nat) : Int) := ⟨-52, vm_db b_M_number_0 (i := 39) rfl, by decide⟩
theorem d_M_number_39 : vm_D q_M_number.2.1 39 2 41 (.bipush 10) := vm_dD b_M_number_0 21 rfl rfl
theorem d_M_number_41 : vm_D q_M_number.2.1 41 1 42 (.iload_n 3) := vm_dD b_M_number_0 22 rfl rfl
theorem d_M_number_42 : vm_D q_M_number.2.1 42 1 43 (.imul) := vm_dD b_M_number_0 23 rfl rfl
theorem d_M_number_43 : vm_D q_M_number.2.1 43 1 44 (.aload_n 0) := vm_dD b_M_number_0 24 rfl rfl
theorem d_M_number_44 : vm_D q_M_number.2.1 44 3 47 (.getfield 14) := vm_dD b_M_number_0 25 rfl rfl
theorem d_M_number_47 : vm_D q_M_number.2.1 47 1 48 (.aload_n 0) := vm_dD b_M_number_0 26 rfl rfl
theorem d_M_number_48 : vm_D q_M_number.2.1 48 3 51 (.getfield 21) := vm_dD b_M_number_0 27 rfl rfl
theorem d_M_number_51 : vm_D q_M_number.2.1 51 1 52 (.baload) := vm_dD b_M_number_0 28 rfl rfl
theorem d_M_number_52 : vm_D q_M_number.2.1 52 1 53 (.iadd) := vm_dD b_M_number_0 29 rfl rfl
theorem d_M_number_53 : vm_D q_M_number.2.1 53 2 55 (.bipush 48) := vm_dD b_M_number_0 30 rfl rfl
theorem d_M_number_55 : vm_D q_M_number.2.1 55 1 56 (.isub) := vm_dD b_M_number_0 31 rfl rfl
theorem d_M_number_56 : vm_D q_M_number.2.1 56 1 57 (.istore_n 3) := vm_dD b_M_number_0 32 rfl rfl
theorem d_M_number_70 : vm_D q_M_number.2.1 70 1 71 (.aload_n 0) := vm_dD b_M_number_0 40 rfl rfl
theorem d_M_number_71 : vm_D q_M_number.2.1 71 3 74 (.getfield 21) := vm_dD b_M_number_0 41 rfl rfl
theorem d_M_number_74 : vm_D q_M_number.2.1 74 1 75 (.aload_n 0) := vm_dD b_M_number_0 42 rfl rfl
theorem d_M_number_75 : vm_D q_M_number.2.1 75 3 78 (.getfield 31) := vm_dD b_M_number_0 43 rfl rfl
theorem d_M_number_78 : vm_D q_M_number.2.1 78 1 79 (.isub) := vm_dD b_M_number_0 44 rfl rfl
theorem d_M_number_79 : vm_D q_M_number.2.1 79 2 81 (.istore 4) := vm_dD b_M_number_0 45 rfl rfl
theorem d_M_number_81 : vm_D q_M_number.2.1 81 2 83 (.iload 4) := vm_dD b_M_number_0 46 rfl rfl
theorem d_M_number_83 : vm_B q_M_number.2.1 83 86 101 (fun o => .ifCond .eq o) := ⟨18, vm_db b_M_number_0 (i := 47) rfl, rfl, by decide⟩
theorem d_M_number_101 : vm_D q_M_number.2.1 101 1 102 (.aload_n 0) := vm_dD b_M_number_0 56 rfl rfl
theorem d_M_number_102 : vm_D q_M_number.2.1 102 3 105 (.invokevirtual 42) := vm_dD b_M_number_0 57 rfl rfl
theorem d_M_number_105 : vm_D q_M_number.2.1 105 1 106 (.iload_n 3) := vm_dD b_M_number_0 58 rfl rfl
theorem d_M_number_106 : vm_D q_M_number.2.1 106 1 107 (.ireturn) := vm_dD b_M_number_0 59 rfl rfl
theorem d_M_number_86 : vm_D q_M_number.2.1 86 2 88 (.iload 4) := vm_dD b_M_number_0 48 rfl rfl
theorem d_M_number_88 : vm_D q_M_number.2.1 88 1 89 (.iconst 2) := vm_dD b_M_number_0 49 rfl rfl
theorem d_M_number_89 : vm_B q_M_number.2.1 89 92 101 (fun o => .if_icmp .gt o) := ⟨12, vm_db b_M_number_0 (i := 50) rfl, rfl, by decide⟩
theorem d_M_number_92 : vm_D q_M_number.2.1 92 1 93 (.iload_n 3) := vm_dD b_M_number_0 51 rfl rfl
theorem d_M_number_93 : vm_D q_M_number.2.1 93 1 94 (.iload_n 1) := vm_dD b_M_number_0 52 rfl rfl
theorem d_M_number_94 : vm_D q_M_number.2.1 94 1 95 (.iload_n 2) := vm_dD b_M_number_0 53 rfl rfl
theorem d_M_number_95 : vm_D q_M_number.2.1 95 3 98 (.invokestatic 65) := vm_dD b_M_number_0 54 rfl rfl
theorem d_M_number_98 : vm_B q_M_number.2.1 98 101 105 (fun o => .ifCond .ne o) := ⟨7, vm_db b_M_number_0 (i := 55) rfl, rfl, by decide⟩
theorem d_M_number_7 : vm_D q_M_number.2.1 7 1 8 (.iload_n 1) := vm_dD b_M_number_0 3 rfl rfl
theorem d_M_number_8 : vm_D q_M_number.2.1 8 1 9 (.ireturn) := vm_dD b_M_number_0 4 rfl rfl
def q_M_letters : vm_Y := ("RepeatFreeModel", cX11_letters, 8, false, [])
def t_M_letters_0 : List (Nat × Instr × Nat) := [(0, .aload_n 0, 1), (1, .invokevirtual 45, 3), (4, .istore 5, 2), (6, .aload_n 0, 1), (7, .invokevirtual 38, 3), (10, .ifCond .eq 5, 3), (13, .iconst 0, 1), (14, .ireturn, 1), (15, .iload 5, 2), (17, .iconst 1, 1), (18, .bipush 6, 2), (20, .invokestatic 65, 3), (23, .istore 6, 2), (25, .iconst 0, 1), (26, .istore 7, 2), (28, .iload 6, 2), (30, .ifCond .eq 39, 3), (33, .iload 7, 2), (35, .iload 5, 2), (37, .if_icmp .ge 32, 3), (40, .aload_n 0, 1), (41, .getfield 14, 3), (44, .aload_n 0, 1), (45, .getfield 21, 3), (48, .iload 7, 2), (50, .iadd, 1), (51, .baload, 1), (52, .iload_n 1, 1), (53, .iload_n 1, 1), (54, .iload_n 2, 1), (55, .iadd, 1), (56, .iconst 1, 1), (57, .isub, 1), (58, .invokestatic 65, 3), (61, .istore 6, 2), (63, .iinc 7 1, 3), (66, .goto (-38), 3), (69, .iload 6, 2), (71, .ifCond .ne 9, 3), (74, .aload_n 0, 1), (75, .invokevirtual 42, 3), (78, .iconst 0, 1), (79, .ireturn, 1), (80, .iconst 0, 1), (81, .istore 7, 2), (83, .iload 7, 2), (85, .iload 5, 2), (87, .if_icmp .ge 30, 3), (90, .aload_n 3, 1), (91, .iload 4, 2), (93, .iload 7, 2), (95, .iadd, 1), (96, .aload_n 0, 1), (97, .getfield 14, 3), (100, .aload_n 0, 1), (101, .getfield 21, 3), (104, .iload 7, 2), (106, .iadd, 1), (107, .baload, 1), (108, .iload_n 1, 1)]
theorem b_M_letters_0 : (t_M_letters_0.all fun q => decide (decode q_M_letters.2.1 q.1 = .ok (q.2.1, q.2.2))) = true := by decide +kernel
def t_M_letters_1 : List (Nat × Instr × Nat) := [(109, .isub, 1), (110, .iastore, 1), (111, .iinc 7 1, 3), (114, .goto (-31), 3), (117, .aload_n 0, 1), (118, .dup, 1), (119, .getfield 21, 3), (122, .iload 5, 2), (124, .iadd, 1), (125, .putfield 21, 3), (128, .iload 5, 2), (130, .ireturn, 1)]
theorem b_M_letters_1 : (t_M_letters_1.all fun q => decide (decode q_M_letters.2.1 q.1 = .ok (q.2.1, q.2.2))) = true := by decide +kernel
theorem d_M_letters_0 : vm_D q_M_letters.2.1 0 1 1 (.aload_n 0) := vm_dD b_M_letters_0 0 rfl rfl
theorem d_M_letters_1 : vm_D q_M_letters.2.1 1 3 4 (.invokevirtual 45) := vm_dD b_M_letters_0 1 rfl rfl
theorem d_M_letters_4 : vm_D q_M_letters.2.1 4 2 6 (.istore 5) := vm_dD b_M_letters_0 2 rfl rfl
theorem d_M_letters_6 : vm_D q_M_letters.2.1 6 1 7 (.aload_n 0) := vm_dD b_M_letters_0 3 rfl rfl
theorem d_M_letters_7 : vm_D q_M_letters.2.1 7 3 10 (.invokevirtual 38) := vm_dD b_M_letters_0 4 rfl rfl
theorem d_M_letters_10 : vm_B q_M_letters.2.1 10 13 15 (fun o => .ifCond .eq o) := ⟨5, vm_db b_M_letters_0 (i := 5) rfl, rfl, by decide⟩
theorem d_M_letters_15 : vm_D q_M_letters.2.1 15 2 17 (.iload 5) := vm_dD b_M_letters_0 8 rfl rfl
theorem d_M_letters_17 : vm_D q_M_letters.2.1 17 1 18 (.iconst 1) := vm_dD b_M_letters_0 9 rfl rfl
theorem d_M_letters_18 : vm_D q_M_letters.2.1 18 2 20 (.bipush 6) := vm_dD b_M_letters_0 10 rfl rfl
theorem d_M_letters_20 : vm_D q_M_letters.2.1 20 3 23 (.invokestatic 65) := vm_dD b_M_letters_0 11 rfl rfl
theorem d_M_letters_23 : vm_D q_M_letters.2.1 23 2 25 (.istore 6) := vm_dD b_M_letters_0 12 rfl rfl
theorem d_M_letters_25 : vm_D q_M_letters.2.1 25 1 26 (.iconst 0) := vm_dD b_M_letters_0 13 rfl rfl
theorem d_M_letters_26 : vm_D q_M_letters.2.1 26 2 28 (.istore 7) := vm_dD b_M_letters_0 14 rfl rfl
theorem d_M_letters_28 : vm_D q_M_letters.2.1 28 2 30 (.iload 6) := vm_dD b_M_letters_0 15 rfl rfl
theorem d_M_letters_30 : vm_B q_M_letters.2.1 30 33 69 (fun o => .ifCond .eq o) := ⟨39, vm_db b_M_letters_0 (i := 16) rfl, rfl, by decide⟩
theorem d_M_letters_33 : vm_D q_M_letters.2.1 33 2 35 (.iload 7) := vm_dD b_M_letters_0 17 rfl rfl
theorem d_M_letters_35 : vm_D q_M_letters.2.1 35 2 37 (.iload 5) := vm_dD b_M_letters_0 18 rfl rfl
theorem d_M_letters_37 : vm_B q_M_letters.2.1 37 40 69 (fun o => .if_icmp .ge o) := ⟨32, vm_db b_M_letters_0 (i := 19) rfl, rfl, by decide⟩
theorem d_M_letters_40 : vm_D q_M_letters.2.1 40 1 41 (.aload_n 0) := vm_dD b_M_letters_0 20 rfl rfl
theorem d_M_letters_41 : vm_D q_M_letters.2.1 41 3 44 (.getfield 14) := vm_dD b_M_letters_0 21 rfl rfl
theorem d_M_letters_44 : vm_D q_M_letters.2.1 44 1 45 (.aload_n 0) := vm_dD b_M_letters_0 22 rfl rfl
theorem d_M_letters_45 : vm_D q_M_letters.2.1 45 3 48 (.getfield 21) := vm_dD b_M_letters_0 23 rfl rfl
theorem d_M_letters_48 : vm_D q_M_letters.2.1 48 2 50 (.iload 7) := vm_dD b_M_letters_0 24 rfl rfl
theorem d_M_letters_50 : vm_D q_M_letters.2.1 50 1 51 (.iadd) := vm_dD b_M_letters_0 25 rfl rfl
theorem d_M_letters_51 : vm_D q_M_letters.2.1 51 1 52 (.baload) := vm_dD b_M_letters_0 26 rfl rfl
theorem d_M_letters_52 : vm_D q_M_letters.2.1 52 1 53 (.iload_n 1) := vm_dD b_M_letters_0 27 rfl rfl
theorem d_M_letters_53 : vm_D q_M_letters.2.1 53 1 54 (.iload_n 1) := vm_dD b_M_letters_0 28 rfl rfl
theorem d_M_letters_54 : vm_D q_M_letters.2.1 54 1 55 (.iload_n 2) := vm_dD b_M_letters_0 29 rfl rfl
theorem d_M_letters_55 : vm_D q_M_letters.2.1 55 1 56 (.iadd) := vm_dD b_M_letters_0 30 rfl rfl
theorem d_M_letters_56 : vm_D q_M_letters.2.1 56 1 57 (.iconst 1) := vm_dD b_M_letters_0 31 rfl rfl
theorem d_M_letters_57 : vm_D q_M_letters.2.1 57 1 58 (.isub) := vm_dD b_M_letters_0 32 rfl rfl
theorem d_M_letters_58 : vm_D q_M_letters.2.1 58 3 61 (.invokestatic 65) := vm_dD b_M_letters_0 33 rfl rfl
theorem d_M_letters_61 : vm_D q_M_letters.2.1 61 2 63 (.istore 6) := vm_dD b_M_letters_0 34 rfl rfl
theorem d_M_letters_63 : vm_D q_M_letters.2.1 63 3 66 (.iinc 7 1) := vm_dD b_M_letters_0 35 rfl rfl
theorem d_M_letters_66 : ∃ off : Int, decode q_M_letters.2.1 66 = .ok (.goto off, 3) ∧ ((66 : Nat) : Int) + off = ((28 : Nat) : Int) := ⟨-38, vm_db b_M_letters_0 (i := 36) rfl, by decide⟩
theorem d_M_letters_69 : vm_D q_M_letters.2.1 69 2 71 (.iload 6) := vm_dD b_M_letters_0 37 rfl rfl
theorem d_M_letters_71 : vm_B q_M_letters.2.1 71 74 80 (fun o => .ifCond .ne o) := ⟨9, vm_db b_M_letters_0 (i := 38) rfl, rfl, by decide⟩
theorem d_M_letters_80 : vm_D q_M_letters.2.1 80 1 81 (.iconst 0) := vm_dD b_M_letters_0 43 rfl rfl
theorem d_M_letters_81 : vm_D q_M_letters.2.1 81 2 83 (.istore 7) := vm_dD b_M_letters_0 44 rfl rfl
theorem d_M_letters_83 : vm_D q_M_letters.2.1 83 2 85 (.iload 7) := vm_dD b_M_letters_0 45 rfl rfl
theorem d_M_letters_85 : vm_D q_M_letters.2.1 85 2 87 (.iload 5) := vm_dD b_M_letters_0 46 rfl rfl
theorem d_M_letters_87 : vm_B q_M_letters.2.1 87 90 117 (fun o => .if_icmp .ge o) := ⟨30, vm_db b_M_letters_0 (i := 47) rfl, rfl, by decide⟩
theorem d_M_letters_90 : vm_D q_M_letters.2.1 90 1 91 (.aload_n 3) := vm_dD b_M_letters_0 48 rfl rfl
theorem d_M_letters_91 : vm_D q_M_letters.2.1 91 2 93 (.iload 4) := vm_dD b_M_letters_0 49 rfl rfl
theorem d_M_letters_93 : vm_D q_M_letters.2.1 93 2 95 (.iload 7) := vm_dD b_M_letters_0 50 rfl rfl
theorem d_M_letters_95 : vm_D q_M_letters.2.1 95 1 96 (.iadd) := vm_dD b_M_letters_0 51 rfl rfl
theorem d_M_letters_96 : vm_D q_M_letters.2.1 96 1 97 (.aload_n 0) := vm_dD b_M_letters_0 52 rfl rfl
theorem d_M_letters_97 : vm_D q_M_letters.2.1 97 3 100 (.getfield 14) := vm_dD b_M_letters_0 53 rfl rfl
theorem d_M_letters_100 : vm_D q_M_letters.2.1 100 1 101 (.aload_n 0) := vm_dD b_M_letters_0 54 rfl rfl
theorem d_M_letters_101 : vm_D q_M_letters.2.1 101 3 104 (.getfield 21) := vm_dD b_M_letters_0 55 rfl rfl
theorem d_M_letters_104 : vm_D q_M_letters.2.1 104 2 106 (.iload 7) := vm_dD b_M_letters_0 56 rfl rfl
theorem d_M_letters_106 : vm_D q_M_letters.2.1 106 1 107 (.iadd) := vm_dD b_M_letters_0 57 rfl rfl
theorem d_M_letters_107 : vm_D q_M_letters.2.1 107 1 108 (.baload) := vm_dD b_M_letters_0 58 rfl rfl
theorem d_M_letters_108 : vm_D q_M_letters.2.1 108 1 109 (.iload_n 1) := vm_dD b_M_letters_0 59 rfl rfl
theorem d_M_letters_109 : vm_D q_M_letters.2.1 109 1 110 (.isub) := vm_dD b_M_letters_1 0 rfl rfl
theorem d_M_letters_110 : vm_D q_M_letters.2.1 110 1 111 (.iastore) := vm_dD b_M_letters_1 1 rfl rfl
theorem d_M_letters_111 : vm_D q_M_letters.2.1 111 3 114 (.iinc 7 1) := vm_dD b_M_letters_1 2 rfl rfl
theorem d_M_letters_114 : ∃ off : Int, decode q_M_letters.2.1 114 = .ok (.goto off, 3) ∧ ((114 : Nat) : Int) + off = ((83 : Nat) : Int) := ⟨-31, vm_db b_M_letters_1 (i := 3) rfl, by decide⟩
theorem d_M_letters_117 : vm_D q_M_letters.2.1 117 1 118 (.aload_n 0) := vm_dD b_M_letters_1 4 rfl rfl
theorem d_M_letters_118 : vm_D q_M_letters.2.1 118 1 119 (.dup) := vm_dD b_M_letters_1 5 rfl rfl
theorem d_M_letters_119 : vm_D q_M_letters.2.1 119 3 122 (.getfield 21) := vm_dD b_M_letters_1 6 rfl rfl
theorem d_M_letters_122 : vm_D q_M_letters.2.1 122 2 124 (.iload 5) := vm_dD b_M_letters_1 7 rfl rfl
theorem d_M_letters_124 : vm_D q_M_letters.2.1 124 1 125 (.iadd) := vm_dD b_M_letters_1 8 rfl rfl
theorem d_M_letters_125 : vm_D q_M_letters.2.1 125 3 128 (.putfield 21) := vm_dD b_M_letters_1 9 rfl rfl
theorem d_M_letters_128 : vm_D q_M_letters.2.1 128 2 130 (.iload 5) := vm_dD b_M_letters_1 10 rfl rfl
theorem d_M_letters_130 : vm_D q_M_letters.2.1 130 1 131 (.ireturn) := vm_dD b_M_letters_1 11 rfl rfl
theorem d_M_letters_74 : vm_D q_M_letters.2.1 74 1 75 (.aload_n 0) := vm_dD b_M_letters_0 39 rfl rfl
theorem d_M_letters_75 : vm_D q_M_letters.2.1 75 3 78 (.invokevirtual 42) := vm_dD b_M_letters_0 40 rfl rfl
theorem d_M_letters_78 : vm_D q_M_letters.2.1 78 1 79 (.iconst 0) := vm_dD b_M_letters_0 41 rfl rfl
theorem d_M_letters_79 : vm_D q_M_letters.2.1 79 1 80 (.ireturn) := vm_dD b_M_letters_0 42 rfl rfl
theorem d_M_letters_13 : vm_D q_M_letters.2.1 13 1 14 (.iconst 0) := vm_dD b_M_letters_0 6 rfl rfl
theorem d_M_letters_14 : vm_D q_M_letters.2.1 14 1 15 (.ireturn) := vm_dD b_M_letters_0 7 rfl rfl
def q_M_fault : vm_Y := ("RepeatFreeModel", cX11_fault, 1, false, [])
def t_M_fault_0 : List (Nat × Instr × Nat) := [(0, .aload_n 0, 1), (1, .iconst 0, 1), (2, .putfield 3, 3), (5, .aload_n 0, 1), (6, .getfield 69, 3), (9, .ireturn, 1)]
theorem b_M_fault_0 : (t_M_fault_0.all fun q => decide (decode q_M_fault.2.1 q.1 = .ok (q.2.1, q.2.2))) = true := by decide +kernel
theorem d_M_fault_0 : vm_D q_M_fault.2.1 0 1 1 (.aload_n 0) := vm_dD b_M_fault_0 0 rfl rfl
theorem d_M_fault_1 : vm_D q_M_fault.2.1 1 1 2 (.iconst 0) := vm_dD b_M_fault_0 1 rfl rfl
theorem d_M_fault_2 : vm_D q_M_fault.2.1 2 3 5 (.putfield 3) := vm_dD b_M_fault_0 2 rfl rfl
theorem d_M_fault_5 : vm_D q_M_fault.2.1 5 1 6 (.aload_n 0) := vm_dD b_M_fault_0 3 rfl rfl
theorem d_M_fault_6 : vm_D q_M_fault.2.1 6 3 9 (.getfield 69) := vm_dD b_M_fault_0 4 rfl rfl
theorem d_M_fault_9 : vm_D q_M_fault.2.1 9 1 10 (.ireturn) := vm_dD b_M_fault_0 5 rfl rfl
def q_M_init : vm_Y := ("RepeatFreeModel", cX11_init, 1, true, [])
def t_M_init_0 : List (Nat × Instr × Nat) := [(0, .aload_n 0, 1), (1, .invokespecial 72, 3), (4, .aload_n 0, 1), (5, .sipush 400, 3), (8, .newarray .byte, 2), (10, .putfield 14, 3), (13, .aload_n 0, 1), (14, .iconst 5, 1), (15, .newarray .int, 2), (17, .putfield 10, 3), (20, .aload_n 0, 1), (21, .iconst (-1), 1), (22, .putfield 69, 3), (25, .aload_n 0, 1), (26, .sipush 198, 3), (29, .newarray .int, 2), (31, .putfield 77, 3), (34, .aload_n 0, 1), (35, .sipush 198, 3), (38, .newarray .int, 2), (40, .putfield 80, 3), (43, .aload_n 0, 1), (44, .bipush 64, 2), (46, .newarray .int, 2), (48, .putfield 83, 3), (51, .aload_n 0, 1), (52, .bipush 64, 2), (54, .newarray .int, 2), (56, .putfield 86, 3), (59, .aload_n 0, 1), (60, .sipush 650, 3), (63, .newarray .int, 2), (65, .putfield 89, 3), (68, .aload_n 0, 1), (69, .iconst 3, 1), (70, .newarray .int, 2), (72, .putfield 92, 3), (75, .aload_n 0, 1), (76, .iconst 3, 1), (77, .newarray .int, 2), (79, .putfield 95, 3), (82, .aload_n 0, 1), (83, .bipush 72, 2), (85, .newarray .int, 2), (87, .putfield 98, 3), (90, .aload_n 0, 1), (91, .sipush 384, 3), (94, .newarray .int, 2), (96, .putfield 101, 3), (99, .aload_n 0, 1), (100, .sipush 208, 3), (103, .newarray .long, 2), (105, .putfield 104, 3), (108, .aload_n 0, 1), (109, .bipush 65, 2), (111, .newarray .long, 2), (113, .putfield 108, 3), (116, .aload_n 0, 1), (117, .bipush 24, 2), (119, .newarray .boolean, 2)]
theorem b_M_init_0 : (t_M_init_0.all fun q => decide (decode q_M_init.2.1 q.1 = .ok (q.2.1, q.2.2))) = true := by decide +kernel
def t_M_init_1 : List (Nat × Instr × Nat) := [(121, .putfield 111, 3), (124, .aload_n 0, 1), (125, .bipush 6, 2), (127, .newarray .int, 2), (129, .putfield 115, 3), (132, .aload_n 0, 1), (133, .getfield 77, 3), (136, .iconst 0, 1), (137, .iconst 2, 1), (138, .iastore, 1), (139, .return_, 1)]
theorem b_M_init_1 : (t_M_init_1.all fun q => decide (decode q_M_init.2.1 q.1 = .ok (q.2.1, q.2.2))) = true := by decide +kernel
theorem d_M_init_0 : vm_D q_M_init.2.1 0 1 1 (.aload_n 0) := vm_dD b_M_init_0 0 rfl rfl
theorem d_M_init_1 : vm_D q_M_init.2.1 1 3 4 (.invokespecial 72) := vm_dD b_M_init_0 1 rfl rfl
theorem d_M_init_4 : vm_D q_M_init.2.1 4 1 5 (.aload_n 0) := vm_dD b_M_init_0 2 rfl rfl
theorem d_M_init_5 : vm_D q_M_init.2.1 5 3 8 (.sipush 400) := vm_dD b_M_init_0 3 rfl rfl
theorem d_M_init_8 : vm_D q_M_init.2.1 8 2 10 (.newarray .byte) := vm_dD b_M_init_0 4 rfl rfl
theorem d_M_init_10 : vm_D q_M_init.2.1 10 3 13 (.putfield 14) := vm_dD b_M_init_0 5 rfl rfl
theorem d_M_init_13 : vm_D q_M_init.2.1 13 1 14 (.aload_n 0) := vm_dD b_M_init_0 6 rfl rfl
theorem d_M_init_14 : vm_D q_M_init.2.1 14 1 15 (.iconst 5) := vm_dD b_M_init_0 7 rfl rfl
theorem d_M_init_15 : vm_D q_M_init.2.1 15 2 17 (.newarray .int) := vm_dD b_M_init_0 8 rfl rfl
theorem d_M_init_17 : vm_D q_M_init.2.1 17 3 20 (.putfield 10) := vm_dD b_M_init_0 9 rfl rfl
theorem d_M_init_20 : vm_D q_M_init.2.1 20 1 21 (.aload_n 0) := vm_dD b_M_init_0 10 rfl rfl
theorem d_M_init_21 : vm_D q_M_init.2.1 21 1 22 (.iconst (-1)) := vm_dD b_M_init_0 11 rfl rfl
theorem d_M_init_22 : vm_D q_M_init.2.1 22 3 25 (.putfield 69) := vm_dD b_M_init_0 12 rfl rfl
theorem d_M_init_25 : vm_D q_M_init.2.1 25 1 26 (.aload_n 0) := vm_dD b_M_init_0 13 rfl rfl
theorem d_M_init_26 : vm_D q_M_init.2.1 26 3 29 (.sipush 198) := vm_dD b_M_init_0 14 rfl rfl
theorem d_M_init_29 : vm_D q_M_init.2.1 29 2 31 (.newarray .int) := vm_dD b_M_init_0 15 rfl rfl
theorem d_M_init_31 : vm_D q_M_init.2.1 31 3 34 (.putfield 77) := vm_dD b_M_init_0 16 rfl rfl
theorem d_M_init_34 : vm_D q_M_init.2.1 34 1 35 (.aload_n 0) := vm_dD b_M_init_0 17 rfl rfl
theorem d_M_init_35 : vm_D q_M_init.2.1 35 3 38 (.sipush 198) := vm_dD b_M_init_0 18 rfl rfl
theorem d_M_init_38 : vm_D q_M_init.2.1 38 2 40 (.newarray .int) := vm_dD b_M_init_0 19 rfl rfl
theorem d_M_init_40 : vm_D q_M_init.2.1 40 3 43 (.putfield 80) := vm_dD b_M_init_0 20 rfl rfl
theorem d_M_init_43 : vm_D q_M_init.2.1 43 1 44 (.aload_n 0) := vm_dD b_M_init_0 21 rfl rfl
theorem d_M_init_44 : vm_D q_M_init.2.1 44 2 46 (.bipush 64) := vm_dD b_M_init_0 22 rfl rfl
theorem d_M_init_46 : vm_D q_M_init.2.1 46 2 48 (.newarray .int) := vm_dD b_M_init_0 23 rfl rfl
theorem d_M_init_48 : vm_D q_M_init.2.1 48 3 51 (.putfield 83) := vm_dD b_M_init_0 24 rfl rfl
theorem d_M_init_51 : vm_D q_M_init.2.1 51 1 52 (.aload_n 0) := vm_dD b_M_init_0 25 rfl rfl
theorem d_M_init_52 : vm_D q_M_init.2.1 52 2 54 (.bipush 64) := vm_dD b_M_init_0 26 rfl rfl
theorem d_M_init_54 : vm_D q_M_init.2.1 54 2 56 (.newarray .int) := vm_dD b_M_init_0 27 rfl rfl
theorem d_M_init_56 : vm_D q_M_init.2.1 56 3 59 (.putfield 86) := vm_dD b_M_init_0 28 rfl rfl
theorem d_M_init_59 : vm_D q_M_init.2.1 59 1 60 (.aload_n 0) := vm_dD b_M_init_0 29 rfl rfl
theorem d_M_init_60 : vm_D q_M_init.2.1 60 3 63 (.sipush 650) := vm_dD b_M_init_0 30 rfl rfl
theorem d_M_init_63 : vm_D q_M_init.2.1 63 2 65 (.newarray .int) := vm_dD b_M_init_0 31 rfl rfl
theorem d_M_init_65 : vm_D q_M_init.2.1 65 3 68 (.putfield 89) := vm_dD b_M_init_0 32 rfl rfl
theorem d_M_init_68 : vm_D q_M_init.2.1 68 1 69 (.aload_n 0) := vm_dD b_M_init_0 33 rfl rfl
theorem d_M_init_69 : vm_D q_M_init.2.1 69 1 70 (.iconst 3) := vm_dD b_M_init_0 34 rfl rfl
theorem d_M_init_70 : vm_D q_M_init.2.1 70 2 72 (.newarray .int) := vm_dD b_M_init_0 35 rfl rfl
theorem d_M_init_72 : vm_D q_M_init.2.1 72 3 75 (.putfield 92) := vm_dD b_M_init_0 36 rfl rfl
theorem d_M_init_75 : vm_D q_M_init.2.1 75 1 76 (.aload_n 0) := vm_dD b_M_init_0 37 rfl rfl
theorem d_M_init_76 : vm_D q_M_init.2.1 76 1 77 (.iconst 3) := vm_dD b_M_init_0 38 rfl rfl
theorem d_M_init_77 : vm_D q_M_init.2.1 77 2 79 (.newarray .int) := vm_dD b_M_init_0 39 rfl rfl
theorem d_M_init_79 : vm_D q_M_init.2.1 79 3 82 (.putfield 95) := vm_dD b_M_init_0 40 rfl rfl
theorem d_M_init_82 : vm_D q_M_init.2.1 82 1 83 (.aload_n 0) := vm_dD b_M_init_0 41 rfl rfl
theorem d_M_init_83 : vm_D q_M_init.2.1 83 2 85 (.bipush 72) := vm_dD b_M_init_0 42 rfl rfl
theorem d_M_init_85 : vm_D q_M_init.2.1 85 2 87 (.newarray .int) := vm_dD b_M_init_0 43 rfl rfl
theorem d_M_init_87 : vm_D q_M_init.2.1 87 3 90 (.putfield 98) := vm_dD b_M_init_0 44 rfl rfl
theorem d_M_init_90 : vm_D q_M_init.2.1 90 1 91 (.aload_n 0) := vm_dD b_M_init_0 45 rfl rfl
theorem d_M_init_91 : vm_D q_M_init.2.1 91 3 94 (.sipush 384) := vm_dD b_M_init_0 46 rfl rfl
theorem d_M_init_94 : vm_D q_M_init.2.1 94 2 96 (.newarray .int) := vm_dD b_M_init_0 47 rfl rfl
theorem d_M_init_96 : vm_D q_M_init.2.1 96 3 99 (.putfield 101) := vm_dD b_M_init_0 48 rfl rfl
theorem d_M_init_99 : vm_D q_M_init.2.1 99 1 100 (.aload_n 0) := vm_dD b_M_init_0 49 rfl rfl
theorem d_M_init_100 : vm_D q_M_init.2.1 100 3 103 (.sipush 208) := vm_dD b_M_init_0 50 rfl rfl
theorem d_M_init_103 : vm_D q_M_init.2.1 103 2 105 (.newarray .long) := vm_dD b_M_init_0 51 rfl rfl
theorem d_M_init_105 : vm_D q_M_init.2.1 105 3 108 (.putfield 104) := vm_dD b_M_init_0 52 rfl rfl
theorem d_M_init_108 : vm_D q_M_init.2.1 108 1 109 (.aload_n 0) := vm_dD b_M_init_0 53 rfl rfl
theorem d_M_init_109 : vm_D q_M_init.2.1 109 2 111 (.bipush 65) := vm_dD b_M_init_0 54 rfl rfl
theorem d_M_init_111 : vm_D q_M_init.2.1 111 2 113 (.newarray .long) := vm_dD b_M_init_0 55 rfl rfl
theorem d_M_init_113 : vm_D q_M_init.2.1 113 3 116 (.putfield 108) := vm_dD b_M_init_0 56 rfl rfl
theorem d_M_init_116 : vm_D q_M_init.2.1 116 1 117 (.aload_n 0) := vm_dD b_M_init_0 57 rfl rfl
theorem d_M_init_117 : vm_D q_M_init.2.1 117 2 119 (.bipush 24) := vm_dD b_M_init_0 58 rfl rfl
theorem d_M_init_119 : vm_D q_M_init.2.1 119 2 121 (.newarray .boolean) := vm_dD b_M_init_0 59 rfl rfl
theorem d_M_init_121 : vm_D q_M_init.2.1 121 3 124 (.putfield 111) := vm_dD b_M_init_1 0 rfl rfl
theorem d_M_init_124 : vm_D q_M_init.2.1 124 1 125 (.aload_n 0) := vm_dD b_M_init_1 1 rfl rfl
theorem d_M_init_125 : vm_D q_M_init.2.1 125 2 127 (.bipush 6) := vm_dD b_M_init_1 2 rfl rfl
theorem d_M_init_127 : vm_D q_M_init.2.1 127 2 129 (.newarray .int) := vm_dD b_M_init_1 3 rfl rfl
theorem d_M_init_129 : vm_D q_M_init.2.1 129 3 132 (.putfield 115) := vm_dD b_M_init_1 4 rfl rfl
theorem d_M_init_132 : vm_D q_M_init.2.1 132 1 133 (.aload_n 0) := vm_dD b_M_init_1 5 rfl rfl
theorem d_M_init_133 : vm_D q_M_init.2.1 133 3 136 (.getfield 77) := vm_dD b_M_init_1 6 rfl rfl
theorem d_M_init_136 : vm_D q_M_init.2.1 136 1 137 (.iconst 0) := vm_dD b_M_init_1 7 rfl rfl
theorem d_M_init_137 : vm_D q_M_init.2.1 137 1 138 (.iconst 2) := vm_dD b_M_init_1 8 rfl rfl
theorem d_M_init_138 : vm_D q_M_init.2.1 138 1 139 (.iastore) := vm_dD b_M_init_1 9 rfl rfl
theorem d_M_init_139 : vm_D q_M_init.2.1 139 1 140 (.return_) := vm_dD b_M_init_1 10 rfl rfl
def q_M_isName : vm_Y := ("RepeatFreeModel", cX11_isName, 2, false, [])
def t_M_isName_0 : List (Nat × Instr × Nat) := [(0, .aload_n 0, 1), (1, .invokevirtual 45, 3), (4, .istore_n 1, 1), (5, .aload_n 0, 1), (6, .invokevirtual 38, 3), (9, .ifCond .ne 89, 3), (12, .iload_n 1, 1), (13, .iconst 1, 1), (14, .bipush 6, 2), (16, .invokestatic 65, 3), (19, .ifCond .eq 79, 3), (22, .aload_n 0, 1), (23, .ldc 118, 2), (25, .invokevirtual 58, 3), (28, .ifCond .ne 70, 3), (31, .aload_n 0, 1), (32, .ldc 120, 2), (34, .invokevirtual 58, 3), (37, .ifCond .ne 61, 3), (40, .aload_n 0, 1), (41, .ldc 122, 2), (43, .invokevirtual 58, 3), (46, .ifCond .ne 52, 3), (49, .aload_n 0, 1), (50, .ldc 124, 2), (52, .invokevirtual 58, 3), (55, .ifCond .ne 43, 3), (58, .aload_n 0, 1), (59, .ldc 126, 2), (61, .invokevirtual 58, 3), (64, .ifCond .ne 34, 3), (67, .aload_n 0, 1), (68, .ldc 128, 2), (70, .invokevirtual 58, 3), (73, .ifCond .ne 25, 3), (76, .aload_n 0, 1), (77, .ldc 130, 2), (79, .invokevirtual 58, 3), (82, .ifCond .ne 16, 3), (85, .aload_n 0, 1), (86, .ldc 132, 2), (88, .invokevirtual 58, 3), (91, .ifCond .ne 7, 3), (94, .iconst 1, 1), (95, .goto 4, 3), (98, .iconst 0, 1), (99, .ireturn, 1)]
theorem b_M_isName_0 : (t_M_isName_0.all fun q => decide (decode q_M_isName.2.1 q.1 = .ok (q.2.1, q.2.2))) = true := by decide +kernel
theorem d_M_isName_0 : vm_D q_M_isName.2.1 0 1 1 (.aload_n 0) := vm_dD b_M_isName_0 0 rfl rfl
theorem d_M_isName_1 : vm_D q_M_isName.2.1 1 3 4 (.invokevirtual 45) := vm_dD b_M_isName_0 1 rfl rfl
theorem d_M_isName_4 : vm_D q_M_isName.2.1 4 1 5 (.istore_n 1) := vm_dD b_M_isName_0 2 rfl rfl
theorem d_M_isName_5 : vm_D q_M_isName.2.1 5 1 6 (.aload_n 0) := vm_dD b_M_isName_0 3 rfl rfl
theorem d_M_isName_6 : vm_D q_M_isName.2.1 6 3 9 (.invokevirtual 38) := vm_dD b_M_isName_0 4 rfl rfl
theorem d_M_isName_9 : vm_B q_M_isName.2.1 9 12 98 (fun o => .ifCond .ne o) := ⟨89, vm_db b_M_isName_0 (i := 5) rfl, rfl, by decide⟩
theorem d_M_isName_98 : vm_D q_M_isName.2.1 98 1 99 (.iconst 0) := vm_dD b_M_isName_0 45 rfl rfl
theorem d_M_isName_99 : vm_D q_M_isName.2.1 99 1 100 (.ireturn) := vm_dD b_M_isName_0 46 rfl rfl
theorem d_M_isName_12 : vm_D q_M_isName.2.1 12 1 13 (.iload_n 1) := vm_dD b_M_isName_0 6 rfl rfl
theorem d_M_isName_13 : vm_D q_M_isName.2.1 13 1 14 (.iconst 1) := vm_dD b_M_isName_0 7 rfl rfl
theorem d_M_isName_14 : vm_D q_M_isName.2.1 14 2 16 (.bipush 6) := vm_dD b_M_isName_0 8 rfl rfl
theorem d_M_isName_16 : vm_D q_M_isName.2.1 16 3 19 (.invokestatic 65) := vm_dD b_M_isName_0 9 rfl rfl
theorem d_M_isName_19 : vm_B q_M_isName.2.1 19 22 98 (fun o => .ifCond .eq o) := ⟨79, vm_db b_M_isName_0 (i := 10) rfl, rfl, by decide⟩
theorem d_M_isName_22 : vm_D q_M_isName.2.1 22 1 23 (.aload_n 0) := vm_dD b_M_isName_0 11 rfl rfl
theorem d_M_isName_23 : vm_D q_M_isName.2.1 23 2 25 (.ldc 118) := vm_dD b_M_isName_0 12 rfl rfl
theorem d_M_isName_25 : vm_D q_M_isName.2.1 25 3 28 (.invokevirtual 58) := vm_dD b_M_isName_0 13 rfl rfl
theorem d_M_isName_28 : vm_B q_M_isName.2.1 28 31 98 (fun o => .ifCond .ne o) := ⟨70, vm_db b_M_isName_0 (i := 14) rfl, rfl, by decide⟩
theorem d_M_isName_31 : vm_D q_M_isName.2.1 31 1 32 (.aload_n 0) := vm_dD b_M_isName_0 15 rfl rfl
theorem d_M_isName_32 : vm_D q_M_isName.2.1 32 2 34 (.ldc 120) := vm_dD b_M_isName_0 16 rfl rfl
theorem d_M_isName_34 : vm_D q_M_isName.2.1 34 3 37 (.invokevirtual 58) := vm_dD b_M_isName_0 17 rfl rfl
theorem d_M_isName_37 : vm_B q_M_isName.2.1 37 40 98 (fun o => .ifCond .ne o) := ⟨61, vm_db b_M_isName_0 (i := 18) rfl, rfl, by decide⟩
theorem d_M_isName_40 : vm_D q_M_isName.2.1 40 1 41 (.aload_n 0) := vm_dD b_M_isName_0 19 rfl rfl
theorem d_M_isName_41 : vm_D q_M_isName.2.1 41 2 43 (.ldc 122) := vm_dD b_M_isName_0 20 rfl rfl
theorem d_M_isName_43 : vm_D q_M_isName.2.1 43 3 46 (.invokevirtual 58) := vm_dD b_M_isName_0 21 rfl rfl
theorem d_M_isName_46 : vm_B q_M_isName.2.1 46 49 98 (fun o => .ifCond .ne o) := ⟨52, vm_db b_M_isName_0 (i := 22) rfl, rfl, by decide⟩
theorem d_M_isName_49 : vm_D q_M_isName.2.1 49 1 50 (.aload_n 0) := vm_dD b_M_isName_0 23 rfl rfl
theorem d_M_isName_50 : vm_D q_M_isName.2.1 50 2 52 (.ldc 124) := vm_dD b_M_isName_0 24 rfl rfl
theorem d_M_isName_52 : vm_D q_M_isName.2.1 52 3 55 (.invokevirtual 58) := vm_dD b_M_isName_0 25 rfl rfl
theorem d_M_isName_55 : vm_B q_M_isName.2.1 55 58 98 (fun o => .ifCond .ne o) := ⟨43, vm_db b_M_isName_0 (i := 26) rfl, rfl, by decide⟩
theorem d_M_isName_58 : vm_D q_M_isName.2.1 58 1 59 (.aload_n 0) := vm_dD b_M_isName_0 27 rfl rfl
theorem d_M_isName_59 : vm_D q_M_isName.2.1 59 2 61 (.ldc 126) := vm_dD b_M_isName_0 28 rfl rfl
theorem d_M_isName_61 : vm_D q_M_isName.2.1 61 3 64 (.invokevirtual 58) := vm_dD b_M_isName_0 29 rfl rfl
theorem d_M_isName_64 : vm_B q_M_isName.2.1 64 67 98 (fun o => .ifCond .ne o) := ⟨34, vm_db b_M_isName_0 (i := 30) rfl, rfl, by decide⟩
theorem d_M_isName_67 : vm_D q_M_isName.2.1 67 1 68 (.aload_n 0) := vm_dD b_M_isName_0 31 rfl rfl
theorem d_M_isName_68 : vm_D q_M_isName.2.1 68 2 70 (.ldc 128) := vm_dD b_M_isName_0 32 rfl rfl
theorem d_M_isName_70 : vm_D q_M_isName.2.1 70 3 73 (.invokevirtual 58) := vm_dD b_M_isName_0 33 rfl rfl
theorem d_M_isName_73 : vm_B q_M_isName.2.1 73 76 98 (fun o => .ifCond .ne o) := ⟨25, vm_db b_M_isName_0 (i := 34) rfl, rfl, by decide⟩
theorem d_M_isName_76 : vm_D q_M_isName.2.1 76 1 77 (.aload_n 0) := vm_dD b_M_isName_0 35 rfl rfl
theorem d_M_isName_77 : vm_D q_M_isName.2.1 77 2 79 (.ldc 130) := vm_dD b_M_isName_0 36 rfl rfl
theorem d_M_isName_79 : vm_D q_M_isName.2.1 79 3 82 (.invokevirtual 58) := vm_dD b_M_isName_0 37 rfl rfl
theorem d_M_isName_82 : vm_B q_M_isName.2.1 82 85 98 (fun o => .ifCond .ne o) := ⟨16, vm_db b_M_isName_0 (i := 38) rfl, rfl, by decide⟩
theorem d_M_isName_85 : vm_D q_M_isName.2.1 85 1 86 (.aload_n 0) := vm_dD b_M_isName_0 39 rfl rfl
theorem d_M_isName_86 : vm_D q_M_isName.2.1 86 2 88 (.ldc 132) := vm_dD b_M_isName_0 40 rfl rfl
theorem d_M_isName_88 : vm_D q_M_isName.2.1 88 3 91 (.invokevirtual 58) := vm_dD b_M_isName_0 41 rfl rfl
theorem d_M_isName_91 : vm_B q_M_isName.2.1 91 94 98 (fun o => .ifCond .ne o) := ⟨7, vm_db b_M_isName_0 (i := 42) rfl, rfl, by decide⟩
theorem d_M_isName_94 : vm_D q_M_isName.2.1 94 1 95 (.iconst 1) := vm_dD b_M_isName_0 43 rfl rfl
theorem d_M_isName_95 : ∃ off : Int, decode q_M_isName.2.1 95 = .ok (.goto off, 3) ∧ ((95 : Nat) : Int) + off = ((99 : Nat) : Int) := ⟨4, vm_db b_M_isName_0 (i := 44) rfl, by decide⟩
def q_M_named : vm_Y := ("RepeatFreeModel", cX11_named, 7, false, [])
def t_M_named_0 : List (Nat × Instr × Nat) := [(0, .aload_n 0, 1), (1, .invokevirtual 45, 3), (4, .istore_n 3, 1), (5, .iconst 0, 1), (6, .istore 4, 2), (8, .iload 4, 2), (10, .iload_n 2, 1), (11, .if_icmp .ge 91, 3), (14, .iconst 1, 1), (15, .istore 5, 2), (17, .iconst 0, 1), (18, .istore 6, 2), (20, .iload 6, 2), (22, .bipush 6, 2), (24, .if_icmp .ge 64, 3), (27, .iload 5, 2), (29, .ifCond .eq 50, 3), (32, .aload_n 0, 1), (33, .getfield 80, 3), (36, .bipush 6, 2), (38, .bipush 6, 2), (40, .iload_n 1, 1), (41, .iload 4, 2), (43, .iadd, 1), (44, .imul, 1), (45, .iadd, 1), (46, .iload 6, 2), (48, .iadd, 1), (49, .iaload, 1), (50, .iload 6, 2), (52, .iload_n 3, 1), (53, .if_icmp .ge 18, 3), (56, .aload_n 0, 1), (57, .getfield 14, 3), (60, .aload_n 0, 1), (61, .getfield 21, 3), (64, .iload 6, 2), (66, .iadd, 1), (67, .baload, 1), (68, .goto 4, 3), (71, .iconst 0, 1), (72, .if_icmp .ne 7, 3), (75, .iconst 1, 1), (76, .goto 4, 3), (79, .iconst 0, 1), (80, .istore 5, 2), (82, .iinc 6 1, 3), (85, .goto (-65), 3), (88, .iload 5, 2), (90, .ifCond .eq 6, 3), (93, .iload 4, 2), (95, .ireturn, 1), (96, .iinc 4 1, 3), (99, .goto (-91), 3), (102, .iconst (-1), 1), (103, .ireturn, 1)]
theorem b_M_named_0 : (t_M_named_0.all fun q => decide (decode q_M_named.2.1 q.1 = .ok (q.2.1, q.2.2))) = true := by decide +kernel
theorem d_M_named_0 : vm_D q_M_named.2.1 0 1 1 (.aload_n 0) := vm_dD b_M_named_0 0 rfl rfl
theorem d_M_named_1 : vm_D q_M_named.2.1 1 3 4 (.invokevirtual 45) := vm_dD b_M_named_0 1 rfl rfl
theorem d_M_named_4 : vm_D q_M_named.2.1 4 1 5 (.istore_n 3) := vm_dD b_M_named_0 2 rfl rfl
theorem d_M_named_5 : vm_D q_M_named.2.1 5 1 6 (.iconst 0) := vm_dD b_M_named_0 3 rfl rfl
theorem d_M_named_6 : vm_D q_M_named.2.1 6 2 8 (.istore 4) := vm_dD b_M_named_0 4 rfl rfl
theorem d_M_named_8 : vm_D q_M_named.2.1 8 2 10 (.iload 4) := vm_dD b_M_named_0 5 rfl rfl
theorem d_M_named_10 : vm_D q_M_named.2.1 10 1 11 (.iload_n 2) := vm_dD b_M_named_0 6 rfl rfl
theorem d_M_named_11 : vm_B q_M_named.2.1 11 14 102 (fun o => .if_icmp .ge o) := ⟨91, vm_db b_M_named_0 (i := 7) rfl, rfl, by decide⟩
theorem d_M_named_14 : vm_D q_M_named.2.1 14 1 15 (.iconst 1) := vm_dD b_M_named_0 8 rfl rfl
theorem d_M_named_15 : vm_D q_M_named.2.1 15 2 17 (.istore 5) := vm_dD b_M_named_0 9 rfl rfl
theorem d_M_named_17 : vm_D q_M_named.2.1 17 1 18 (.iconst 0) := vm_dD b_M_named_0 10 rfl rfl
theorem d_M_named_18 : vm_D q_M_named.2.1 18 2 20 (.istore 6) := vm_dD b_M_named_0 11 rfl rfl
theorem d_M_named_20 : vm_D q_M_named.2.1 20 2 22 (.iload 6) := vm_dD b_M_named_0 12 rfl rfl
theorem d_M_named_22 : vm_D q_M_named.2.1 22 2 24 (.bipush 6) := vm_dD b_M_named_0 13 rfl rfl
theorem d_M_named_24 : vm_B q_M_named.2.1 24 27 88 (fun o => .if_icmp .ge o) := ⟨64, vm_db b_M_named_0 (i := 14) rfl, rfl, by decide⟩
theorem d_M_named_27 : vm_D q_M_named.2.1 27 2 29 (.iload 5) := vm_dD b_M_named_0 15 rfl rfl
theorem d_M_named_29 : vm_B q_M_named.2.1 29 32 79 (fun o => .ifCond .eq o) := ⟨50, vm_db b_M_named_0 (i := 16) rfl, rfl, by decide⟩
theorem d_M_named_80 : vm_D q_M_named.2.1 80 2 82 (.istore 5) := vm_dD b_M_named_0 45 rfl rfl
theorem d_M_named_82 : vm_D q_M_named.2.1 82 3 85 (.iinc 6 1) := vm_dD b_M_named_0 46 rfl rfl
theorem d_M_named_85 : ∃ off : Int, decode q_M_named.2.1 85 = .ok (.goto off, 3) ∧ ((85 : Nat) : Int) + off = ((20 : Nat) : Int) := ⟨-65, vm_db b_M_named_0 (i := 47) rfl, by decide⟩
theorem d_M_named_79 : vm_D q_M_named.2.1 79 1 80 (.iconst 0) := vm_dD b_M_named_0 44 rfl rfl
theorem d_M_named_32 : vm_D q_M_named.2.1 32 1 33 (.aload_n 0) := vm_dD b_M_named_0 17 rfl rfl
theorem d_M_named_33 : vm_D q_M_named.2.1 33 3 36 (.getfield 80) := vm_dD b_M_named_0 18 rfl rfl
theorem d_M_named_36 : vm_D q_M_named.2.1 36 2 38 (.bipush 6) := vm_dD b_M_named_0 19 rfl rfl
theorem d_M_named_38 : vm_D q_M_named.2.1 38 2 40 (.bipush 6) := vm_dD b_M_named_0 20 rfl rfl
theorem d_M_named_40 : vm_D q_M_named.2.1 40 1 41 (.iload_n 1) := vm_dD b_M_named_0 21 rfl rfl
theorem d_M_named_41 : vm_D q_M_named.2.1 41 2 43 (.iload 4) := vm_dD b_M_named_0 22 rfl rfl
theorem d_M_named_43 : vm_D q_M_named.2.1 43 1 44 (.iadd) := vm_dD b_M_named_0 23 rfl rfl
theorem d_M_named_44 : vm_D q_M_named.2.1 44 1 45 (.imul) := vm_dD b_M_named_0 24 rfl rfl
theorem d_M_named_45 : vm_D q_M_named.2.1 45 1 46 (.iadd) := vm_dD b_M_named_0 25 rfl rfl
theorem d_M_named_46 : vm_D q_M_named.2.1 46 2 48 (.iload 6) := vm_dD b_M_named_0 26 rfl rfl
theorem d_M_named_48 : vm_D q_M_named.2.1 48 1 49 (.iadd) := vm_dD b_M_named_0 27 rfl rfl
theorem d_M_named_49 : vm_D q_M_named.2.1 49 1 50 (.iaload) := vm_dD b_M_named_0 28 rfl rfl
theorem d_M_named_50 : vm_D q_M_named.2.1 50 2 52 (.iload 6) := vm_dD b_M_named_0 29 rfl rfl
theorem d_M_named_52 : vm_D q_M_named.2.1 52 1 53 (.iload_n 3) := vm_dD b_M_named_0 30 rfl rfl
theorem d_M_named_53 : vm_B q_M_named.2.1 53 56 71 (fun o => .if_icmp .ge o) := ⟨18, vm_db b_M_named_0 (i := 31) rfl, rfl, by decide⟩
theorem d_M_named_72 : vm_B q_M_named.2.1 72 75 79 (fun o => .if_icmp .ne o) := ⟨7, vm_db b_M_named_0 (i := 41) rfl, rfl, by decide⟩
theorem d_M_named_75 : vm_D q_M_named.2.1 75 1 76 (.iconst 1) := vm_dD b_M_named_0 42 rfl rfl
theorem d_M_named_76 : ∃ off : Int, decode q_M_named.2.1 76 = .ok (.goto off, 3) ∧ ((76 : Nat) : Int) + off = ((80 : Nat) : Int) := ⟨4, vm_db b_M_named_0 (i := 43) rfl, by decide⟩
theorem d_M_named_71 : vm_D q_M_named.2.1 71 1 72 (.iconst 0) := vm_dD b_M_named_0 40 rfl rfl
theorem d_M_named_56 : vm_D q_M_named.2.1 56 1 57 (.aload_n 0) := vm_dD b_M_named_0 32 rfl rfl
theorem d_M_named_57 : vm_D q_M_named.2.1 57 3 60 (.getfield 14) := vm_dD b_M_named_0 33 rfl rfl
theorem d_M_named_60 : vm_D q_M_named.2.1 60 1 61 (.aload_n 0) := vm_dD b_M_named_0 34 rfl rfl
theorem d_M_named_61 : vm_D q_M_named.2.1 61 3 64 (.getfield 21) := vm_dD b_M_named_0 35 rfl rfl
theorem d_M_named_64 : vm_D q_M_named.2.1 64 2 66 (.iload 6) := vm_dD b_M_named_0 36 rfl rfl
theorem d_M_named_66 : vm_D q_M_named.2.1 66 1 67 (.iadd) := vm_dD b_M_named_0 37 rfl rfl
theorem d_M_named_67 : vm_D q_M_named.2.1 67 1 68 (.baload) := vm_dD b_M_named_0 38 rfl rfl
theorem d_M_named_68 : ∃ off : Int, decode q_M_named.2.1 68 = .ok (.goto off, 3) ∧ ((68 : Nat) : Int) + off = ((72 : Nat) : Int) := ⟨4, vm_db b_M_named_0 (i := 39) rfl, by decide⟩
theorem d_M_named_88 : vm_D q_M_named.2.1 88 2 90 (.iload 5) := vm_dD b_M_named_0 48 rfl rfl
theorem d_M_named_90 : vm_B q_M_named.2.1 90 93 96 (fun o => .ifCond .eq o) := ⟨6, vm_db b_M_named_0 (i := 49) rfl, rfl, by decide⟩
theorem d_M_named_96 : vm_D q_M_named.2.1 96 3 99 (.iinc 4 1) := vm_dD b_M_named_0 52 rfl rfl
theorem d_M_named_99 : ∃ off : Int, decode q_M_named.2.1 99 = .ok (.goto off, 3) ∧ ((99 : Nat) : Int) + off = ((8 : Nat) : Int) := ⟨-91, vm_db b_M_named_0 (i := 53) rfl, by decide⟩
theorem d_M_named_93 : vm_D q_M_named.2.1 93 2 95 (.iload 4) := vm_dD b_M_named_0 50 rfl rfl
theorem d_M_named_95 : vm_D q_M_named.2.1 95 1 96 (.ireturn) := vm_dD b_M_named_0 51 rfl rfl
theorem d_M_named_102 : vm_D q_M_named.2.1 102 1 103 (.iconst (-1)) := vm_dD b_M_named_0 54 rfl rfl
theorem d_M_named_103 : vm_D q_M_named.2.1 103 1 104 (.ireturn) := vm_dD b_M_named_0 55 rfl rfl
def q_M_freshName : vm_Y := ("RepeatFreeModel", cX11_freshName, 4, false, [])
def t_M_freshName_0 : List (Nat × Instr × Nat) := [(0, .aload_n 0, 1), (1, .invokevirtual 38, 3), (4, .ifCond .eq 4, 3), (7, .return_, 1), (8, .aload_n 0, 1), (9, .invokevirtual 134, 3), (12, .ifCond .eq 33, 3), (15, .aload_n 0, 1), (16, .iconst 0, 1), (17, .aload_n 0, 1), (18, .getfield 80, 3), (21, .iconst 4, 1), (22, .iaload, 1), (23, .invokevirtual 137, 3), (26, .iconst (-1), 1), (27, .if_icmp .ne 18, 3), (30, .aload_n 0, 1), (31, .iconst 4, 1), (32, .aload_n 0, 1), (33, .getfield 80, 3), (36, .iconst 5, 1), (37, .iaload, 1), (38, .invokevirtual 137, 3), (41, .iconst (-1), 1), (42, .if_icmp .eq 8, 3), (45, .aload_n 0, 1), (46, .invokevirtual 42, 3), (49, .return_, 1), (50, .aload_n 0, 1), (51, .invokevirtual 45, 3), (54, .istore_n 2, 1), (55, .iconst 0, 1), (56, .istore_n 3, 1), (57, .iload_n 3, 1), (58, .bipush 6, 2), (60, .if_icmp .ge 43, 3), (63, .aload_n 0, 1), (64, .getfield 80, 3), (67, .bipush 6, 2), (69, .bipush 6, 2), (71, .iload_n 1, 1), (72, .imul, 1), (73, .iadd, 1), (74, .iload_n 3, 1), (75, .iadd, 1), (76, .iload_n 3, 1), (77, .iload_n 2, 1), (78, .if_icmp .ge 17, 3), (81, .aload_n 0, 1), (82, .getfield 14, 3), (85, .aload_n 0, 1), (86, .getfield 21, 3), (89, .iload_n 3, 1), (90, .iadd, 1), (91, .baload, 1), (92, .goto 4, 3), (95, .iconst 0, 1), (96, .iastore, 1), (97, .iinc 3 1, 3), (100, .goto (-43), 3)]
theorem b_M_freshName_0 : (t_M_freshName_0.all fun q => decide (decode q_M_freshName.2.1 q.1 = .ok (q.2.1, q.2.2))) = true := by decide +kernel
def t_M_freshName_1 : List (Nat × Instr × Nat) := [(103, .aload_n 0, 1), (104, .dup, 1), (105, .getfield 21, 3), (108, .iload_n 2, 1), (109, .iadd, 1), (110, .putfield 21, 3), (113, .return_, 1)]
theorem b_M_freshName_1 : (t_M_freshName_1.all fun q => decide (decode q_M_freshName.2.1 q.1 = .ok (q.2.1, q.2.2))) = true := by decide +kernel
theorem d_M_freshName_0 : vm_D q_M_freshName.2.1 0 1 1 (.aload_n 0) := vm_dD b_M_freshName_0 0 rfl rfl
theorem d_M_freshName_1 : vm_D q_M_freshName.2.1 1 3 4 (.invokevirtual 38) := vm_dD b_M_freshName_0 1 rfl rfl
theorem d_M_freshName_4 : vm_B q_M_freshName.2.1 4 7 8 (fun o => .ifCond .eq o) := ⟨4, vm_db b_M_freshName_0 (i := 2) rfl, rfl, by decide⟩
theorem d_M_freshName_8 : vm_D q_M_freshName.2.1 8 1 9 (.aload_n 0) := vm_dD b_M_freshName_0 4 rfl rfl
theorem d_M_freshName_9 : vm_D q_M_freshName.2.1 9 3 12 (.invokevirtual 134) := vm_dD b_M_freshName_0 5 rfl rfl
theorem d_M_freshName_12 : vm_B q_M_freshName.2.1 12 15 45 (fun o => .ifCond .eq o) := ⟨33, vm_db b_M_freshName_0 (i := 6) rfl, rfl, by decide⟩
theorem d_M_freshName_45 : vm_D q_M_freshName.2.1 45 1 46 (.aload_n 0) := vm_dD b_M_freshName_0 25 rfl rfl
theorem d_M_freshName_46 : vm_D q_M_freshName.2.1 46 3 49 (.invokevirtual 42) := vm_dD b_M_freshName_0 26 rfl rfl
theorem d_M_freshName_49 : vm_D q_M_freshName.2.1 49 1 50 (.return_) := vm_dD b_M_freshName_0 27 rfl rfl
theorem d_M_freshName_15 : vm_D q_M_freshName.2.1 15 1 16 (.aload_n 0) := vm_dD b_M_freshName_0 7 rfl rfl
theorem d_M_freshName_16 : vm_D q_M_freshName.2.1 16 1 17 (.iconst 0) := vm_dD b_M_freshName_0 8 rfl rfl
theorem d_M_freshName_17 : vm_D q_M_freshName.2.1 17 1 18 (.aload_n 0) := vm_dD b_M_freshName_0 9 rfl rfl
theorem d_M_freshName_18 : vm_D q_M_freshName.2.1 18 3 21 (.getfield 80) := vm_dD b_M_freshName_0 10 rfl rfl
theorem d_M_freshName_21 : vm_D q_M_freshName.2.1 21 1 22 (.iconst 4) := vm_dD b_M_freshName_0 11 rfl rfl
theorem d_M_freshName_22 : vm_D q_M_freshName.2.1 22 1 23 (.iaload) := vm_dD b_M_freshName_0 12 rfl rfl
theorem d_M_freshName_23 : vm_D q_M_freshName.2.1 23 3 26 (.invokevirtual 137) := vm_dD b_M_freshName_0 13 rfl rfl
theorem d_M_freshName_26 : vm_D q_M_freshName.2.1 26 1 27 (.iconst (-1)) := vm_dD b_M_freshName_0 14 rfl rfl
theorem d_M_freshName_27 : vm_B q_M_freshName.2.1 27 30 45 (fun o => .if_icmp .ne o) := ⟨18, vm_db b_M_freshName_0 (i := 15) rfl, rfl, by decide⟩
theorem d_M_freshName_30 : vm_D q_M_freshName.2.1 30 1 31 (.aload_n 0) := vm_dD b_M_freshName_0 16 rfl rfl
theorem d_M_freshName_31 : vm_D q_M_freshName.2.1 31 1 32 (.iconst 4) := vm_dD b_M_freshName_0 17 rfl rfl
theorem d_M_freshName_32 : vm_D q_M_freshName.2.1 32 1 33 (.aload_n 0) := vm_dD b_M_freshName_0 18 rfl rfl
theorem d_M_freshName_33 : vm_D q_M_freshName.2.1 33 3 36 (.getfield 80) := vm_dD b_M_freshName_0 19 rfl rfl
theorem d_M_freshName_36 : vm_D q_M_freshName.2.1 36 1 37 (.iconst 5) := vm_dD b_M_freshName_0 20 rfl rfl
theorem d_M_freshName_37 : vm_D q_M_freshName.2.1 37 1 38 (.iaload) := vm_dD b_M_freshName_0 21 rfl rfl
theorem d_M_freshName_38 : vm_D q_M_freshName.2.1 38 3 41 (.invokevirtual 137) := vm_dD b_M_freshName_0 22 rfl rfl
theorem d_M_freshName_41 : vm_D q_M_freshName.2.1 41 1 42 (.iconst (-1)) := vm_dD b_M_freshName_0 23 rfl rfl
theorem d_M_freshName_42 : vm_B q_M_freshName.2.1 42 45 50 (fun o => .if_icmp .eq o) := ⟨8, vm_db b_M_freshName_0 (i := 24) rfl, rfl, by decide⟩
theorem d_M_freshName_50 : vm_D q_M_freshName.2.1 50 1 51 (.aload_n 0) := vm_dD b_M_freshName_0 28 rfl rfl
theorem d_M_freshName_51 : vm_D q_M_freshName.2.1 51 3 54 (.invokevirtual 45) := vm_dD b_M_freshName_0 29 rfl rfl
theorem d_M_freshName_54 : vm_D q_M_freshName.2.1 54 1 55 (.istore_n 2) := vm_dD b_M_freshName_0 30 rfl rfl
theorem d_M_freshName_55 : vm_D q_M_freshName.2.1 55 1 56 (.iconst 0) := vm_dD b_M_freshName_0 31 rfl rfl
theorem d_M_freshName_56 : vm_D q_M_freshName.2.1 56 1 57 (.istore_n 3) := vm_dD b_M_freshName_0 32 rfl rfl
theorem d_M_freshName_57 : vm_D q_M_freshName.2.1 57 1 58 (.iload_n 3) := vm_dD b_M_freshName_0 33 rfl rfl
theorem d_M_freshName_58 : vm_D q_M_freshName.2.1 58 2 60 (.bipush 6) := vm_dD b_M_freshName_0 34 rfl rfl
theorem d_M_freshName_60 : vm_B q_M_freshName.2.1 60 63 103 (fun o => .if_icmp .ge o) := ⟨43, vm_db b_M_freshName_0 (i := 35) rfl, rfl, by decide⟩
theorem d_M_freshName_63 : vm_D q_M_freshName.2.1 63 1 64 (.aload_n 0) := vm_dD b_M_freshName_0 36 rfl rfl
theorem d_M_freshName_64 : vm_D q_M_freshName.2.1 64 3 67 (.getfield 80) := vm_dD b_M_freshName_0 37 rfl rfl
theorem d_M_freshName_67 : vm_D q_M_freshName.2.1 67 2 69 (.bipush 6) := vm_dD b_M_freshName_0 38 rfl rfl
theorem d_M_freshName_69 : vm_D q_M_freshName.2.1 69 2 71 (.bipush 6) := vm_dD b_M_freshName_0 39 rfl rfl
theorem d_M_freshName_71 : vm_D q_M_freshName.2.1 71 1 72 (.iload_n 1) := vm_dD b_M_freshName_0 40 rfl rfl
theorem d_M_freshName_72 : vm_D q_M_freshName.2.1 72 1 73 (.imul) := vm_dD b_M_freshName_0 41 rfl rfl
theorem d_M_freshName_73 : vm_D q_M_freshName.2.1 73 1 74 (.iadd) := vm_dD b_M_freshName_0 42 rfl rfl
theorem d_M_freshName_74 : vm_D q_M_freshName.2.1 74 1 75 (.iload_n 3) := vm_dD b_M_freshName_0 43 rfl rfl
theorem d_M_freshName_75 : vm_D q_M_freshName.2.1 75 1 76 (.iadd) := vm_dD b_M_freshName_0 44 rfl rfl
theorem d_M_freshName_76 : vm_D q_M_freshName.2.1 76 1 77 (.iload_n 3) := vm_dD b_M_freshName_0 45 rfl rfl
theorem d_M_freshName_77 : vm_D q_M_freshName.2.1 77 1 78 (.iload_n 2) := vm_dD b_M_freshName_0 46 rfl rfl
theorem d_M_freshName_78 : vm_B q_M_freshName.2.1 78 81 95 (fun o => .if_icmp .ge o) := ⟨17, vm_db b_M_freshName_0 (i := 47) rfl, rfl, by decide⟩
theorem d_M_freshName_96 : vm_D q_M_freshName.2.1 96 1 97 (.iastore) := vm_dD b_M_freshName_0 57 rfl rfl
theorem d_M_freshName_97 : vm_D q_M_freshName.2.1 97 3 100 (.iinc 3 1) := vm_dD b_M_freshName_0 58 rfl rfl
theorem d_M_freshName_100 : ∃ off : Int, decode q_M_freshName.2.1 100 = .ok (.goto off, 3) ∧ ((100 : Nat) : Int) + off = ((57 : Nat) : Int) := ⟨-43, vm_db b_M_freshName_0 (i := 59) rfl, by decide⟩
theorem d_M_freshName_95 : vm_D q_M_freshName.2.1 95 1 96 (.iconst 0) := vm_dD b_M_freshName_0 56 rfl rfl
theorem d_M_freshName_81 : vm_D q_M_freshName.2.1 81 1 82 (.aload_n 0) := vm_dD b_M_freshName_0 48 rfl rfl
theorem d_M_freshName_82 : vm_D q_M_freshName.2.1 82 3 85 (.getfield 14) := vm_dD b_M_freshName_0 49 rfl rfl
theorem d_M_freshName_85 : vm_D q_M_freshName.2.1 85 1 86 (.aload_n 0) := vm_dD b_M_freshName_0 50 rfl rfl
theorem d_M_freshName_86 : vm_D q_M_freshName.2.1 86 3 89 (.getfield 21) := vm_dD b_M_freshName_0 51 rfl rfl
theorem d_M_freshName_89 : vm_D q_M_freshName.2.1 89 1 90 (.iload_n 3) := vm_dD b_M_freshName_0 52 rfl rfl
theorem d_M_freshName_90 : vm_D q_M_freshName.2.1 90 1 91 (.iadd) := vm_dD b_M_freshName_0 53 rfl rfl
theorem d_M_freshName_91 : vm_D q_M_freshName.2.1 91 1 92 (.baload) := vm_dD b_M_freshName_0 54 rfl rfl
theorem d_M_freshName_92 : ∃ off : Int, decode q_M_freshName.2.1 92 = .ok (.goto off, 3) ∧ ((92 : Nat) : Int) + off = ((96 : Nat) : Int) := ⟨4, vm_db b_M_freshName_0 (i := 55) rfl, by decide⟩
theorem d_M_freshName_103 : vm_D q_M_freshName.2.1 103 1 104 (.aload_n 0) := vm_dD b_M_freshName_1 0 rfl rfl
theorem d_M_freshName_104 : vm_D q_M_freshName.2.1 104 1 105 (.dup) := vm_dD b_M_freshName_1 1 rfl rfl
theorem d_M_freshName_105 : vm_D q_M_freshName.2.1 105 3 108 (.getfield 21) := vm_dD b_M_freshName_1 2 rfl rfl
theorem d_M_freshName_108 : vm_D q_M_freshName.2.1 108 1 109 (.iload_n 2) := vm_dD b_M_freshName_1 3 rfl rfl
theorem d_M_freshName_109 : vm_D q_M_freshName.2.1 109 1 110 (.iadd) := vm_dD b_M_freshName_1 4 rfl rfl
theorem d_M_freshName_110 : vm_D q_M_freshName.2.1 110 3 113 (.putfield 21) := vm_dD b_M_freshName_1 5 rfl rfl
theorem d_M_freshName_113 : vm_D q_M_freshName.2.1 113 1 114 (.return_) := vm_dD b_M_freshName_1 6 rfl rfl
theorem d_M_freshName_7 : vm_D q_M_freshName.2.1 7 1 8 (.return_) := vm_dD b_M_freshName_0 3 rfl rfl
def q_M_limitLine : vm_Y := ("RepeatFreeModel", cX11_limitLine, 2, false, [])
def t_M_limitLine_0 : List (Nat × Instr × Nat) := [(0, .aload_n 0, 1), (1, .getfield 141, 3), (4, .ifCond .eq 8, 3), (7, .aload_n 0, 1), (8, .invokevirtual 42, 3), (11, .return_, 1), (12, .aload_n 0, 1), (13, .iconst 1, 1), (14, .putfield 141, 3), (17, .aload_n 0, 1), (18, .ldc 120, 2), (20, .invokevirtual 145, 3), (23, .aload_n 0, 1), (24, .ldc 122, 2), (26, .invokevirtual 62, 3), (29, .istore_n 1, 1), (30, .iload_n 1, 1), (31, .ifCond .ne 9, 3), (34, .aload_n 0, 1), (35, .ldc 124, 2), (37, .invokevirtual 145, 3), (40, .aload_n 0, 1), (41, .getfield 80, 3), (44, .iconst 1, 1), (45, .iload_n 1, 1), (46, .ifCond .eq 7, 3), (49, .iconst 1, 1), (50, .goto 4, 3), (53, .iconst 2, 1), (54, .iastore, 1), (55, .aload_n 0, 1), (56, .getfield 80, 3), (59, .iconst 2, 1), (60, .aload_n 0, 1), (61, .iconst 1, 1), (62, .bipush 99, 2), (64, .invokevirtual 149, 3), (67, .iastore, 1), (68, .aload_n 0, 1), (69, .ldc 126, 2), (71, .invokevirtual 145, 3), (74, .aload_n 0, 1), (75, .getfield 80, 3), (78, .iconst 3, 1), (79, .aload_n 0, 1), (80, .iconst 1, 1), (81, .bipush 9, 2), (83, .invokevirtual 149, 3), (86, .iastore, 1), (87, .return_, 1)]
theorem b_M_limitLine_0 : (t_M_limitLine_0.all fun q => decide (decode q_M_limitLine.2.1 q.1 = .ok (q.2.1, q.2.2))) = true := by decide +kernel
theorem d_M_limitLine_0 : vm_D q_M_limitLine.2.1 0 1 1 (.aload_n 0) := vm_dD b_M_limitLine_0 0 rfl rfl
theorem d_M_limitLine_1 : vm_D q_M_limitLine.2.1 1 3 4 (.getfield 141) := vm_dD b_M_limitLine_0 1 rfl rfl
theorem d_M_limitLine_4 : vm_B q_M_limitLine.2.1 4 7 12 (fun o => .ifCond .eq o) := ⟨8, vm_db b_M_limitLine_0 (i := 2) rfl, rfl, by decide⟩
theorem d_M_limitLine_12 : vm_D q_M_limitLine.2.1 12 1 13 (.aload_n 0) := vm_dD b_M_limitLine_0 6 rfl rfl
theorem d_M_limitLine_13 : vm_D q_M_limitLine.2.1 13 1 14 (.iconst 1) := vm_dD b_M_limitLine_0 7 rfl rfl
theorem d_M_limitLine_14 : vm_D q_M_limitLine.2.1 14 3 17 (.putfield 141) := vm_dD b_M_limitLine_0 8 rfl rfl
theorem d_M_limitLine_17 : vm_D q_M_limitLine.2.1 17 1 18 (.aload_n 0) := vm_dD b_M_limitLine_0 9 rfl rfl
theorem d_M_limitLine_18 : vm_D q_M_limitLine.2.1 18 2 20 (.ldc 120) := vm_dD b_M_limitLine_0 10 rfl rfl
theorem d_M_limitLine_20 : vm_D q_M_limitLine.2.1 20 3 23 (.invokevirtual 145) := vm_dD b_M_limitLine_0 11 rfl rfl
theorem d_M_limitLine_23 : vm_D q_M_limitLine.2.1 23 1 24 (.aload_n 0) := vm_dD b_M_limitLine_0 12 rfl rfl
theorem d_M_limitLine_24 : vm_D q_M_limitLine.2.1 24 2 26 (.ldc 122) := vm_dD b_M_limitLine_0 13 rfl rfl
theorem d_M_limitLine_26 : vm_D q_M_limitLine.2.1 26 3 29 (.invokevirtual 62) := vm_dD b_M_limitLine_0 14 rfl rfl
theorem d_M_limitLine_29 : vm_D q_M_limitLine.2.1 29 1 30 (.istore_n 1) := vm_dD b_M_limitLine_0 15 rfl rfl
theorem d_M_limitLine_30 : vm_D q_M_limitLine.2.1 30 1 31 (.iload_n 1) := vm_dD b_M_limitLine_0 16 rfl rfl
theorem d_M_limitLine_31 : vm_B q_M_limitLine.2.1 31 34 40 (fun o => .ifCond .ne o) := ⟨9, vm_db b_M_limitLine_0 (i := 17) rfl, rfl, by decide⟩
theorem d_M_limitLine_40 : vm_D q_M_limitLine.2.1 40 1 41 (.aload_n 0) := vm_dD b_M_limitLine_0 21 rfl rfl
theorem d_M_limitLine_41 : vm_D q_M_limitLine.2.1 41 3 44 (.getfield 80) := vm_dD b_M_limitLine_0 22 rfl rfl
theorem d_M_limitLine_44 : vm_D q_M_limitLine.2.1 44 1 45 (.iconst 1) := vm_dD b_M_limitLine_0 23 rfl rfl
theorem d_M_limitLine_45 : vm_D q_M_limitLine.2.1 45 1 46 (.iload_n 1) := vm_dD b_M_limitLine_0 24 rfl rfl
theorem d_M_limitLine_46 : vm_B q_M_limitLine.2.1 46 49 53 (fun o => .ifCond .eq o) := ⟨7, vm_db b_M_limitLine_0 (i := 25) rfl, rfl, by decide⟩
theorem d_M_limitLine_54 : vm_D q_M_limitLine.2.1 54 1 55 (.iastore) := vm_dD b_M_limitLine_0 29 rfl rfl
theorem d_M_limitLine_55 : vm_D q_M_limitLine.2.1 55 1 56 (.aload_n 0) := vm_dD b_M_limitLine_0 30 rfl rfl
theorem d_M_limitLine_56 : vm_D q_M_limitLine.2.1 56 3 59 (.getfield 80) := vm_dD b_M_limitLine_0 31 rfl rfl
theorem d_M_limitLine_59 : vm_D q_M_limitLine.2.1 59 1 60 (.iconst 2) := vm_dD b_M_limitLine_0 32 rfl rfl
theorem d_M_limitLine_60 : vm_D q_M_limitLine.2.1 60 1 61 (.aload_n 0) := vm_dD b_M_limitLine_0 33 rfl rfl
theorem d_M_limitLine_61 : vm_D q_M_limitLine.2.1 61 1 62 (.iconst 1) := vm_dD b_M_limitLine_0 34 rfl rfl
theorem d_M_limitLine_62 : vm_D q_M_limitLine.2.1 62 2 64 (.bipush 99) := vm_dD b_M_limitLine_0 35 rfl rfl
theorem d_M_limitLine_64 : vm_D q_M_limitLine.2.1 64 3 67 (.invokevirtual 149) := vm_dD b_M_limitLine_0 36 rfl rfl
theorem d_M_limitLine_67 : vm_D q_M_limitLine.2.1 67 1 68 (.iastore) := vm_dD b_M_limitLine_0 37 rfl rfl
theorem d_M_limitLine_68 : vm_D q_M_limitLine.2.1 68 1 69 (.aload_n 0) := vm_dD b_M_limitLine_0 38 rfl rfl
theorem d_M_limitLine_69 : vm_D q_M_limitLine.2.1 69 2 71 (.ldc 126) := vm_dD b_M_limitLine_0 39 rfl rfl
theorem d_M_limitLine_71 : vm_D q_M_limitLine.2.1 71 3 74 (.invokevirtual 145) := vm_dD b_M_limitLine_0 40 rfl rfl
theorem d_M_limitLine_74 : vm_D q_M_limitLine.2.1 74 1 75 (.aload_n 0) := vm_dD b_M_limitLine_0 41 rfl rfl
theorem d_M_limitLine_75 : vm_D q_M_limitLine.2.1 75 3 78 (.getfield 80) := vm_dD b_M_limitLine_0 42 rfl rfl
theorem d_M_limitLine_78 : vm_D q_M_limitLine.2.1 78 1 79 (.iconst 3) := vm_dD b_M_limitLine_0 43 rfl rfl
theorem d_M_limitLine_79 : vm_D q_M_limitLine.2.1 79 1 80 (.aload_n 0) := vm_dD b_M_limitLine_0 44 rfl rfl
theorem d_M_limitLine_80 : vm_D q_M_limitLine.2.1 80 1 81 (.iconst 1) := vm_dD b_M_limitLine_0 45 rfl rfl
theorem d_M_limitLine_81 : vm_D q_M_limitLine.2.1 81 2 83 (.bipush 9) := vm_dD b_M_limitLine_0 46 rfl rfl
theorem d_M_limitLine_83 : vm_D q_M_limitLine.2.1 83 3 86 (.invokevirtual 149) := vm_dD b_M_limitLine_0 47 rfl rfl
theorem d_M_limitLine_86 : vm_D q_M_limitLine.2.1 86 1 87 (.iastore) := vm_dD b_M_limitLine_0 48 rfl rfl
theorem d_M_limitLine_87 : vm_D q_M_limitLine.2.1 87 1 88 (.return_) := vm_dD b_M_limitLine_0 49 rfl rfl
theorem d_M_limitLine_53 : vm_D q_M_limitLine.2.1 53 1 54 (.iconst 2) := vm_dD b_M_limitLine_0 28 rfl rfl
theorem d_M_limitLine_49 : vm_D q_M_limitLine.2.1 49 1 50 (.iconst 1) := vm_dD b_M_limitLine_0 26 rfl rfl
theorem d_M_limitLine_50 : ∃ off : Int, decode q_M_limitLine.2.1 50 = .ok (.goto off, 3) ∧ ((50 : Nat) : Int) + off = ((54 : Nat) : Int) := ⟨4, vm_db b_M_limitLine_0 (i := 27) rfl, by decide⟩
theorem d_M_limitLine_34 : vm_D q_M_limitLine.2.1 34 1 35 (.aload_n 0) := vm_dD b_M_limitLine_0 18 rfl rfl
theorem d_M_limitLine_35 : vm_D q_M_limitLine.2.1 35 2 37 (.ldc 124) := vm_dD b_M_limitLine_0 19 rfl rfl
theorem d_M_limitLine_37 : vm_D q_M_limitLine.2.1 37 3 40 (.invokevirtual 145) := vm_dD b_M_limitLine_0 20 rfl rfl
theorem d_M_limitLine_7 : vm_D q_M_limitLine.2.1 7 1 8 (.aload_n 0) := vm_dD b_M_limitLine_0 3 rfl rfl
theorem d_M_limitLine_8 : vm_D q_M_limitLine.2.1 8 3 11 (.invokevirtual 42) := vm_dD b_M_limitLine_0 4 rfl rfl
theorem d_M_limitLine_11 : vm_D q_M_limitLine.2.1 11 1 12 (.return_) := vm_dD b_M_limitLine_0 5 rfl rfl
def q_M_mapLine : vm_Y := ("RepeatFreeModel", cX11_mapLine, 3, false, [])
def t_M_mapLine_0 : List (Nat × Instr × Nat) := [(0, .aload_n 0, 1), (1, .getfield 80, 3), (4, .iconst 4, 1), (5, .iaload, 1), (6, .istore_n 1, 1), (7, .iload_n 1, 1), (8, .iconst 4, 1), (9, .if_icmp .ne 8, 3), (12, .aload_n 0, 1), (13, .invokevirtual 42, 3), (16, .return_, 1), (17, .aload_n 0, 1), (18, .ldc 128, 2), (20, .invokevirtual 145, 3), (23, .aload_n 0, 1), (24, .iload_n 1, 1), (25, .invokevirtual 152, 3), (28, .iconst 0, 1), (29, .istore_n 2, 1), (30, .iload_n 2, 1), (31, .aload_n 0, 1), (32, .getfield 80, 3), (35, .iconst 0, 1), (36, .iaload, 1), (37, .if_icmp .ge 95, 3), (40, .aload_n 0, 1), (41, .invokevirtual 38, 3), (44, .ifCond .ne 88, 3), (47, .aload_n 0, 1), (48, .invokevirtual 45, 3), (51, .iconst 1, 1), (52, .if_icmp .ne 19, 3), (55, .aload_n 0, 1), (56, .getfield 14, 3), (59, .aload_n 0, 1), (60, .getfield 21, 3), (63, .baload, 1), (64, .bipush 97, 2), (66, .iload_n 2, 1), (67, .iadd, 1), (68, .if_icmp .eq 8, 3), (71, .aload_n 0, 1), (72, .invokevirtual 42, 3), (75, .return_, 1), (76, .aload_n 0, 1), (77, .dup, 1), (78, .getfield 21, 3), (81, .iconst 1, 1), (82, .iadd, 1), (83, .putfield 21, 3), (86, .aload_n 0, 1), (87, .getfield 80, 3), (90, .bipush 54, 2), (92, .iconst 4, 1), (93, .iload_n 1, 1), (94, .imul, 1), (95, .iadd, 1), (96, .iload_n 2, 1), (97, .iadd, 1), (98, .aload_n 0, 1)]
theorem b_M_mapLine_0 : (t_M_mapLine_0.all fun q => decide (decode q_M_mapLine.2.1 q.1 = .ok (q.2.1, q.2.2))) = true := by decide +kernel
def t_M_mapLine_1 : List (Nat × Instr × Nat) := [(99, .bipush 97, 2), (101, .aload_n 0, 1), (102, .getfield 80, 3), (105, .iconst 0, 1), (106, .iaload, 1), (107, .aload_n 0, 1), (108, .getfield 80, 3), (111, .bipush 70, 2), (113, .bipush 6, 2), (115, .iconst 4, 1), (116, .iload_n 1, 1), (117, .imul, 1), (118, .iload_n 2, 1), (119, .iadd, 1), (120, .imul, 1), (121, .iadd, 1), (122, .invokevirtual 156, 3), (125, .iastore, 1), (126, .iinc 2 1, 3), (129, .goto (-99), 3), (132, .aload_n 0, 1), (133, .getfield 80, 3), (136, .iconst 4, 1), (137, .dup2, 1), (138, .iaload, 1), (139, .iconst 1, 1), (140, .iadd, 1), (141, .iastore, 1), (142, .return_, 1)]
theorem b_M_mapLine_1 : (t_M_mapLine_1.all fun q => decide (decode q_M_mapLine.2.1 q.1 = .ok (q.2.1, q.2.2))) = true := by decide +kernel
theorem d_M_mapLine_0 : vm_D q_M_mapLine.2.1 0 1 1 (.aload_n 0) := vm_dD b_M_mapLine_0 0 rfl rfl
theorem d_M_mapLine_1 : vm_D q_M_mapLine.2.1 1 3 4 (.getfield 80) := vm_dD b_M_mapLine_0 1 rfl rfl
theorem d_M_mapLine_4 : vm_D q_M_mapLine.2.1 4 1 5 (.iconst 4) := vm_dD b_M_mapLine_0 2 rfl rfl
theorem d_M_mapLine_5 : vm_D q_M_mapLine.2.1 5 1 6 (.iaload) := vm_dD b_M_mapLine_0 3 rfl rfl
theorem d_M_mapLine_6 : vm_D q_M_mapLine.2.1 6 1 7 (.istore_n 1) := vm_dD b_M_mapLine_0 4 rfl rfl
theorem d_M_mapLine_7 : vm_D q_M_mapLine.2.1 7 1 8 (.iload_n 1) := vm_dD b_M_mapLine_0 5 rfl rfl
theorem d_M_mapLine_8 : vm_D q_M_mapLine.2.1 8 1 9 (.iconst 4) := vm_dD b_M_mapLine_0 6 rfl rfl
theorem d_M_mapLine_9 : vm_B q_M_mapLine.2.1 9 12 17 (fun o => .if_icmp .ne o) := ⟨8, vm_db b_M_mapLine_0 (i := 7) rfl, rfl, by decide⟩
theorem d_M_mapLine_17 : vm_D q_M_mapLine.2.1 17 1 18 (.aload_n 0) := vm_dD b_M_mapLine_0 11 rfl rfl
theorem d_M_mapLine_18 : vm_D q_M_mapLine.2.1 18 2 20 (.ldc 128) := vm_dD b_M_mapLine_0 12 rfl rfl
theorem d_M_mapLine_20 : vm_D q_M_mapLine.2.1 20 3 23 (.invokevirtual 145) := vm_dD b_M_mapLine_0 13 rfl rfl
theorem d_M_mapLine_23 : vm_D q_M_mapLine.2.1 23 1 24 (.aload_n 0) := vm_dD b_M_mapLine_0 14 rfl rfl
theorem d_M_mapLine_24 : vm_D q_M_mapLine.2.1 24 1 25 (.iload_n 1) := vm_dD b_M_mapLine_0 15 rfl rfl
theorem d_M_mapLine_25 : vm_D q_M_mapLine.2.1 25 3 28 (.invokevirtual 152) := vm_dD b_M_mapLine_0 16 rfl rfl
theorem d_M_mapLine_28 : vm_D q_M_mapLine.2.1 28 1 29 (.iconst 0) := vm_dD b_M_mapLine_0 17 rfl rfl
theorem d_M_mapLine_29 : vm_D q_M_mapLine.2.1 29 1 30 (.istore_n 2) := vm_dD b_M_mapLine_0 18 rfl rfl
theorem d_M_mapLine_30 : vm_D q_M_mapLine.2.1 30 1 31 (.iload_n 2) := vm_dD b_M_mapLine_0 19 rfl rfl
theorem d_M_mapLine_31 : vm_D q_M_mapLine.2.1 31 1 32 (.aload_n 0) := vm_dD b_M_mapLine_0 20 rfl rfl
theorem d_M_mapLine_32 : vm_D q_M_mapLine.2.1 32 3 35 (.getfield 80) := vm_dD b_M_mapLine_0 21 rfl rfl
theorem d_M_mapLine_35 : vm_D q_M_mapLine.2.1 35 1 36 (.iconst 0) := vm_dD b_M_mapLine_0 22 rfl rfl
theorem d_M_mapLine_36 : vm_D q_M_mapLine.2.1 36 1 37 (.iaload) := vm_dD b_M_mapLine_0 23 rfl rfl
theorem d_M_mapLine_37 : vm_B q_M_mapLine.2.1 37 40 132 (fun o => .if_icmp .ge o) := ⟨95, vm_db b_M_mapLine_0 (i := 24) rfl, rfl, by decide⟩
theorem d_M_mapLine_40 : vm_D q_M_mapLine.2.1 40 1 41 (.aload_n 0) := vm_dD b_M_mapLine_0 25 rfl rfl
theorem d_M_mapLine_41 : vm_D q_M_mapLine.2.1 41 3 44 (.invokevirtual 38) := vm_dD b_M_mapLine_0 26 rfl rfl
theorem d_M_mapLine_44 : vm_B q_M_mapLine.2.1 44 47 132 (fun o => .ifCond .ne o) := ⟨88, vm_db b_M_mapLine_0 (i := 27) rfl, rfl, by decide⟩
theorem d_M_mapLine_47 : vm_D q_M_mapLine.2.1 47 1 48 (.aload_n 0) := vm_dD b_M_mapLine_0 28 rfl rfl
theorem d_M_mapLine_48 : vm_D q_M_mapLine.2.1 48 3 51 (.invokevirtual 45) := vm_dD b_M_mapLine_0 29 rfl rfl
theorem d_M_mapLine_51 : vm_D q_M_mapLine.2.1 51 1 52 (.iconst 1) := vm_dD b_M_mapLine_0 30 rfl rfl
theorem d_M_mapLine_52 : vm_B q_M_mapLine.2.1 52 55 71 (fun o => .if_icmp .ne o) := ⟨19, vm_db b_M_mapLine_0 (i := 31) rfl, rfl, by decide⟩
theorem d_M_mapLine_71 : vm_D q_M_mapLine.2.1 71 1 72 (.aload_n 0) := vm_dD b_M_mapLine_0 41 rfl rfl
theorem d_M_mapLine_72 : vm_D q_M_mapLine.2.1 72 3 75 (.invokevirtual 42) := vm_dD b_M_mapLine_0 42 rfl rfl
theorem d_M_mapLine_75 : vm_D q_M_mapLine.2.1 75 1 76 (.return_) := vm_dD b_M_mapLine_0 43 rfl rfl
theorem d_M_mapLine_55 : vm_D q_M_mapLine.2.1 55 1 56 (.aload_n 0) := vm_dD b_M_mapLine_0 32 rfl rfl
theorem d_M_mapLine_56 : vm_D q_M_mapLine.2.1 56 3 59 (.getfield 14) := vm_dD b_M_mapLine_0 33 rfl rfl
theorem d_M_mapLine_59 : vm_D q_M_mapLine.2.1 59 1 60 (.aload_n 0) := vm_dD b_M_mapLine_0 34 rfl rfl
theorem d_M_mapLine_60 : vm_D q_M_mapLine.2.1 60 3 63 (.getfield 21) := vm_dD b_M_mapLine_0 35 rfl rfl
theorem d_M_mapLine_63 : vm_D q_M_mapLine.2.1 63 1 64 (.baload) := vm_dD b_M_mapLine_0 36 rfl rfl
theorem d_M_mapLine_64 : vm_D q_M_mapLine.2.1 64 2 66 (.bipush 97) := vm_dD b_M_mapLine_0 37 rfl rfl
theorem d_M_mapLine_66 : vm_D q_M_mapLine.2.1 66 1 67 (.iload_n 2) := vm_dD b_M_mapLine_0 38 rfl rfl
theorem d_M_mapLine_67 : vm_D q_M_mapLine.2.1 67 1 68 (.iadd) := vm_dD b_M_mapLine_0 39 rfl rfl
theorem d_M_mapLine_68 : vm_B q_M_mapLine.2.1 68 71 76 (fun o => .if_icmp .eq o) := ⟨8, vm_db b_M_mapLine_0 (i := 40) rfl, rfl, by decide⟩
theorem d_M_mapLine_76 : vm_D q_M_mapLine.2.1 76 1 77 (.aload_n 0) := vm_dD b_M_mapLine_0 44 rfl rfl
theorem d_M_mapLine_77 : vm_D q_M_mapLine.2.1 77 1 78 (.dup) := vm_dD b_M_mapLine_0 45 rfl rfl
theorem d_M_mapLine_78 : vm_D q_M_mapLine.2.1 78 3 81 (.getfield 21) := vm_dD b_M_mapLine_0 46 rfl rfl
theorem d_M_mapLine_81 : vm_D q_M_mapLine.2.1 81 1 82 (.iconst 1) := vm_dD b_M_mapLine_0 47 rfl rfl
theorem d_M_mapLine_82 : vm_D q_M_mapLine.2.1 82 1 83 (.iadd) := vm_dD b_M_mapLine_0 48 rfl rfl
theorem d_M_mapLine_83 : vm_D q_M_mapLine.2.1 83 3 86 (.putfield 21) := vm_dD b_M_mapLine_0 49 rfl rfl
theorem d_M_mapLine_86 : vm_D q_M_mapLine.2.1 86 1 87 (.aload_n 0) := vm_dD b_M_mapLine_0 50 rfl rfl
theorem d_M_mapLine_87 : vm_D q_M_mapLine.2.1 87 3 90 (.getfield 80) := vm_dD b_M_mapLine_0 51 rfl rfl
theorem d_M_mapLine_90 : vm_D q_M_mapLine.2.1 90 2 92 (.bipush 54) := vm_dD b_M_mapLine_0 52 rfl rfl
theorem d_M_mapLine_92 : vm_D q_M_mapLine.2.1 92 1 93 (.iconst 4) := vm_dD b_M_mapLine_0 53 rfl rfl
theorem d_M_mapLine_93 : vm_D q_M_mapLine.2.1 93 1 94 (.iload_n 1) := vm_dD b_M_mapLine_0 54 rfl rfl
theorem d_M_mapLine_94 : vm_D q_M_mapLine.2.1 94 1 95 (.imul) := vm_dD b_M_mapLine_0 55 rfl rfl
theorem d_M_mapLine_95 : vm_D q_M_mapLine.2.1 95 1 96 (.iadd) := vm_dD b_M_mapLine_0 56 rfl rfl
theorem d_M_mapLine_96 : vm_D q_M_mapLine.2.1 96 1 97 (.iload_n 2) := vm_dD b_M_mapLine_0 57 rfl rfl
theorem d_M_mapLine_97 : vm_D q_M_mapLine.2.1 97 1 98 (.iadd) := vm_dD b_M_mapLine_0 58 rfl rfl
theorem d_M_mapLine_98 : vm_D q_M_mapLine.2.1 98 1 99 (.aload_n 0) := vm_dD b_M_mapLine_0 59 rfl rfl
theorem d_M_mapLine_99 : vm_D q_M_mapLine.2.1 99 2 101 (.bipush 97) := vm_dD b_M_mapLine_1 0 rfl rfl
theorem d_M_mapLine_101 : vm_D q_M_mapLine.2.1 101 1 102 (.aload_n 0) := vm_dD b_M_mapLine_1 1 rfl rfl
theorem d_M_mapLine_102 : vm_D q_M_mapLine.2.1 102 3 105 (.getfield 80) := vm_dD b_M_mapLine_1 2 rfl rfl
theorem d_M_mapLine_105 : vm_D q_M_mapLine.2.1 105 1 106 (.iconst 0) := vm_dD b_M_mapLine_1 3 rfl rfl
theorem d_M_mapLine_106 : vm_D q_M_mapLine.2.1 106 1 107 (.iaload) := vm_dD b_M_mapLine_1 4 rfl rfl
theorem d_M_mapLine_107 : vm_D q_M_mapLine.2.1 107 1 108 (.aload_n 0) := vm_dD b_M_mapLine_1 5 rfl rfl
theorem d_M_mapLine_108 : vm_D q_M_mapLine.2.1 108 3 111 (.getfield 80) := vm_dD b_M_mapLine_1 6 rfl rfl
theorem d_M_mapLine_111 : vm_D q_M_mapLine.2.1 111 2 113 (.bipush 70) := vm_dD b_M_mapLine_1 7 rfl rfl
theorem d_M_mapLine_113 : vm_D q_M_mapLine.2.1 113 2 115 (.bipush 6) := vm_dD b_M_mapLine_1 8 rfl rfl
theorem d_M_mapLine_115 : vm_D q_M_mapLine.2.1 115 1 116 (.iconst 4) := vm_dD b_M_mapLine_1 9 rfl rfl
theorem d_M_mapLine_116 : vm_D q_M_mapLine.2.1 116 1 117 (.iload_n 1) := vm_dD b_M_mapLine_1 10 rfl rfl
theorem d_M_mapLine_117 : vm_D q_M_mapLine.2.1 117 1 118 (.imul) := vm_dD b_M_mapLine_1 11 rfl rfl
theorem d_M_mapLine_118 : vm_D q_M_mapLine.2.1 118 1 119 (.iload_n 2) := vm_dD b_M_mapLine_1 12 rfl rfl
theorem d_M_mapLine_119 : vm_D q_M_mapLine.2.1 119 1 120 (.iadd) := vm_dD b_M_mapLine_1 13 rfl rfl
theorem d_M_mapLine_120 : vm_D q_M_mapLine.2.1 120 1 121 (.imul) := vm_dD b_M_mapLine_1 14 rfl rfl
theorem d_M_mapLine_121 : vm_D q_M_mapLine.2.1 121 1 122 (.iadd) := vm_dD b_M_mapLine_1 15 rfl rfl
theorem d_M_mapLine_122 : vm_D q_M_mapLine.2.1 122 3 125 (.invokevirtual 156) := vm_dD b_M_mapLine_1 16 rfl rfl
theorem d_M_mapLine_125 : vm_D q_M_mapLine.2.1 125 1 126 (.iastore) := vm_dD b_M_mapLine_1 17 rfl rfl
theorem d_M_mapLine_126 : vm_D q_M_mapLine.2.1 126 3 129 (.iinc 2 1) := vm_dD b_M_mapLine_1 18 rfl rfl
theorem d_M_mapLine_129 : ∃ off : Int, decode q_M_mapLine.2.1 129 = .ok (.goto off, 3) ∧ ((129 : Nat) : Int) + off = ((30 : Nat) : Int) := ⟨-99, vm_db b_M_mapLine_1 (i := 19) rfl, by decide⟩
theorem d_M_mapLine_132 : vm_D q_M_mapLine.2.1 132 1 133 (.aload_n 0) := vm_dD b_M_mapLine_1 20 rfl rfl
theorem d_M_mapLine_133 : vm_D q_M_mapLine.2.1 133 3 136 (.getfield 80) := vm_dD b_M_mapLine_1 21 rfl rfl
theorem d_M_mapLine_136 : vm_D q_M_mapLine.2.1 136 1 137 (.iconst 4) := vm_dD b_M_mapLine_1 22 rfl rfl
theorem d_M_mapLine_137 : vm_D q_M_mapLine.2.1 137 1 138 (.dup2) := vm_dD b_M_mapLine_1 23 rfl rfl
theorem d_M_mapLine_138 : vm_D q_M_mapLine.2.1 138 1 139 (.iaload) := vm_dD b_M_mapLine_1 24 rfl rfl
theorem d_M_mapLine_139 : vm_D q_M_mapLine.2.1 139 1 140 (.iconst 1) := vm_dD b_M_mapLine_1 25 rfl rfl
theorem d_M_mapLine_140 : vm_D q_M_mapLine.2.1 140 1 141 (.iadd) := vm_dD b_M_mapLine_1 26 rfl rfl
theorem d_M_mapLine_141 : vm_D q_M_mapLine.2.1 141 1 142 (.iastore) := vm_dD b_M_mapLine_1 27 rfl rfl
theorem d_M_mapLine_142 : vm_D q_M_mapLine.2.1 142 1 143 (.return_) := vm_dD b_M_mapLine_1 28 rfl rfl
theorem d_M_mapLine_12 : vm_D q_M_mapLine.2.1 12 1 13 (.aload_n 0) := vm_dD b_M_mapLine_0 8 rfl rfl
theorem d_M_mapLine_13 : vm_D q_M_mapLine.2.1 13 3 16 (.invokevirtual 42) := vm_dD b_M_mapLine_0 9 rfl rfl
theorem d_M_mapLine_16 : vm_D q_M_mapLine.2.1 16 1 17 (.return_) := vm_dD b_M_mapLine_0 10 rfl rfl
def q_M_patternLine : vm_Y := ("RepeatFreeModel", cX11_patternLine, 2, false, [])
def t_M_patternLine_0 : List (Nat × Instr × Nat) := [(0, .aload_n 0, 1), (1, .getfield 80, 3), (4, .iconst 5, 1), (5, .iaload, 1), (6, .istore_n 1, 1), (7, .iload_n 1, 1), (8, .iconst 4, 1), (9, .if_icmp .ne 8, 3), (12, .aload_n 0, 1), (13, .invokevirtual 42, 3), (16, .return_, 1), (17, .aload_n 0, 1), (18, .ldc 130, 2), (20, .invokevirtual 145, 3), (23, .aload_n 0, 1), (24, .iconst 4, 1), (25, .iload_n 1, 1), (26, .iadd, 1), (27, .invokevirtual 152, 3), (30, .aload_n 0, 1), (31, .getfield 80, 3), (34, .sipush 166, 3), (37, .iload_n 1, 1), (38, .iadd, 1), (39, .aload_n 0, 1), (40, .bipush 120, 2), (42, .iconst 3, 1), (43, .aload_n 0, 1), (44, .getfield 80, 3), (47, .sipush 170, 3), (50, .bipush 6, 2), (52, .iload_n 1, 1), (53, .imul, 1), (54, .iadd, 1), (55, .invokevirtual 156, 3), (58, .iastore, 1), (59, .aload_n 0, 1), (60, .getfield 80, 3), (63, .iconst 5, 1), (64, .dup2, 1), (65, .iaload, 1), (66, .iconst 1, 1), (67, .iadd, 1), (68, .iastore, 1), (69, .return_, 1)]
theorem b_M_patternLine_0 : (t_M_patternLine_0.all fun q => decide (decode q_M_patternLine.2.1 q.1 = .ok (q.2.1, q.2.2))) = true := by decide +kernel
theorem d_M_patternLine_0 : vm_D q_M_patternLine.2.1 0 1 1 (.aload_n 0) := vm_dD b_M_patternLine_0 0 rfl rfl
theorem d_M_patternLine_1 : vm_D q_M_patternLine.2.1 1 3 4 (.getfield 80) := vm_dD b_M_patternLine_0 1 rfl rfl
theorem d_M_patternLine_4 : vm_D q_M_patternLine.2.1 4 1 5 (.iconst 5) := vm_dD b_M_patternLine_0 2 rfl rfl
theorem d_M_patternLine_5 : vm_D q_M_patternLine.2.1 5 1 6 (.iaload) := vm_dD b_M_patternLine_0 3 rfl rfl
theorem d_M_patternLine_6 : vm_D q_M_patternLine.2.1 6 1 7 (.istore_n 1) := vm_dD b_M_patternLine_0 4 rfl rfl
theorem d_M_patternLine_7 : vm_D q_M_patternLine.2.1 7 1 8 (.iload_n 1) := vm_dD b_M_patternLine_0 5 rfl rfl
theorem d_M_patternLine_8 : vm_D q_M_patternLine.2.1 8 1 9 (.iconst 4) := vm_dD b_M_patternLine_0 6 rfl rfl
theorem d_M_patternLine_9 : vm_B q_M_patternLine.2.1 9 12 17 (fun o => .if_icmp .ne o) := ⟨8, vm_db b_M_patternLine_0 (i := 7) rfl, rfl, by decide⟩
theorem d_M_patternLine_17 : vm_D q_M_patternLine.2.1 17 1 18 (.aload_n 0) := vm_dD b_M_patternLine_0 11 rfl rfl
theorem d_M_patternLine_18 : vm_D q_M_patternLine.2.1 18 2 20 (.ldc 130) := vm_dD b_M_patternLine_0 12 rfl rfl
theorem d_M_patternLine_20 : vm_D q_M_patternLine.2.1 20 3 23 (.invokevirtual 145) := vm_dD b_M_patternLine_0 13 rfl rfl
theorem d_M_patternLine_23 : vm_D q_M_patternLine.2.1 23 1 24 (.aload_n 0) := vm_dD b_M_patternLine_0 14 rfl rfl
theorem d_M_patternLine_24 : vm_D q_M_patternLine.2.1 24 1 25 (.iconst 4) := vm_dD b_M_patternLine_0 15 rfl rfl
theorem d_M_patternLine_25 : vm_D q_M_patternLine.2.1 25 1 26 (.iload_n 1) := vm_dD b_M_patternLine_0 16 rfl rfl
theorem d_M_patternLine_26 : vm_D q_M_patternLine.2.1 26 1 27 (.iadd) := vm_dD b_M_patternLine_0 17 rfl rfl
theorem d_M_patternLine_27 : vm_D q_M_patternLine.2.1 27 3 30 (.invokevirtual 152) := vm_dD b_M_patternLine_0 18 rfl rfl
theorem d_M_patternLine_30 : vm_D q_M_patternLine.2.1 30 1 31 (.aload_n 0) := vm_dD b_M_patternLine_0 19 rfl rfl
theorem d_M_patternLine_31 : vm_D q_M_patternLine.2.1 31 3 34 (.getfield 80) := vm_dD b_M_patternLine_0 20 rfl rfl
theorem d_M_patternLine_34 : vm_D q_M_patternLine.2.1 34 3 37 (.sipush 166) := vm_dD b_M_patternLine_0 21 rfl rfl
theorem d_M_patternLine_37 : vm_D q_M_patternLine.2.1 37 1 38 (.iload_n 1) := vm_dD b_M_patternLine_0 22 rfl rfl
theorem d_M_patternLine_38 : vm_D q_M_patternLine.2.1 38 1 39 (.iadd) := vm_dD b_M_patternLine_0 23 rfl rfl
theorem d_M_patternLine_39 : vm_D q_M_patternLine.2.1 39 1 40 (.aload_n 0) := vm_dD b_M_patternLine_0 24 rfl rfl
theorem d_M_patternLine_40 : vm_D q_M_patternLine.2.1 40 2 42 (.bipush 120) := vm_dD b_M_patternLine_0 25 rfl rfl
theorem d_M_patternLine_42 : vm_D q_M_patternLine.2.1 42 1 43 (.iconst 3) := vm_dD b_M_patternLine_0 26 rfl rfl
theorem d_M_patternLine_43 : vm_D q_M_patternLine.2.1 43 1 44 (.aload_n 0) := vm_dD b_M_patternLine_0 27 rfl rfl
theorem d_M_patternLine_44 : vm_D q_M_patternLine.2.1 44 3 47 (.getfield 80) := vm_dD b_M_patternLine_0 28 rfl rfl
theorem d_M_patternLine_47 : vm_D q_M_patternLine.2.1 47 3 50 (.sipush 170) := vm_dD b_M_patternLine_0 29 rfl rfl
theorem d_M_patternLine_50 : vm_D q_M_patternLine.2.1 50 2 52 (.bipush 6) := vm_dD b_M_patternLine_0 30 rfl rfl
theorem d_M_patternLine_52 : vm_D q_M_patternLine.2.1 52 1 53 (.iload_n 1) := vm_dD b_M_patternLine_0 31 rfl rfl
theorem d_M_patternLine_53 : vm_D q_M_patternLine.2.1 53 1 54 (.imul) := vm_dD b_M_patternLine_0 32 rfl rfl
theorem d_M_patternLine_54 : vm_D q_M_patternLine.2.1 54 1 55 (.iadd) := vm_dD b_M_patternLine_0 33 rfl rfl
theorem d_M_patternLine_55 : vm_D q_M_patternLine.2.1 55 3 58 (.invokevirtual 156) := vm_dD b_M_patternLine_0 34 rfl rfl
theorem d_M_patternLine_58 : vm_D q_M_patternLine.2.1 58 1 59 (.iastore) := vm_dD b_M_patternLine_0 35 rfl rfl
theorem d_M_patternLine_59 : vm_D q_M_patternLine.2.1 59 1 60 (.aload_n 0) := vm_dD b_M_patternLine_0 36 rfl rfl
theorem d_M_patternLine_60 : vm_D q_M_patternLine.2.1 60 3 63 (.getfield 80) := vm_dD b_M_patternLine_0 37 rfl rfl
theorem d_M_patternLine_63 : vm_D q_M_patternLine.2.1 63 1 64 (.iconst 5) := vm_dD b_M_patternLine_0 38 rfl rfl
theorem d_M_patternLine_64 : vm_D q_M_patternLine.2.1 64 1 65 (.dup2) := vm_dD b_M_patternLine_0 39 rfl rfl
theorem d_M_patternLine_65 : vm_D q_M_patternLine.2.1 65 1 66 (.iaload) := vm_dD b_M_patternLine_0 40 rfl rfl
theorem d_M_patternLine_66 : vm_D q_M_patternLine.2.1 66 1 67 (.iconst 1) := vm_dD b_M_patternLine_0 41 rfl rfl
theorem d_M_patternLine_67 : vm_D q_M_patternLine.2.1 67 1 68 (.iadd) := vm_dD b_M_patternLine_0 42 rfl rfl
theorem d_M_patternLine_68 : vm_D q_M_patternLine.2.1 68 1 69 (.iastore) := vm_dD b_M_patternLine_0 43 rfl rfl
theorem d_M_patternLine_69 : vm_D q_M_patternLine.2.1 69 1 70 (.return_) := vm_dD b_M_patternLine_0 44 rfl rfl
theorem d_M_patternLine_12 : vm_D q_M_patternLine.2.1 12 1 13 (.aload_n 0) := vm_dD b_M_patternLine_0 8 rfl rfl
theorem d_M_patternLine_13 : vm_D q_M_patternLine.2.1 13 3 16 (.invokevirtual 42) := vm_dD b_M_patternLine_0 9 rfl rfl
theorem d_M_patternLine_16 : vm_D q_M_patternLine.2.1 16 1 17 (.return_) := vm_dD b_M_patternLine_0 10 rfl rfl
def q_M_avoidLine : vm_Y := ("RepeatFreeModel", cX11_avoidLine, 2, false, [])
def t_M_avoidLine_0 : List (Nat × Instr × Nat) := [(0, .aload_n 0, 1), (1, .ldc 132, 2), (3, .invokevirtual 145, 3), (6, .aload_n 0, 1), (7, .invokevirtual 34, 3), (10, .aload_n 0, 1), (11, .invokevirtual 38, 3), (14, .ifCond .eq 4, 3), (17, .return_, 1), (18, .aload_n 0, 1), (19, .invokevirtual 134, 3), (22, .ifCond .eq 17, 3), (25, .aload_n 0, 1), (26, .iconst 4, 1), (27, .aload_n 0, 1), (28, .getfield 80, 3), (31, .iconst 5, 1), (32, .iaload, 1), (33, .invokevirtual 137, 3), (36, .goto 4, 3), (39, .iconst (-1), 1), (40, .istore_n 1, 1), (41, .iload_n 1, 1), (42, .iconst (-1), 1), (43, .if_icmp .eq 17, 3), (46, .aload_n 0, 1), (47, .getfield 80, 3), (50, .sipush 194, 3), (53, .iload_n 1, 1), (54, .iadd, 1), (55, .iaload, 1), (56, .iconst 1, 1), (57, .if_icmp .ne 8, 3), (60, .aload_n 0, 1), (61, .invokevirtual 42, 3), (64, .return_, 1), (65, .aload_n 0, 1), (66, .dup, 1), (67, .getfield 21, 3), (70, .aload_n 0, 1), (71, .invokevirtual 45, 3), (74, .iadd, 1), (75, .putfield 21, 3), (78, .aload_n 0, 1), (79, .getfield 80, 3), (82, .sipush 194, 3), (85, .iload_n 1, 1), (86, .iadd, 1), (87, .iconst 1, 1), (88, .iastore, 1), (89, .return_, 1)]
theorem b_M_avoidLine_0 : (t_M_avoidLine_0.all fun q => decide (decode q_M_avoidLine.2.1 q.1 = .ok (q.2.1, q.2.2))) = true := by decide +kernel
theorem d_M_avoidLine_0 : vm_D q_M_avoidLine.2.1 0 1 1 (.aload_n 0) := vm_dD b_M_avoidLine_0 0 rfl rfl
theorem d_M_avoidLine_1 : vm_D q_M_avoidLine.2.1 1 2 3 (.ldc 132) := vm_dD b_M_avoidLine_0 1 rfl rfl
theorem d_M_avoidLine_3 : vm_D q_M_avoidLine.2.1 3 3 6 (.invokevirtual 145) := vm_dD b_M_avoidLine_0 2 rfl rfl
theorem d_M_avoidLine_6 : vm_D q_M_avoidLine.2.1 6 1 7 (.aload_n 0) := vm_dD b_M_avoidLine_0 3 rfl rfl
theorem d_M_avoidLine_7 : vm_D q_M_avoidLine.2.1 7 3 10 (.invokevirtual 34) := vm_dD b_M_avoidLine_0 4 rfl rfl
theorem d_M_avoidLine_10 : vm_D q_M_avoidLine.2.1 10 1 11 (.aload_n 0) := vm_dD b_M_avoidLine_0 5 rfl rfl
theorem d_M_avoidLine_11 : vm_D q_M_avoidLine.2.1 11 3 14 (.invokevirtual 38) := vm_dD b_M_avoidLine_0 6 rfl rfl
theorem d_M_avoidLine_14 : vm_B q_M_avoidLine.2.1 14 17 18 (fun o => .ifCond .eq o) := ⟨4, vm_db b_M_avoidLine_0 (i := 7) rfl, rfl, by decide⟩
theorem d_M_avoidLine_18 : vm_D q_M_avoidLine.2.1 18 1 19 (.aload_n 0) := vm_dD b_M_avoidLine_0 9 rfl rfl
theorem d_M_avoidLine_19 : vm_D q_M_avoidLine.2.1 19 3 22 (.invokevirtual 134) := vm_dD b_M_avoidLine_0 10 rfl rfl
theorem d_M_avoidLine_22 : vm_B q_M_avoidLine.2.1 22 25 39 (fun o => .ifCond .eq o) := ⟨17, vm_db b_M_avoidLine_0 (i := 11) rfl, rfl, by decide⟩
theorem d_M_avoidLine_40 : vm_D q_M_avoidLine.2.1 40 1 41 (.istore_n 1) := vm_dD b_M_avoidLine_0 21 rfl rfl
theorem d_M_avoidLine_41 : vm_D q_M_avoidLine.2.1 41 1 42 (.iload_n 1) := vm_dD b_M_avoidLine_0 22 rfl rfl
theorem d_M_avoidLine_42 : vm_D q_M_avoidLine.2.1 42 1 43 (.iconst (-1)) := vm_dD b_M_avoidLine_0 23 rfl rfl
theorem d_M_avoidLine_43 : vm_B q_M_avoidLine.2.1 43 46 60 (fun o => .if_icmp .eq o) := ⟨17, vm_db b_M_avoidLine_0 (i := 24) rfl, rfl, by decide⟩
theorem d_M_avoidLine_60 : vm_D q_M_avoidLine.2.1 60 1 61 (.aload_n 0) := vm_dD b_M_avoidLine_0 33 rfl rfl
theorem d_M_avoidLine_61 : vm_D q_M_avoidLine.2.1 61 3 64 (.invokevirtual 42) := vm_dD b_M_avoidLine_0 34 rfl rfl
theorem d_M_avoidLine_64 : vm_D q_M_avoidLine.2.1 64 1 65 (.return_) := vm_dD b_M_avoidLine_0 35 rfl rfl
theorem d_M_avoidLine_46 : vm_D q_M_avoidLine.2.1 46 1 47 (.aload_n 0) := vm_dD b_M_avoidLine_0 25 rfl rfl
theorem d_M_avoidLine_47 : vm_D q_M_avoidLine.2.1 47 3 50 (.getfield 80) := vm_dD b_M_avoidLine_0 26 rfl rfl
theorem d_M_avoidLine_50 : vm_D q_M_avoidLine.2.1 50 3 53 (.sipush 194) := vm_dD b_M_avoidLine_0 27 rfl rfl
theorem d_M_avoidLine_53 : vm_D q_M_avoidLine.2.1 53 1 54 (.iload_n 1) := vm_dD b_M_avoidLine_0 28 rfl rfl
theorem d_M_avoidLine_54 : vm_D q_M_avoidLine.2.1 54 1 55 (.iadd) := vm_dD b_M_avoidLine_0 29 rfl rfl
theorem d_M_avoidLine_55 : vm_D q_M_avoidLine.2.1 55 1 56 (.iaload) := vm_dD b_M_avoidLine_0 30 rfl rfl
theorem d_M_avoidLine_56 : vm_D q_M_avoidLine.2.1 56 1 57 (.iconst 1) := vm_dD b_M_avoidLine_0 31 rfl rfl
theorem d_M_avoidLine_57 : vm_B q_M_avoidLine.2.1 57 60 65 (fun o => .if_icmp .ne o) := ⟨8, vm_db b_M_avoidLine_0 (i := 32) rfl, rfl, by decide⟩
theorem d_M_avoidLine_65 : vm_D q_M_avoidLine.2.1 65 1 66 (.aload_n 0) := vm_dD b_M_avoidLine_0 36 rfl rfl
theorem d_M_avoidLine_66 : vm_D q_M_avoidLine.2.1 66 1 67 (.dup) := vm_dD b_M_avoidLine_0 37 rfl rfl
theorem d_M_avoidLine_67 : vm_D q_M_avoidLine.2.1 67 3 70 (.getfield 21) := vm_dD b_M_avoidLine_0 38 rfl rfl
theorem d_M_avoidLine_70 : vm_D q_M_avoidLine.2.1 70 1 71 (.aload_n 0) := vm_dD b_M_avoidLine_0 39 rfl rfl
theorem d_M_avoidLine_71 : vm_D q_M_avoidLine.2.1 71 3 74 (.invokevirtual 45) := vm_dD b_M_avoidLine_0 40 rfl rfl
theorem d_M_avoidLine_74 : vm_D q_M_avoidLine.2.1 74 1 75 (.iadd) := vm_dD b_M_avoidLine_0 41 rfl rfl
theorem d_M_avoidLine_75 : vm_D q_M_avoidLine.2.1 75 3 78 (.putfield 21) := vm_dD b_M_avoidLine_0 42 rfl rfl
theorem d_M_avoidLine_78 : vm_D q_M_avoidLine.2.1 78 1 79 (.aload_n 0) := vm_dD b_M_avoidLine_0 43 rfl rfl
theorem d_M_avoidLine_79 : vm_D q_M_avoidLine.2.1 79 3 82 (.getfield 80) := vm_dD b_M_avoidLine_0 44 rfl rfl
theorem d_M_avoidLine_82 : vm_D q_M_avoidLine.2.1 82 3 85 (.sipush 194) := vm_dD b_M_avoidLine_0 45 rfl rfl
theorem d_M_avoidLine_85 : vm_D q_M_avoidLine.2.1 85 1 86 (.iload_n 1) := vm_dD b_M_avoidLine_0 46 rfl rfl
theorem d_M_avoidLine_86 : vm_D q_M_avoidLine.2.1 86 1 87 (.iadd) := vm_dD b_M_avoidLine_0 47 rfl rfl
theorem d_M_avoidLine_87 : vm_D q_M_avoidLine.2.1 87 1 88 (.iconst 1) := vm_dD b_M_avoidLine_0 48 rfl rfl
theorem d_M_avoidLine_88 : vm_D q_M_avoidLine.2.1 88 1 89 (.iastore) := vm_dD b_M_avoidLine_0 49 rfl rfl
theorem d_M_avoidLine_89 : vm_D q_M_avoidLine.2.1 89 1 90 (.return_) := vm_dD b_M_avoidLine_0 50 rfl rfl
theorem d_M_avoidLine_39 : vm_D q_M_avoidLine.2.1 39 1 40 (.iconst (-1)) := vm_dD b_M_avoidLine_0 20 rfl rfl
theorem d_M_avoidLine_25 : vm_D q_M_avoidLine.2.1 25 1 26 (.aload_n 0) := vm_dD b_M_avoidLine_0 12 rfl rfl
theorem d_M_avoidLine_26 : vm_D q_M_avoidLine.2.1 26 1 27 (.iconst 4) := vm_dD b_M_avoidLine_0 13 rfl rfl
theorem d_M_avoidLine_27 : vm_D q_M_avoidLine.2.1 27 1 28 (.aload_n 0) := vm_dD b_M_avoidLine_0 14 rfl rfl
theorem d_M_avoidLine_28 : vm_D q_M_avoidLine.2.1 28 3 31 (.getfield 80) := vm_dD b_M_avoidLine_0 15 rfl rfl
theorem d_M_avoidLine_31 : vm_D q_M_avoidLine.2.1 31 1 32 (.iconst 5) := vm_dD b_M_avoidLine_0 16 rfl rfl
theorem d_M_avoidLine_32 : vm_D q_M_avoidLine.2.1 32 1 33 (.iaload) := vm_dD b_M_avoidLine_0 17 rfl rfl
theorem d_M_avoidLine_33 : vm_D q_M_avoidLine.2.1 33 3 36 (.invokevirtual 137) := vm_dD b_M_avoidLine_0 18 rfl rfl
theorem d_M_avoidLine_36 : ∃ off : Int, decode q_M_avoidLine.2.1 36 = .ok (.goto off, 3) ∧ ((36 : Nat) : Int) + off = ((40 : Nat) : Int) := ⟨4, vm_db b_M_avoidLine_0 (i := 19) rfl, by decide⟩
theorem d_M_avoidLine_17 : vm_D q_M_avoidLine.2.1 17 1 18 (.return_) := vm_dD b_M_avoidLine_0 8 rfl rfl
def q_M_line : vm_Y := ("RepeatFreeModel", cX11_line, 2, false, [])
def t_M_line_0 : List (Nat × Instr × Nat) := [(0, .aload_n 0, 1), (1, .invokevirtual 34, 3), (4, .aload_n 0, 1), (5, .getfield 80, 3), (8, .iconst 0, 1), (9, .iaload, 1), (10, .ifCond .le 7, 3), (13, .iconst 1, 1), (14, .goto 4, 3), (17, .iconst 0, 1), (18, .istore_n 1, 1), (19, .iload_n 1, 1), (20, .ifCond .ne 27, 3), (23, .aload_n 0, 1), (24, .ldc 118, 2), (26, .invokevirtual 62, 3), (29, .ifCond .eq 18, 3), (32, .aload_n 0, 1), (33, .getfield 80, 3), (36, .iconst 0, 1), (37, .aload_n 0, 1), (38, .iconst 2, 1), (39, .iconst 4, 1), (40, .invokevirtual 149, 3), (43, .iastore, 1), (44, .goto 87, 3), (47, .iload_n 1, 1), (48, .ifCond .eq 19, 3), (51, .aload_n 0, 1), (52, .ldc 120, 2), (54, .invokevirtual 58, 3), (57, .ifCond .eq 10, 3), (60, .aload_n 0, 1), (61, .invokevirtual 159, 3), (64, .goto 67, 3), (67, .iload_n 1, 1), (68, .ifCond .eq 19, 3), (71, .aload_n 0, 1), (72, .ldc 128, 2), (74, .invokevirtual 58, 3), (77, .ifCond .eq 10, 3), (80, .aload_n 0, 1), (81, .invokevirtual 162, 3), (84, .goto 47, 3), (87, .iload_n 1, 1), (88, .ifCond .eq 19, 3), (91, .aload_n 0, 1), (92, .ldc 130, 2), (94, .invokevirtual 58, 3), (97, .ifCond .eq 10, 3), (100, .aload_n 0, 1), (101, .invokevirtual 165, 3), (104, .goto 27, 3), (107, .iload_n 1, 1), (108, .ifCond .eq 19, 3), (111, .aload_n 0, 1), (112, .ldc 132, 2), (114, .invokevirtual 58, 3), (117, .ifCond .eq 10, 3), (120, .aload_n 0, 1)]
theorem b_M_line_0 : (t_M_line_0.all fun q => decide (decode q_M_line.2.1 q.1 = .ok (q.2.1, q.2.2))) = true := by decide +kernel
def t_M_line_1 : List (Nat × Instr × Nat) := [(121, .invokevirtual 168, 3), (124, .goto 7, 3), (127, .aload_n 0, 1), (128, .invokevirtual 42, 3), (131, .aload_n 0, 1), (132, .bipush 59, 2), (134, .invokevirtual 171, 3), (137, .return_, 1)]
theorem b_M_line_1 : (t_M_line_1.all fun q => decide (decode q_M_line.2.1 q.1 = .ok (q.2.1, q.2.2))) = true := by decide +kernel
theorem d_M_line_0 : vm_D q_M_line.2.1 0 1 1 (.aload_n 0) := vm_dD b_M_line_0 0 rfl rfl
theorem d_M_line_1 : vm_D q_M_line.2.1 1 3 4 (.invokevirtual 34) := vm_dD b_M_line_0 1 rfl rfl
theorem d_M_line_4 : vm_D q_M_line.2.1 4 1 5 (.aload_n 0) := vm_dD b_M_line_0 2 rfl rfl
theorem d_M_line_5 : vm_D q_M_line.2.1 5 3 8 (.getfield 80) := vm_dD b_M_line_0 3 rfl rfl
theorem d_M_line_8 : vm_D q_M_line.2.1 8 1 9 (.iconst 0) := vm_dD b_M_line_0 4 rfl rfl
theorem d_M_line_9 : vm_D q_M_line.2.1 9 1 10 (.iaload) := vm_dD b_M_line_0 5 rfl rfl
theorem d_M_line_10 : vm_B q_M_line.2.1 10 13 17 (fun o => .ifCond .le o) := ⟨7, vm_db b_M_line_0 (i := 6) rfl, rfl, by decide⟩
theorem d_M_line_18 : vm_D q_M_line.2.1 18 1 19 (.istore_n 1) := vm_dD b_M_line_0 10 rfl rfl
theorem d_M_line_19 : vm_D q_M_line.2.1 19 1 20 (.iload_n 1) := vm_dD b_M_line_0 11 rfl rfl
theorem d_M_line_20 : vm_B q_M_line.2.1 20 23 47 (fun o => .ifCond .ne o) := ⟨27, vm_db b_M_line_0 (i := 12) rfl, rfl, by decide⟩
theorem d_M_line_131 : vm_D q_M_line.2.1 131 1 132 (.aload_n 0) := vm_dD b_M_line_1 4 rfl rfl
theorem d_M_line_132 : vm_D q_M_line.2.1 132 2 134 (.bipush 59) := vm_dD b_M_line_1 5 rfl rfl
theorem d_M_line_134 : vm_D q_M_line.2.1 134 3 137 (.invokevirtual 171) := vm_dD b_M_line_1 6 rfl rfl
theorem d_M_line_137 : vm_D q_M_line.2.1 137 1 138 (.return_) := vm_dD b_M_line_1 7 rfl rfl
theorem d_M_line_47 : vm_D q_M_line.2.1 47 1 48 (.iload_n 1) := vm_dD b_M_line_0 26 rfl rfl
theorem d_M_line_48 : vm_B q_M_line.2.1 48 51 67 (fun o => .ifCond .eq o) := ⟨19, vm_db b_M_line_0 (i := 27) rfl, rfl, by decide⟩
theorem d_M_line_67 : vm_D q_M_line.2.1 67 1 68 (.iload_n 1) := vm_dD b_M_line_0 35 rfl rfl
theorem d_M_line_68 : vm_B q_M_line.2.1 68 71 87 (fun o => .ifCond .eq o) := ⟨19, vm_db b_M_line_0 (i := 36) rfl, rfl, by decide⟩
theorem d_M_line_87 : vm_D q_M_line.2.1 87 1 88 (.iload_n 1) := vm_dD b_M_line_0 44 rfl rfl
theorem d_M_line_88 : vm_B q_M_line.2.1 88 91 107 (fun o => .ifCond .eq o) := ⟨19, vm_db b_M_line_0 (i := 45) rfl, rfl, by decide⟩
theorem d_M_line_107 : vm_D q_M_line.2.1 107 1 108 (.iload_n 1) := vm_dD b_M_line_0 53 rfl rfl
theorem d_M_line_108 : vm_B q_M_line.2.1 108 111 127 (fun o => .ifCond .eq o) := ⟨19, vm_db b_M_line_0 (i := 54) rfl, rfl, by decide⟩
theorem d_M_line_127 : vm_D q_M_line.2.1 127 1 128 (.aload_n 0) := vm_dD b_M_line_1 2 rfl rfl
theorem d_M_line_128 : vm_D q_M_line.2.1 128 3 131 (.invokevirtual 42) := vm_dD b_M_line_1 3 rfl rfl
theorem d_M_line_111 : vm_D q_M_line.2.1 111 1 112 (.aload_n 0) := vm_dD b_M_line_0 55 rfl rfl
theorem d_M_line_112 : vm_D q_M_line.2.1 112 2 114 (.ldc 132) := vm_dD b_M_line_0 56 rfl rfl
theorem d_M_line_114 : vm_D q_M_line.2.1 114 3 117 (.invokevirtual 58) := vm_dD b_M_line_0 57 rfl rfl
theorem d_M_line_117 : vm_B q_M_line.2.1 117 120 127 (fun o => .ifCond .eq o) := ⟨10, vm_db b_M_line_0 (i := 58) rfl, rfl, by decide⟩
theorem d_M_line_120 : vm_D q_M_line.2.1 120 1 121 (.aload_n 0) := vm_dD b_M_line_0 59 rfl rfl
theorem d_M_line_121 : vm_D q_M_line.2.1 121 3 124 (.invokevirtual 168) := vm_dD b_M_line_1 0 rfl rfl
theorem d_M_line_124 : ∃ off : Int, decode q_M_line.2.1 124 = .ok (.goto off, 3) ∧ ((124 : Nat) : Int) + off = ((131 : Nat) : Int) := ⟨7, vm_db b_M_line_1 (i := 1) rfl, by decide⟩
theorem d_M_line_91 : vm_D q_M_line.2.1 91 1 92 (.aload_n 0) := vm_dD b_M_line_0 46 rfl rfl
theorem d_M_line_92 : vm_D q_M_line.2.1 92 2 94 (.ldc 130) := vm_dD b_M_line_0 47 rfl rfl
theorem d_M_line_94 : vm_D q_M_line.2.1 94 3 97 (.invokevirtual 58) := vm_dD b_M_line_0 48 rfl rfl
theorem d_M_line_97 : vm_B q_M_line.2.1 97 100 107 (fun o => .ifCond .eq o) := ⟨10, vm_db b_M_line_0 (i := 49) rfl, rfl, by decide⟩
theorem d_M_line_100 : vm_D q_M_line.2.1 100 1 101 (.aload_n 0) := vm_dD b_M_line_0 50 rfl rfl
theorem d_M_line_101 : vm_D q_M_line.2.1 101 3 104 (.invokevirtual 165) := vm_dD b_M_line_0 51 rfl rfl
theorem d_M_line_104 : ∃ off : Int, decode q_M_line.2.1 104 = .ok (.goto off, 3) ∧ ((104 : Nat) : Int) + off = ((131 : Nat) : Int) := ⟨27, vm_db b_M_line_0 (i := 52) rfl, by decide⟩
theorem d_M_line_71 : vm_D q_M_line.2.1 71 1 72 (.aload_n 0) := vm_dD b_M_line_0 37 rfl rfl
theorem d_M_line_72 : vm_D q_M_line.2.1 72 2 74 (.ldc 128) := vm_dD b_M_line_0 38 rfl rfl
theorem d_M_line_74 : vm_D q_M_line.2.1 74 3 77 (.invokevirtual 58) := vm_dD b_M_line_0 39 rfl rfl
theorem d_M_line_77 : vm_B q_M_line.2.1 77 80 87 (fun o => .ifCond .eq o) := ⟨10, vm_db b_M_line_0 (i := 40) rfl, rfl, by decide⟩
theorem d_M_line_80 : vm_D q_M_line.2.1 80 1 81 (.aload_n 0) := vm_dD b_M_line_0 41 rfl rfl
theorem d_M_line_81 : vm_D q_M_line.2.1 81 3 84 (.invokevirtual 162) := vm_dD b_M_line_0 42 rfl rfl
theorem d_M_line_84 : ∃ off : Int, decode q_M_line.2.1 84 = .ok (.goto off, 3) ∧ ((84 : Nat) : Int) + off = ((131 : Nat) : Int) := ⟨47, vm_db b_M_line_0 (i := 43) rfl, by decide⟩
theorem d_M_line_51 : vm_D q_M_line.2.1 51 1 52 (.aload_n 0) := vm_dD b_M_line_0 28 rfl rfl
theorem d_M_line_52 : vm_D q_M_line.2.1 52 2 54 (.ldc 120) := vm_dD b_M_line_0 29 rfl rfl
theorem d_M_line_54 : vm_D q_M_line.2.1 54 3 57 (.invokevirtual 58) := vm_dD b_M_line_0 30 rfl rfl
theorem d_M_line_57 : vm_B q_M_line.2.1 57 60 67 (fun o => .ifCond .eq o) := ⟨10, vm_db b_M_line_0 (i := 31) rfl, rfl, by decide⟩
theorem d_M_line_60 : vm_D q_M_line.2.1 60 1 61 (.aload_n 0) := vm_dD b_M_line_0 32 rfl rfl
theorem d_M_line_61 : vm_D q_M_line.2.1 61 3 64 (.invokevirtual 159) := vm_dD b_M_line_0 33 rfl rfl
theorem d_M_line_64 : ∃ off : Int, decode q_M_line.2.1 64 = .ok (.goto off, 3) ∧ ((64 : Nat) : Int) + off = ((131 : Nat) : Int) := ⟨67, vm_db b_M_line_0 (i := 34) rfl, by decide⟩
theorem d_M_line_23 : vm_D q_M_line.2.1 23 1 24 (.aload_n 0) := vm_dD b_M_line_0 13 rfl rfl
theorem d_M_line_24 : vm_D q_M_line.2.1 24 2 26 (.ldc 118) := vm_dD b_M_line_0 14 rfl rfl
theorem d_M_line_26 : vm_D q_M_line.2.1 26 3 29 (.invokevirtual 62) := vm_dD b_M_line_0 15 rfl rfl
theorem d_M_line_29 : vm_B q_M_line.2.1 29 32 47 (fun o => .ifCond .eq o) := ⟨18, vm_db b_M_line_0 (i := 16) rfl, rfl, by decide⟩
theorem d_M_line_32 : vm_D q_M_line.2.1 32 1 33 (.aload_n 0) := vm_dD b_M_line_0 17 rfl rfl
theorem d_M_line_33 : vm_D q_M_line.2.1 33 3 36 (.getfield 80) := vm_dD b_M_line_0 18 rfl rfl
theorem d_M_line_36 : vm_D q_M_line.2.1 36 1 37 (.iconst 0) := vm_dD b_M_line_0 19 rfl rfl
theorem d_M_line_37 : vm_D q_M_line.2.1 37 1 38 (.aload_n 0) := vm_dD b_M_line_0 20 rfl rfl
theorem d_M_line_38 : vm_D q_M_line.2.1 38 1 39 (.iconst 2) := vm_dD b_M_line_0 21 rfl rfl
theorem d_M_line_39 : vm_D q_M_line.2.1 39 1 40 (.iconst 4) := vm_dD b_M_line_0 22 rfl rfl
theorem d_M_line_40 : vm_D q_M_line.2.1 40 3 43 (.invokevirtual 149) := vm_dD b_M_line_0 23 rfl rfl
theorem d_M_line_43 : vm_D q_M_line.2.1 43 1 44 (.iastore) := vm_dD b_M_line_0 24 rfl rfl
theorem d_M_line_44 : ∃ off : Int, decode q_M_line.2.1 44 = .ok (.goto off, 3) ∧ ((44 : Nat) : Int) + off = ((131 : Nat) : Int) := ⟨87, vm_db b_M_line_0 (i := 25) rfl, by decide⟩
theorem d_M_line_17 : vm_D q_M_line.2.1 17 1 18 (.iconst 0) := vm_dD b_M_line_0 9 rfl rfl
theorem d_M_line_13 : vm_D q_M_line.2.1 13 1 14 (.iconst 1) := vm_dD b_M_line_0 7 rfl rfl
theorem d_M_line_14 : ∃ off : Int, decode q_M_line.2.1 14 = .ok (.goto off, 3) ∧ ((14 : Nat) : Int) + off = ((18 : Nat) : Int) := ⟨4, vm_db b_M_line_0 (i := 8) rfl, by decide⟩
def q_M_read : vm_Y := ("RepeatFreeModel", cX11_read, 2, false, [])
def t_M_read_0 : List (Nat × Instr × Nat) := [(0, .aload_n 0, 1), (1, .iconst 0, 1), (2, .putfield 3, 3), (5, .aload_n 0, 1), (6, .invokevirtual 174, 3), (9, .iconst 0, 1), (10, .istore_n 1, 1), (11, .iload_n 1, 1), (12, .sipush 198, 3), (15, .if_icmp .ge 16, 3), (18, .aload_n 0, 1), (19, .getfield 80, 3), (22, .iload_n 1, 1), (23, .iconst 0, 1), (24, .iastore, 1), (25, .iinc 1 1, 3), (28, .goto (-17), 3), (31, .aload_n 0, 1), (32, .iconst 0, 1), (33, .putfield 141, 3), (36, .aload_n 0, 1), (37, .invokevirtual 34, 3), (40, .aload_n 0, 1), (41, .invokevirtual 38, 3), (44, .ifCond .ne 25, 3), (47, .aload_n 0, 1), (48, .getfield 21, 3), (51, .aload_n 0, 1), (52, .getfield 18, 3), (55, .if_icmp .ge 14, 3), (58, .aload_n 0, 1), (59, .invokevirtual 177, 3), (62, .aload_n 0, 1), (63, .invokevirtual 34, 3), (66, .goto (-26), 3), (69, .aload_n 0, 1), (70, .invokevirtual 38, 3), (73, .ifCond .ne 16, 3), (76, .aload_n 0, 1), (77, .getfield 80, 3), (80, .iconst 0, 1), (81, .iaload, 1), (82, .ifCond .ne 7, 3), (85, .aload_n 0, 1), (86, .invokevirtual 42, 3), (89, .aload_n 0, 1), (90, .aload_n 0, 1), (91, .getfield 24, 3), (94, .putfield 69, 3), (97, .aload_n 0, 1), (98, .aload_n 0, 1), (99, .invokevirtual 38, 3), (102, .iconst 1, 1), (103, .invokevirtual 180, 3), (106, .ifCond .eq 5, 3), (109, .iconst 0, 1), (110, .ireturn, 1), (111, .iconst 0, 1), (112, .istore_n 1, 1), (113, .iload_n 1, 1)]
theorem b_M_read_0 : (t_M_read_0.all fun q => decide (decode q_M_read.2.1 q.1 = .ok (q.2.1, q.2.2))) = true := by decide +kernel
def t_M_read_1 : List (Nat × Instr × Nat) := [(114, .sipush 198, 3), (117, .if_icmp .ge 21, 3), (120, .aload_n 0, 1), (121, .getfield 77, 3), (124, .iload_n 1, 1), (125, .aload_n 0, 1), (126, .getfield 80, 3), (129, .iload_n 1, 1), (130, .iaload, 1), (131, .iastore, 1), (132, .iinc 1 1, 3), (135, .goto (-22), 3), (138, .aload_n 0, 1), (139, .iconst 0, 1), (140, .putfield 184, 3), (143, .aload_n 0, 1), (144, .iconst 0, 1), (145, .putfield 187, 3), (148, .aload_n 0, 1), (149, .getfield 77, 3), (152, .iconst 0, 1), (153, .iaload, 1), (154, .ireturn, 1)]
theorem b_M_read_1 : (t_M_read_1.all fun q => decide (decode q_M_read.2.1 q.1 = .ok (q.2.1, q.2.2))) = true := by decide +kernel
theorem d_M_read_0 : vm_D q_M_read.2.1 0 1 1 (.aload_n 0) := vm_dD b_M_read_0 0 rfl rfl
theorem d_M_read_1 : vm_D q_M_read.2.1 1 1 2 (.iconst 0) := vm_dD b_M_read_0 1 rfl rfl
theorem d_M_read_2 : vm_D q_M_read.2.1 2 3 5 (.putfield 3) := vm_dD b_M_read_0 2 rfl rfl
theorem d_M_read_5 : vm_D q_M_read.2.1 5 1 6 (.aload_n 0) := vm_dD b_M_read_0 3 rfl rfl
theorem d_M_read_6 : vm_D q_M_read.2.1 6 3 9 (.invokevirtual 174) := vm_dD b_M_read_0 4 rfl rfl
theorem d_M_read_9 : vm_D q_M_read.2.1 9 1 10 (.iconst 0) := vm_dD b_M_read_0 5 rfl rfl
theorem d_M_read_10 : vm_D q_M_read.2.1 10 1 11 (.istore_n 1) := vm_dD b_M_read_0 6 rfl rfl
theorem d_M_read_11 : vm_D q_M_read.2.1 11 1 12 (.iload_n 1) := vm_dD b_M_read_0 7 rfl rfl
theorem d_M_read_12 : vm_D q_M_read.2.1 12 3 15 (.sipush 198) := vm_dD b_M_read_0 8 rfl rfl
theorem d_M_read_15 : vm_B q_M_read.2.1 15 18 31 (fun o => .if_icmp .ge o) := ⟨16, vm_db b_M_read_0 (i := 9) rfl, rfl, by decide⟩
theorem d_M_read_18 : vm_D q_M_read.2.1 18 1 19 (.aload_n 0) := vm_dD b_M_read_0 10 rfl rfl
theorem d_M_read_19 : vm_D q_M_read.2.1 19 3 22 (.getfield 80) := vm_dD b_M_read_0 11 rfl rfl
theorem d_M_read_22 : vm_D q_M_read.2.1 22 1 23 (.iload_n 1) := vm_dD b_M_read_0 12 rfl rfl
theorem d_M_read_23 : vm_D q_M_read.2.1 23 1 24 (.iconst 0) := vm_dD b_M_read_0 13 rfl rfl
theorem d_M_read_24 : vm_D q_M_read.2.1 24 1 25 (.iastore) := vm_dD b_M_read_0 14 rfl rfl
theorem d_M_read_25 : vm_D q_M_read.2.1 25 3 28 (.iinc 1 1) := vm_dD b_M_read_0 15 rfl rfl
theorem d_M_read_28 : ∃ off : Int, decode q_M_read.2.1 28 = .ok (.goto off, 3) ∧ ((28 : Nat) : Int) + off = ((11 : Nat) : Int) := ⟨-17, vm_db b_M_read_0 (i := 16) rfl, by decide⟩
theorem d_M_read_31 : vm_D q_M_read.2.1 31 1 32 (.aload_n 0) := vm_dD b_M_read_0 17 rfl rfl
theorem d_M_read_32 : vm_D q_M_read.2.1 32 1 33 (.iconst 0) := vm_dD b_M_read_0 18 rfl rfl
theorem d_M_read_33 : vm_D q_M_read.2.1 33 3 36 (.putfield 141) := vm_dD b_M_read_0 19 rfl rfl
theorem d_M_read_36 : vm_D q_M_read.2.1 36 1 37 (.aload_n 0) := vm_dD b_M_read_0 20 rfl rfl
theorem d_M_read_37 : vm_D q_M_read.2.1 37 3 40 (.invokevirtual 34) := vm_dD b_M_read_0 21 rfl rfl
theorem d_M_read_40 : vm_D q_M_read.2.1 40 1 41 (.aload_n 0) := vm_dD b_M_read_0 22 rfl rfl
theorem d_M_read_41 : vm_D q_M_read.2.1 41 3 44 (.invokevirtual 38) := vm_dD b_M_read_0 23 rfl rfl
theorem d_M_read_44 : vm_B q_M_read.2.1 44 47 69 (fun o => .ifCond .ne o) := ⟨25, vm_db b_M_read_0 (i := 24) rfl, rfl, by decide⟩
theorem d_M_read_47 : vm_D q_M_read.2.1 47 1 48 (.aload_n 0) := vm_dD b_M_read_0 25 rfl rfl
theorem d_M_read_48 : vm_D q_M_read.2.1 48 3 51 (.getfield 21) := vm_dD b_M_read_0 26 rfl rfl
theorem d_M_read_51 : vm_D q_M_read.2.1 51 1 52 (.aload_n 0) := vm_dD b_M_read_0 27 rfl rfl
theorem d_M_read_52 : vm_D q_M_read.2.1 52 3 55 (.getfield 18) := vm_dD b_M_read_0 28 rfl rfl
theorem d_M_read_55 : vm_B q_M_read.2.1 55 58 69 (fun o => .if_icmp .ge o) := ⟨14, vm_db b_M_read_0 (i := 29) rfl, rfl, by decide⟩
theorem d_M_read_58 : vm_D q_M_read.2.1 58 1 59 (.aload_n 0) := vm_dD b_M_read_0 30 rfl rfl
theorem d_M_read_59 : vm_D q_M_read.2.1 59 3 62 (.invokevirtual 177) := vm_dD b_M_read_0 31 rfl rfl
theorem d_M_read_62 : vm_D q_M_read.2.1 62 1 63 (.aload_n 0) := vm_dD b_M_read_0 32 rfl rfl
theorem d_M_read_63 : vm_D q_M_read.2.1 63 3 66 (.invokevirtual 34) := vm_dD b_M_read_0 33 rfl rfl
theorem d_M_read_66 : ∃ off : Int, decode q_M_read.2.1 66 = .ok (.goto off, 3) ∧ ((66 : Nat) : Int) + off = ((40 : Nat) : Int) := ⟨-26, vm_db b_M_read_0 (i := 34) rfl, by decide⟩
theorem d_M_read_69 : vm_D q_M_read.2.1 69 1 70 (.aload_n 0) := vm_dD b_M_read_0 35 rfl rfl
theorem d_M_read_70 : vm_D q_M_read.2.1 70 3 73 (.invokevirtual 38) := vm_dD b_M_read_0 36 rfl rfl
theorem d_M_read_73 : vm_B q_M_read.2.1 73 76 89 (fun o => .ifCond .ne o) := ⟨16, vm_db b_M_read_0 (i := 37) rfl, rfl, by decide⟩
theorem d_M_read_89 : vm_D q_M_read.2.1 89 1 90 (.aload_n 0) := vm_dD b_M_read_0 45 rfl rfl
theorem d_M_read_90 : vm_D q_M_read.2.1 90 1 91 (.aload_n 0) := vm_dD b_M_read_0 46 rfl rfl
theorem d_M_read_91 : vm_D q_M_read.2.1 91 3 94 (.getfield 24) := vm_dD b_M_read_0 47 rfl rfl
theorem d_M_read_94 : vm_D q_M_read.2.1 94 3 97 (.putfield 69) := vm_dD b_M_read_0 48 rfl rfl
theorem d_M_read_97 : vm_D q_M_read.2.1 97 1 98 (.aload_n 0) := vm_dD b_M_read_0 49 rfl rfl
theorem d_M_read_98 : vm_D q_M_read.2.1 98 1 99 (.aload_n 0) := vm_dD b_M_read_0 50 rfl rfl
theorem d_M_read_99 : vm_D q_M_read.2.1 99 3 102 (.invokevirtual 38) := vm_dD b_M_read_0 51 rfl rfl
theorem d_M_read_102 : vm_D q_M_read.2.1 102 1 103 (.iconst 1) := vm_dD b_M_read_0 52 rfl rfl
theorem d_M_read_103 : vm_D q_M_read.2.1 103 3 106 (.invokevirtual 180) := vm_dD b_M_read_0 53 rfl rfl
theorem d_M_read_106 : vm_B q_M_read.2.1 106 109 111 (fun o => .ifCond .eq o) := ⟨5, vm_db b_M_read_0 (i := 54) rfl, rfl, by decide⟩
theorem d_M_read_111 : vm_D q_M_read.2.1 111 1 112 (.iconst 0) := vm_dD b_M_read_0 57 rfl rfl
theorem d_M_read_112 : vm_D q_M_read.2.1 112 1 113 (.istore_n 1) := vm_dD b_M_read_0 58 rfl rfl
theorem d_M_read_113 : vm_D q_M_read.2.1 113 1 114 (.iload_n 1) := vm_dD b_M_read_0 59 rfl rfl
theorem d_M_read_114 : vm_D q_M_read.2.1 114 3 117 (.sipush 198) := vm_dD b_M_read_1 0 rfl rfl
theorem d_M_read_117 : vm_B q_M_read.2.1 117 120 138 (fun o => .if_icmp .ge o) := ⟨21, vm_db b_M_read_1 (i := 1) rfl, rfl, by decide⟩
theorem d_M_read_120 : vm_D q_M_read.2.1 120 1 121 (.aload_n 0) := vm_dD b_M_read_1 2 rfl rfl
theorem d_M_read_121 : vm_D q_M_read.2.1 121 3 124 (.getfield 77) := vm_dD b_M_read_1 3 rfl rfl
theorem d_M_read_124 : vm_D q_M_read.2.1 124 1 125 (.iload_n 1) := vm_dD b_M_read_1 4 rfl rfl
theorem d_M_read_125 : vm_D q_M_read.2.1 125 1 126 (.aload_n 0) := vm_dD b_M_read_1 5 rfl rfl
theorem d_M_read_126 : vm_D q_M_read.2.1 126 3 129 (.getfield 80) := vm_dD b_M_read_1 6 rfl rfl
theorem d_M_read_129 : vm_D q_M_read.2.1 129 1 130 (.iload_n 1) := vm_dD b_M_read_1 7 rfl rfl
theorem d_M_read_130 : vm_D q_M_read.2.1 130 1 131 (.iaload) := vm_dD b_M_read_1 8 rfl rfl
theorem d_M_read_131 : vm_D q_M_read.2.1 131 1 132 (.iastore) := vm_dD b_M_read_1 9 rfl rfl
theorem d_M_read_132 : vm_D q_M_read.2.1 132 3 135 (.iinc 1 1) := vm_dD b_M_read_1 10 rfl rfl
theorem d_M_read_135 : ∃ off : Int, decode q_M_read.2.1 135 = .ok (.goto off, 3) ∧ ((135 : Nat) : Int) + off = ((113 : Nat) : Int) := ⟨-22, vm_db b_M_read_1 (i := 11) rfl, by decide⟩
theorem d_M_read_138 : vm_D q_M_read.2.1 138 1 139 (.aload_n 0) := vm_dD b_M_read_1 12 rfl rfl
theorem d_M_read_139 : vm_D q_M_read.2.1 139 1 140 (.iconst 0) := vm_dD b_M_read_1 13 rfl rfl
theorem d_M_read_140 : vm_D q_M_read.2.1 140 3 143 (.putfield 184) := vm_dD b_M_read_1 14 rfl rfl
theorem d_M_read_143 : vm_D q_M_read.2.1 143 1 144 (.aload_n 0) := vm_dD b_M_read_1 15 rfl rfl
theorem d_M_read_144 : vm_D q_M_read.2.1 144 1 145 (.iconst 0) := vm_dD b_M_read_1 16 rfl rfl
theorem d_M_read_145 : vm_D q_M_read.2.1 145 3 148 (.putfield 187) := vm_dD b_M_read_1 17 rfl rfl
theorem d_M_read_148 : vm_D q_M_read.2.1 148 1 149 (.aload_n 0) := vm_dD b_M_read_1 18 rfl rfl
theorem d_M_read_149 : vm_D q_M_read.2.1 149 3 152 (.getfield 77) := vm_dD b_M_read_1 19 rfl rfl
theorem d_M_read_152 : vm_D q_M_read.2.1 152 1 153 (.iconst 0) := vm_dD b_M_read_1 20 rfl rfl
theorem d_M_read_153 : vm_D q_M_read.2.1 153 1 154 (.iaload) := vm_dD b_M_read_1 21 rfl rfl
theorem d_M_read_154 : vm_D q_M_read.2.1 154 1 155 (.ireturn) := vm_dD b_M_read_1 22 rfl rfl
theorem d_M_read_109 : vm_D q_M_read.2.1 109 1 110 (.iconst 0) := vm_dD b_M_read_0 55 rfl rfl
theorem d_M_read_110 : vm_D q_M_read.2.1 110 1 111 (.ireturn) := vm_dD b_M_read_0 56 rfl rfl
theorem d_M_read_76 : vm_D q_M_read.2.1 76 1 77 (.aload_n 0) := vm_dD b_M_read_0 38 rfl rfl
theorem d_M_read_77 : vm_D q_M_read.2.1 77 3 80 (.getfield 80) := vm_dD b_M_read_0 39 rfl rfl
theorem d_M_read_80 : vm_D q_M_read.2.1 80 1 81 (.iconst 0) := vm_dD b_M_read_0 40 rfl rfl
theorem d_M_read_81 : vm_D q_M_read.2.1 81 1 82 (.iaload) := vm_dD b_M_read_0 41 rfl rfl
theorem d_M_read_82 : vm_B q_M_read.2.1 82 85 89 (fun o => .ifCond .ne o) := ⟨7, vm_db b_M_read_0 (i := 42) rfl, rfl, by decide⟩
theorem d_M_read_85 : vm_D q_M_read.2.1 85 1 86 (.aload_n 0) := vm_dD b_M_read_0 43 rfl rfl
theorem d_M_read_86 : vm_D q_M_read.2.1 86 3 89 (.invokevirtual 42) := vm_dD b_M_read_0 44 rfl rfl
def q_M_laysAside : vm_Y := ("RepeatFreeModel", cX11_laysAside, 3, false, [])
def t_M_laysAside_0 : List (Nat × Instr × Nat) := [(0, .bipush 65, 2), (2, .istore_n 1, 1), (3, .aload_n 0, 1), (4, .getfield 187, 3), (7, .bipush 10, 2), (9, .if_icmp .ne 43, 3), (12, .iload_n 1, 1), (13, .istore_n 2, 1), (14, .iload_n 2, 1), (15, .bipush 10, 2), (17, .iload_n 1, 1), (18, .imul, 1), (19, .if_icmp .ge 23, 3), (22, .aload_n 0, 1), (23, .getfield 89, 3), (26, .iload_n 2, 1), (27, .iload_n 1, 1), (28, .isub, 1), (29, .aload_n 0, 1), (30, .getfield 89, 3), (33, .iload_n 2, 1), (34, .iaload, 1), (35, .iastore, 1), (36, .iinc 2 1, 3), (39, .goto (-25), 3), (42, .aload_n 0, 1), (43, .dup, 1), (44, .getfield 187, 3), (47, .iconst 1, 1), (48, .isub, 1), (49, .putfield 187, 3), (52, .aload_n 0, 1), (53, .getfield 89, 3), (56, .iload_n 1, 1), (57, .aload_n 0, 1), (58, .getfield 187, 3), (61, .imul, 1), (62, .aload_n 0, 1), (63, .getfield 184, 3), (66, .iastore, 1), (67, .iconst 0, 1), (68, .istore_n 2, 1), (69, .iload_n 2, 1), (70, .aload_n 0, 1), (71, .getfield 184, 3), (74, .if_icmp .ge 30, 3), (77, .aload_n 0, 1), (78, .getfield 89, 3), (81, .iload_n 1, 1), (82, .aload_n 0, 1), (83, .getfield 187, 3), (86, .imul, 1), (87, .iconst 1, 1), (88, .iadd, 1), (89, .iload_n 2, 1), (90, .iadd, 1), (91, .aload_n 0, 1), (92, .getfield 83, 3), (95, .iload_n 2, 1), (96, .iaload, 1)]
theorem b_M_laysAside_0 : (t_M_laysAside_0.all fun q => decide (decode q_M_laysAside.2.1 q.1 = .ok (q.2.1, q.2.2))) = true := by decide +kernel
def t_M_laysAside_1 : List (Nat × Instr × Nat) := [(97, .iastore, 1), (98, .iinc 2 1, 3), (101, .goto (-32), 3), (104, .aload_n 0, 1), (105, .dup, 1), (106, .getfield 187, 3), (109, .iconst 1, 1), (110, .iadd, 1), (111, .putfield 187, 3), (114, .return_, 1)]
theorem b_M_laysAside_1 : (t_M_laysAside_1.all fun q => decide (decode q_M_laysAside.2.1 q.1 = .ok (q.2.1, q.2.2))) = true := by decide +kernel
theorem d_M_laysAside_0 : vm_D q_M_laysAside.2.1 0 2 2 (.bipush 65) := vm_dD b_M_laysAside_0 0 rfl rfl
theorem d_M_laysAside_2 : vm_D q_M_laysAside.2.1 2 1 3 (.istore_n 1) := vm_dD b_M_laysAside_0 1 rfl rfl
theorem d_M_laysAside_3 : vm_D q_M_laysAside.2.1 3 1 4 (.aload_n 0) := vm_dD b_M_laysAside_0 2 rfl rfl
theorem d_M_laysAside_4 : vm_D q_M_laysAside.2.1 4 3 7 (.getfield 187) := vm_dD b_M_laysAside_0 3 rfl rfl
theorem d_M_laysAside_7 : vm_D q_M_laysAside.2.1 7 2 9 (.bipush 10) := vm_dD b_M_laysAside_0 4 rfl rfl
theorem d_M_laysAside_9 : vm_B q_M_laysAside.2.1 9 12 52 (fun o => .if_icmp .ne o) := ⟨43, vm_db b_M_laysAside_0 (i := 5) rfl, rfl, by decide⟩
theorem d_M_laysAside_52 : vm_D q_M_laysAside.2.1 52 1 53 (.aload_n 0) := vm_dD b_M_laysAside_0 31 rfl rfl
theorem d_M_laysAside_53 : vm_D q_M_laysAside.2.1 53 3 56 (.getfield 89) := vm_dD b_M_laysAside_0 32 rfl rfl
theorem d_M_laysAside_56 : vm_D q_M_laysAside.2.1 56 1 57 (.iload_n 1) := vm_dD b_M_laysAside_0 33 rfl rfl
theorem d_M_laysAside_57 : vm_D q_M_laysAside.2.1 57 1 58 (.aload_n 0) := vm_dD b_M_laysAside_0 34 rfl rfl
theorem d_M_laysAside_58 : vm_D q_M_laysAside.2.1 58 3 61 (.getfield 187) := vm_dD b_M_laysAside_0 35 rfl rfl
theorem d_M_laysAside_61 : vm_D q_M_laysAside.2.1 61 1 62 (.imul) := vm_dD b_M_laysAside_0 36 rfl rfl
theorem d_M_laysAside_62 : vm_D q_M_laysAside.2.1 62 1 63 (.aload_n 0) := vm_dD b_M_laysAside_0 37 rfl rfl
theorem d_M_laysAside_63 : vm_D q_M_laysAside.2.1 63 3 66 (.getfield 184) := vm_dD b_M_laysAside_0 38 rfl rfl
theorem d_M_laysAside_66 : vm_D q_M_laysAside.2.1 66 1 67 (.iastore) := vm_dD b_M_laysAside_0 39 rfl rfl
theorem d_M_laysAside_67 : vm_D q_M_laysAside.2.1 67 1 68 (.iconst 0) := vm_dD b_M_laysAside_0 40 rfl rfl
theorem d_M_laysAside_68 : vm_D q_M_laysAside.2.1 68 1 69 (.istore_n 2) := vm_dD b_M_laysAside_0 41 rfl rfl
theorem d_M_laysAside_69 : vm_D q_M_laysAside.2.1 69 1 70 (.iload_n 2) := vm_dD b_M_laysAside_0 42 rfl rfl
theorem d_M_laysAside_70 : vm_D q_M_laysAside.2.1 70 1 71 (.aload_n 0) := vm_dD b_M_laysAside_0 43 rfl rfl
theorem d_M_laysAside_71 : vm_D q_M_laysAside.2.1 71 3 74 (.getfield 184) := vm_dD b_M_laysAside_0 44 rfl rfl
theorem d_M_laysAside_74 : vm_B q_M_laysAside.2.1 74 77 104 (fun o => .if_icmp .ge o) := ⟨30, vm_db b_M_laysAside_0 (i := 45) rfl, rfl, by decide⟩
theorem d_M_laysAside_77 : vm_D q_M_laysAside.2.1 77 1 78 (.aload_n 0) := vm_dD b_M_laysAside_0 46 rfl rfl
theorem d_M_laysAside_78 : vm_D q_M_laysAside.2.1 78 3 81 (.getfield 89) := vm_dD b_M_laysAside_0 47 rfl rfl
theorem d_M_laysAside_81 : vm_D q_M_laysAside.2.1 81 1 82 (.iload_n 1) := vm_dD b_M_laysAside_0 48 rfl rfl
theorem d_M_laysAside_82 : vm_D q_M_laysAside.2.1 82 1 83 (.aload_n 0) := vm_dD b_M_laysAside_0 49 rfl rfl
theorem d_M_laysAside_83 : vm_D q_M_laysAside.2.1 83 3 86 (.getfield 187) := vm_dD b_M_laysAside_0 50 rfl rfl
theorem d_M_laysAside_86 : vm_D q_M_laysAside.2.1 86 1 87 (.imul) := vm_dD b_M_laysAside_0 51 rfl rfl
theorem d_M_laysAside_87 : vm_D q_M_laysAside.2.1 87 1 88 (.iconst 1) := vm_dD b_M_laysAside_0 52 rfl rfl
theorem d_M_laysAside_88 : vm_D q_M_laysAside.2.1 88 1 89 (.iadd) := vm_dD b_M_laysAside_0 53 rfl rfl
theorem d_M_laysAside_89 : vm_D q_M_laysAside.2.1 89 1 90 (.iload_n 2) := vm_dD b_M_laysAside_0 54 rfl rfl
theorem d_M_laysAside_90 : vm_D q_M_laysAside.2.1 90 1 91 (.iadd) := vm_dD b_M_laysAside_0 55 rfl rfl
theorem d_M_laysAside_91 : vm_D q_M_laysAside.2.1 91 1 92 (.aload_n 0) := vm_dD b_M_laysAside_0 56 rfl rfl
theorem d_M_laysAside_92 : vm_D q_M_laysAside.2.1 92 3 95 (.getfield 83) := vm_dD b_M_laysAside_0 57 rfl rfl
theorem d_M_laysAside_95 : vm_D q_M_laysAside.2.1 95 1 96 (.iload_n 2) := vm_dD b_M_laysAside_0 58 rfl rfl
theorem d_M_laysAside_96 : vm_D q_M_laysAside.2.1 96 1 97 (.iaload) := vm_dD b_M_laysAside_0 59 rfl rfl
theorem d_M_laysAside_97 : vm_D q_M_laysAside.2.1 97 1 98 (.iastore) := vm_dD b_M_laysAside_1 0 rfl rfl
theorem d_M_laysAside_98 : vm_D q_M_laysAside.2.1 98 3 101 (.iinc 2 1) := vm_dD b_M_laysAside_1 1 rfl rfl
theorem d_M_laysAside_101 : ∃ off : Int, decode q_M_laysAside.2.1 101 = .ok (.goto off, 3) ∧ ((101 : Nat) : Int) + off = ((69 : Nat) : Int) := ⟨-32, vm_db b_M_laysAside_1 (i := 2) rfl, by decide⟩
theorem d_M_laysAside_104 : vm_D q_M_laysAside.2.1 104 1 105 (.aload_n 0) := vm_dD b_M_laysAside_1 3 rfl rfl
theorem d_M_laysAside_105 : vm_D q_M_laysAside.2.1 105 1 106 (.dup) := vm_dD b_M_laysAside_1 4 rfl rfl
theorem d_M_laysAside_106 : vm_D q_M_laysAside.2.1 106 3 109 (.getfield 187) := vm_dD b_M_laysAside_1 5 rfl rfl
theorem d_M_laysAside_109 : vm_D q_M_laysAside.2.1 109 1 110 (.iconst 1) := vm_dD b_M_laysAside_1 6 rfl rfl
theorem d_M_laysAside_110 : vm_D q_M_laysAside.2.1 110 1 111 (.iadd) := vm_dD b_M_laysAside_1 7 rfl rfl
theorem d_M_laysAside_111 : vm_D q_M_laysAside.2.1 111 3 114 (.putfield 187) := vm_dD b_M_laysAside_1 8 rfl rfl
theorem d_M_laysAside_114 : vm_D q_M_laysAside.2.1 114 1 115 (.return_) := vm_dD b_M_laysAside_1 9 rfl rfl
theorem d_M_laysAside_12 : vm_D q_M_laysAside.2.1 12 1 13 (.iload_n 1) := vm_dD b_M_laysAside_0 6 rfl rfl
theorem d_M_laysAside_13 : vm_D q_M_laysAside.2.1 13 1 14 (.istore_n 2) := vm_dD b_M_laysAside_0 7 rfl rfl
theorem d_M_laysAside_14 : vm_D q_M_laysAside.2.1 14 1 15 (.iload_n 2) := vm_dD b_M_laysAside_0 8 rfl rfl
theorem d_M_laysAside_15 : vm_D q_M_laysAside.2.1 15 2 17 (.bipush 10) := vm_dD b_M_laysAside_0 9 rfl rfl
theorem d_M_laysAside_17 : vm_D q_M_laysAside.2.1 17 1 18 (.iload_n 1) := vm_dD b_M_laysAside_0 10 rfl rfl
theorem d_M_laysAside_18 : vm_D q_M_laysAside.2.1 18 1 19 (.imul) := vm_dD b_M_laysAside_0 11 rfl rfl
theorem d_M_laysAside_19 : vm_B q_M_laysAside.2.1 19 22 42 (fun o => .if_icmp .ge o) := ⟨23, vm_db b_M_laysAside_0 (i := 12) rfl, rfl, by decide⟩
theorem d_M_laysAside_22 : vm_D q_M_laysAside.2.1 22 1 23 (.aload_n 0) := vm_dD b_M_laysAside_0 13 rfl rfl
theorem d_M_laysAside_23 : vm_D q_M_laysAside.2.1 23 3 26 (.getfield 89) := vm_dD b_M_laysAside_0 14 rfl rfl
theorem d_M_laysAside_26 : vm_D q_M_laysAside.2.1 26 1 27 (.iload_n 2) := vm_dD b_M_laysAside_0 15 rfl rfl
theorem d_M_laysAside_27 : vm_D q_M_laysAside.2.1 27 1 28 (.iload_n 1) := vm_dD b_M_laysAside_0 16 rfl rfl
theorem d_M_laysAside_28 : vm_D q_M_laysAside.2.1 28 1 29 (.isub) := vm_dD b_M_laysAside_0 17 rfl rfl
theorem d_M_laysAside_29 : vm_D q_M_laysAside.2.1 29 1 30 (.aload_n 0) := vm_dD b_M_laysAside_0 18 rfl rfl
theorem d_M_laysAside_30 : vm_D q_M_laysAside.2.1 30 3 33 (.getfield 89) := vm_dD b_M_laysAside_0 19 rfl rfl
theorem d_M_laysAside_33 : vm_D q_M_laysAside.2.1 33 1 34 (.iload_n 2) := vm_dD b_M_laysAside_0 20 rfl rfl
theorem d_M_laysAside_34 : vm_D q_M_laysAside.2.1 34 1 35 (.iaload) := vm_dD b_M_laysAside_0 21 rfl rfl
theorem d_M_laysAside_35 : vm_D q_M_laysAside.2.1 35 1 36 (.iastore) := vm_dD b_M_laysAside_0 22 rfl rfl
theorem d_M_laysAside_36 : vm_D q_M_laysAside.2.1 36 3 39 (.iinc 2 1) := vm_dD b_M_laysAside_0 23 rfl rfl
theorem d_M_laysAside_39 : ∃ off : Int, decode q_M_laysAside.2.1 39 = .ok (.goto off, 3) ∧ ((39 : Nat) : Int) + off = ((14 : Nat) : Int) := ⟨-25, vm_db b_M_laysAside_0 (i := 24) rfl, by decide⟩
theorem d_M_laysAside_42 : vm_D q_M_laysAside.2.1 42 1 43 (.aload_n 0) := vm_dD b_M_laysAside_0 25 rfl rfl
theorem d_M_laysAside_43 : vm_D q_M_laysAside.2.1 43 1 44 (.dup) := vm_dD b_M_laysAside_0 26 rfl rfl
theorem d_M_laysAside_44 : vm_D q_M_laysAside.2.1 44 3 47 (.getfield 187) := vm_dD b_M_laysAside_0 27 rfl rfl
theorem d_M_laysAside_47 : vm_D q_M_laysAside.2.1 47 1 48 (.iconst 1) := vm_dD b_M_laysAside_0 28 rfl rfl
theorem d_M_laysAside_48 : vm_D q_M_laysAside.2.1 48 1 49 (.isub) := vm_dD b_M_laysAside_0 29 rfl rfl
theorem d_M_laysAside_49 : vm_D q_M_laysAside.2.1 49 3 52 (.putfield 187) := vm_dD b_M_laysAside_0 30 rfl rfl
def q_M_becomes : vm_Y := ("RepeatFreeModel", cX11_becomes, 3, false, [])
def t_M_becomes_0 : List (Nat × Instr × Nat) := [(0, .aload_n 0, 1), (1, .invokevirtual 190, 3), (4, .aload_n 0, 1), (5, .iload_n 1, 1), (6, .putfield 184, 3), (9, .iconst 0, 1), (10, .istore_n 2, 1), (11, .iload_n 2, 1), (12, .iload_n 1, 1), (13, .if_icmp .ge 21, 3), (16, .aload_n 0, 1), (17, .getfield 83, 3), (20, .iload_n 2, 1), (21, .aload_n 0, 1), (22, .getfield 86, 3), (25, .iload_n 2, 1), (26, .iaload, 1), (27, .iastore, 1), (28, .iinc 2 1, 3), (31, .goto (-20), 3), (34, .return_, 1)]
theorem b_M_becomes_0 : (t_M_becomes_0.all fun q => decide (decode q_M_becomes.2.1 q.1 = .ok (q.2.1, q.2.2))) = true := by decide +kernel
theorem d_M_becomes_0 : vm_D q_M_becomes.2.1 0 1 1 (.aload_n 0) := vm_dD b_M_becomes_0 0 rfl rfl
theorem d_M_becomes_1 : vm_D q_M_becomes.2.1 1 3 4 (.invokevirtual 190) := vm_dD b_M_becomes_0 1 rfl rfl
theorem d_M_becomes_4 : vm_D q_M_becomes.2.1 4 1 5 (.aload_n 0) := vm_dD b_M_becomes_0 2 rfl rfl
theorem d_M_becomes_5 : vm_D q_M_becomes.2.1 5 1 6 (.iload_n 1) := vm_dD b_M_becomes_0 3 rfl rfl
theorem d_M_becomes_6 : vm_D q_M_becomes.2.1 6 3 9 (.putfield 184) := vm_dD b_M_becomes_0 4 rfl rfl
theorem d_M_becomes_9 : vm_D q_M_becomes.2.1 9 1 10 (.iconst 0) := vm_dD b_M_becomes_0 5 rfl rfl
theorem d_M_becomes_10 : vm_D q_M_becomes.2.1 10 1 11 (.istore_n 2) := vm_dD b_M_becomes_0 6 rfl rfl
theorem d_M_becomes_11 : vm_D q_M_becomes.2.1 11 1 12 (.iload_n 2) := vm_dD b_M_becomes_0 7 rfl rfl
theorem d_M_becomes_12 : vm_D q_M_becomes.2.1 12 1 13 (.iload_n 1) := vm_dD b_M_becomes_0 8 rfl rfl
theorem d_M_becomes_13 : vm_B q_M_becomes.2.1 13 16 34 (fun o => .if_icmp .ge o) := ⟨21, vm_db b_M_becomes_0 (i := 9) rfl, rfl, by decide⟩
theorem d_M_becomes_16 : vm_D q_M_becomes.2.1 16 1 17 (.aload_n 0) := vm_dD b_M_becomes_0 10 rfl rfl
theorem d_M_becomes_17 : vm_D q_M_becomes.2.1 17 3 20 (.getfield 83) := vm_dD b_M_becomes_0 11 rfl rfl
theorem d_M_becomes_20 : vm_D q_M_becomes.2.1 20 1 21 (.iload_n 2) := vm_dD b_M_becomes_0 12 rfl rfl
theorem d_M_becomes_21 : vm_D q_M_becomes.2.1 21 1 22 (.aload_n 0) := vm_dD b_M_becomes_0 13 rfl rfl
theorem d_M_becomes_22 : vm_D q_M_becomes.2.1 22 3 25 (.getfield 86) := vm_dD b_M_becomes_0 14 rfl rfl
theorem d_M_becomes_25 : vm_D q_M_becomes.2.1 25 1 26 (.iload_n 2) := vm_dD b_M_becomes_0 15 rfl rfl
theorem d_M_becomes_26 : vm_D q_M_becomes.2.1 26 1 27 (.iaload) := vm_dD b_M_becomes_0 16 rfl rfl
theorem d_M_becomes_27 : vm_D q_M_becomes.2.1 27 1 28 (.iastore) := vm_dD b_M_becomes_0 17 rfl rfl
theorem d_M_becomes_28 : vm_D q_M_becomes.2.1 28 3 31 (.iinc 2 1) := vm_dD b_M_becomes_0 18 rfl rfl
theorem d_M_becomes_31 : ∃ off : Int, decode q_M_becomes.2.1 31 = .ok (.goto off, 3) ∧ ((31 : Nat) : Int) + off = ((11 : Nat) : Int) := ⟨-20, vm_db b_M_becomes_0 (i := 19) rfl, by decide⟩
theorem d_M_becomes_34 : vm_D q_M_becomes.2.1 34 1 35 (.return_) := vm_dD b_M_becomes_0 20 rfl rfl
def q_M_undo : vm_Y := ("RepeatFreeModel", cX11_undo, 3, false, [])
def t_M_undo_0 : List (Nat × Instr × Nat) := [(0, .aload_n 0, 1), (1, .iconst 0, 1), (2, .putfield 3, 3), (5, .aload_n 0, 1), (6, .getfield 187, 3), (9, .ifCond .ne 5, 3), (12, .iconst (-1), 1), (13, .ireturn, 1), (14, .aload_n 0, 1), (15, .dup, 1), (16, .getfield 187, 3), (19, .iconst 1, 1), (20, .isub, 1), (21, .putfield 187, 3), (24, .bipush 65, 2), (26, .aload_n 0, 1), (27, .getfield 187, 3), (30, .imul, 1), (31, .istore_n 1, 1), (32, .aload_n 0, 1), (33, .aload_n 0, 1), (34, .getfield 89, 3), (37, .iload_n 1, 1), (38, .iaload, 1), (39, .putfield 184, 3), (42, .iconst 0, 1), (43, .istore_n 2, 1), (44, .iload_n 2, 1), (45, .aload_n 0, 1), (46, .getfield 184, 3), (49, .if_icmp .ge 25, 3), (52, .aload_n 0, 1), (53, .getfield 83, 3), (56, .iload_n 2, 1), (57, .aload_n 0, 1), (58, .getfield 89, 3), (61, .iload_n 1, 1), (62, .iconst 1, 1), (63, .iadd, 1), (64, .iload_n 2, 1), (65, .iadd, 1), (66, .iaload, 1), (67, .iastore, 1), (68, .iinc 2 1, 3), (71, .goto (-27), 3), (74, .aload_n 0, 1), (75, .getfield 187, 3), (78, .ireturn, 1)]
theorem b_M_undo_0 : (t_M_undo_0.all fun q => decide (decode q_M_undo.2.1 q.1 = .ok (q.2.1, q.2.2))) = true := by decide +kernel
theorem d_M_undo_0 : vm_D q_M_undo.2.1 0 1 1 (.aload_n 0) := vm_dD b_M_undo_0 0 rfl rfl
theorem d_M_undo_1 : vm_D q_M_undo.2.1 1 1 2 (.iconst 0) := vm_dD b_M_undo_0 1 rfl rfl
theorem d_M_undo_2 : vm_D q_M_undo.2.1 2 3 5 (.putfield 3) := vm_dD b_M_undo_0 2 rfl rfl
theorem d_M_undo_5 : vm_D q_M_undo.2.1 5 1 6 (.aload_n 0) := vm_dD b_M_undo_0 3 rfl rfl
theorem d_M_undo_6 : vm_D q_M_undo.2.1 6 3 9 (.getfield 187) := vm_dD b_M_undo_0 4 rfl rfl
theorem d_M_undo_9 : vm_B q_M_undo.2.1 9 12 14 (fun o => .ifCond .ne o) := ⟨5, vm_db b_M_undo_0 (i := 5) rfl, rfl, by decide⟩
theorem d_M_undo_14 : vm_D q_M_undo.2.1 14 1 15 (.aload_n 0) := vm_dD b_M_undo_0 8 rfl rfl
theorem d_M_undo_15 : vm_D q_M_undo.2.1 15 1 16 (.dup) := vm_dD b_M_undo_0 9 rfl rfl
theorem d_M_undo_16 : vm_D q_M_undo.2.1 16 3 19 (.getfield 187) := vm_dD b_M_undo_0 10 rfl rfl
theorem d_M_undo_19 : vm_D q_M_undo.2.1 19 1 20 (.iconst 1) := vm_dD b_M_undo_0 11 rfl rfl
theorem d_M_undo_20 : vm_D q_M_undo.2.1 20 1 21 (.isub) := vm_dD b_M_undo_0 12 rfl rfl
theorem d_M_undo_21 : vm_D q_M_undo.2.1 21 3 24 (.putfield 187) := vm_dD b_M_undo_0 13 rfl rfl
theorem d_M_undo_24 : vm_D q_M_undo.2.1 24 2 26 (.bipush 65) := vm_dD b_M_undo_0 14 rfl rfl
theorem d_M_undo_26 : vm_D q_M_undo.2.1 26 1 27 (.aload_n 0) := vm_dD b_M_undo_0 15 rfl rfl
theorem d_M_undo_27 : vm_D q_M_undo.2.1 27 3 30 (.getfield 187) := vm_dD b_M_undo_0 16 rfl rfl
theorem d_M_undo_30 : vm_D q_M_undo.2.1 30 1 31 (.imul) := vm_dD b_M_undo_0 17 rfl rfl
theorem d_M_undo_31 : vm_D q_M_undo.2.1 31 1 32 (.istore_n 1) := vm_dD b_M_undo_0 18 rfl rfl
theorem d_M_undo_32 : vm_D q_M_undo.2.1 32 1 33 (.aload_n 0) := vm_dD b_M_undo_0 19 rfl rfl
theorem d_M_undo_33 : vm_D q_M_undo.2.1 33 1 34 (.aload_n 0) := vm_dD b_M_undo_0 20 rfl rfl
theorem d_M_undo_34 : vm_D q_M_undo.2.1 34 3 37 (.getfield 89) := vm_dD b_M_undo_0 21 rfl rfl
theorem d_M_undo_37 : vm_D q_M_undo.2.1 37 1 38 (.iload_n 1) := vm_dD b_M_undo_0 22 rfl rfl
theorem d_M_undo_38 : vm_D q_M_undo.2.1 38 1 39 (.iaload) := vm_dD b_M_undo_0 23 rfl rfl
theorem d_M_undo_39 : vm_D q_M_undo.2.1 39 3 42 (.putfield 184) := vm_dD b_M_undo_0 24 rfl rfl
theorem d_M_undo_42 : vm_D q_M_undo.2.1 42 1 43 (.iconst 0) := vm_dD b_M_undo_0 25 rfl rfl
theorem d_M_undo_43 : vm_D q_M_undo.2.1 43 1 44 (.istore_n 2) := vm_dD b_M_undo_0 26 rfl rfl
theorem d_M_undo_44 : vm_D q_M_undo.2.1 44 1 45 (.iload_n 2) := vm_dD b_M_undo_0 27 rfl rfl
theorem d_M_undo_45 : vm_D q_M_undo.2.1 45 1 46 (.aload_n 0) := vm_dD b_M_undo_0 28 rfl rfl
theorem d_M_undo_46 : vm_D q_M_undo.2.1 46 3 49 (.getfield 184) := vm_dD b_M_undo_0 29 rfl rfl
theorem d_M_undo_49 : vm_B q_M_undo.2.1 49 52 74 (fun o => .if_icmp .ge o) := ⟨25, vm_db b_M_undo_0 (i := 30) rfl, rfl, by decide⟩
theorem d_M_undo_52 : vm_D q_M_undo.2.1 52 1 53 (.aload_n 0) := vm_dD b_M_undo_0 31 rfl rfl
theorem d_M_undo_53 : vm_D q_M_undo.2.1 53 3 56 (.getfield 83) := vm_dD b_M_undo_0 32 rfl rfl
theorem d_M_undo_56 : vm_D q_M_undo.2.1 56 1 57 (.iload_n 2) := vm_dD b_M_undo_0 33 rfl rfl
theorem d_M_undo_57 : vm_D q_M_undo.2.1 57 1 58 (.aload_n 0) := vm_dD b_M_undo_0 34 rfl rfl
theorem d_M_undo_58 : vm_D q_M_undo.2.1 58 3 61 (.getfield 89) := vm_dD b_M_undo_0 35 rfl rfl
theorem d_M_undo_61 : vm_D q_M_undo.2.1 61 1 62 (.iload_n 1) := vm_dD b_M_undo_0 36 rfl rfl
theorem d_M_undo_62 : vm_D q_M_undo.2.1 62 1 63 (.iconst 1) := vm_dD b_M_undo_0 37 rfl rfl
theorem d_M_undo_63 : vm_D q_M_undo.2.1 63 1 64 (.iadd) := vm_dD b_M_undo_0 38 rfl rfl
theorem d_M_undo_64 : vm_D q_M_undo.2.1 64 1 65 (.iload_n 2) := vm_dD b_M_undo_0 39 rfl rfl
theorem d_M_undo_65 : vm_D q_M_undo.2.1 65 1 66 (.iadd) := vm_dD b_M_undo_0 40 rfl rfl
theorem d_M_undo_66 : vm_D q_M_undo.2.1 66 1 67 (.iaload) := vm_dD b_M_undo_0 41 rfl rfl
theorem d_M_undo_67 : vm_D q_M_undo.2.1 67 1 68 (.iastore) := vm_dD b_M_undo_0 42 rfl rfl
theorem d_M_undo_68 : vm_D q_M_undo.2.1 68 3 71 (.iinc 2 1) := vm_dD b_M_undo_0 43 rfl rfl
theorem d_M_undo_71 : ∃ off : Int, decode q_M_undo.2.1 71 = .ok (.goto off, 3) ∧ ((71 : Nat) : Int) + off = ((44 : Nat) : Int) := ⟨-27, vm_db b_M_undo_0 (i := 44) rfl, by decide⟩
theorem d_M_undo_74 : vm_D q_M_undo.2.1 74 1 75 (.aload_n 0) := vm_dD b_M_undo_0 45 rfl rfl
theorem d_M_undo_75 : vm_D q_M_undo.2.1 75 3 78 (.getfield 187) := vm_dD b_M_undo_0 46 rfl rfl
theorem d_M_undo_78 : vm_D q_M_undo.2.1 78 1 79 (.ireturn) := vm_dD b_M_undo_0 47 rfl rfl
theorem d_M_undo_12 : vm_D q_M_undo.2.1 12 1 13 (.iconst (-1)) := vm_dD b_M_undo_0 6 rfl rfl
theorem d_M_undo_13 : vm_D q_M_undo.2.1 13 1 14 (.ireturn) := vm_dD b_M_undo_0 7 rfl rfl
def q_M_word : vm_Y := ("RepeatFreeModel", cX11_word, 2, false, [])
def t_M_word_0 : List (Nat × Instr × Nat) := [(0, .aload_n 0, 1), (1, .iconst 0, 1), (2, .putfield 3, 3), (5, .aload_n 0, 1), (6, .invokevirtual 174, 3), (9, .aload_n 0, 1), (10, .invokevirtual 34, 3), (13, .iconst 0, 1), (14, .istore_n 1, 1), (15, .aload_n 0, 1), (16, .bipush 97, 2), (18, .bipush 97, 2), (20, .aload_n 0, 1), (21, .getfield 77, 3), (24, .iconst 0, 1), (25, .iaload, 1), (26, .iadd, 1), (27, .iconst 1, 1), (28, .isub, 1), (29, .invokevirtual 27, 3), (32, .ifCond .eq 43, 3), (35, .iload_n 1, 1), (36, .bipush 64, 2), (38, .if_icmp .ge 37, 3), (41, .aload_n 0, 1), (42, .getfield 86, 3), (45, .iload_n 1, 1), (46, .aload_n 0, 1), (47, .getfield 14, 3), (50, .aload_n 0, 1), (51, .getfield 21, 3), (54, .baload, 1), (55, .bipush 97, 2), (57, .isub, 1), (58, .iastore, 1), (59, .iinc 1 1, 3), (62, .aload_n 0, 1), (63, .dup, 1), (64, .getfield 21, 3), (67, .iconst 1, 1), (68, .iadd, 1), (69, .putfield 21, 3), (72, .goto (-57), 3), (75, .aload_n 0, 1), (76, .invokevirtual 34, 3), (79, .aload_n 0, 1), (80, .getfield 21, 3), (83, .aload_n 0, 1), (84, .getfield 18, 3), (87, .if_icmp .ge 7, 3), (90, .aload_n 0, 1), (91, .invokevirtual 42, 3), (94, .aload_n 0, 1), (95, .aload_n 0, 1), (96, .getfield 24, 3), (99, .putfield 69, 3), (102, .aload_n 0, 1), (103, .aload_n 0, 1), (104, .invokevirtual 38, 3), (107, .iconst 1, 1)]
theorem b_M_word_0 : (t_M_word_0.all fun q => decide (decode q_M_word.2.1 q.1 = .ok (q.2.1, q.2.2))) = true := by decide +kernel
def t_M_word_1 : List (Nat × Instr × Nat) := [(108, .invokevirtual 180, 3), (111, .ifCond .eq 5, 3), (114, .iconst 0, 1), (115, .ireturn, 1), (116, .aload_n 0, 1), (117, .iload_n 1, 1), (118, .invokevirtual 193, 3), (121, .aload_n 0, 1), (122, .getfield 184, 3), (125, .ireturn, 1)]
theorem b_M_word_1 : (t_M_word_1.all fun q => decide (decode q_M_word.2.1 q.1 = .ok (q.2.1, q.2.2))) = true := by decide +kernel
theorem d_M_word_0 : vm_D q_M_word.2.1 0 1 1 (.aload_n 0) := vm_dD b_M_word_0 0 rfl rfl
theorem d_M_word_1 : vm_D q_M_word.2.1 1 1 2 (.iconst 0) := vm_dD b_M_word_0 1 rfl rfl
theorem d_M_word_2 : vm_D q_M_word.2.1 2 3 5 (.putfield 3) := vm_dD b_M_word_0 2 rfl rfl
theorem d_M_word_5 : vm_D q_M_word.2.1 5 1 6 (.aload_n 0) := vm_dD b_M_word_0 3 rfl rfl
theorem d_M_word_6 : vm_D q_M_word.2.1 6 3 9 (.invokevirtual 174) := vm_dD b_M_word_0 4 rfl rfl
theorem d_M_word_9 : vm_D q_M_word.2.1 9 1 10 (.aload_n 0) := vm_dD b_M_word_0 5 rfl rfl
theorem d_M_word_10 : vm_D q_M_word.2.1 10 3 13 (.invokevirtual 34) := vm_dD b_M_word_0 6 rfl rfl
theorem d_M_word_13 : vm_D q_M_word.2.1 13 1 14 (.iconst 0) := vm_dD b_M_word_0 7 rfl rfl
theorem d_M_word_14 : vm_D q_M_word.2.1 14 1 15 (.istore_n 1) := vm_dD b_M_word_0 8 rfl rfl
theorem d_M_word_15 : vm_D q_M_word.2.1 15 1 16 (.aload_n 0) := vm_dD b_M_word_0 9 rfl rfl
theorem d_M_word_16 : vm_D q_M_word.2.1 16 2 18 (.bipush 97) := vm_dD b_M_word_0 10 rfl rfl
theorem d_M_word_18 : vm_D q_M_word.2.1 18 2 20 (.bipush 97) := vm_dD b_M_word_0 11 rfl rfl
theorem d_M_word_20 : vm_D q_M_word.2.1 20 1 21 (.aload_n 0) := vm_dD b_M_word_0 12 rfl rfl
theorem d_M_word_21 : vm_D q_M_word.2.1 21 3 24 (.getfield 77) := vm_dD b_M_word_0 13 rfl rfl
theorem d_M_word_24 : vm_D q_M_word.2.1 24 1 25 (.iconst 0) := vm_dD b_M_word_0 14 rfl rfl
theorem d_M_word_25 : vm_D q_M_word.2.1 25 1 26 (.iaload) := vm_dD b_M_word_0 15 rfl rfl
theorem d_M_word_26 : vm_D q_M_word.2.1 26 1 27 (.iadd) := vm_dD b_M_word_0 16 rfl rfl
theorem d_M_word_27 : vm_D q_M_word.2.1 27 1 28 (.iconst 1) := vm_dD b_M_word_0 17 rfl rfl
theorem d_M_word_28 : vm_D q_M_word.2.1 28 1 29 (.isub) := vm_dD b_M_word_0 18 rfl rfl
theorem d_M_word_29 : vm_D q_M_word.2.1 29 3 32 (.invokevirtual 27) := vm_dD b_M_word_0 19 rfl rfl
theorem d_M_word_32 : vm_B q_M_word.2.1 32 35 75 (fun o => .ifCond .eq o) := ⟨43, vm_db b_M_word_0 (i := 20) rfl, rfl, by decide⟩
theorem d_M_word_35 : vm_D q_M_word.2.1 35 1 36 (.iload_n 1) := vm_dD b_M_word_0 21 rfl rfl
theorem d_M_word_36 : vm_D q_M_word.2.1 36 2 38 (.bipush 64) := vm_dD b_M_word_0 22 rfl rfl
theorem d_M_word_38 : vm_B q_M_word.2.1 38 41 75 (fun o => .if_icmp .ge o) := ⟨37, vm_db b_M_word_0 (i := 23) rfl, rfl, by decide⟩
theorem d_M_word_41 : vm_D q_M_word.2.1 41 1 42 (.aload_n 0) := vm_dD b_M_word_0 24 rfl rfl
theorem d_M_word_42 : vm_D q_M_word.2.1 42 3 45 (.getfield 86) := vm_dD b_M_word_0 25 rfl rfl
theorem d_M_word_45 : vm_D q_M_word.2.1 45 1 46 (.iload_n 1) := vm_dD b_M_word_0 26 rfl rfl
theorem d_M_word_46 : vm_D q_M_word.2.1 46 1 47 (.aload_n 0) := vm_dD b_M_word_0 27 rfl rfl
theorem d_M_word_47 : vm_D q_M_word.2.1 47 3 50 (.getfield 14) := vm_dD b_M_word_0 28 rfl rfl
theorem d_M_word_50 : vm_D q_M_word.2.1 50 1 51 (.aload_n 0) := vm_dD b_M_word_0 29 rfl rfl
theorem d_M_word_51 : vm_D q_M_word.2.1 51 3 54 (.getfield 21) := vm_dD b_M_word_0 30 rfl rfl
theorem d_M_word_54 : vm_D q_M_word.2.1 54 1 55 (.baload) := vm_dD b_M_word_0 31 rfl rfl
theorem d_M_word_55 : vm_D q_M_word.2.1 55 2 57 (.bipush 97) := vm_dD b_M_word_0 32 rfl rfl
theorem d_M_word_57 : vm_D q_M_word.2.1 57 1 58 (.isub) := vm_dD b_M_word_0 33 rfl rfl
theorem d_M_word_58 : vm_D q_M_word.2.1 58 1 59 (.iastore) := vm_dD b_M_word_0 34 rfl rfl
theorem d_M_word_59 : vm_D q_M_word.2.1 59 3 62 (.iinc 1 1) := vm_dD b_M_word_0 35 rfl rfl
theorem d_M_word_62 : vm_D q_M_word.2.1 62 1 63 (.aload_n 0) := vm_dD b_M_word_0 36 rfl rfl
theorem d_M_word_63 : vm_D q_M_word.2.1 63 1 64 (.dup) := vm_dD b_M_word_0 37 rfl rfl
theorem d_M_word_64 : vm_D q_M_word.2.1 64 3 67 (.getfield 21) := vm_dD b_M_word_0 38 rfl rfl
theorem d_M_word_67 : vm_D q_M_word.2.1 67 1 68 (.iconst 1) := vm_dD b_M_word_0 39 rfl rfl
theorem d_M_word_68 : vm_D q_M_word.2.1 68 1 69 (.iadd) := vm_dD b_M_word_0 40 rfl rfl
theorem d_M_word_69 : vm_D q_M_word.2.1 69 3 72 (.putfield 21) := vm_dD b_M_word_0 41 rfl rfl
theorem d_M_word_72 : ∃ off : Int, decode q_M_word.2.1 72 = .ok (.goto off, 3) ∧ ((72 : Nat) : Int) + off = ((15 : Nat) : Int) := ⟨-57, vm_db b_M_word_0 (i := 42) rfl, by decide⟩
theorem d_M_word_75 : vm_D q_M_word.2.1 75 1 76 (.aload_n 0) := vm_dD b_M_word_0 43 rfl rfl
theorem d_M_word_76 : vm_D q_M_word.2.1 76 3 79 (.invokevirtual 34) := vm_dD b_M_word_0 44 rfl rfl
theorem d_M_word_79 : vm_D q_M_word.2.1 79 1 80 (.aload_n 0) := vm_dD b_M_word_0 45 rfl rfl
theorem d_M_word_80 : vm_D q_M_word.2.1 80 3 83 (.getfield 21) := vm_dD b_M_word_0 46 rfl rfl
theorem d_M_word_83 : vm_D q_M_word.2.1 83 1 84 (.aload_n 0) := vm_dD b_M_word_0 47 rfl rfl
theorem d_M_word_84 : vm_D q_M_word.2.1 84 3 87 (.getfield 18) := vm_dD b_M_word_0 48 rfl rfl
theorem d_M_word_87 : vm_B q_M_word.2.1 87 90 94 (fun o => .if_icmp .ge o) := ⟨7, vm_db b_M_word_0 (i := 49) rfl, rfl, by decide⟩
theorem d_M_word_94 : vm_D q_M_word.2.1 94 1 95 (.aload_n 0) := vm_dD b_M_word_0 52 rfl rfl
theorem d_M_word_95 : vm_D q_M_word.2.1 95 1 96 (.aload_n 0) := vm_dD b_M_word_0 53 rfl rfl
theorem d_M_word_96 : vm_D q_M_word.2.1 96 3 99 (.getfield 24) := vm_dD b_M_word_0 54 rfl rfl
theorem d_M_word_99 : vm_D q_M_word.2.1 99 3 102 (.putfield 69) := vm_dD b_M_word_0 55 rfl rfl
theorem d_M_word_102 : vm_D q_M_word.2.1 102 1 103 (.aload_n 0) := vm_dD b_M_word_0 56 rfl rfl
theorem d_M_word_103 : vm_D q_M_word.2.1 103 1 104 (.aload_n 0) := vm_dD b_M_word_0 57 rfl rfl
theorem d_M_word_104 : vm_D q_M_word.2.1 104 3 107 (.invokevirtual 38) := vm_dD b_M_word_0 58 rfl rfl
theorem d_M_word_107 : vm_D q_M_word.2.1 107 1 108 (.iconst 1) := vm_dD b_M_word_0 59 rfl rfl
theorem d_M_word_108 : vm_D q_M_word.2.1 108 3 111 (.invokevirtual 180) := vm_dD b_M_word_1 0 rfl rfl
theorem d_M_word_111 : vm_B q_M_word.2.1 111 114 116 (fun o => .ifCond .eq o) := ⟨5, vm_db b_M_word_1 (i := 1) rfl, rfl, by decide⟩
theorem d_M_word_116 : vm_D q_M_word.2.1 116 1 117 (.aload_n 0) := vm_dD b_M_word_1 4 rfl rfl
theorem d_M_word_117 : vm_D q_M_word.2.1 117 1 118 (.iload_n 1) := vm_dD b_M_word_1 5 rfl rfl
theorem d_M_word_118 : vm_D q_M_word.2.1 118 3 121 (.invokevirtual 193) := vm_dD b_M_word_1 6 rfl rfl
theorem d_M_word_121 : vm_D q_M_word.2.1 121 1 122 (.aload_n 0) := vm_dD b_M_word_1 7 rfl rfl
theorem d_M_word_122 : vm_D q_M_word.2.1 122 3 125 (.getfield 184) := vm_dD b_M_word_1 8 rfl rfl
theorem d_M_word_125 : vm_D q_M_word.2.1 125 1 126 (.ireturn) := vm_dD b_M_word_1 9 rfl rfl
theorem d_M_word_114 : vm_D q_M_word.2.1 114 1 115 (.iconst 0) := vm_dD b_M_word_1 2 rfl rfl
theorem d_M_word_115 : vm_D q_M_word.2.1 115 1 116 (.ireturn) := vm_dD b_M_word_1 3 rfl rfl
theorem d_M_word_90 : vm_D q_M_word.2.1 90 1 91 (.aload_n 0) := vm_dD b_M_word_0 50 rfl rfl
theorem d_M_word_91 : vm_D q_M_word.2.1 91 3 94 (.invokevirtual 42) := vm_dD b_M_word_0 51 rfl rfl
def q_M_letter : vm_Y := ("RepeatFreeModel", cX11_letter, 2, false, [])
def t_M_letter_0 : List (Nat × Instr × Nat) := [(0, .aload_n 0, 1), (1, .iconst 0, 1), (2, .putfield 3, 3), (5, .iload_n 1, 1), (6, .iconst 0, 1), (7, .aload_n 0, 1), (8, .getfield 184, 3), (11, .iconst 1, 1), (12, .isub, 1), (13, .invokestatic 65, 3), (16, .ifCond .eq 12, 3), (19, .aload_n 0, 1), (20, .getfield 83, 3), (23, .iload_n 1, 1), (24, .iaload, 1), (25, .goto 4, 3), (28, .iconst (-1), 1), (29, .ireturn, 1)]
theorem b_M_letter_0 : (t_M_letter_0.all fun q => decide (decode q_M_letter.2.1 q.1 = .ok (q.2.1, q.2.2))) = true := by decide +kernel
theorem d_M_letter_0 : vm_D q_M_letter.2.1 0 1 1 (.aload_n 0) := vm_dD b_M_letter_0 0 rfl rfl
theorem d_M_letter_1 : vm_D q_M_letter.2.1 1 1 2 (.iconst 0) := vm_dD b_M_letter_0 1 rfl rfl
theorem d_M_letter_2 : vm_D q_M_letter.2.1 2 3 5 (.putfield 3) := vm_dD b_M_letter_0 2 rfl rfl
theorem d_M_letter_5 : vm_D q_M_letter.2.1 5 1 6 (.iload_n 1) := vm_dD b_M_letter_0 3 rfl rfl
theorem d_M_letter_6 : vm_D q_M_letter.2.1 6 1 7 (.iconst 0) := vm_dD b_M_letter_0 4 rfl rfl
theorem d_M_letter_7 : vm_D q_M_letter.2.1 7 1 8 (.aload_n 0) := vm_dD b_M_letter_0 5 rfl rfl
theorem d_M_letter_8 : vm_D q_M_letter.2.1 8 3 11 (.getfield 184) := vm_dD b_M_letter_0 6 rfl rfl
theorem d_M_letter_11 : vm_D q_M_letter.2.1 11 1 12 (.iconst 1) := vm_dD b_M_letter_0 7 rfl rfl
theorem d_M_letter_12 : vm_D q_M_letter.2.1 12 1 13 (.isub) := vm_dD b_M_letter_0 8 rfl rfl
theorem d_M_letter_13 : vm_D q_M_letter.2.1 13 3 16 (.invokestatic 65) := vm_dD b_M_letter_0 9 rfl rfl
theorem d_M_letter_16 : vm_B q_M_letter.2.1 16 19 28 (fun o => .ifCond .eq o) := ⟨12, vm_db b_M_letter_0 (i := 10) rfl, rfl, by decide⟩
theorem d_M_letter_28 : vm_D q_M_letter.2.1 28 1 29 (.iconst (-1)) := vm_dD b_M_letter_0 16 rfl rfl
theorem d_M_letter_29 : vm_D q_M_letter.2.1 29 1 30 (.ireturn) := vm_dD b_M_letter_0 17 rfl rfl
theorem d_M_letter_19 : vm_D q_M_letter.2.1 19 1 20 (.aload_n 0) := vm_dD b_M_letter_0 11 rfl rfl
theorem d_M_letter_20 : vm_D q_M_letter.2.1 20 3 23 (.getfield 83) := vm_dD b_M_letter_0 12 rfl rfl
theorem d_M_letter_23 : vm_D q_M_letter.2.1 23 1 24 (.iload_n 1) := vm_dD b_M_letter_0 13 rfl rfl
theorem d_M_letter_24 : vm_D q_M_letter.2.1 24 1 25 (.iaload) := vm_dD b_M_letter_0 14 rfl rfl
theorem d_M_letter_25 : ∃ off : Int, decode q_M_letter.2.1 25 = .ok (.goto off, 3) ∧ ((25 : Nat) : Int) + off = ((29 : Nat) : Int) := ⟨4, vm_db b_M_letter_0 (i := 15) rfl, by decide⟩
def q_M_noLetter : vm_Y := ("RepeatFreeModel", cX11_noLetter, 3, false, [])
def t_M_noLetter_0 : List (Nat × Instr × Nat) := [(0, .aload_n 0, 1), (1, .iload_n 1, 1), (2, .iconst 0, 1), (3, .aload_n 0, 1), (4, .getfield 77, 3), (7, .iconst 0, 1), (8, .iaload, 1), (9, .iconst 1, 1), (10, .isub, 1), (11, .invokestatic 65, 3), (14, .ifCond .ne 7, 3), (17, .iconst 1, 1), (18, .goto 4, 3), (21, .iconst 0, 1), (22, .iload_n 2, 1), (23, .invokevirtual 180, 3), (26, .ireturn, 1)]
theorem b_M_noLetter_0 : (t_M_noLetter_0.all fun q => decide (decode q_M_noLetter.2.1 q.1 = .ok (q.2.1, q.2.2))) = true := by decide +kernel
theorem d_M_noLetter_0 : vm_D q_M_noLetter.2.1 0 1 1 (.aload_n 0) := vm_dD b_M_noLetter_0 0 rfl rfl
theorem d_M_noLetter_1 : vm_D q_M_noLetter.2.1 1 1 2 (.iload_n 1) := vm_dD b_M_noLetter_0 1 rfl rfl
theorem d_M_noLetter_2 : vm_D q_M_noLetter.2.1 2 1 3 (.iconst 0) := vm_dD b_M_noLetter_0 2 rfl rfl
theorem d_M_noLetter_3 : vm_D q_M_noLetter.2.1 3 1 4 (.aload_n 0) := vm_dD b_M_noLetter_0 3 rfl rfl
theorem d_M_noLetter_4 : vm_D q_M_noLetter.2.1 4 3 7 (.getfield 77) := vm_dD b_M_noLetter_0 4 rfl rfl
theorem d_M_noLetter_7 : vm_D q_M_noLetter.2.1 7 1 8 (.iconst 0) := vm_dD b_M_noLetter_0 5 rfl rfl
theorem d_M_noLetter_8 : vm_D q_M_noLetter.2.1 8 1 9 (.iaload) := vm_dD b_M_noLetter_0 6 rfl rfl
theorem d_M_noLetter_9 : vm_D q_M_noLetter.2.1 9 1 10 (.iconst 1) := vm_dD b_M_noLetter_0 7 rfl rfl
theorem d_M_noLetter_10 : vm_D q_M_noLetter.2.1 10 1 11 (.isub) := vm_dD b_M_noLetter_0 8 rfl rfl
theorem d_M_noLetter_11 : vm_D q_M_noLetter.2.1 11 3 14 (.invokestatic 65) := vm_dD b_M_noLetter_0 9 rfl rfl
theorem d_M_noLetter_14 : vm_B q_M_noLetter.2.1 14 17 21 (fun o => .ifCond .ne o) := ⟨7, vm_db b_M_noLetter_0 (i := 10) rfl, rfl, by decide⟩
theorem d_M_noLetter_22 : vm_D q_M_noLetter.2.1 22 1 23 (.iload_n 2) := vm_dD b_M_noLetter_0 14 rfl rfl
theorem d_M_noLetter_23 : vm_D q_M_noLetter.2.1 23 3 26 (.invokevirtual 180) := vm_dD b_M_noLetter_0 15 rfl rfl
theorem d_M_noLetter_26 : vm_D q_M_noLetter.2.1 26 1 27 (.ireturn) := vm_dD b_M_noLetter_0 16 rfl rfl
theorem d_M_noLetter_21 : vm_D q_M_noLetter.2.1 21 1 22 (.iconst 0) := vm_dD b_M_noLetter_0 13 rfl rfl
theorem d_M_noLetter_17 : vm_D q_M_noLetter.2.1 17 1 18 (.iconst 1) := vm_dD b_M_noLetter_0 11 rfl rfl
theorem d_M_noLetter_18 : ∃ off : Int, decode q_M_noLetter.2.1 18 = .ok (.goto off, 3) ∧ ((18 : Nat) : Int) + off = ((22 : Nat) : Int) := ⟨4, vm_db b_M_noLetter_0 (i := 12) rfl, by decide⟩
def q_M_push : vm_Y := ("RepeatFreeModel", cX11_push, 2, false, [])
def t_M_push_0 : List (Nat × Instr × Nat) := [(0, .aload_n 0, 1), (1, .iconst 0, 1), (2, .putfield 3, 3), (5, .aload_n 0, 1), (6, .iload_n 1, 1), (7, .iconst 1, 1), (8, .invokevirtual 196, 3), (11, .ifCond .ne 25, 3), (14, .aload_n 0, 1), (15, .aload_n 0, 1), (16, .getfield 184, 3), (19, .bipush 64, 2), (21, .if_icmp .ne 7, 3), (24, .iconst 1, 1), (25, .goto 4, 3), (28, .iconst 0, 1), (29, .iconst 2, 1), (30, .invokevirtual 180, 3), (33, .ifCond .eq 5, 3), (36, .iconst 0, 1), (37, .ireturn, 1), (38, .aload_n 0, 1), (39, .invokevirtual 190, 3), (42, .aload_n 0, 1), (43, .getfield 83, 3), (46, .aload_n 0, 1), (47, .getfield 184, 3), (50, .iload_n 1, 1), (51, .iastore, 1), (52, .aload_n 0, 1), (53, .dup, 1), (54, .getfield 184, 3), (57, .iconst 1, 1), (58, .iadd, 1), (59, .putfield 184, 3), (62, .aload_n 0, 1), (63, .getfield 184, 3), (66, .ireturn, 1)]
theorem b_M_push_0 : (t_M_push_0.all fun q => decide (decode q_M_push.2.1 q.1 = .ok (q.2.1, q.2.2))) = true := by decide +kernel
theorem d_M_push_0 : vm_D q_M_push.2.1 0 1 1 (.aload_n 0) := vm_dD b_M_push_0 0 rfl rfl
theorem d_M_push_1 : vm_D q_M_push.2.1 1 1 2 (.iconst 0) := vm_dD b_M_push_0 1 rfl rfl
theorem d_M_push_2 : vm_D q_M_push.2.1 2 3 5 (.putfield 3) := vm_dD b_M_push_0 2 rfl rfl
theorem d_M_push_5 : vm_D q_M_push.2.1 5 1 6 (.aload_n 0) := vm_dD b_M_push_0 3 rfl rfl
theorem d_M_push_6 : vm_D q_M_push.2.1 6 1 7 (.iload_n 1) := vm_dD b_M_push_0 4 rfl rfl
theorem d_M_push_7 : vm_D q_M_push.2.1 7 1 8 (.iconst 1) := vm_dD b_M_push_0 5 rfl rfl
theorem d_M_push_8 : vm_D q_M_push.2.1 8 3 11 (.invokevirtual 196) := vm_dD b_M_push_0 6 rfl rfl
theorem d_M_push_11 : vm_B q_M_push.2.1 11 14 36 (fun o => .ifCond .ne o) := ⟨25, vm_db b_M_push_0 (i := 7) rfl, rfl, by decide⟩
theorem d_M_push_36 : vm_D q_M_push.2.1 36 1 37 (.iconst 0) := vm_dD b_M_push_0 19 rfl rfl
theorem d_M_push_37 : vm_D q_M_push.2.1 37 1 38 (.ireturn) := vm_dD b_M_push_0 20 rfl rfl
theorem d_M_push_14 : vm_D q_M_push.2.1 14 1 15 (.aload_n 0) := vm_dD b_M_push_0 8 rfl rfl
theorem d_M_push_15 : vm_D q_M_push.2.1 15 1 16 (.aload_n 0) := vm_dD b_M_push_0 9 rfl rfl
theorem d_M_push_16 : vm_D q_M_push.2.1 16 3 19 (.getfield 184) := vm_dD b_M_push_0 10 rfl rfl
theorem d_M_push_19 : vm_D q_M_push.2.1 19 2 21 (.bipush 64) := vm_dD b_M_push_0 11 rfl rfl
theorem d_M_push_21 : vm_B q_M_push.2.1 21 24 28 (fun o => .if_icmp .ne o) := ⟨7, vm_db b_M_push_0 (i := 12) rfl, rfl, by decide⟩
theorem d_M_push_29 : vm_D q_M_push.2.1 29 1 30 (.iconst 2) := vm_dD b_M_push_0 16 rfl rfl
theorem d_M_push_30 : vm_D q_M_push.2.1 30 3 33 (.invokevirtual 180) := vm_dD b_M_push_0 17 rfl rfl
theorem d_M_push_33 : vm_B q_M_push.2.1 33 36 38 (fun o => .ifCond .eq o) := ⟨5, vm_db b_M_push_0 (i := 18) rfl, rfl, by decide⟩
theorem d_M_push_38 : vm_D q_M_push.2.1 38 1 39 (.aload_n 0) := vm_dD b_M_push_0 21 rfl rfl
theorem d_M_push_39 : vm_D q_M_push.2.1 39 3 42 (.invokevirtual 190) := vm_dD b_M_push_0 22 rfl rfl
theorem d_M_push_42 : vm_D q_M_push.2.1 42 1 43 (.aload_n 0) := vm_dD b_M_push_0 23 rfl rfl
theorem d_M_push_43 : vm_D q_M_push.2.1 43 3 46 (.getfield 83) := vm_dD b_M_push_0 24 rfl rfl
theorem d_M_push_46 : vm_D q_M_push.2.1 46 1 47 (.aload_n 0) := vm_dD b_M_push_0 25 rfl rfl
theorem d_M_push_47 : vm_D q_M_push.2.1 47 3 50 (.getfield 184) := vm_dD b_M_push_0 26 rfl rfl
theorem d_M_push_50 : vm_D q_M_push.2.1 50 1 51 (.iload_n 1) := vm_dD b_M_push_0 27 rfl rfl
theorem d_M_push_51 : vm_D q_M_push.2.1 51 1 52 (.iastore) := vm_dD b_M_push_0 28 rfl rfl
theorem d_M_push_52 : vm_D q_M_push.2.1 52 1 53 (.aload_n 0) := vm_dD b_M_push_0 29 rfl rfl
theorem d_M_push_53 : vm_D q_M_push.2.1 53 1 54 (.dup) := vm_dD b_M_push_0 30 rfl rfl
theorem d_M_push_54 : vm_D q_M_push.2.1 54 3 57 (.getfield 184) := vm_dD b_M_push_0 31 rfl rfl
theorem d_M_push_57 : vm_D q_M_push.2.1 57 1 58 (.iconst 1) := vm_dD b_M_push_0 32 rfl rfl
theorem d_M_push_58 : vm_D q_M_push.2.1 58 1 59 (.iadd) := vm_dD b_M_push_0 33 rfl rfl
theorem d_M_push_59 : vm_D q_M_push.2.1 59 3 62 (.putfield 184) := vm_dD b_M_push_0 34 rfl rfl
theorem d_M_push_62 : vm_D q_M_push.2.1 62 1 63 (.aload_n 0) := vm_dD b_M_push_0 35 rfl rfl
theorem d_M_push_63 : vm_D q_M_push.2.1 63 3 66 (.getfield 184) := vm_dD b_M_push_0 36 rfl rfl
theorem d_M_push_66 : vm_D q_M_push.2.1 66 1 67 (.ireturn) := vm_dD b_M_push_0 37 rfl rfl
theorem d_M_push_28 : vm_D q_M_push.2.1 28 1 29 (.iconst 0) := vm_dD b_M_push_0 15 rfl rfl
theorem d_M_push_24 : vm_D q_M_push.2.1 24 1 25 (.iconst 1) := vm_dD b_M_push_0 13 rfl rfl
theorem d_M_push_25 : ∃ off : Int, decode q_M_push.2.1 25 = .ok (.goto off, 3) ∧ ((25 : Nat) : Int) + off = ((29 : Nat) : Int) := ⟨4, vm_db b_M_push_0 (i := 14) rfl, by decide⟩
def q_M_pop : vm_Y := ("RepeatFreeModel", cX11_pop, 1, false, [])
def t_M_pop_0 : List (Nat × Instr × Nat) := [(0, .aload_n 0, 1), (1, .iconst 0, 1), (2, .putfield 3, 3), (5, .aload_n 0, 1), (6, .aload_n 0, 1), (7, .getfield 184, 3), (10, .ifCond .ne 7, 3), (13, .iconst 1, 1), (14, .goto 4, 3), (17, .iconst 0, 1), (18, .iconst 1, 1), (19, .invokevirtual 180, 3), (22, .ifCond .eq 5, 3), (25, .iconst 0, 1), (26, .ireturn, 1), (27, .aload_n 0, 1), (28, .invokevirtual 190, 3), (31, .aload_n 0, 1), (32, .dup, 1), (33, .getfield 184, 3), (36, .iconst 1, 1), (37, .isub, 1), (38, .putfield 184, 3), (41, .aload_n 0, 1), (42, .getfield 83, 3), (45, .aload_n 0, 1), (46, .getfield 184, 3), (49, .iaload, 1), (50, .ireturn, 1)]
theorem b_M_pop_0 : (t_M_pop_0.all fun q => decide (decode q_M_pop.2.1 q.1 = .ok (q.2.1, q.2.2))) = true := by decide +kernel
theorem d_M_pop_0 : vm_D q_M_pop.2.1 0 1 1 (.aload_n 0) := vm_dD b_M_pop_0 0 rfl rfl
theorem d_M_pop_1 : vm_D q_M_pop.2.1 1 1 2 (.iconst 0) := vm_dD b_M_pop_0 1 rfl rfl
theorem d_M_pop_2 : vm_D q_M_pop.2.1 2 3 5 (.putfield 3) := vm_dD b_M_pop_0 2 rfl rfl
theorem d_M_pop_5 : vm_D q_M_pop.2.1 5 1 6 (.aload_n 0) := vm_dD b_M_pop_0 3 rfl rfl
theorem d_M_pop_6 : vm_D q_M_pop.2.1 6 1 7 (.aload_n 0) := vm_dD b_M_pop_0 4 rfl rfl
theorem d_M_pop_7 : vm_D q_M_pop.2.1 7 3 10 (.getfield 184) := vm_dD b_M_pop_0 5 rfl rfl
theorem d_M_pop_10 : vm_B q_M_pop.2.1 10 13 17 (fun o => .ifCond .ne o) := ⟨7, vm_db b_M_pop_0 (i := 6) rfl, rfl, by decide⟩
theorem d_M_pop_18 : vm_D q_M_pop.2.1 18 1 19 (.iconst 1) := vm_dD b_M_pop_0 10 rfl rfl
theorem d_M_pop_19 : vm_D q_M_pop.2.1 19 3 22 (.invokevirtual 180) := vm_dD b_M_pop_0 11 rfl rfl
theorem d_M_pop_22 : vm_B q_M_pop.2.1 22 25 27 (fun o => .ifCond .eq o) := ⟨5, vm_db b_M_pop_0 (i := 12) rfl, rfl, by decide⟩
theorem d_M_pop_27 : vm_D q_M_pop.2.1 27 1 28 (.aload_n 0) := vm_dD b_M_pop_0 15 rfl rfl
theorem d_M_pop_28 : vm_D q_M_pop.2.1 28 3 31 (.invokevirtual 190) := vm_dD b_M_pop_0 16 rfl rfl
theorem d_M_pop_31 : vm_D q_M_pop.2.1 31 1 32 (.aload_n 0) := vm_dD b_M_pop_0 17 rfl rfl
theorem d_M_pop_32 : vm_D q_M_pop.2.1 32 1 33 (.dup) := vm_dD b_M_pop_0 18 rfl rfl
theorem d_M_pop_33 : vm_D q_M_pop.2.1 33 3 36 (.getfield 184) := vm_dD b_M_pop_0 19 rfl rfl
theorem d_M_pop_36 : vm_D q_M_pop.2.1 36 1 37 (.iconst 1) := vm_dD b_M_pop_0 20 rfl rfl
theorem d_M_pop_37 : vm_D q_M_pop.2.1 37 1 38 (.isub) := vm_dD b_M_pop_0 21 rfl rfl
theorem d_M_pop_38 : vm_D q_M_pop.2.1 38 3 41 (.putfield 184) := vm_dD b_M_pop_0 22 rfl rfl
theorem d_M_pop_41 : vm_D q_M_pop.2.1 41 1 42 (.aload_n 0) := vm_dD b_M_pop_0 23 rfl rfl
theorem d_M_pop_42 : vm_D q_M_pop.2.1 42 3 45 (.getfield 83) := vm_dD b_M_pop_0 24 rfl rfl
theorem d_M_pop_45 : vm_D q_M_pop.2.1 45 1 46 (.aload_n 0) := vm_dD b_M_pop_0 25 rfl rfl
theorem d_M_pop_46 : vm_D q_M_pop.2.1 46 3 49 (.getfield 184) := vm_dD b_M_pop_0 26 rfl rfl
theorem d_M_pop_49 : vm_D q_M_pop.2.1 49 1 50 (.iaload) := vm_dD b_M_pop_0 27 rfl rfl
theorem d_M_pop_50 : vm_D q_M_pop.2.1 50 1 51 (.ireturn) := vm_dD b_M_pop_0 28 rfl rfl
theorem d_M_pop_25 : vm_D q_M_pop.2.1 25 1 26 (.iconst 0) := vm_dD b_M_pop_0 13 rfl rfl
theorem d_M_pop_26 : vm_D q_M_pop.2.1 26 1 27 (.ireturn) := vm_dD b_M_pop_0 14 rfl rfl
theorem d_M_pop_17 : vm_D q_M_pop.2.1 17 1 18 (.iconst 0) := vm_dD b_M_pop_0 9 rfl rfl
theorem d_M_pop_13 : vm_D q_M_pop.2.1 13 1 14 (.iconst 1) := vm_dD b_M_pop_0 7 rfl rfl
theorem d_M_pop_14 : ∃ off : Int, decode q_M_pop.2.1 14 = .ok (.goto off, 3) ∧ ((14 : Nat) : Int) + off = ((18 : Nat) : Int) := ⟨4, vm_db b_M_pop_0 (i := 8) rfl, by decide⟩
def q_M_isBeyond : vm_Y := ("RepeatFreeModel", cX11_isBeyond, 4, false, [])
def t_M_isBeyond_0 : List (Nat × Instr × Nat) := [(0, .iload_n 1, 1), (1, .aload_n 0, 1), (2, .getfield 77, 3), (5, .iconst 3, 1), (6, .iaload, 1), (7, .imul, 1), (8, .aload_n 0, 1), (9, .getfield 77, 3), (12, .iconst 2, 1), (13, .iaload, 1), (14, .iload_n 2, 1), (15, .imul, 1), (16, .isub, 1), (17, .istore_n 3, 1), (18, .aload_n 0, 1), (19, .getfield 77, 3), (22, .iconst 1, 1), (23, .iaload, 1), (24, .iconst 1, 1), (25, .if_icmp .ne 15, 3), (28, .iload_n 3, 1), (29, .ifCond .lt 7, 3), (32, .iconst 1, 1), (33, .goto 26, 3), (36, .iconst 0, 1), (37, .goto 22, 3), (40, .aload_n 0, 1), (41, .getfield 77, 3), (44, .iconst 1, 1), (45, .iaload, 1), (46, .iconst 2, 1), (47, .if_icmp .ne 11, 3), (50, .iload_n 3, 1), (51, .ifCond .le 7, 3), (54, .iconst 1, 1), (55, .goto 4, 3), (58, .iconst 0, 1), (59, .ireturn, 1)]
theorem b_M_isBeyond_0 : (t_M_isBeyond_0.all fun q => decide (decode q_M_isBeyond.2.1 q.1 = .ok (q.2.1, q.2.2))) = true := by decide +kernel
theorem d_M_isBeyond_0 : vm_D q_M_isBeyond.2.1 0 1 1 (.iload_n 1) := vm_dD b_M_isBeyond_0 0 rfl rfl
theorem d_M_isBeyond_1 : vm_D q_M_isBeyond.2.1 1 1 2 (.aload_n 0) := vm_dD b_M_isBeyond_0 1 rfl rfl
theorem d_M_isBeyond_2 : vm_D q_M_isBeyond.2.1 2 3 5 (.getfield 77) := vm_dD b_M_isBeyond_0 2 rfl rfl
theorem d_M_isBeyond_5 : vm_D q_M_isBeyond.2.1 5 1 6 (.iconst 3) := vm_dD b_M_isBeyond_0 3 rfl rfl
theorem d_M_isBeyond_6 : vm_D q_M_isBeyond.2.1 6 1 7 (.iaload) := vm_dD b_M_isBeyond_0 4 rfl rfl
theorem d_M_isBeyond_7 : vm_D q_M_isBeyond.2.1 7 1 8 (.imul) := vm_dD b_M_isBeyond_0 5 rfl rfl
theorem d_M_isBeyond_8 : vm_D q_M_isBeyond.2.1 8 1 9 (.aload_n 0) := vm_dD b_M_isBeyond_0 6 rfl rfl
theorem d_M_isBeyond_9 : vm_D q_M_isBeyond.2.1 9 3 12 (.getfield 77) := vm_dD b_M_isBeyond_0 7 rfl rfl
theorem d_M_isBeyond_12 : vm_D q_M_isBeyond.2.1 12 1 13 (.iconst 2) := vm_dD b_M_isBeyond_0 8 rfl rfl
theorem d_M_isBeyond_13 : vm_D q_M_isBeyond.2.1 13 1 14 (.iaload) := vm_dD b_M_isBeyond_0 9 rfl rfl
theorem d_M_isBeyond_14 : vm_D q_M_isBeyond.2.1 14 1 15 (.iload_n 2) := vm_dD b_M_isBeyond_0 10 rfl rfl
theorem d_M_isBeyond_15 : vm_D q_M_isBeyond.2.1 15 1 16 (.imul) := vm_dD b_M_isBeyond_0 11 rfl rfl
theorem d_M_isBeyond_16 : vm_D q_M_isBeyond.2.1 16 1 17 (.isub) := vm_dD b_M_isBeyond_0 12 rfl rfl
theorem d_M_isBeyond_17 : vm_D q_M_isBeyond.2.1 17 1 18 (.istore_n 3) := vm_dD b_M_isBeyond_0 13 rfl rfl
theorem d_M_isBeyond_18 : vm_D q_M_isBeyond.2.1 18 1 19 (.aload_n 0) := vm_dD b_M_isBeyond_0 14 rfl rfl
theorem d_M_isBeyond_19 : vm_D q_M_isBeyond.2.1 19 3 22 (.getfield 77) := vm_dD b_M_isBeyond_0 15 rfl rfl
theorem d_M_isBeyond_22 : vm_D q_M_isBeyond.2.1 22 1 23 (.iconst 1) := vm_dD b_M_isBeyond_0 16 rfl rfl
theorem d_M_isBeyond_23 : vm_D q_M_isBeyond.2.1 23 1 24 (.iaload) := vm_dD b_M_isBeyond_0 17 rfl rfl
theorem d_M_isBeyond_24 : vm_D q_M_isBeyond.2.1 24 1 25 (.iconst 1) := vm_dD b_M_isBeyond_0 18 rfl rfl
theorem d_M_isBeyond_25 : vm_B q_M_isBeyond.2.1 25 28 40 (fun o => .if_icmp .ne o) := ⟨15, vm_db b_M_isBeyond_0 (i := 19) rfl, rfl, by decide⟩
theorem d_M_isBeyond_40 : vm_D q_M_isBeyond.2.1 40 1 41 (.aload_n 0) := vm_dD b_M_isBeyond_0 26 rfl rfl
theorem d_M_isBeyond_41 : vm_D q_M_isBeyond.2.1 41 3 44 (.getfield 77) := vm_dD b_M_isBeyond_0 27 rfl rfl
theorem d_M_isBeyond_44 : vm_D q_M_isBeyond.2.1 44 1 45 (.iconst 1) := vm_dD b_M_isBeyond_0 28 rfl rfl
theorem d_M_isBeyond_45 : vm_D q_M_isBeyond.2.1 45 1 46 (.iaload) := vm_dD b_M_isBeyond_0 29 rfl rfl
theorem d_M_isBeyond_46 : vm_D q_M_isBeyond.2.1 46 1 47 (.iconst 2) := vm_dD b_M_isBeyond_0 30 rfl rfl
theorem d_M_isBeyond_47 : vm_B q_M_isBeyond.2.1 47 50 58 (fun o => .if_icmp .ne o) := ⟨11, vm_db b_M_isBeyond_0 (i := 31) rfl, rfl, by decide⟩
theorem d_M_isBeyond_58 : vm_D q_M_isBeyond.2.1 58 1 59 (.iconst 0) := vm_dD b_M_isBeyond_0 36 rfl rfl
theorem d_M_isBeyond_59 : vm_D q_M_isBeyond.2.1 59 1 60 (.ireturn) := vm_dD b_M_isBeyond_0 37 rfl rfl
theorem d_M_isBeyond_50 : vm_D q_M_isBeyond.2.1 50 1 51 (.iload_n 3) := vm_dD b_M_isBeyond_0 32 rfl rfl
theorem d_M_isBeyond_51 : vm_B q_M_isBeyond.2.1 51 54 58 (fun o => .ifCond .le o) := ⟨7, vm_db b_M_isBeyond_0 (i := 33) rfl, rfl, by decide⟩
theorem d_M_isBeyond_54 : vm_D q_M_isBeyond.2.1 54 1 55 (.iconst 1) := vm_dD b_M_isBeyond_0 34 rfl rfl
theorem d_M_isBeyond_55 : ∃ off : Int, decode q_M_isBeyond.2.1 55 = .ok (.goto off, 3) ∧ ((55 : Nat) : Int) + off = ((59 : Nat) : Int) := ⟨4, vm_db b_M_isBeyond_0 (i := 35) rfl, by decide⟩
theorem d_M_isBeyond_28 : vm_D q_M_isBeyond.2.1 28 1 29 (.iload_n 3) := vm_dD b_M_isBeyond_0 20 rfl rfl
theorem d_M_isBeyond_29 : vm_B q_M_isBeyond.2.1 29 32 36 (fun o => .ifCond .lt o) := ⟨7, vm_db b_M_isBeyond_0 (i := 21) rfl, rfl, by decide⟩
theorem d_M_isBeyond_36 : vm_D q_M_isBeyond.2.1 36 1 37 (.iconst 0) := vm_dD b_M_isBeyond_0 24 rfl rfl
theorem d_M_isBeyond_37 : ∃ off : Int, decode q_M_isBeyond.2.1 37 = .ok (.goto off, 3) ∧ ((37 : Nat) : Int) + off = ((59 : Nat) : Int) := ⟨22, vm_db b_M_isBeyond_0 (i := 25) rfl, by decide⟩
theorem d_M_isBeyond_32 : vm_D q_M_isBeyond.2.1 32 1 33 (.iconst 1) := vm_dD b_M_isBeyond_0 22 rfl rfl
theorem d_M_isBeyond_33 : ∃ off : Int, decode q_M_isBeyond.2.1 33 = .ok (.goto off, 3) ∧ ((33 : Nat) : Int) + off = ((59 : Nat) : Int) := ⟨26, vm_db b_M_isBeyond_0 (i := 23) rfl, by decide⟩
def q_M_isRepeated : vm_Y := ("RepeatFreeModel", cX11_isRepeated, 5, false, [])
def t_M_isRepeated_0 : List (Nat × Instr × Nat) := [(0, .iconst 1, 1), (1, .istore_n 3, 1), (2, .iload_n 3, 1), (3, .iload_n 2, 1), (4, .if_icmp .gt 66, 3), (7, .aload_n 0, 1), (8, .getfield 77, 3), (11, .iconst 1, 1), (12, .iaload, 1), (13, .ifCond .le 57, 3), (16, .iload_n 3, 1), (17, .istore 4, 2), (19, .iload 4, 2), (21, .iload_n 2, 1), (22, .if_icmp .ge 30, 3), (25, .aload_n 1, 1), (26, .iload_n 2, 1), (27, .iconst 1, 1), (28, .isub, 1), (29, .iload 4, 2), (31, .isub, 1), (32, .iaload, 1), (33, .aload_n 1, 1), (34, .iload_n 2, 1), (35, .iconst 1, 1), (36, .isub, 1), (37, .iload 4, 2), (39, .isub, 1), (40, .iload_n 3, 1), (41, .iadd, 1), (42, .iaload, 1), (43, .if_icmp .ne 9, 3), (46, .iinc 4 1, 3), (49, .goto (-30), 3), (52, .aload_n 0, 1), (53, .iload 4, 2), (55, .iload_n 3, 1), (56, .invokevirtual 199, 3), (59, .ifCond .eq 5, 3), (62, .iconst 1, 1), (63, .ireturn, 1), (64, .iinc 3 1, 3), (67, .goto (-65), 3), (70, .iconst 0, 1), (71, .ireturn, 1)]
theorem b_M_isRepeated_0 : (t_M_isRepeated_0.all fun q => decide (decode q_M_isRepeated.2.1 q.1 = .ok (q.2.1, q.2.2))) = true := by decide +kernel
theorem d_M_isRepeated_0 : vm_D q_M_isRepeated.2.1 0 1 1 (.iconst 1) := vm_dD b_M_isRepeated_0 0 rfl rfl
theorem d_M_isRepeated_1 : vm_D q_M_isRepeated.2.1 1 1 2 (.istore_n 3) := vm_dD b_M_isRepeated_0 1 rfl rfl
theorem d_M_isRepeated_2 : vm_D q_M_isRepeated.2.1 2 1 3 (.iload_n 3) := vm_dD b_M_isRepeated_0 2 rfl rfl
theorem d_M_isRepeated_3 : vm_D q_M_isRepeated.2.1 3 1 4 (.iload_n 2) := vm_dD b_M_isRepeated_0 3 rfl rfl
theorem d_M_isRepeated_4 : vm_B q_M_isRepeated.2.1 4 7 70 (fun o => .if_icmp .gt o) := ⟨66, vm_db b_M_isRepeated_0 (i := 4) rfl, rfl, by decide⟩
theorem d_M_isRepeated_7 : vm_D q_M_isRepeated.2.1 7 1 8 (.aload_n 0) := vm_dD b_M_isRepeated_0 5 rfl rfl
theorem d_M_isRepeated_8 : vm_D q_M_isRepeated.2.1 8 3 11 (.getfield 77) := vm_dD b_M_isRepeated_0 6 rfl rfl
theorem d_M_isRepeated_11 : vm_D q_M_isRepeated.2.1 11 1 12 (.iconst 1) := vm_dD b_M_isRepeated_0 7 rfl rfl
theorem d_M_isRepeated_12 : vm_D q_M_isRepeated.2.1 12 1 13 (.iaload) := vm_dD b_M_isRepeated_0 8 rfl rfl
theorem d_M_isRepeated_13 : vm_B q_M_isRepeated.2.1 13 16 70 (fun o => .ifCond .le o) := ⟨57, vm_db b_M_isRepeated_0 (i := 9) rfl, rfl, by decide⟩
theorem d_M_isRepeated_16 : vm_D q_M_isRepeated.2.1 16 1 17 (.iload_n 3) := vm_dD b_M_isRepeated_0 10 rfl rfl
theorem d_M_isRepeated_17 : vm_D q_M_isRepeated.2.1 17 2 19 (.istore 4) := vm_dD b_M_isRepeated_0 11 rfl rfl
theorem d_M_isRepeated_19 : vm_D q_M_isRepeated.2.1 19 2 21 (.iload 4) := vm_dD b_M_isRepeated_0 12 rfl rfl
theorem d_M_isRepeated_21 : vm_D q_M_isRepeated.2.1 21 1 22 (.iload_n 2) := vm_dD b_M_isRepeated_0 13 rfl rfl
theorem d_M_isRepeated_22 : vm_B q_M_isRepeated.2.1 22 25 52 (fun o => .if_icmp .ge o) := ⟨30, vm_db b_M_isRepeated_0 (i := 14) rfl, rfl, by decide⟩
theorem d_M_isRepeated_25 : vm_D q_M_isRepeated.2.1 25 1 26 (.aload_n 1) := vm_dD b_M_isRepeated_0 15 rfl rfl
theorem d_M_isRepeated_26 : vm_D q_M_isRepeated.2.1 26 1 27 (.iload_n 2) := vm_dD b_M_isRepeated_0 16 rfl rfl
theorem d_M_isRepeated_27 : vm_D q_M_isRepeated.2.1 27 1 28 (.iconst 1) := vm_dD b_M_isRepeated_0 17 rfl rfl
theorem d_M_isRepeated_28 : vm_D q_M_isRepeated.2.1 28 1 29 (.isub) := vm_dD b_M_isRepeated_0 18 rfl rfl
theorem d_M_isRepeated_29 : vm_D q_M_isRepeated.2.1 29 2 31 (.iload 4) := vm_dD b_M_isRepeated_0 19 rfl rfl
theorem d_M_isRepeated_31 : vm_D q_M_isRepeated.2.1 31 1 32 (.isub) := vm_dD b_M_isRepeated_0 20 rfl rfl
theorem d_M_isRepeated_32 : vm_D q_M_isRepeated.2.1 32 1 33 (.iaload) := vm_dD b_M_isRepeated_0 21 rfl rfl
theorem d_M_isRepeated_33 : vm_D q_M_isRepeated.2.1 33 1 34 (.aload_n 1) := vm_dD b_M_isRepeated_0 22 rfl rfl
theorem d_M_isRepeated_34 : vm_D q_M_isRepeated.2.1 34 1 35 (.iload_n 2) := vm_dD b_M_isRepeated_0 23 rfl rfl
theorem d_M_isRepeated_35 : vm_D q_M_isRepeated.2.1 35 1 36 (.iconst 1) := vm_dD b_M_isRepeated_0 24 rfl rfl
theorem d_M_isRepeated_36 : vm_D q_M_isRepeated.2.1 36 1 37 (.isub) := vm_dD b_M_isRepeated_0 25 rfl rfl
theorem d_M_isRepeated_37 : vm_D q_M_isRepeated.2.1 37 2 39 (.iload 4) := vm_dD b_M_isRepeated_0 26 rfl rfl
theorem d_M_isRepeated_39 : vm_D q_M_isRepeated.2.1 39 1 40 (.isub) := vm_dD b_M_isRepeated_0 27 rfl rfl
theorem d_M_isRepeated_40 : vm_D q_M_isRepeated.2.1 40 1 41 (.iload_n 3) := vm_dD b_M_isRepeated_0 28 rfl rfl
theorem d_M_isRepeated_41 : vm_D q_M_isRepeated.2.1 41 1 42 (.iadd) := vm_dD b_M_isRepeated_0 29 rfl rfl
theorem d_M_isRepeated_42 : vm_D q_M_isRepeated.2.1 42 1 43 (.iaload) := vm_dD b_M_isRepeated_0 30 rfl rfl
theorem d_M_isRepeated_43 : vm_B q_M_isRepeated.2.1 43 46 52 (fun o => .if_icmp .ne o) := ⟨9, vm_db b_M_isRepeated_0 (i := 31) rfl, rfl, by decide⟩
theorem d_M_isRepeated_46 : vm_D q_M_isRepeated.2.1 46 3 49 (.iinc 4 1) := vm_dD b_M_isRepeated_0 32 rfl rfl
theorem d_M_isRepeated_49 : ∃ off : Int, decode q_M_isRepeated.2.1 49 = .ok (.goto off, 3) ∧ ((49 : Nat) : Int) + off = ((19 : Nat) : Int) := ⟨-30, vm_db b_M_isRepeated_0 (i := 33) rfl, by decide⟩
theorem d_M_isRepeated_52 : vm_D q_M_isRepeated.2.1 52 1 53 (.aload_n 0) := vm_dD b_M_isRepeated_0 34 rfl rfl
theorem d_M_isRepeated_53 : vm_D q_M_isRepeated.2.1 53 2 55 (.iload 4) := vm_dD b_M_isRepeated_0 35 rfl rfl
theorem d_M_isRepeated_55 : vm_D q_M_isRepeated.2.1 55 1 56 (.iload_n 3) := vm_dD b_M_isRepeated_0 36 rfl rfl
theorem d_M_isRepeated_56 : vm_D q_M_isRepeated.2.1 56 3 59 (.invokevirtual 199) := vm_dD b_M_isRepeated_0 37 rfl rfl
theorem d_M_isRepeated_59 : vm_B q_M_isRepeated.2.1 59 62 64 (fun o => .ifCond .eq o) := ⟨5, vm_db b_M_isRepeated_0 (i := 38) rfl, rfl, by decide⟩
theorem d_M_isRepeated_64 : vm_D q_M_isRepeated.2.1 64 3 67 (.iinc 3 1) := vm_dD b_M_isRepeated_0 41 rfl rfl
theorem d_M_isRepeated_67 : ∃ off : Int, decode q_M_isRepeated.2.1 67 = .ok (.goto off, 3) ∧ ((67 : Nat) : Int) + off = ((2 : Nat) : Int) := ⟨-65, vm_db b_M_isRepeated_0 (i := 42) rfl, by decide⟩
theorem d_M_isRepeated_62 : vm_D q_M_isRepeated.2.1 62 1 63 (.iconst 1) := vm_dD b_M_isRepeated_0 39 rfl rfl
theorem d_M_isRepeated_63 : vm_D q_M_isRepeated.2.1 63 1 64 (.ireturn) := vm_dD b_M_isRepeated_0 40 rfl rfl
theorem d_M_isRepeated_70 : vm_D q_M_isRepeated.2.1 70 1 71 (.iconst 0) := vm_dD b_M_isRepeated_0 43 rfl rfl
theorem d_M_isRepeated_71 : vm_D q_M_isRepeated.2.1 71 1 72 (.ireturn) := vm_dD b_M_isRepeated_0 44 rfl rfl
def q_M_letterOf : vm_Y := ("RepeatFreeModel", cX11_letterOf, 3, false, [])
def t_M_letterOf_0 : List (Nat × Instr × Nat) := [(0, .aload_n 0, 1), (1, .getfield 77, 3), (4, .sipush 170, 3), (7, .bipush 6, 2), (9, .iload_n 1, 1), (10, .imul, 1), (11, .iadd, 1), (12, .iload_n 2, 1), (13, .iadd, 1), (14, .iaload, 1), (15, .ireturn, 1)]
theorem b_M_letterOf_0 : (t_M_letterOf_0.all fun q => decide (decode q_M_letterOf.2.1 q.1 = .ok (q.2.1, q.2.2))) = true := by decide +kernel
theorem d_M_letterOf_0 : vm_D q_M_letterOf.2.1 0 1 1 (.aload_n 0) := vm_dD b_M_letterOf_0 0 rfl rfl
theorem d_M_letterOf_1 : vm_D q_M_letterOf.2.1 1 3 4 (.getfield 77) := vm_dD b_M_letterOf_0 1 rfl rfl
theorem d_M_letterOf_4 : vm_D q_M_letterOf.2.1 4 3 7 (.sipush 170) := vm_dD b_M_letterOf_0 2 rfl rfl
theorem d_M_letterOf_7 : vm_D q_M_letterOf.2.1 7 2 9 (.bipush 6) := vm_dD b_M_letterOf_0 3 rfl rfl
theorem d_M_letterOf_9 : vm_D q_M_letterOf.2.1 9 1 10 (.iload_n 1) := vm_dD b_M_letterOf_0 4 rfl rfl
theorem d_M_letterOf_10 : vm_D q_M_letterOf.2.1 10 1 11 (.imul) := vm_dD b_M_letterOf_0 5 rfl rfl
theorem d_M_letterOf_11 : vm_D q_M_letterOf.2.1 11 1 12 (.iadd) := vm_dD b_M_letterOf_0 6 rfl rfl
theorem d_M_letterOf_12 : vm_D q_M_letterOf.2.1 12 1 13 (.iload_n 2) := vm_dD b_M_letterOf_0 7 rfl rfl
theorem d_M_letterOf_13 : vm_D q_M_letterOf.2.1 13 1 14 (.iadd) := vm_dD b_M_letterOf_0 8 rfl rfl
theorem d_M_letterOf_14 : vm_D q_M_letterOf.2.1 14 1 15 (.iaload) := vm_dD b_M_letterOf_0 9 rfl rfl
theorem d_M_letterOf_15 : vm_D q_M_letterOf.2.1 15 1 16 (.ireturn) := vm_dD b_M_letterOf_0 10 rfl rfl
def q_M_hasLetter : vm_Y := ("RepeatFreeModel", cX11_hasLetter, 4, false, [])
def t_M_hasLetter_0 : List (Nat × Instr × Nat) := [(0, .iconst 0, 1), (1, .istore_n 3, 1), (2, .iload_n 3, 1), (3, .aload_n 0, 1), (4, .getfield 77, 3), (7, .sipush 166, 3), (10, .iload_n 1, 1), (11, .iadd, 1), (12, .iaload, 1), (13, .if_icmp .ge 21, 3), (16, .aload_n 0, 1), (17, .iload_n 1, 1), (18, .iload_n 3, 1), (19, .invokevirtual 202, 3), (22, .iload_n 2, 1), (23, .if_icmp .ne 5, 3), (26, .iconst 1, 1), (27, .ireturn, 1), (28, .iinc 3 1, 3), (31, .goto (-29), 3), (34, .iconst 0, 1), (35, .ireturn, 1)]
theorem b_M_hasLetter_0 : (t_M_hasLetter_0.all fun q => decide (decode q_M_hasLetter.2.1 q.1 = .ok (q.2.1, q.2.2))) = true := by decide +kernel
theorem d_M_hasLetter_0 : vm_D q_M_hasLetter.2.1 0 1 1 (.iconst 0) := vm_dD b_M_hasLetter_0 0 rfl rfl
theorem d_M_hasLetter_1 : vm_D q_M_hasLetter.2.1 1 1 2 (.istore_n 3) := vm_dD b_M_hasLetter_0 1 rfl rfl
theorem d_M_hasLetter_2 : vm_D q_M_hasLetter.2.1 2 1 3 (.iload_n 3) := vm_dD b_M_hasLetter_0 2 rfl rfl
theorem d_M_hasLetter_3 : vm_D q_M_hasLetter.2.1 3 1 4 (.aload_n 0) := vm_dD b_M_hasLetter_0 3 rfl rfl
theorem d_M_hasLetter_4 : vm_D q_M_hasLetter.2.1 4 3 7 (.getfield 77) := vm_dD b_M_hasLetter_0 4 rfl rfl
theorem d_M_hasLetter_7 : vm_D q_M_hasLetter.2.1 7 3 10 (.sipush 166) := vm_dD b_M_hasLetter_0 5 rfl rfl
theorem d_M_hasLetter_10 : vm_D q_M_hasLetter.2.1 10 1 11 (.iload_n 1) := vm_dD b_M_hasLetter_0 6 rfl rfl
theorem d_M_hasLetter_11 : vm_D q_M_hasLetter.2.1 11 1 12 (.iadd) := vm_dD b_M_hasLetter_0 7 rfl rfl
theorem d_M_hasLetter_12 : vm_D q_M_hasLetter.2.1 12 1 13 (.iaload) := vm_dD b_M_hasLetter_0 8 rfl rfl
theorem d_M_hasLetter_13 : vm_B q_M_hasLetter.2.1 13 16 34 (fun o => .if_icmp .ge o) := ⟨21, vm_db b_M_hasLetter_0 (i := 9) rfl, rfl, by decide⟩
theorem d_M_hasLetter_16 : vm_D q_M_hasLetter.2.1 16 1 17 (.aload_n 0) := vm_dD b_M_hasLetter_0 10 rfl rfl
theorem d_M_hasLetter_17 : vm_D q_M_hasLetter.2.1 17 1 18 (.iload_n 1) := vm_dD b_M_hasLetter_0 11 rfl rfl
theorem d_M_hasLetter_18 : vm_D q_M_hasLetter.2.1 18 1 19 (.iload_n 3) := vm_dD b_M_hasLetter_0 12 rfl rfl
theorem d_M_hasLetter_19 : vm_D q_M_hasLetter.2.1 19 3 22 (.invokevirtual 202) := vm_dD b_M_hasLetter_0 13 rfl rfl
theorem d_M_hasLetter_22 : vm_D q_M_hasLetter.2.1 22 1 23 (.iload_n 2) := vm_dD b_M_hasLetter_0 14 rfl rfl
theorem d_M_hasLetter_23 : vm_B q_M_hasLetter.2.1 23 26 28 (fun o => .if_icmp .ne o) := ⟨5, vm_db b_M_hasLetter_0 (i := 15) rfl, rfl, by decide⟩
theorem d_M_hasLetter_28 : vm_D q_M_hasLetter.2.1 28 3 31 (.iinc 3 1) := vm_dD b_M_hasLetter_0 18 rfl rfl
theorem d_M_hasLetter_31 : ∃ off : Int, decode q_M_hasLetter.2.1 31 = .ok (.goto off, 3) ∧ ((31 : Nat) : Int) + off = ((2 : Nat) : Int) := ⟨-29, vm_db b_M_hasLetter_0 (i := 19) rfl, by decide⟩
theorem d_M_hasLetter_26 : vm_D q_M_hasLetter.2.1 26 1 27 (.iconst 1) := vm_dD b_M_hasLetter_0 16 rfl rfl
theorem d_M_hasLetter_27 : vm_D q_M_hasLetter.2.1 27 1 28 (.ireturn) := vm_dD b_M_hasLetter_0 17 rfl rfl
theorem d_M_hasLetter_34 : vm_D q_M_hasLetter.2.1 34 1 35 (.iconst 0) := vm_dD b_M_hasLetter_0 20 rfl rfl
theorem d_M_hasLetter_35 : vm_D q_M_hasLetter.2.1 35 1 36 (.ireturn) := vm_dD b_M_hasLetter_0 21 rfl rfl
def q_M_longBy : vm_Y := ("RepeatFreeModel", cX11_longBy, 4, false, [])
def t_M_longBy_0 : List (Nat × Instr × Nat) := [(0, .iconst 0, 1), (1, .istore_n 2, 1), (2, .iconst 0, 1), (3, .istore_n 3, 1), (4, .iload_n 3, 1), (5, .aload_n 0, 1), (6, .getfield 77, 3), (9, .sipush 166, 3), (12, .iload_n 1, 1), (13, .iadd, 1), (14, .iaload, 1), (15, .if_icmp .ge 23, 3), (18, .iload_n 2, 1), (19, .aload_n 0, 1), (20, .getfield 92, 3), (23, .aload_n 0, 1), (24, .iload_n 1, 1), (25, .iload_n 3, 1), (26, .invokevirtual 202, 3), (29, .iaload, 1), (30, .iadd, 1), (31, .istore_n 2, 1), (32, .iinc 3 1, 3), (35, .goto (-31), 3), (38, .iload_n 2, 1), (39, .ireturn, 1)]
theorem b_M_longBy_0 : (t_M_longBy_0.all fun q => decide (decode q_M_longBy.2.1 q.1 = .ok (q.2.1, q.2.2))) = true := by decide +kernel
theorem d_M_longBy_0 : vm_D q_M_longBy.2.1 0 1 1 (.iconst 0) := vm_dD b_M_longBy_0 0 rfl rfl
theorem d_M_longBy_1 : vm_D q_M_longBy.2.1 1 1 2 (.istore_n 2) := vm_dD b_M_longBy_0 1 rfl rfl
theorem d_M_longBy_2 : vm_D q_M_longBy.2.1 2 1 3 (.iconst 0) := vm_dD b_M_longBy_0 2 rfl rfl
theorem d_M_longBy_3 : vm_D q_M_longBy.2.1 3 1 4 (.istore_n 3) := vm_dD b_M_longBy_0 3 rfl rfl
theorem d_M_longBy_4 : vm_D q_M_longBy.2.1 4 1 5 (.iload_n 3) := vm_dD b_M_longBy_0 4 rfl rfl
theorem d_M_longBy_5 : vm_D q_M_longBy.2.1 5 1 6 (.aload_n 0) := vm_dD b_M_longBy_0 5 rfl rfl
theorem d_M_longBy_6 : vm_D q_M_longBy.2.1 6 3 9 (.getfield 77) := vm_dD b_M_longBy_0 6 rfl rfl
theorem d_M_longBy_9 : vm_D q_M_longBy.2.1 9 3 12 (.sipush 166) := vm_dD b_M_longBy_0 7 rfl rfl
theorem d_M_longBy_12 : vm_D q_M_longBy.2.1 12 1 13 (.iload_n 1) := vm_dD b_M_longBy_0 8 rfl rfl
theorem d_M_longBy_13 : vm_D q_M_longBy.2.1 13 1 14 (.iadd) := vm_dD b_M_longBy_0 9 rfl rfl
theorem d_M_longBy_14 : vm_D q_M_longBy.2.1 14 1 15 (.iaload) := vm_dD b_M_longBy_0 10 rfl rfl
theorem d_M_longBy_15 : vm_B q_M_longBy.2.1 15 18 38 (fun o => .if_icmp .ge o) := ⟨23, vm_db b_M_longBy_0 (i := 11) rfl, rfl, by decide⟩
theorem d_M_longBy_18 : vm_D q_M_longBy.2.1 18 1 19 (.iload_n 2) := vm_dD b_M_longBy_0 12 rfl rfl
theorem d_M_longBy_19 : vm_D q_M_longBy.2.1 19 1 20 (.aload_n 0) := vm_dD b_M_longBy_0 13 rfl rfl
theorem d_M_longBy_20 : vm_D q_M_longBy.2.1 20 3 23 (.getfield 92) := vm_dD b_M_longBy_0 14 rfl rfl
theorem d_M_longBy_23 : vm_D q_M_longBy.2.1 23 1 24 (.aload_n 0) := vm_dD b_M_longBy_0 15 rfl rfl
theorem d_M_longBy_24 : vm_D q_M_longBy.2.1 24 1 25 (.iload_n 1) := vm_dD b_M_longBy_0 16 rfl rfl
theorem d_M_longBy_25 : vm_D q_M_longBy.2.1 25 1 26 (.iload_n 3) := vm_dD b_M_longBy_0 17 rfl rfl
theorem d_M_longBy_26 : vm_D q_M_longBy.2.1 26 3 29 (.invokevirtual 202) := vm_dD b_M_longBy_0 18 rfl rfl
theorem d_M_longBy_29 : vm_D q_M_longBy.2.1 29 1 30 (.iaload) := vm_dD b_M_longBy_0 19 rfl rfl
theorem d_M_longBy_30 : vm_D q_M_longBy.2.1 30 1 31 (.iadd) := vm_dD b_M_longBy_0 20 rfl rfl
theorem d_M_longBy_31 : vm_D q_M_longBy.2.1 31 1 32 (.istore_n 2) := vm_dD b_M_longBy_0 21 rfl rfl
theorem d_M_longBy_32 : vm_D q_M_longBy.2.1 32 3 35 (.iinc 3 1) := vm_dD b_M_longBy_0 22 rfl rfl
theorem d_M_longBy_35 : ∃ off : Int, decode q_M_longBy.2.1 35 = .ok (.goto off, 3) ∧ ((35 : Nat) : Int) + off = ((4 : Nat) : Int) := ⟨-31, vm_db b_M_longBy_0 (i := 23) rfl, by decide⟩
theorem d_M_longBy_38 : vm_D q_M_longBy.2.1 38 1 39 (.iload_n 2) := vm_dD b_M_longBy_0 24 rfl rfl
theorem d_M_longBy_39 : vm_D q_M_longBy.2.1 39 1 40 (.ireturn) := vm_dD b_M_longBy_0 25 rfl rfl
def q_M_fitsAt : vm_Y := ("RepeatFreeModel", cX11_fitsAt, 8, false, [])
def t_M_fitsAt_0 : List (Nat × Instr × Nat) := [(0, .iload_n 2, 1), (1, .istore 4, 2), (3, .iconst 0, 1), (4, .istore 5, 2), (6, .iload 5, 2), (8, .iconst 3, 1), (9, .if_icmp .ge 17, 3), (12, .aload_n 0, 1), (13, .getfield 95, 3), (16, .iload 5, 2), (18, .iconst (-1), 1), (19, .iastore, 1), (20, .iinc 5 1, 3), (23, .goto (-17), 3), (26, .iconst 0, 1), (27, .istore 5, 2), (29, .iload 5, 2), (31, .aload_n 0, 1), (32, .getfield 77, 3), (35, .sipush 166, 3), (38, .iload_n 3, 1), (39, .iadd, 1), (40, .iaload, 1), (41, .if_icmp .ge 95, 3), (44, .aload_n 0, 1), (45, .iload_n 3, 1), (46, .iload 5, 2), (48, .invokevirtual 202, 3), (51, .istore 6, 2), (53, .aload_n 0, 1), (54, .getfield 95, 3), (57, .iload 6, 2), (59, .iaload, 1), (60, .iconst (-1), 1), (61, .if_icmp .ne 12, 3), (64, .aload_n 0, 1), (65, .getfield 95, 3), (68, .iload 6, 2), (70, .iload 4, 2), (72, .iastore, 1), (73, .iconst 0, 1), (74, .istore 7, 2), (76, .iload 7, 2), (78, .aload_n 0, 1), (79, .getfield 92, 3), (82, .iload 6, 2), (84, .iaload, 1), (85, .if_icmp .ge 33, 3), (88, .aload_n 1, 1), (89, .aload_n 0, 1), (90, .getfield 95, 3), (93, .iload 6, 2), (95, .iaload, 1), (96, .iload 7, 2), (98, .iadd, 1), (99, .iaload, 1), (100, .aload_n 1, 1), (101, .iload 4, 2), (103, .iload 7, 2), (105, .iadd, 1)]
theorem b_M_fitsAt_0 : (t_M_fitsAt_0.all fun q => decide (decode q_M_fitsAt.2.1 q.1 = .ok (q.2.1, q.2.2))) = true := by decide +kernel
def t_M_fitsAt_1 : List (Nat × Instr × Nat) := [(106, .iaload, 1), (107, .if_icmp .eq 5, 3), (110, .iconst 0, 1), (111, .ireturn, 1), (112, .iinc 7 1, 3), (115, .goto (-39), 3), (118, .iload 4, 2), (120, .aload_n 0, 1), (121, .getfield 92, 3), (124, .iload 6, 2), (126, .iaload, 1), (127, .iadd, 1), (128, .istore 4, 2), (130, .iinc 5 1, 3), (133, .goto (-104), 3), (136, .iconst 1, 1), (137, .ireturn, 1)]
theorem b_M_fitsAt_1 : (t_M_fitsAt_1.all fun q => decide (decode q_M_fitsAt.2.1 q.1 = .ok (q.2.1, q.2.2))) = true := by decide +kernel
theorem d_M_fitsAt_0 : vm_D q_M_fitsAt.2.1 0 1 1 (.iload_n 2) := vm_dD b_M_fitsAt_0 0 rfl rfl
theorem d_M_fitsAt_1 : vm_D q_M_fitsAt.2.1 1 2 3 (.istore 4) := vm_dD b_M_fitsAt_0 1 rfl rfl
theorem d_M_fitsAt_3 : vm_D q_M_fitsAt.2.1 3 1 4 (.iconst 0) := vm_dD b_M_fitsAt_0 2 rfl rfl
theorem d_M_fitsAt_4 : vm_D q_M_fitsAt.2.1 4 2 6 (.istore 5) := vm_dD b_M_fitsAt_0 3 rfl rfl
theorem d_M_fitsAt_6 : vm_D q_M_fitsAt.2.1 6 2 8 (.iload 5) := vm_dD b_M_fitsAt_0 4 rfl rfl
theorem d_M_fitsAt_8 : vm_D q_M_fitsAt.2.1 8 1 9 (.iconst 3) := vm_dD b_M_fitsAt_0 5 rfl rfl
theorem d_M_fitsAt_9 : vm_B q_M_fitsAt.2.1 9 12 26 (fun o => .if_icmp .ge o) := ⟨17, vm_db b_M_fitsAt_0 (i := 6) rfl, rfl, by decide⟩
theorem d_M_fitsAt_12 : vm_D q_M_fitsAt.2.1 12 1 13 (.aload_n 0) := vm_dD b_M_fitsAt_0 7 rfl rfl
theorem d_M_fitsAt_13 : vm_D q_M_fitsAt.2.1 13 3 16 (.getfield 95) := vm_dD b_M_fitsAt_0 8 rfl rfl
theorem d_M_fitsAt_16 : vm_D q_M_fitsAt.2.1 16 2 18 (.iload 5) := vm_dD b_M_fitsAt_0 9 rfl rfl
theorem d_M_fitsAt_18 : vm_D q_M_fitsAt.2.1 18 1 19 (.iconst (-1)) := vm_dD b_M_fitsAt_0 10 rfl rfl
theorem d_M_fitsAt_19 : vm_D q_M_fitsAt.2.1 19 1 20 (.iastore) := vm_dD b_M_fitsAt_0 11 rfl rfl
theorem d_M_fitsAt_20 : vm_D q_M_fitsAt.2.1 20 3 23 (.iinc 5 1) := vm_dD b_M_fitsAt_0 12 rfl rfl
theorem d_M_fitsAt_23 : ∃ off : Int, decode q_M_fitsAt.2.1 23 = .ok (.goto off, 3) ∧ ((23 : Nat) : Int) + off = ((6 : Nat) : Int) := ⟨-17, vm_db b_M_fitsAt_0 (i := 13) rfl, by decide⟩
theorem d_M_fitsAt_26 : vm_D q_M_fitsAt.2.1 26 1 27 (.iconst 0) := vm_dD b_M_fitsAt_0 14 rfl rfl
theorem d_M_fitsAt_27 : vm_D q_M_fitsAt.2.1 27 2 29 (.istore 5) := vm_dD b_M_fitsAt_0 15 rfl rfl
theorem d_M_fitsAt_29 : vm_D q_M_fitsAt.2.1 29 2 31 (.iload 5) := vm_dD b_M_fitsAt_0 16 rfl rfl
theorem d_M_fitsAt_31 : vm_D q_M_fitsAt.2.1 31 1 32 (.aload_n 0) := vm_dD b_M_fitsAt_0 17 rfl rfl
theorem d_M_fitsAt_32 : vm_D q_M_fitsAt.2.1 32 3 35 (.getfield 77) := vm_dD b_M_fitsAt_0 18 rfl rfl
theorem d_M_fitsAt_35 : vm_D q_M_fitsAt.2.1 35 3 38 (.sipush 166) := vm_dD b_M_fitsAt_0 19 rfl rfl
theorem d_M_fitsAt_38 : vm_D q_M_fitsAt.2.1 38 1 39 (.iload_n 3) := vm_dD b_M_fitsAt_0 20 rfl rfl
theorem d_M_fitsAt_39 : vm_D q_M_fitsAt.2.1 39 1 40 (.iadd) := vm_dD b_M_fitsAt_0 21 rfl rfl
theorem d_M_fitsAt_40 : vm_D q_M_fitsAt.2.1 40 1 41 (.iaload) := vm_dD b_M_fitsAt_0 22 rfl rfl
theorem d_M_fitsAt_41 : vm_B q_M_fitsAt.2.1 41 44 136 (fun o => .if_icmp .ge o) := ⟨95, vm_db b_M_fitsAt_0 (i := 23) rfl, rfl, by decide⟩
theorem d_M_fitsAt_44 : vm_D q_M_fitsAt.2.1 44 1 45 (.aload_n 0) := vm_dD b_M_fitsAt_0 24 rfl rfl
theorem d_M_fitsAt_45 : vm_D q_M_fitsAt.2.1 45 1 46 (.iload_n 3) := vm_dD b_M_fitsAt_0 25 rfl rfl
theorem d_M_fitsAt_46 : vm_D q_M_fitsAt.2.1 46 2 48 (.iload 5) := vm_dD b_M_fitsAt_0 26 rfl rfl
theorem d_M_fitsAt_48 : vm_D q_M_fitsAt.2.1 48 3 51 (.invokevirtual 202) := vm_dD b_M_fitsAt_0 27 rfl rfl
theorem d_M_fitsAt_51 : vm_D q_M_fitsAt.2.1 51 2 53 (.istore 6) := vm_dD b_M_fitsAt_0 28 rfl rfl
theorem d_M_fitsAt_53 : vm_D q_M_fitsAt.2.1 53 1 54 (.aload_n 0) := vm_dD b_M_fitsAt_0 29 rfl rfl
theorem d_M_fitsAt_54 : vm_D q_M_fitsAt.2.1 54 3 57 (.getfield 95) := vm_dD b_M_fitsAt_0 30 rfl rfl
theorem d_M_fitsAt_57 : vm_D q_M_fitsAt.2.1 57 2 59 (.iload 6) := vm_dD b_M_fitsAt_0 31 rfl rfl
theorem d_M_fitsAt_59 : vm_D q_M_fitsAt.2.1 59 1 60 (.iaload) := vm_dD b_M_fitsAt_0 32 rfl rfl
theorem d_M_fitsAt_60 : vm_D q_M_fitsAt.2.1 60 1 61 (.iconst (-1)) := vm_dD b_M_fitsAt_0 33 rfl rfl
theorem d_M_fitsAt_61 : vm_B q_M_fitsAt.2.1 61 64 73 (fun o => .if_icmp .ne o) := ⟨12, vm_db b_M_fitsAt_0 (i := 34) rfl, rfl, by decide⟩
theorem d_M_fitsAt_73 : vm_D q_M_fitsAt.2.1 73 1 74 (.iconst 0) := vm_dD b_M_fitsAt_0 40 rfl rfl
theorem d_M_fitsAt_74 : vm_D q_M_fitsAt.2.1 74 2 76 (.istore 7) := vm_dD b_M_fitsAt_0 41 rfl rfl
theorem d_M_fitsAt_76 : vm_D q_M_fitsAt.2.1 76 2 78 (.iload 7) := vm_dD b_M_fitsAt_0 42 rfl rfl
theorem d_M_fitsAt_78 : vm_D q_M_fitsAt.2.1 78 1 79 (.aload_n 0) := vm_dD b_M_fitsAt_0 43 rfl rfl
theorem d_M_fitsAt_79 : vm_D q_M_fitsAt.2.1 79 3 82 (.getfield 92) := vm_dD b_M_fitsAt_0 44 rfl rfl
theorem d_M_fitsAt_82 : vm_D q_M_fitsAt.2.1 82 2 84 (.iload 6) := vm_dD b_M_fitsAt_0 45 rfl rfl
theorem d_M_fitsAt_84 : vm_D q_M_fitsAt.2.1 84 1 85 (.iaload) := vm_dD b_M_fitsAt_0 46 rfl rfl
theorem d_M_fitsAt_85 : vm_B q_M_fitsAt.2.1 85 88 118 (fun o => .if_icmp .ge o) := ⟨33, vm_db b_M_fitsAt_0 (i := 47) rfl, rfl, by decide⟩
theorem d_M_fitsAt_88 : vm_D q_M_fitsAt.2.1 88 1 89 (.aload_n 1) := vm_dD b_M_fitsAt_0 48 rfl rfl
theorem d_M_fitsAt_89 : vm_D q_M_fitsAt.2.1 89 1 90 (.aload_n 0) := vm_dD b_M_fitsAt_0 49 rfl rfl
theorem d_M_fitsAt_90 : vm_D q_M_fitsAt.2.1 90 3 93 (.getfield 95) := vm_dD b_M_fitsAt_0 50 rfl rfl
theorem d_M_fitsAt_93 : vm_D q_M_fitsAt.2.1 93 2 95 (.iload 6) := vm_dD b_M_fitsAt_0 51 rfl rfl
theorem d_M_fitsAt_95 : vm_D q_M_fitsAt.2.1 95 1 96 (.iaload) := vm_dD b_M_fitsAt_0 52 rfl rfl
theorem d_M_fitsAt_96 : vm_D q_M_fitsAt.2.1 96 2 98 (.iload 7) := vm_dD b_M_fitsAt_0 53 rfl rfl
theorem d_M_fitsAt_98 : vm_D q_M_fitsAt.2.1 98 1 99 (.iadd) := vm_dD b_M_fitsAt_0 54 rfl rfl
theorem d_M_fitsAt_99 : vm_D q_M_fitsAt.2.1 99 1 100 (.iaload) := vm_dD b_M_fitsAt_0 55 rfl rfl
theorem d_M_fitsAt_100 : vm_D q_M_fitsAt.2.1 100 1 101 (.aload_n 1) := vm_dD b_M_fitsAt_0 56 rfl rfl
theorem d_M_fitsAt_101 : vm_D q_M_fitsAt.2.1 101 2 103 (.iload 4) := vm_dD b_M_fitsAt_0 57 rfl rfl
theorem d_M_fitsAt_103 : vm_D q_M_fitsAt.2.1 103 2 105 (.iload 7) := vm_dD b_M_fitsAt_0 58 rfl rfl
theorem d_M_fitsAt_105 : vm_D q_M_fitsAt.2.1 105 1 106 (.iadd) := vm_dD b_M_fitsAt_0 59 rfl rfl
theorem d_M_fitsAt_106 : vm_D q_M_fitsAt.2.1 106 1 107 (.iaload) := vm_dD b_M_fitsAt_1 0 rfl rfl
theorem d_M_fitsAt_107 : vm_B q_M_fitsAt.2.1 107 110 112 (fun o => .if_icmp .eq o) := ⟨5, vm_db b_M_fitsAt_1 (i := 1) rfl, rfl, by decide⟩
theorem d_M_fitsAt_112 : vm_D q_M_fitsAt.2.1 112 3 115 (.iinc 7 1) := vm_dD b_M_fitsAt_1 4 rfl rfl
theorem d_M_fitsAt_115 : ∃ off : Int, decode q_M_fitsAt.2.1 115 = .ok (.goto off, 3) ∧ ((115 : Nat) : Int) + off = ((76 : Nat) : Int) := ⟨-39, vm_db b_M_fitsAt_1 (i := 5) rfl, by decide⟩
theorem d_M_fitsAt_110 : vm_D q_M_fitsAt.2.1 110 1 111 (.iconst 0) := vm_dD b_M_fitsAt_1 2 rfl rfl
theorem d_M_fitsAt_111 : vm_D q_M_fitsAt.2.1 111 1 112 (.ireturn) := vm_dD b_M_fitsAt_1 3 rfl rfl
theorem d_M_fitsAt_118 : vm_D q_M_fitsAt.2.1 118 2 120 (.iload 4) := vm_dD b_M_fitsAt_1 6 rfl rfl
theorem d_M_fitsAt_120 : vm_D q_M_fitsAt.2.1 120 1 121 (.aload_n 0) := vm_dD b_M_fitsAt_1 7 rfl rfl
theorem d_M_fitsAt_121 : vm_D q_M_fitsAt.2.1 121 3 124 (.getfield 92) := vm_dD b_M_fitsAt_1 8 rfl rfl
theorem d_M_fitsAt_124 : vm_D q_M_fitsAt.2.1 124 2 126 (.iload 6) := vm_dD b_M_fitsAt_1 9 rfl rfl
theorem d_M_fitsAt_126 : vm_D q_M_fitsAt.2.1 126 1 127 (.iaload) := vm_dD b_M_fitsAt_1 10 rfl rfl
theorem d_M_fitsAt_127 : vm_D q_M_fitsAt.2.1 127 1 128 (.iadd) := vm_dD b_M_fitsAt_1 11 rfl rfl
theorem d_M_fitsAt_128 : vm_D q_M_fitsAt.2.1 128 2 130 (.istore 4) := vm_dD b_M_fitsAt_1 12 rfl rfl
theorem d_M_fitsAt_130 : vm_D q_M_fitsAt.2.1 130 3 133 (.iinc 5 1) := vm_dD b_M_fitsAt_1 13 rfl rfl
theorem d_M_fitsAt_133 : ∃ off : Int, decode q_M_fitsAt.2.1 133 = .ok (.goto off, 3) ∧ ((133 : Nat) : Int) + off = ((29 : Nat) : Int) := ⟨-104, vm_db b_M_fitsAt_1 (i := 14) rfl, by decide⟩
theorem d_M_fitsAt_64 : vm_D q_M_fitsAt.2.1 64 1 65 (.aload_n 0) := vm_dD b_M_fitsAt_0 35 rfl rfl
theorem d_M_fitsAt_65 : vm_D q_M_fitsAt.2.1 65 3 68 (.getfield 95) := vm_dD b_M_fitsAt_0 36 rfl rfl
theorem d_M_fitsAt_68 : vm_D q_M_fitsAt.2.1 68 2 70 (.iload 6) := vm_dD b_M_fitsAt_0 37 rfl rfl
theorem d_M_fitsAt_70 : vm_D q_M_fitsAt.2.1 70 2 72 (.iload 4) := vm_dD b_M_fitsAt_0 38 rfl rfl
theorem d_M_fitsAt_72 : vm_D q_M_fitsAt.2.1 72 1 73 (.iastore) := vm_dD b_M_fitsAt_0 39 rfl rfl
theorem d_M_fitsAt_136 : vm_D q_M_fitsAt.2.1 136 1 137 (.iconst 1) := vm_dD b_M_fitsAt_1 15 rfl rfl
theorem d_M_fitsAt_137 : vm_D q_M_fitsAt.2.1 137 1 138 (.ireturn) := vm_dD b_M_fitsAt_1 16 rfl rfl
def q_M_nextSizes : vm_Y := ("RepeatFreeModel", cX11_nextSizes, 4, false, [])
def t_M_nextSizes_0 : List (Nat × Instr × Nat) := [(0, .iconst 2, 1), (1, .istore_n 3, 1), (2, .iload_n 3, 1), (3, .ifCond .lt 49, 3), (6, .aload_n 0, 1), (7, .iload_n 1, 1), (8, .iload_n 3, 1), (9, .invokevirtual 205, 3), (12, .ifCond .ne 6, 3), (15, .goto 31, 3), (18, .aload_n 0, 1), (19, .getfield 92, 3), (22, .iload_n 3, 1), (23, .dup2, 1), (24, .iaload, 1), (25, .iconst 1, 1), (26, .iadd, 1), (27, .iastore, 1), (28, .aload_n 0, 1), (29, .iload_n 1, 1), (30, .invokevirtual 208, 3), (33, .iload_n 2, 1), (34, .if_icmp .gt 5, 3), (37, .iconst 1, 1), (38, .ireturn, 1), (39, .aload_n 0, 1), (40, .getfield 92, 3), (43, .iload_n 3, 1), (44, .iconst 1, 1), (45, .iastore, 1), (46, .iinc 3 (-1), 3), (49, .goto (-47), 3), (52, .iconst 0, 1), (53, .ireturn, 1)]
theorem b_M_nextSizes_0 : (t_M_nextSizes_0.all fun q => decide (decode q_M_nextSizes.2.1 q.1 = .ok (q.2.1, q.2.2))) = true := by decide +kernel
theorem d_M_nextSizes_0 : vm_D q_M_nextSizes.2.1 0 1 1 (.iconst 2) := vm_dD b_M_nextSizes_0 0 rfl rfl
theorem d_M_nextSizes_1 : vm_D q_M_nextSizes.2.1 1 1 2 (.istore_n 3) := vm_dD b_M_nextSizes_0 1 rfl rfl
theorem d_M_nextSizes_2 : vm_D q_M_nextSizes.2.1 2 1 3 (.iload_n 3) := vm_dD b_M_nextSizes_0 2 rfl rfl
theorem d_M_nextSizes_3 : vm_B q_M_nextSizes.2.1 3 6 52 (fun o => .ifCond .lt o) := ⟨49, vm_db b_M_nextSizes_0 (i := 3) rfl, rfl, by decide⟩
theorem d_M_nextSizes_6 : vm_D q_M_nextSizes.2.1 6 1 7 (.aload_n 0) := vm_dD b_M_nextSizes_0 4 rfl rfl
theorem d_M_nextSizes_7 : vm_D q_M_nextSizes.2.1 7 1 8 (.iload_n 1) := vm_dD b_M_nextSizes_0 5 rfl rfl
theorem d_M_nextSizes_8 : vm_D q_M_nextSizes.2.1 8 1 9 (.iload_n 3) := vm_dD b_M_nextSizes_0 6 rfl rfl
theorem d_M_nextSizes_9 : vm_D q_M_nextSizes.2.1 9 3 12 (.invokevirtual 205) := vm_dD b_M_nextSizes_0 7 rfl rfl
theorem d_M_nextSizes_12 : vm_B q_M_nextSizes.2.1 12 15 18 (fun o => .ifCond .ne o) := ⟨6, vm_db b_M_nextSizes_0 (i := 8) rfl, rfl, by decide⟩
theorem d_M_nextSizes_46 : vm_D q_M_nextSizes.2.1 46 3 49 (.iinc 3 (-1)) := vm_dD b_M_nextSizes_0 30 rfl rfl
theorem d_M_nextSizes_49 : ∃ off : Int, decode q_M_nextSizes.2.1 49 = .ok (.goto off, 3) ∧ ((49 : Nat) : Int) + off = ((2 : Nat) : Int) := ⟨-47, vm_db b_M_nextSizes_0 (i := 31) rfl, by decide⟩
theorem d_M_nextSizes_18 : vm_D q_M_nextSizes.2.1 18 1 19 (.aload_n 0) := vm_dD b_M_nextSizes_0 10 rfl rfl
theorem d_M_nextSizes_19 : vm_D q_M_nextSizes.2.1 19 3 22 (.getfield 92) := vm_dD b_M_nextSizes_0 11 rfl rfl
theorem d_M_nextSizes_22 : vm_D q_M_nextSizes.2.1 22 1 23 (.iload_n 3) := vm_dD b_M_nextSizes_0 12 rfl rfl
theorem d_M_nextSizes_23 : vm_D q_M_nextSizes.2.1 23 1 24 (.dup2) := vm_dD b_M_nextSizes_0 13 rfl rfl
theorem d_M_nextSizes_24 : vm_D q_M_nextSizes.2.1 24 1 25 (.iaload) := vm_dD b_M_nextSizes_0 14 rfl rfl
theorem d_M_nextSizes_25 : vm_D q_M_nextSizes.2.1 25 1 26 (.iconst 1) := vm_dD b_M_nextSizes_0 15 rfl rfl
theorem d_M_nextSizes_26 : vm_D q_M_nextSizes.2.1 26 1 27 (.iadd) := vm_dD b_M_nextSizes_0 16 rfl rfl
theorem d_M_nextSizes_27 : vm_D q_M_nextSizes.2.1 27 1 28 (.iastore) := vm_dD b_M_nextSizes_0 17 rfl rfl
theorem d_M_nextSizes_28 : vm_D q_M_nextSizes.2.1 28 1 29 (.aload_n 0) := vm_dD b_M_nextSizes_0 18 rfl rfl
theorem d_M_nextSizes_29 : vm_D q_M_nextSizes.2.1 29 1 30 (.iload_n 1) := vm_dD b_M_nextSizes_0 19 rfl rfl
theorem d_M_nextSizes_30 : vm_D q_M_nextSizes.2.1 30 3 33 (.invokevirtual 208) := vm_dD b_M_nextSizes_0 20 rfl rfl
theorem d_M_nextSizes_33 : vm_D q_M_nextSizes.2.1 33 1 34 (.iload_n 2) := vm_dD b_M_nextSizes_0 21 rfl rfl
theorem d_M_nextSizes_34 : vm_B q_M_nextSizes.2.1 34 37 39 (fun o => .if_icmp .gt o) := ⟨5, vm_db b_M_nextSizes_0 (i := 22) rfl, rfl, by decide⟩
theorem d_M_nextSizes_39 : vm_D q_M_nextSizes.2.1 39 1 40 (.aload_n 0) := vm_dD b_M_nextSizes_0 25 rfl rfl
theorem d_M_nextSizes_40 : vm_D q_M_nextSizes.2.1 40 3 43 (.getfield 92) := vm_dD b_M_nextSizes_0 26 rfl rfl
theorem d_M_nextSizes_43 : vm_D q_M_nextSizes.2.1 43 1 44 (.iload_n 3) := vm_dD b_M_nextSizes_0 27 rfl rfl
theorem d_M_nextSizes_44 : vm_D q_M_nextSizes.2.1 44 1 45 (.iconst 1) := vm_dD b_M_nextSizes_0 28 rfl rfl
theorem d_M_nextSizes_45 : vm_D q_M_nextSizes.2.1 45 1 46 (.iastore) := vm_dD b_M_nextSizes_0 29 rfl rfl
theorem d_M_nextSizes_37 : vm_D q_M_nextSizes.2.1 37 1 38 (.iconst 1) := vm_dD b_M_nextSizes_0 23 rfl rfl
theorem d_M_nextSizes_38 : vm_D q_M_nextSizes.2.1 38 1 39 (.ireturn) := vm_dD b_M_nextSizes_0 24 rfl rfl
theorem d_M_nextSizes_15 : ∃ off : Int, decode q_M_nextSizes.2.1 15 = .ok (.goto off, 3) ∧ ((15 : Nat) : Int) + off = ((46 : Nat) : Int) := ⟨31, vm_db b_M_nextSizes_0 (i := 9) rfl, by decide⟩
theorem d_M_nextSizes_52 : vm_D q_M_nextSizes.2.1 52 1 53 (.iconst 0) := vm_dD b_M_nextSizes_0 32 rfl rfl
theorem d_M_nextSizes_53 : vm_D q_M_nextSizes.2.1 53 1 54 (.ireturn) := vm_dD b_M_nextSizes_0 33 rfl rfl
def q_M_firstSizes : vm_Y := ("RepeatFreeModel", cX11_firstSizes, 4, false, [])
def t_M_firstSizes_0 : List (Nat × Instr × Nat) := [(0, .iconst 0, 1), (1, .istore_n 3, 1), (2, .iload_n 3, 1), (3, .iconst 3, 1), (4, .if_icmp .ge 29, 3), (7, .aload_n 0, 1), (8, .getfield 92, 3), (11, .iload_n 3, 1), (12, .aload_n 0, 1), (13, .iload_n 1, 1), (14, .iload_n 3, 1), (15, .invokevirtual 205, 3), (18, .ifCond .eq 7, 3), (21, .iconst 1, 1), (22, .goto 4, 3), (25, .iconst 0, 1), (26, .iastore, 1), (27, .iinc 3 1, 3), (30, .goto (-28), 3), (33, .aload_n 0, 1), (34, .iload_n 1, 1), (35, .invokevirtual 208, 3), (38, .iload_n 2, 1), (39, .if_icmp .gt 7, 3), (42, .iconst 1, 1), (43, .goto 4, 3), (46, .iconst 0, 1), (47, .ireturn, 1)]
theorem b_M_firstSizes_0 : (t_M_firstSizes_0.all fun q => decide (decode q_M_firstSizes.2.1 q.1 = .ok (q.2.1, q.2.2))) = true := by decide +kernel
theorem d_M_firstSizes_0 : vm_D q_M_firstSizes.2.1 0 1 1 (.iconst 0) := vm_dD b_M_firstSizes_0 0 rfl rfl
theorem d_M_firstSizes_1 : vm_D q_M_firstSizes.2.1 1 1 2 (.istore_n 3) := vm_dD b_M_firstSizes_0 1 rfl rfl
theorem d_M_firstSizes_2 : vm_D q_M_firstSizes.2.1 2 1 3 (.iload_n 3) := vm_dD b_M_firstSizes_0 2 rfl rfl
theorem d_M_firstSizes_3 : vm_D q_M_firstSizes.2.1 3 1 4 (.iconst 3) := vm_dD b_M_firstSizes_0 3 rfl rfl
theorem d_M_firstSizes_4 : vm_B q_M_firstSizes.2.1 4 7 33 (fun o => .if_icmp .ge o) := ⟨29, vm_db b_M_firstSizes_0 (i := 4) rfl, rfl, by decide⟩
theorem d_M_firstSizes_7 : vm_D q_M_firstSizes.2.1 7 1 8 (.aload_n 0) := vm_dD b_M_firstSizes_0 5 rfl rfl
theorem d_M_firstSizes_8 : vm_D q_M_firstSizes.2.1 8 3 11 (.getfield 92) := vm_dD b_M_firstSizes_0 6 rfl rfl
theorem d_M_firstSizes_11 : vm_D q_M_firstSizes.2.1 11 1 12 (.iload_n 3) := vm_dD b_M_firstSizes_0 7 rfl rfl
theorem d_M_firstSizes_12 : vm_D q_M_firstSizes.2.1 12 1 13 (.aload_n 0) := vm_dD b_M_firstSizes_0 8 rfl rfl
theorem d_M_firstSizes_13 : vm_D q_M_firstSizes.2.1 13 1 14 (.iload_n 1) := vm_dD b_M_firstSizes_0 9 rfl rfl
theorem d_M_firstSizes_14 : vm_D q_M_firstSizes.2.1 14 1 15 (.iload_n 3) := vm_dD b_M_firstSizes_0 10 rfl rfl
theorem d_M_firstSizes_15 : vm_D q_M_firstSizes.2.1 15 3 18 (.invokevirtual 205) := vm_dD b_M_firstSizes_0 11 rfl rfl
theorem d_M_firstSizes_18 : vm_B q_M_firstSizes.2.1 18 21 25 (fun o => .ifCond .eq o) := ⟨7, vm_db b_M_firstSizes_0 (i := 12) rfl, rfl, by decide⟩
theorem d_M_firstSizes_26 : vm_D q_M_firstSizes.2.1 26 1 27 (.iastore) := vm_dD b_M_firstSizes_0 16 rfl rfl
theorem d_M_firstSizes_27 : vm_D q_M_firstSizes.2.1 27 3 30 (.iinc 3 1) := vm_dD b_M_firstSizes_0 17 rfl rfl
theorem d_M_firstSizes_30 : ∃ off : Int, decode q_M_firstSizes.2.1 30 = .ok (.goto off, 3) ∧ ((30 : Nat) : Int) + off = ((2 : Nat) : Int) := ⟨-28, vm_db b_M_firstSizes_0 (i := 18) rfl, by decide⟩
theorem d_M_firstSizes_25 : vm_D q_M_firstSizes.2.1 25 1 26 (.iconst 0) := vm_dD b_M_firstSizes_0 15 rfl rfl
theorem d_M_firstSizes_21 : vm_D q_M_firstSizes.2.1 21 1 22 (.iconst 1) := vm_dD b_M_firstSizes_0 13 rfl rfl
theorem d_M_firstSizes_22 : ∃ off : Int, decode q_M_firstSizes.2.1 22 = .ok (.goto off, 3) ∧ ((22 : Nat) : Int) + off = ((26 : Nat) : Int) := ⟨4, vm_db b_M_firstSizes_0 (i := 14) rfl, by decide⟩
theorem d_M_firstSizes_33 : vm_D q_M_firstSizes.2.1 33 1 34 (.aload_n 0) := vm_dD b_M_firstSizes_0 19 rfl rfl
theorem d_M_firstSizes_34 : vm_D q_M_firstSizes.2.1 34 1 35 (.iload_n 1) := vm_dD b_M_firstSizes_0 20 rfl rfl
theorem d_M_firstSizes_35 : vm_D q_M_firstSizes.2.1 35 3 38 (.invokevirtual 208) := vm_dD b_M_firstSizes_0 21 rfl rfl
theorem d_M_firstSizes_38 : vm_D q_M_firstSizes.2.1 38 1 39 (.iload_n 2) := vm_dD b_M_firstSizes_0 22 rfl rfl
theorem d_M_firstSizes_39 : vm_B q_M_firstSizes.2.1 39 42 46 (fun o => .if_icmp .gt o) := ⟨7, vm_db b_M_firstSizes_0 (i := 23) rfl, rfl, by decide⟩
theorem d_M_firstSizes_46 : vm_D q_M_firstSizes.2.1 46 1 47 (.iconst 0) := vm_dD b_M_firstSizes_0 26 rfl rfl
theorem d_M_firstSizes_47 : vm_D q_M_firstSizes.2.1 47 1 48 (.ireturn) := vm_dD b_M_firstSizes_0 27 rfl rfl
theorem d_M_firstSizes_42 : vm_D q_M_firstSizes.2.1 42 1 43 (.iconst 1) := vm_dD b_M_firstSizes_0 24 rfl rfl
theorem d_M_firstSizes_43 : ∃ off : Int, decode q_M_firstSizes.2.1 43 = .ok (.goto off, 3) ∧ ((43 : Nat) : Int) + off = ((47 : Nat) : Int) := ⟨4, vm_db b_M_firstSizes_0 (i := 25) rfl, by decide⟩
def q_M_endsBy : vm_Y := ("RepeatFreeModel", cX11_endsBy, 5, false, [])
def t_M_endsBy_0 : List (Nat × Instr × Nat) := [(0, .aload_n 0, 1), (1, .iload_n 3, 1), (2, .iload_n 2, 1), (3, .invokevirtual 212, 3), (6, .istore 4, 2), (8, .iload 4, 2), (10, .ifCond .eq 32, 3), (13, .aload_n 0, 1), (14, .aload_n 1, 1), (15, .iload_n 2, 1), (16, .aload_n 0, 1), (17, .iload_n 3, 1), (18, .invokevirtual 208, 3), (21, .isub, 1), (22, .iload_n 3, 1), (23, .invokevirtual 215, 3), (26, .ifCond .eq 5, 3), (29, .iconst 1, 1), (30, .ireturn, 1), (31, .aload_n 0, 1), (32, .iload_n 3, 1), (33, .iload_n 2, 1), (34, .invokevirtual 219, 3), (37, .istore 4, 2), (39, .goto (-31), 3), (42, .iconst 0, 1), (43, .ireturn, 1)]
theorem b_M_endsBy_0 : (t_M_endsBy_0.all fun q => decide (decode q_M_endsBy.2.1 q.1 = .ok (q.2.1, q.2.2))) = true := by decide +kernel
theorem d_M_endsBy_0 : vm_D q_M_endsBy.2.1 0 1 1 (.aload_n 0) := vm_dD b_M_endsBy_0 0 rfl rfl
theorem d_M_endsBy_1 : vm_D q_M_endsBy.2.1 1 1 2 (.iload_n 3) := vm_dD b_M_endsBy_0 1 rfl rfl
theorem d_M_endsBy_2 : vm_D q_M_endsBy.2.1 2 1 3 (.iload_n 2) := vm_dD b_M_endsBy_0 2 rfl rfl
theorem d_M_endsBy_3 : vm_D q_M_endsBy.2.1 3 3 6 (.invokevirtual 212) := vm_dD b_M_endsBy_0 3 rfl rfl
theorem d_M_endsBy_6 : vm_D q_M_endsBy.2.1 6 2 8 (.istore 4) := vm_dD b_M_endsBy_0 4 rfl rfl
theorem d_M_endsBy_8 : vm_D q_M_endsBy.2.1 8 2 10 (.iload 4) := vm_dD b_M_endsBy_0 5 rfl rfl
theorem d_M_endsBy_10 : vm_B q_M_endsBy.2.1 10 13 42 (fun o => .ifCond .eq o) := ⟨32, vm_db b_M_endsBy_0 (i := 6) rfl, rfl, by decide⟩
theorem d_M_endsBy_13 : vm_D q_M_endsBy.2.1 13 1 14 (.aload_n 0) := vm_dD b_M_endsBy_0 7 rfl rfl
theorem d_M_endsBy_14 : vm_D q_M_endsBy.2.1 14 1 15 (.aload_n 1) := vm_dD b_M_endsBy_0 8 rfl rfl
theorem d_M_endsBy_15 : vm_D q_M_endsBy.2.1 15 1 16 (.iload_n 2) := vm_dD b_M_endsBy_0 9 rfl rfl
theorem d_M_endsBy_16 : vm_D q_M_endsBy.2.1 16 1 17 (.aload_n 0) := vm_dD b_M_endsBy_0 10 rfl rfl
theorem d_M_endsBy_17 : vm_D q_M_endsBy.2.1 17 1 18 (.iload_n 3) := vm_dD b_M_endsBy_0 11 rfl rfl
theorem d_M_endsBy_18 : vm_D q_M_endsBy.2.1 18 3 21 (.invokevirtual 208) := vm_dD b_M_endsBy_0 12 rfl rfl
theorem d_M_endsBy_21 : vm_D q_M_endsBy.2.1 21 1 22 (.isub) := vm_dD b_M_endsBy_0 13 rfl rfl
theorem d_M_endsBy_22 : vm_D q_M_endsBy.2.1 22 1 23 (.iload_n 3) := vm_dD b_M_endsBy_0 14 rfl rfl
theorem d_M_endsBy_23 : vm_D q_M_endsBy.2.1 23 3 26 (.invokevirtual 215) := vm_dD b_M_endsBy_0 15 rfl rfl
theorem d_M_endsBy_26 : vm_B q_M_endsBy.2.1 26 29 31 (fun o => .ifCond .eq o) := ⟨5, vm_db b_M_endsBy_0 (i := 16) rfl, rfl, by decide⟩
theorem d_M_endsBy_31 : vm_D q_M_endsBy.2.1 31 1 32 (.aload_n 0) := vm_dD b_M_endsBy_0 19 rfl rfl
theorem d_M_endsBy_32 : vm_D q_M_endsBy.2.1 32 1 33 (.iload_n 3) := vm_dD b_M_endsBy_0 20 rfl rfl
theorem d_M_endsBy_33 : vm_D q_M_endsBy.2.1 33 1 34 (.iload_n 2) := vm_dD b_M_endsBy_0 21 rfl rfl
theorem d_M_endsBy_34 : vm_D q_M_endsBy.2.1 34 3 37 (.invokevirtual 219) := vm_dD b_M_endsBy_0 22 rfl rfl
theorem d_M_endsBy_37 : vm_D q_M_endsBy.2.1 37 2 39 (.istore 4) := vm_dD b_M_endsBy_0 23 rfl rfl
theorem d_M_endsBy_39 : ∃ off : Int, decode q_M_endsBy.2.1 39 = .ok (.goto off, 3) ∧ ((39 : Nat) : Int) + off = ((8 : Nat) : Int) := ⟨-31, vm_db b_M_endsBy_0 (i := 24) rfl, by decide⟩
theorem d_M_endsBy_29 : vm_D q_M_endsBy.2.1 29 1 30 (.iconst 1) := vm_dD b_M_endsBy_0 17 rfl rfl
theorem d_M_endsBy_30 : vm_D q_M_endsBy.2.1 30 1 31 (.ireturn) := vm_dD b_M_endsBy_0 18 rfl rfl
theorem d_M_endsBy_42 : vm_D q_M_endsBy.2.1 42 1 43 (.iconst 0) := vm_dD b_M_endsBy_0 25 rfl rfl
theorem d_M_endsBy_43 : vm_D q_M_endsBy.2.1 43 1 44 (.ireturn) := vm_dD b_M_endsBy_0 26 rfl rfl
def q_M_goesOn : vm_Y := ("RepeatFreeModel", cX11_goesOn, 4, false, [])
def t_M_goesOn_0 : List (Nat × Instr × Nat) := [(0, .aload_n 0, 1), (1, .aload_n 1, 1), (2, .iload_n 2, 1), (3, .invokevirtual 222, 3), (6, .ifCond .eq 5, 3), (9, .iconst 0, 1), (10, .ireturn, 1), (11, .iconst 0, 1), (12, .istore_n 3, 1), (13, .iload_n 3, 1), (14, .aload_n 0, 1), (15, .getfield 77, 3), (18, .iconst 5, 1), (19, .iaload, 1), (20, .if_icmp .ge 35, 3), (23, .aload_n 0, 1), (24, .getfield 77, 3), (27, .sipush 194, 3), (30, .iload_n 3, 1), (31, .iadd, 1), (32, .iaload, 1), (33, .iconst 1, 1), (34, .if_icmp .ne 15, 3), (37, .aload_n 0, 1), (38, .aload_n 1, 1), (39, .iload_n 2, 1), (40, .iload_n 3, 1), (41, .invokevirtual 226, 3), (44, .ifCond .eq 5, 3), (47, .iconst 0, 1), (48, .ireturn, 1), (49, .iinc 3 1, 3), (52, .goto (-39), 3), (55, .iconst 1, 1), (56, .ireturn, 1)]
theorem b_M_goesOn_0 : (t_M_goesOn_0.all fun q => decide (decode q_M_goesOn.2.1 q.1 = .ok (q.2.1, q.2.2))) = true := by decide +kernel
theorem d_M_goesOn_0 : vm_D q_M_goesOn.2.1 0 1 1 (.aload_n 0) := vm_dD b_M_goesOn_0 0 rfl rfl
theorem d_M_goesOn_1 : vm_D q_M_goesOn.2.1 1 1 2 (.aload_n 1) := vm_dD b_M_goesOn_0 1 rfl rfl
theorem d_M_goesOn_2 : vm_D q_M_goesOn.2.1 2 1 3 (.iload_n 2) := vm_dD b_M_goesOn_0 2 rfl rfl
theorem d_M_goesOn_3 : vm_D q_M_goesOn.2.1 3 3 6 (.invokevirtual 222) := vm_dD b_M_goesOn_0 3 rfl rfl
theorem d_M_goesOn_6 : vm_B q_M_goesOn.2.1 6 9 11 (fun o => .ifCond .eq o) := ⟨5, vm_db b_M_goesOn_0 (i := 4) rfl, rfl, by decide⟩
theorem d_M_goesOn_11 : vm_D q_M_goesOn.2.1 11 1 12 (.iconst 0) := vm_dD b_M_goesOn_0 7 rfl rfl
theorem d_M_goesOn_12 : vm_D q_M_goesOn.2.1 12 1 13 (.istore_n 3) := vm_dD b_M_goesOn_0 8 rfl rfl
theorem d_M_goesOn_13 : vm_D q_M_goesOn.2.1 13 1 14 (.iload_n 3) := vm_dD b_M_goesOn_0 9 rfl rfl
theorem d_M_goesOn_14 : vm_D q_M_goesOn.2.1 14 1 15 (.aload_n 0) := vm_dD b_M_goesOn_0 10 rfl rfl
theorem d_M_goesOn_15 : vm_D q_M_goesOn.2.1 15 3 18 (.getfield 77) := vm_dD b_M_goesOn_0 11 rfl rfl
theorem d_M_goesOn_18 : vm_D q_M_goesOn.2.1 18 1 19 (.iconst 5) := vm_dD b_M_goesOn_0 12 rfl rfl
theorem d_M_goesOn_19 : vm_D q_M_goesOn.2.1 19 1 20 (.iaload) := vm_dD b_M_goesOn_0 13 rfl rfl
theorem d_M_goesOn_20 : vm_B q_M_goesOn.2.1 20 23 55 (fun o => .if_icmp .ge o) := ⟨35, vm_db b_M_goesOn_0 (i := 14) rfl, rfl, by decide⟩
theorem d_M_goesOn_23 : vm_D q_M_goesOn.2.1 23 1 24 (.aload_n 0) := vm_dD b_M_goesOn_0 15 rfl rfl
theorem d_M_goesOn_24 : vm_D q_M_goesOn.2.1 24 3 27 (.getfield 77) := vm_dD b_M_goesOn_0 16 rfl rfl
theorem d_M_goesOn_27 : vm_D q_M_goesOn.2.1 27 3 30 (.sipush 194) := vm_dD b_M_goesOn_0 17 rfl rfl
theorem d_M_goesOn_30 : vm_D q_M_goesOn.2.1 30 1 31 (.iload_n 3) := vm_dD b_M_goesOn_0 18 rfl rfl
theorem d_M_goesOn_31 : vm_D q_M_goesOn.2.1 31 1 32 (.iadd) := vm_dD b_M_goesOn_0 19 rfl rfl
theorem d_M_goesOn_32 : vm_D q_M_goesOn.2.1 32 1 33 (.iaload) := vm_dD b_M_goesOn_0 20 rfl rfl
theorem d_M_goesOn_33 : vm_D q_M_goesOn.2.1 33 1 34 (.iconst 1) := vm_dD b_M_goesOn_0 21 rfl rfl
theorem d_M_goesOn_34 : vm_B q_M_goesOn.2.1 34 37 49 (fun o => .if_icmp .ne o) := ⟨15, vm_db b_M_goesOn_0 (i := 22) rfl, rfl, by decide⟩
theorem d_M_goesOn_49 : vm_D q_M_goesOn.2.1 49 3 52 (.iinc 3 1) := vm_dD b_M_goesOn_0 31 rfl rfl
theorem d_M_goesOn_52 : ∃ off : Int, decode q_M_goesOn.2.1 52 = .ok (.goto off, 3) ∧ ((52 : Nat) : Int) + off = ((13 : Nat) : Int) := ⟨-39, vm_db b_M_goesOn_0 (i := 32) rfl, by decide⟩
theorem d_M_goesOn_37 : vm_D q_M_goesOn.2.1 37 1 38 (.aload_n 0) := vm_dD b_M_goesOn_0 23 rfl rfl
theorem d_M_goesOn_38 : vm_D q_M_goesOn.2.1 38 1 39 (.aload_n 1) := vm_dD b_M_goesOn_0 24 rfl rfl
theorem d_M_goesOn_39 : vm_D q_M_goesOn.2.1 39 1 40 (.iload_n 2) := vm_dD b_M_goesOn_0 25 rfl rfl
theorem d_M_goesOn_40 : vm_D q_M_goesOn.2.1 40 1 41 (.iload_n 3) := vm_dD b_M_goesOn_0 26 rfl rfl
theorem d_M_goesOn_41 : vm_D q_M_goesOn.2.1 41 3 44 (.invokevirtual 226) := vm_dD b_M_goesOn_0 27 rfl rfl
theorem d_M_goesOn_44 : vm_B q_M_goesOn.2.1 44 47 49 (fun o => .ifCond .eq o) := ⟨5, vm_db b_M_goesOn_0 (i := 28) rfl, rfl, by decide⟩
theorem d_M_goesOn_47 : vm_D q_M_goesOn.2.1 47 1 48 (.iconst 0) := vm_dD b_M_goesOn_0 29 rfl rfl
theorem d_M_goesOn_48 : vm_D q_M_goesOn.2.1 48 1 49 (.ireturn) := vm_dD b_M_goesOn_0 30 rfl rfl
theorem d_M_goesOn_55 : vm_D q_M_goesOn.2.1 55 1 56 (.iconst 1) := vm_dD b_M_goesOn_0 33 rfl rfl
theorem d_M_goesOn_56 : vm_D q_M_goesOn.2.1 56 1 57 (.ireturn) := vm_dD b_M_goesOn_0 34 rfl rfl
theorem d_M_goesOn_9 : vm_D q_M_goesOn.2.1 9 1 10 (.iconst 0) := vm_dD b_M_goesOn_0 5 rfl rfl
theorem d_M_goesOn_10 : vm_D q_M_goesOn.2.1 10 1 11 (.ireturn) := vm_dD b_M_goesOn_0 6 rfl rfl
def q_M_freeOf : vm_Y := ("RepeatFreeModel", cX11_freeOf, 4, false, [])
def t_M_freeOf_0 : List (Nat × Instr × Nat) := [(0, .iconst 0, 1), (1, .istore_n 3, 1), (2, .iload_n 3, 1), (3, .iload_n 2, 1), (4, .if_icmp .ge 20, 3), (7, .aload_n 0, 1), (8, .aload_n 1, 1), (9, .iload_n 3, 1), (10, .iconst 1, 1), (11, .iadd, 1), (12, .invokevirtual 229, 3), (15, .ifCond .eq 9, 3), (18, .iinc 3 1, 3), (21, .goto (-19), 3), (24, .iload_n 3, 1), (25, .ireturn, 1)]
theorem b_M_freeOf_0 : (t_M_freeOf_0.all fun q => decide (decode q_M_freeOf.2.1 q.1 = .ok (q.2.1, q.2.2))) = true := by decide +kernel
theorem d_M_freeOf_0 : vm_D q_M_freeOf.2.1 0 1 1 (.iconst 0) := vm_dD b_M_freeOf_0 0 rfl rfl
theorem d_M_freeOf_1 : vm_D q_M_freeOf.2.1 1 1 2 (.istore_n 3) := vm_dD b_M_freeOf_0 1 rfl rfl
theorem d_M_freeOf_2 : vm_D q_M_freeOf.2.1 2 1 3 (.iload_n 3) := vm_dD b_M_freeOf_0 2 rfl rfl
theorem d_M_freeOf_3 : vm_D q_M_freeOf.2.1 3 1 4 (.iload_n 2) := vm_dD b_M_freeOf_0 3 rfl rfl
theorem d_M_freeOf_4 : vm_B q_M_freeOf.2.1 4 7 24 (fun o => .if_icmp .ge o) := ⟨20, vm_db b_M_freeOf_0 (i := 4) rfl, rfl, by decide⟩
theorem d_M_freeOf_7 : vm_D q_M_freeOf.2.1 7 1 8 (.aload_n 0) := vm_dD b_M_freeOf_0 5 rfl rfl
theorem d_M_freeOf_8 : vm_D q_M_freeOf.2.1 8 1 9 (.aload_n 1) := vm_dD b_M_freeOf_0 6 rfl rfl
theorem d_M_freeOf_9 : vm_D q_M_freeOf.2.1 9 1 10 (.iload_n 3) := vm_dD b_M_freeOf_0 7 rfl rfl
theorem d_M_freeOf_10 : vm_D q_M_freeOf.2.1 10 1 11 (.iconst 1) := vm_dD b_M_freeOf_0 8 rfl rfl
theorem d_M_freeOf_11 : vm_D q_M_freeOf.2.1 11 1 12 (.iadd) := vm_dD b_M_freeOf_0 9 rfl rfl
theorem d_M_freeOf_12 : vm_D q_M_freeOf.2.1 12 3 15 (.invokevirtual 229) := vm_dD b_M_freeOf_0 10 rfl rfl
theorem d_M_freeOf_15 : vm_B q_M_freeOf.2.1 15 18 24 (fun o => .ifCond .eq o) := ⟨9, vm_db b_M_freeOf_0 (i := 11) rfl, rfl, by decide⟩
theorem d_M_freeOf_18 : vm_D q_M_freeOf.2.1 18 3 21 (.iinc 3 1) := vm_dD b_M_freeOf_0 12 rfl rfl
theorem d_M_freeOf_21 : ∃ off : Int, decode q_M_freeOf.2.1 21 = .ok (.goto off, 3) ∧ ((21 : Nat) : Int) + off = ((2 : Nat) : Int) := ⟨-19, vm_db b_M_freeOf_0 (i := 13) rfl, by decide⟩
theorem d_M_freeOf_24 : vm_D q_M_freeOf.2.1 24 1 25 (.iload_n 3) := vm_dD b_M_freeOf_0 14 rfl rfl
theorem d_M_freeOf_25 : vm_D q_M_freeOf.2.1 25 1 26 (.ireturn) := vm_dD b_M_freeOf_0 15 rfl rfl
def q_M_isFree : vm_Y := ("RepeatFreeModel", cX11_isFree, 1, false, [])
def t_M_isFree_0 : List (Nat × Instr × Nat) := [(0, .aload_n 0, 1), (1, .aload_n 0, 1), (2, .getfield 83, 3), (5, .aload_n 0, 1), (6, .getfield 184, 3), (9, .invokevirtual 232, 3), (12, .aload_n 0, 1), (13, .getfield 184, 3), (16, .if_icmp .ne 7, 3), (19, .iconst 1, 1), (20, .goto 4, 3), (23, .iconst 0, 1), (24, .ireturn, 1)]
theorem b_M_isFree_0 : (t_M_isFree_0.all fun q => decide (decode q_M_isFree.2.1 q.1 = .ok (q.2.1, q.2.2))) = true := by decide +kernel
theorem d_M_isFree_0 : vm_D q_M_isFree.2.1 0 1 1 (.aload_n 0) := vm_dD b_M_isFree_0 0 rfl rfl
theorem d_M_isFree_1 : vm_D q_M_isFree.2.1 1 1 2 (.aload_n 0) := vm_dD b_M_isFree_0 1 rfl rfl
theorem d_M_isFree_2 : vm_D q_M_isFree.2.1 2 3 5 (.getfield 83) := vm_dD b_M_isFree_0 2 rfl rfl
theorem d_M_isFree_5 : vm_D q_M_isFree.2.1 5 1 6 (.aload_n 0) := vm_dD b_M_isFree_0 3 rfl rfl
theorem d_M_isFree_6 : vm_D q_M_isFree.2.1 6 3 9 (.getfield 184) := vm_dD b_M_isFree_0 4 rfl rfl
theorem d_M_isFree_9 : vm_D q_M_isFree.2.1 9 3 12 (.invokevirtual 232) := vm_dD b_M_isFree_0 5 rfl rfl
theorem d_M_isFree_12 : vm_D q_M_isFree.2.1 12 1 13 (.aload_n 0) := vm_dD b_M_isFree_0 6 rfl rfl
theorem d_M_isFree_13 : vm_D q_M_isFree.2.1 13 3 16 (.getfield 184) := vm_dD b_M_isFree_0 7 rfl rfl
theorem d_M_isFree_16 : vm_B q_M_isFree.2.1 16 19 23 (fun o => .if_icmp .ne o) := ⟨7, vm_db b_M_isFree_0 (i := 8) rfl, rfl, by decide⟩
theorem d_M_isFree_23 : vm_D q_M_isFree.2.1 23 1 24 (.iconst 0) := vm_dD b_M_isFree_0 11 rfl rfl
theorem d_M_isFree_24 : vm_D q_M_isFree.2.1 24 1 25 (.ireturn) := vm_dD b_M_isFree_0 12 rfl rfl
theorem d_M_isFree_19 : vm_D q_M_isFree.2.1 19 1 20 (.iconst 1) := vm_dD b_M_isFree_0 9 rfl rfl
theorem d_M_isFree_20 : ∃ off : Int, decode q_M_isFree.2.1 20 = .ok (.goto off, 3) ∧ ((20 : Nat) : Int) + off = ((24 : Nat) : Int) := ⟨4, vm_db b_M_isFree_0 (i := 10) rfl, by decide⟩
def q_M_free : vm_Y := ("RepeatFreeModel", cX11_free, 1, false, [])
def t_M_free_0 : List (Nat × Instr × Nat) := [(0, .aload_n 0, 1), (1, .iconst 0, 1), (2, .putfield 3, 3), (5, .aload_n 0, 1), (6, .invokevirtual 236, 3), (9, .ireturn, 1)]
theorem b_M_free_0 : (t_M_free_0.all fun q => decide (decode q_M_free.2.1 q.1 = .ok (q.2.1, q.2.2))) = true := by decide +kernel
theorem d_M_free_0 : vm_D q_M_free.2.1 0 1 1 (.aload_n 0) := vm_dD b_M_free_0 0 rfl rfl
theorem d_M_free_1 : vm_D q_M_free.2.1 1 1 2 (.iconst 0) := vm_dD b_M_free_0 1 rfl rfl
theorem d_M_free_2 : vm_D q_M_free.2.1 2 3 5 (.putfield 3) := vm_dD b_M_free_0 2 rfl rfl
theorem d_M_free_5 : vm_D q_M_free.2.1 5 1 6 (.aload_n 0) := vm_dD b_M_free_0 3 rfl rfl
theorem d_M_free_6 : vm_D q_M_free.2.1 6 3 9 (.invokevirtual 236) := vm_dD b_M_free_0 4 rfl rfl
theorem d_M_free_9 : vm_D q_M_free.2.1 9 1 10 (.ireturn) := vm_dD b_M_free_0 5 rfl rfl
def q_M_endsAt : vm_Y := ("RepeatFreeModel", cX11_endsAt, 2, false, [])
def t_M_endsAt_0 : List (Nat × Instr × Nat) := [(0, .aload_n 0, 1), (1, .aload_n 0, 1), (2, .getfield 83, 3), (5, .aload_n 0, 1), (6, .getfield 184, 3), (9, .invokevirtual 232, 3), (12, .istore_n 1, 1), (13, .iload_n 1, 1), (14, .aload_n 0, 1), (15, .getfield 184, 3), (18, .if_icmp .ne 7, 3), (21, .iconst (-1), 1), (22, .goto 4, 3), (25, .iload_n 1, 1), (26, .ireturn, 1)]
theorem b_M_endsAt_0 : (t_M_endsAt_0.all fun q => decide (decode q_M_endsAt.2.1 q.1 = .ok (q.2.1, q.2.2))) = true := by decide +kernel
theorem d_M_endsAt_0 : vm_D q_M_endsAt.2.1 0 1 1 (.aload_n 0) := vm_dD b_M_endsAt_0 0 rfl rfl
theorem d_M_endsAt_1 : vm_D q_M_endsAt.2.1 1 1 2 (.aload_n 0) := vm_dD b_M_endsAt_0 1 rfl rfl
theorem d_M_endsAt_2 : vm_D q_M_endsAt.2.1 2 3 5 (.getfield 83) := vm_dD b_M_endsAt_0 2 rfl rfl
theorem d_M_endsAt_5 : vm_D q_M_endsAt.2.1 5 1 6 (.aload_n 0) := vm_dD b_M_endsAt_0 3 rfl rfl
theorem d_M_endsAt_6 : vm_D q_M_endsAt.2.1 6 3 9 (.getfield 184) := vm_dD b_M_endsAt_0 4 rfl rfl
theorem d_M_endsAt_9 : vm_D q_M_endsAt.2.1 9 3 12 (.invokevirtual 232) := vm_dD b_M_endsAt_0 5 rfl rfl
theorem d_M_endsAt_12 : vm_D q_M_endsAt.2.1 12 1 13 (.istore_n 1) := vm_dD b_M_endsAt_0 6 rfl rfl
theorem d_M_endsAt_13 : vm_D q_M_endsAt.2.1 13 1 14 (.iload_n 1) := vm_dD b_M_endsAt_0 7 rfl rfl
theorem d_M_endsAt_14 : vm_D q_M_endsAt.2.1 14 1 15 (.aload_n 0) := vm_dD b_M_endsAt_0 8 rfl rfl
theorem d_M_endsAt_15 : vm_D q_M_endsAt.2.1 15 3 18 (.getfield 184) := vm_dD b_M_endsAt_0 9 rfl rfl
theorem d_M_endsAt_18 : vm_B q_M_endsAt.2.1 18 21 25 (fun o => .if_icmp .ne o) := ⟨7, vm_db b_M_endsAt_0 (i := 10) rfl, rfl, by decide⟩
theorem d_M_endsAt_25 : vm_D q_M_endsAt.2.1 25 1 26 (.iload_n 1) := vm_dD b_M_endsAt_0 13 rfl rfl
theorem d_M_endsAt_26 : vm_D q_M_endsAt.2.1 26 1 27 (.ireturn) := vm_dD b_M_endsAt_0 14 rfl rfl
theorem d_M_endsAt_21 : vm_D q_M_endsAt.2.1 21 1 22 (.iconst (-1)) := vm_dD b_M_endsAt_0 11 rfl rfl
theorem d_M_endsAt_22 : ∃ off : Int, decode q_M_endsAt.2.1 22 = .ok (.goto off, 3) ∧ ((22 : Nat) : Int) + off = ((26 : Nat) : Int) := ⟨4, vm_db b_M_endsAt_0 (i := 12) rfl, by decide⟩
def q_M_ends : vm_Y := ("RepeatFreeModel", cX11_ends, 1, false, [])
def t_M_ends_0 : List (Nat × Instr × Nat) := [(0, .aload_n 0, 1), (1, .iconst 0, 1), (2, .putfield 3, 3), (5, .aload_n 0, 1), (6, .invokevirtual 239, 3), (9, .ireturn, 1)]
theorem b_M_ends_0 : (t_M_ends_0.all fun q => decide (decode q_M_ends.2.1 q.1 = .ok (q.2.1, q.2.2))) = true := by decide +kernel
theorem d_M_ends_0 : vm_D q_M_ends.2.1 0 1 1 (.aload_n 0) := vm_dD b_M_ends_0 0 rfl rfl
theorem d_M_ends_1 : vm_D q_M_ends.2.1 1 1 2 (.iconst 0) := vm_dD b_M_ends_0 1 rfl rfl
theorem d_M_ends_2 : vm_D q_M_ends.2.1 2 3 5 (.putfield 3) := vm_dD b_M_ends_0 2 rfl rfl
theorem d_M_ends_5 : vm_D q_M_ends.2.1 5 1 6 (.aload_n 0) := vm_dD b_M_ends_0 3 rfl rfl
theorem d_M_ends_6 : vm_D q_M_ends.2.1 6 3 9 (.invokevirtual 239) := vm_dD b_M_ends_0 4 rfl rfl
theorem d_M_ends_9 : vm_D q_M_ends.2.1 9 1 10 (.ireturn) := vm_dD b_M_ends_0 5 rfl rfl
def q_M_laysGiven : vm_Y := ("RepeatFreeModel", cX11_laysGiven, 3, false, [])
def t_M_laysGiven_0 : List (Nat × Instr × Nat) := [(0, .iconst 0, 1), (1, .istore_n 2, 1), (2, .iload_n 2, 1), (3, .iload_n 1, 1), (4, .if_icmp .ge 21, 3), (7, .aload_n 0, 1), (8, .getfield 86, 3), (11, .iload_n 2, 1), (12, .aload_n 0, 1), (13, .getfield 83, 3), (16, .iload_n 2, 1), (17, .iaload, 1), (18, .iastore, 1), (19, .iinc 2 1, 3), (22, .goto (-20), 3), (25, .return_, 1)]
theorem b_M_laysGiven_0 : (t_M_laysGiven_0.all fun q => decide (decode q_M_laysGiven.2.1 q.1 = .ok (q.2.1, q.2.2))) = true := by decide +kernel
theorem d_M_laysGiven_0 : vm_D q_M_laysGiven.2.1 0 1 1 (.iconst 0) := vm_dD b_M_laysGiven_0 0 rfl rfl
theorem d_M_laysGiven_1 : vm_D q_M_laysGiven.2.1 1 1 2 (.istore_n 2) := vm_dD b_M_laysGiven_0 1 rfl rfl
theorem d_M_laysGiven_2 : vm_D q_M_laysGiven.2.1 2 1 3 (.iload_n 2) := vm_dD b_M_laysGiven_0 2 rfl rfl
theorem d_M_laysGiven_3 : vm_D q_M_laysGiven.2.1 3 1 4 (.iload_n 1) := vm_dD b_M_laysGiven_0 3 rfl rfl
theorem d_M_laysGiven_4 : vm_B q_M_laysGiven.2.1 4 7 25 (fun o => .if_icmp .ge o) := ⟨21, vm_db b_M_laysGiven_0 (i := 4) rfl, rfl, by decide⟩
theorem d_M_laysGiven_7 : vm_D q_M_laysGiven.2.1 7 1 8 (.aload_n 0) := vm_dD b_M_laysGiven_0 5 rfl rfl
theorem d_M_laysGiven_8 : vm_D q_M_laysGiven.2.1 8 3 11 (.getfield 86) := vm_dD b_M_laysGiven_0 6 rfl rfl
theorem d_M_laysGiven_11 : vm_D q_M_laysGiven.2.1 11 1 12 (.iload_n 2) := vm_dD b_M_laysGiven_0 7 rfl rfl
theorem d_M_laysGiven_12 : vm_D q_M_laysGiven.2.1 12 1 13 (.aload_n 0) := vm_dD b_M_laysGiven_0 8 rfl rfl
theorem d_M_laysGiven_13 : vm_D q_M_laysGiven.2.1 13 3 16 (.getfield 83) := vm_dD b_M_laysGiven_0 9 rfl rfl
theorem d_M_laysGiven_16 : vm_D q_M_laysGiven.2.1 16 1 17 (.iload_n 2) := vm_dD b_M_laysGiven_0 10 rfl rfl
theorem d_M_laysGiven_17 : vm_D q_M_laysGiven.2.1 17 1 18 (.iaload) := vm_dD b_M_laysGiven_0 11 rfl rfl
theorem d_M_laysGiven_18 : vm_D q_M_laysGiven.2.1 18 1 19 (.iastore) := vm_dD b_M_laysGiven_0 12 rfl rfl
theorem d_M_laysGiven_19 : vm_D q_M_laysGiven.2.1 19 3 22 (.iinc 2 1) := vm_dD b_M_laysGiven_0 13 rfl rfl
theorem d_M_laysGiven_22 : ∃ off : Int, decode q_M_laysGiven.2.1 22 = .ok (.goto off, 3) ∧ ((22 : Nat) : Int) + off = ((2 : Nat) : Int) := ⟨-20, vm_db b_M_laysGiven_0 (i := 14) rfl, by decide⟩
theorem d_M_laysGiven_25 : vm_D q_M_laysGiven.2.1 25 1 26 (.return_) := vm_dD b_M_laysGiven_0 15 rfl rfl
def q_M_goes : vm_Y := ("RepeatFreeModel", cX11_goes, 3, false, [])
def t_M_goes_0 : List (Nat × Instr × Nat) := [(0, .aload_n 0, 1), (1, .iconst 0, 1), (2, .putfield 3, 3), (5, .aload_n 0, 1), (6, .getfield 184, 3), (9, .bipush 64, 2), (11, .if_icmp .eq 10, 3), (14, .aload_n 0, 1), (15, .invokevirtual 236, 3), (18, .ifCond .ne 5, 3), (21, .iconst 0, 1), (22, .ireturn, 1), (23, .aload_n 0, 1), (24, .aload_n 0, 1), (25, .getfield 184, 3), (28, .invokevirtual 242, 3), (31, .iconst 0, 1), (32, .istore_n 1, 1), (33, .iconst 0, 1), (34, .istore_n 2, 1), (35, .iload_n 2, 1), (36, .aload_n 0, 1), (37, .getfield 77, 3), (40, .iconst 0, 1), (41, .iaload, 1), (42, .if_icmp .ge 46, 3), (45, .aload_n 0, 1), (46, .getfield 86, 3), (49, .aload_n 0, 1), (50, .getfield 184, 3), (53, .iload_n 2, 1), (54, .iastore, 1), (55, .iload_n 1, 1), (56, .aload_n 0, 1), (57, .aload_n 0, 1), (58, .getfield 86, 3), (61, .aload_n 0, 1), (62, .getfield 184, 3), (65, .iconst 1, 1), (66, .iadd, 1), (67, .invokevirtual 229, 3), (70, .ifCond .eq 9, 3), (73, .iconst 1, 1), (74, .iload_n 2, 1), (75, .ishl, 1), (76, .goto 4, 3), (79, .iconst 0, 1), (80, .ior, 1), (81, .istore_n 1, 1), (82, .iinc 2 1, 3), (85, .goto (-50), 3), (88, .iload_n 1, 1), (89, .ireturn, 1)]
theorem b_M_goes_0 : (t_M_goes_0.all fun q => decide (decode q_M_goes.2.1 q.1 = .ok (q.2.1, q.2.2))) = true := by decide +kernel
theorem d_M_goes_0 : vm_D q_M_goes.2.1 0 1 1 (.aload_n 0) := vm_dD b_M_goes_0 0 rfl rfl
theorem d_M_goes_1 : vm_D q_M_goes.2.1 1 1 2 (.iconst 0) := vm_dD b_M_goes_0 1 rfl rfl
theorem d_M_goes_2 : vm_D q_M_goes.2.1 2 3 5 (.putfield 3) := vm_dD b_M_goes_0 2 rfl rfl
theorem d_M_goes_5 : vm_D q_M_goes.2.1 5 1 6 (.aload_n 0) := vm_dD b_M_goes_0 3 rfl rfl
theorem d_M_goes_6 : vm_D q_M_goes.2.1 6 3 9 (.getfield 184) := vm_dD b_M_goes_0 4 rfl rfl
theorem d_M_goes_9 : vm_D q_M_goes.2.1 9 2 11 (.bipush 64) := vm_dD b_M_goes_0 5 rfl rfl
theorem d_M_goes_11 : vm_B q_M_goes.2.1 11 14 21 (fun o => .if_icmp .eq o) := ⟨10, vm_db b_M_goes_0 (i := 6) rfl, rfl, by decide⟩
theorem d_M_goes_21 : vm_D q_M_goes.2.1 21 1 22 (.iconst 0) := vm_dD b_M_goes_0 10 rfl rfl
theorem d_M_goes_22 : vm_D q_M_goes.2.1 22 1 23 (.ireturn) := vm_dD b_M_goes_0 11 rfl rfl
theorem d_M_goes_14 : vm_D q_M_goes.2.1 14 1 15 (.aload_n 0) := vm_dD b_M_goes_0 7 rfl rfl
theorem d_M_goes_15 : vm_D q_M_goes.2.1 15 3 18 (.invokevirtual 236) := vm_dD b_M_goes_0 8 rfl rfl
theorem d_M_goes_18 : vm_B q_M_goes.2.1 18 21 23 (fun o => .ifCond .ne o) := ⟨5, vm_db b_M_goes_0 (i := 9) rfl, rfl, by decide⟩
theorem d_M_goes_23 : vm_D q_M_goes.2.1 23 1 24 (.aload_n 0) := vm_dD b_M_goes_0 12 rfl rfl
theorem d_M_goes_24 : vm_D q_M_goes.2.1 24 1 25 (.aload_n 0) := vm_dD b_M_goes_0 13 rfl rfl
theorem d_M_goes_25 : vm_D q_M_goes.2.1 25 3 28 (.getfield 184) := vm_dD b_M_goes_0 14 rfl rfl
theorem d_M_goes_28 : vm_D q_M_goes.2.1 28 3 31 (.invokevirtual 242) := vm_dD b_M_goes_0 15 rfl rfl
theorem d_M_goes_31 : vm_D q_M_goes.2.1 31 1 32 (.iconst 0) := vm_dD b_M_goes_0 16 rfl rfl
theorem d_M_goes_32 : vm_D q_M_goes.2.1 32 1 33 (.istore_n 1) := vm_dD b_M_goes_0 17 rfl rfl
theorem d_M_goes_33 : vm_D q_M_goes.2.1 33 1 34 (.iconst 0) := vm_dD b_M_goes_0 18 rfl rfl
theorem d_M_goes_34 : vm_D q_M_goes.2.1 34 1 35 (.istore_n 2) := vm_dD b_M_goes_0 19 rfl rfl
theorem d_M_goes_35 : vm_D q_M_goes.2.1 35 1 36 (.iload_n 2) := vm_dD b_M_goes_0 20 rfl rfl
theorem d_M_goes_36 : vm_D q_M_goes.2.1 36 1 37 (.aload_n 0) := vm_dD b_M_goes_0 21 rfl rfl
theorem d_M_goes_37 : vm_D q_M_goes.2.1 37 3 40 (.getfield 77) := vm_dD b_M_goes_0 22 rfl rfl
theorem d_M_goes_40 : vm_D q_M_goes.2.1 40 1 41 (.iconst 0) := vm_dD b_M_goes_0 23 rfl rfl
theorem d_M_goes_41 : vm_D q_M_goes.2.1 41 1 42 (.iaload) := vm_dD b_M_goes_0 24 rfl rfl
theorem d_M_goes_42 : vm_B q_M_goes.2.1 42 45 88 (fun o => .if_icmp .ge o) := ⟨46, vm_db b_M_goes_0 (i := 25) rfl, rfl, by decide⟩
theorem d_M_goes_45 : vm_D q_M_goes.2.1 45 1 46 (.aload_n 0) := vm_dD b_M_goes_0 26 rfl rfl
theorem d_M_goes_46 : vm_D q_M_goes.2.1 46 3 49 (.getfield 86) := vm_dD b_M_goes_0 27 rfl rfl
theorem d_M_goes_49 : vm_D q_M_goes.2.1 49 1 50 (.aload_n 0) := vm_dD b_M_goes_0 28 rfl rfl
theorem d_M_goes_50 : vm_D q_M_goes.2.1 50 3 53 (.getfield 184) := vm_dD b_M_goes_0 29 rfl rfl
theorem d_M_goes_53 : vm_D q_M_goes.2.1 53 1 54 (.iload_n 2) := vm_dD b_M_goes_0 30 rfl rfl
theorem d_M_goes_54 : vm_D q_M_goes.2.1 54 1 55 (.iastore) := vm_dD b_M_goes_0 31 rfl rfl
theorem d_M_goes_55 : vm_D q_M_goes.2.1 55 1 56 (.iload_n 1) := vm_dD b_M_goes_0 32 rfl rfl
theorem d_M_goes_56 : vm_D q_M_goes.2.1 56 1 57 (.aload_n 0) := vm_dD b_M_goes_0 33 rfl rfl
theorem d_M_goes_57 : vm_D q_M_goes.2.1 57 1 58 (.aload_n 0) := vm_dD b_M_goes_0 34 rfl rfl
theorem d_M_goes_58 : vm_D q_M_goes.2.1 58 3 61 (.getfield 86) := vm_dD b_M_goes_0 35 rfl rfl
theorem d_M_goes_61 : vm_D q_M_goes.2.1 61 1 62 (.aload_n 0) := vm_dD b_M_goes_0 36 rfl rfl
theorem d_M_goes_62 : vm_D q_M_goes.2.1 62 3 65 (.getfield 184) := vm_dD b_M_goes_0 37 rfl rfl
theorem d_M_goes_65 : vm_D q_M_goes.2.1 65 1 66 (.iconst 1) := vm_dD b_M_goes_0 38 rfl rfl
theorem d_M_goes_66 : vm_D q_M_goes.2.1 66 1 67 (.iadd) := vm_dD b_M_goes_0 39 rfl rfl
theorem d_M_goes_67 : vm_D q_M_goes.2.1 67 3 70 (.invokevirtual 229) := vm_dD b_M_goes_0 40 rfl rfl
theorem d_M_goes_70 : vm_B q_M_goes.2.1 70 73 79 (fun o => .ifCond .eq o) := ⟨9, vm_db b_M_goes_0 (i := 41) rfl, rfl, by decide⟩
theorem d_M_goes_80 : vm_D q_M_goes.2.1 80 1 81 (.ior) := vm_dD b_M_goes_0 47 rfl rfl
theorem d_M_goes_81 : vm_D q_M_goes.2.1 81 1 82 (.istore_n 1) := vm_dD b_M_goes_0 48 rfl rfl
theorem d_M_goes_82 : vm_D q_M_goes.2.1 82 3 85 (.iinc 2 1) := vm_dD b_M_goes_0 49 rfl rfl
theorem d_M_goes_85 : ∃ off : Int, decode q_M_goes.2.1 85 = .ok (.goto off, 3) ∧ ((85 : Nat) : Int) + off = ((35 : Nat) : Int) := ⟨-50, vm_db b_M_goes_0 (i := 50) rfl, by decide⟩
theorem d_M_goes_79 : vm_D q_M_goes.2.1 79 1 80 (.iconst 0) := vm_dD b_M_goes_0 46 rfl rfl
theorem d_M_goes_73 : vm_D q_M_goes.2.1 73 1 74 (.iconst 1) := vm_dD b_M_goes_0 42 rfl rfl
theorem d_M_goes_74 : vm_D q_M_goes.2.1 74 1 75 (.iload_n 2) := vm_dD b_M_goes_0 43 rfl rfl
theorem d_M_goes_75 : vm_D q_M_goes.2.1 75 1 76 (.ishl) := vm_dD b_M_goes_0 44 rfl rfl
theorem d_M_goes_76 : ∃ off : Int, decode q_M_goes.2.1 76 = .ok (.goto off, 3) ∧ ((76 : Nat) : Int) + off = ((80 : Nat) : Int) := ⟨4, vm_db b_M_goes_0 (i := 45) rfl, by decide⟩
theorem d_M_goes_88 : vm_D q_M_goes.2.1 88 1 89 (.iload_n 1) := vm_dD b_M_goes_0 51 rfl rfl
theorem d_M_goes_89 : vm_D q_M_goes.2.1 89 1 90 (.ireturn) := vm_dD b_M_goes_0 52 rfl rfl
def q_M_ahead : vm_Y := ("RepeatFreeModel", cX11_ahead, 3, false, [])
def t_M_ahead_0 : List (Nat × Instr × Nat) := [(0, .aload_n 0, 1), (1, .iconst 0, 1), (2, .putfield 3, 3), (5, .aload_n 0, 1), (6, .getfield 184, 3), (9, .bipush 64, 2), (11, .if_icmp .ne 5, 3), (14, .iconst 0, 1), (15, .ireturn, 1), (16, .iconst 0, 1), (17, .istore_n 1, 1), (18, .iload_n 1, 1), (19, .aload_n 0, 1), (20, .getfield 184, 3), (23, .if_icmp .ge 23, 3), (26, .aload_n 0, 1), (27, .getfield 86, 3), (30, .iload_n 1, 1), (31, .iconst 1, 1), (32, .iadd, 1), (33, .aload_n 0, 1), (34, .getfield 83, 3), (37, .iload_n 1, 1), (38, .iaload, 1), (39, .iastore, 1), (40, .iinc 1 1, 3), (43, .goto (-25), 3), (46, .iconst 0, 1), (47, .istore_n 1, 1), (48, .iconst 0, 1), (49, .istore_n 2, 1), (50, .iload_n 2, 1), (51, .aload_n 0, 1), (52, .getfield 77, 3), (55, .iconst 0, 1), (56, .iaload, 1), (57, .if_icmp .ge 49, 3), (60, .aload_n 0, 1), (61, .getfield 86, 3), (64, .iconst 0, 1), (65, .iload_n 2, 1), (66, .iastore, 1), (67, .iload_n 1, 1), (68, .aload_n 0, 1), (69, .aload_n 0, 1), (70, .getfield 86, 3), (73, .aload_n 0, 1), (74, .getfield 184, 3), (77, .iconst 1, 1), (78, .iadd, 1), (79, .invokevirtual 232, 3), (82, .aload_n 0, 1), (83, .getfield 184, 3), (86, .iconst 1, 1), (87, .iadd, 1), (88, .if_icmp .ne 9, 3), (91, .iconst 1, 1), (92, .iload_n 2, 1), (93, .ishl, 1), (94, .goto 4, 3)]
theorem b_M_ahead_0 : (t_M_ahead_0.all fun q => decide (decode q_M_ahead.2.1 q.1 = .ok (q.2.1, q.2.2))) = true := by decide +kernel
def t_M_ahead_1 : List (Nat × Instr × Nat) := [(97, .iconst 0, 1), (98, .ior, 1), (99, .istore_n 1, 1), (100, .iinc 2 1, 3), (103, .goto (-53), 3), (106, .iload_n 1, 1), (107, .ireturn, 1)]
theorem b_M_ahead_1 : (t_M_ahead_1.all fun q => decide (decode q_M_ahead.2.1 q.1 = .ok (q.2.1, q.2.2))) = true := by decide +kernel
theorem d_M_ahead_0 : vm_D q_M_ahead.2.1 0 1 1 (.aload_n 0) := vm_dD b_M_ahead_0 0 rfl rfl
theorem d_M_ahead_1 : vm_D q_M_ahead.2.1 1 1 2 (.iconst 0) := vm_dD b_M_ahead_0 1 rfl rfl
theorem d_M_ahead_2 : vm_D q_M_ahead.2.1 2 3 5 (.putfield 3) := vm_dD b_M_ahead_0 2 rfl rfl
theorem d_M_ahead_5 : vm_D q_M_ahead.2.1 5 1 6 (.aload_n 0) := vm_dD b_M_ahead_0 3 rfl rfl
theorem d_M_ahead_6 : vm_D q_M_ahead.2.1 6 3 9 (.getfield 184) := vm_dD b_M_ahead_0 4 rfl rfl
theorem d_M_ahead_9 : vm_D q_M_ahead.2.1 9 2 11 (.bipush 64) := vm_dD b_M_ahead_0 5 rfl rfl
theorem d_M_ahead_11 : vm_B q_M_ahead.2.1 11 14 16 (fun o => .if_icmp .ne o) := ⟨5, vm_db b_M_ahead_0 (i := 6) rfl, rfl, by decide⟩
theorem d_M_ahead_16 : vm_D q_M_ahead.2.1 16 1 17 (.iconst 0) := vm_dD b_M_ahead_0 9 rfl rfl
theorem d_M_ahead_17 : vm_D q_M_ahead.2.1 17 1 18 (.istore_n 1) := vm_dD b_M_ahead_0 10 rfl rfl
theorem d_M_ahead_18 : vm_D q_M_ahead.2.1 18 1 19 (.iload_n 1) := vm_dD b_M_ahead_0 11 rfl rfl
theorem d_M_ahead_19 : vm_D q_M_ahead.2.1 19 1 20 (.aload_n 0) := vm_dD b_M_ahead_0 12 rfl rfl
theorem d_M_ahead_20 : vm_D q_M_ahead.2.1 20 3 23 (.getfield 184) := vm_dD b_M_ahead_0 13 rfl rfl
theorem d_M_ahead_23 : vm_B q_M_ahead.2.1 23 26 46 (fun o => .if_icmp .ge o) := ⟨23, vm_db b_M_ahead_0 (i := 14) rfl, rfl, by decide⟩
theorem d_M_ahead_26 : vm_D q_M_ahead.2.1 26 1 27 (.aload_n 0) := vm_dD b_M_ahead_0 15 rfl rfl
theorem d_M_ahead_27 : vm_D q_M_ahead.2.1 27 3 30 (.getfield 86) := vm_dD b_M_ahead_0 16 rfl rfl
theorem d_M_ahead_30 : vm_D q_M_ahead.2.1 30 1 31 (.iload_n 1) := vm_dD b_M_ahead_0 17 rfl rfl
theorem d_M_ahead_31 : vm_D q_M_ahead.2.1 31 1 32 (.iconst 1) := vm_dD b_M_ahead_0 18 rfl rfl
theorem d_M_ahead_32 : vm_D q_M_ahead.2.1 32 1 33 (.iadd) := vm_dD b_M_ahead_0 19 rfl rfl
theorem d_M_ahead_33 : vm_D q_M_ahead.2.1 33 1 34 (.aload_n 0) := vm_dD b_M_ahead_0 20 rfl rfl
theorem d_M_ahead_34 : vm_D q_M_ahead.2.1 34 3 37 (.getfield 83) := vm_dD b_M_ahead_0 21 rfl rfl
theorem d_M_ahead_37 : vm_D q_M_ahead.2.1 37 1 38 (.iload_n 1) := vm_dD b_M_ahead_0 22 rfl rfl
theorem d_M_ahead_38 : vm_D q_M_ahead.2.1 38 1 39 (.iaload) := vm_dD b_M_ahead_0 23 rfl rfl
theorem d_M_ahead_39 : vm_D q_M_ahead.2.1 39 1 40 (.iastore) := vm_dD b_M_ahead_0 24 rfl rfl
theorem d_M_ahead_40 : vm_D q_M_ahead.2.1 40 3 43 (.iinc 1 1) := vm_dD b_M_ahead_0 25 rfl rfl
theorem d_M_ahead_43 : ∃ off : Int, decode q_M_ahead.2.1 43 = .ok (.goto off, 3) ∧ ((43 : Nat) : Int) + off = ((18 : Nat) : Int) := ⟨-25, vm_db b_M_ahead_0 (i := 26) rfl, by decide⟩
theorem d_M_ahead_46 : vm_D q_M_ahead.2.1 46 1 47 (.iconst 0) := vm_dD b_M_ahead_0 27 rfl rfl
theorem d_M_ahead_47 : vm_D q_M_ahead.2.1 47 1 48 (.istore_n 1) := vm_dD b_M_ahead_0 28 rfl rfl
theorem d_M_ahead_48 : vm_D q_M_ahead.2.1 48 1 49 (.iconst 0) := vm_dD b_M_ahead_0 29 rfl rfl
theorem d_M_ahead_49 : vm_D q_M_ahead.2.1 49 1 50 (.istore_n 2) := vm_dD b_M_ahead_0 30 rfl rfl
theorem d_M_ahead_50 : vm_D q_M_ahead.2.1 50 1 51 (.iload_n 2) := vm_dD b_M_ahead_0 31 rfl rfl
theorem d_M_ahead_51 : vm_D q_M_ahead.2.1 51 1 52 (.aload_n 0) := vm_dD b_M_ahead_0 32 rfl rfl
theorem d_M_ahead_52 : vm_D q_M_ahead.2.1 52 3 55 (.getfield 77) := vm_dD b_M_ahead_0 33 rfl rfl
theorem d_M_ahead_55 : vm_D q_M_ahead.2.1 55 1 56 (.iconst 0) := vm_dD b_M_ahead_0 34 rfl rfl
theorem d_M_ahead_56 : vm_D q_M_ahead.2.1 56 1 57 (.iaload) := vm_dD b_M_ahead_0 35 rfl rfl
theorem d_M_ahead_57 : vm_B q_M_ahead.2.1 57 60 106 (fun o => .if_icmp .ge o) := ⟨49, vm_db b_M_ahead_0 (i := 36) rfl, rfl, by decide⟩
theorem d_M_ahead_60 : vm_D q_M_ahead.2.1 60 1 61 (.aload_n 0) := vm_dD b_M_ahead_0 37 rfl rfl
theorem d_M_ahead_61 : vm_D q_M_ahead.2.1 61 3 64 (.getfield 86) := vm_dD b_M_ahead_0 38 rfl rfl
theorem d_M_ahead_64 : vm_D q_M_ahead.2.1 64 1 65 (.iconst 0) := vm_dD b_M_ahead_0 39 rfl rfl
theorem d_M_ahead_65 : vm_D q_M_ahead.2.1 65 1 66 (.iload_n 2) := vm_dD b_M_ahead_0 40 rfl rfl
theorem d_M_ahead_66 : vm_D q_M_ahead.2.1 66 1 67 (.iastore) := vm_dD b_M_ahead_0 41 rfl rfl
theorem d_M_ahead_67 : vm_D q_M_ahead.2.1 67 1 68 (.iload_n 1) := vm_dD b_M_ahead_0 42 rfl rfl
theorem d_M_ahead_68 : vm_D q_M_ahead.2.1 68 1 69 (.aload_n 0) := vm_dD b_M_ahead_0 43 rfl rfl
theorem d_M_ahead_69 : vm_D q_M_ahead.2.1 69 1 70 (.aload_n 0) := vm_dD b_M_ahead_0 44 rfl rfl
theorem d_M_ahead_70 : vm_D q_M_ahead.2.1 70 3 73 (.getfield 86) := vm_dD b_M_ahead_0 45 rfl rfl
theorem d_M_ahead_73 : vm_D q_M_ahead.2.1 73 1 74 (.aload_n 0) := vm_dD b_M_ahead_0 46 rfl rfl
theorem d_M_ahead_74 : vm_D q_M_ahead.2.1 74 3 77 (.getfield 184) := vm_dD b_M_ahead_0 47 rfl rfl
theorem d_M_ahead_77 : vm_D q_M_ahead.2.1 77 1 78 (.iconst 1) := vm_dD b_M_ahead_0 48 rfl rfl
theorem d_M_ahead_78 : vm_D q_M_ahead.2.1 78 1 79 (.iadd) := vm_dD b_M_ahead_0 49 rfl rfl
theorem d_M_ahead_79 : vm_D q_M_ahead.2.1 79 3 82 (.invokevirtual 232) := vm_dD b_M_ahead_0 50 rfl rfl
theorem d_M_ahead_82 : vm_D q_M_ahead.2.1 82 1 83 (.aload_n 0) := vm_dD b_M_ahead_0 51 rfl rfl
theorem d_M_ahead_83 : vm_D q_M_ahead.2.1 83 3 86 (.getfield 184) := vm_dD b_M_ahead_0 52 rfl rfl
theorem d_M_ahead_86 : vm_D q_M_ahead.2.1 86 1 87 (.iconst 1) := vm_dD b_M_ahead_0 53 rfl rfl
theorem d_M_ahead_87 : vm_D q_M_ahead.2.1 87 1 88 (.iadd) := vm_dD b_M_ahead_0 54 rfl rfl
theorem d_M_ahead_88 : vm_B q_M_ahead.2.1 88 91 97 (fun o => .if_icmp .ne o) := ⟨9, vm_db b_M_ahead_0 (i := 55) rfl, rfl, by decide⟩
theorem d_M_ahead_98 : vm_D q_M_ahead.2.1 98 1 99 (.ior) := vm_dD b_M_ahead_1 1 rfl rfl
theorem d_M_ahead_99 : vm_D q_M_ahead.2.1 99 1 100 (.istore_n 1) := vm_dD b_M_ahead_1 2 rfl rfl
theorem d_M_ahead_100 : vm_D q_M_ahead.2.1 100 3 103 (.iinc 2 1) := vm_dD b_M_ahead_1 3 rfl rfl
theorem d_M_ahead_103 : ∃ off : Int, decode q_M_ahead.2.1 103 = .ok (.goto off, 3) ∧ ((103 : Nat) : Int) + off = ((50 : Nat) : Int) := ⟨-53, vm_db b_M_ahead_1 (i := 4) rfl, by decide⟩
theorem d_M_ahead_97 : vm_D q_M_ahead.2.1 97 1 98 (.iconst 0) := vm_dD b_M_ahead_1 0 rfl rfl
theorem d_M_ahead_91 : vm_D q_M_ahead.2.1 91 1 92 (.iconst 1) := vm_dD b_M_ahead_0 56 rfl rfl
theorem d_M_ahead_92 : vm_D q_M_ahead.2.1 92 1 93 (.iload_n 2) := vm_dD b_M_ahead_0 57 rfl rfl
theorem d_M_ahead_93 : vm_D q_M_ahead.2.1 93 1 94 (.ishl) := vm_dD b_M_ahead_0 58 rfl rfl
theorem d_M_ahead_94 : ∃ off : Int, decode q_M_ahead.2.1 94 = .ok (.goto off, 3) ∧ ((94 : Nat) : Int) + off = ((98 : Nat) : Int) := ⟨4, vm_db b_M_ahead_0 (i := 59) rfl, by decide⟩
theorem d_M_ahead_106 : vm_D q_M_ahead.2.1 106 1 107 (.iload_n 1) := vm_dD b_M_ahead_1 5 rfl rfl
theorem d_M_ahead_107 : vm_D q_M_ahead.2.1 107 1 108 (.ireturn) := vm_dD b_M_ahead_1 6 rfl rfl
theorem d_M_ahead_14 : vm_D q_M_ahead.2.1 14 1 15 (.iconst 0) := vm_dD b_M_ahead_0 7 rfl rfl
theorem d_M_ahead_15 : vm_D q_M_ahead.2.1 15 1 16 (.ireturn) := vm_dD b_M_ahead_0 8 rfl rfl
def q_M_periodOf : vm_Y := ("RepeatFreeModel", cX11_periodOf, 5, false, [])
def t_M_periodOf_0 : List (Nat × Instr × Nat) := [(0, .iconst 1, 1), (1, .istore_n 3, 1), (2, .iload_n 3, 1), (3, .iload_n 2, 1), (4, .if_icmp .ge 55, 3), (7, .iload_n 3, 1), (8, .istore 4, 2), (10, .iload 4, 2), (12, .iload_n 2, 1), (13, .if_icmp .ge 32, 3), (16, .aload_n 0, 1), (17, .getfield 83, 3), (20, .iload_n 1, 1), (21, .iload 4, 2), (23, .iadd, 1), (24, .iaload, 1), (25, .aload_n 0, 1), (26, .getfield 83, 3), (29, .iload_n 1, 1), (30, .iload 4, 2), (32, .iadd, 1), (33, .iload_n 3, 1), (34, .isub, 1), (35, .iaload, 1), (36, .if_icmp .ne 9, 3), (39, .iinc 4 1, 3), (42, .goto (-32), 3), (45, .iload 4, 2), (47, .iload_n 2, 1), (48, .if_icmp .ne 5, 3), (51, .iload_n 3, 1), (52, .ireturn, 1), (53, .iinc 3 1, 3), (56, .goto (-54), 3), (59, .iload_n 2, 1), (60, .ireturn, 1)]
theorem b_M_periodOf_0 : (t_M_periodOf_0.all fun q => decide (decode q_M_periodOf.2.1 q.1 = .ok (q.2.1, q.2.2))) = true := by decide +kernel
theorem d_M_periodOf_0 : vm_D q_M_periodOf.2.1 0 1 1 (.iconst 1) := vm_dD b_M_periodOf_0 0 rfl rfl
theorem d_M_periodOf_1 : vm_D q_M_periodOf.2.1 1 1 2 (.istore_n 3) := vm_dD b_M_periodOf_0 1 rfl rfl
theorem d_M_periodOf_2 : vm_D q_M_periodOf.2.1 2 1 3 (.iload_n 3) := vm_dD b_M_periodOf_0 2 rfl rfl
theorem d_M_periodOf_3 : vm_D q_M_periodOf.2.1 3 1 4 (.iload_n 2) := vm_dD b_M_periodOf_0 3 rfl rfl
theorem d_M_periodOf_4 : vm_B q_M_periodOf.2.1 4 7 59 (fun o => .if_icmp .ge o) := ⟨55, vm_db b_M_periodOf_0 (i := 4) rfl, rfl, by decide⟩
theorem d_M_periodOf_7 : vm_D q_M_periodOf.2.1 7 1 8 (.iload_n 3) := vm_dD b_M_periodOf_0 5 rfl rfl
theorem d_M_periodOf_8 : vm_D q_M_periodOf.2.1 8 2 10 (.istore 4) := vm_dD b_M_periodOf_0 6 rfl rfl
theorem d_M_periodOf_10 : vm_D q_M_periodOf.2.1 10 2 12 (.iload 4) := vm_dD b_M_periodOf_0 7 rfl rfl
theorem d_M_periodOf_12 : vm_D q_M_periodOf.2.1 12 1 13 (.iload_n 2) := vm_dD b_M_periodOf_0 8 rfl rfl
theorem d_M_periodOf_13 : vm_B q_M_periodOf.2.1 13 16 45 (fun o => .if_icmp .ge o) := ⟨32, vm_db b_M_periodOf_0 (i := 9) rfl, rfl, by decide⟩
theorem d_M_periodOf_16 : vm_D q_M_periodOf.2.1 16 1 17 (.aload_n 0) := vm_dD b_M_periodOf_0 10 rfl rfl
theorem d_M_periodOf_17 : vm_D q_M_periodOf.2.1 17 3 20 (.getfield 83) := vm_dD b_M_periodOf_0 11 rfl rfl
theorem d_M_periodOf_20 : vm_D q_M_periodOf.2.1 20 1 21 (.iload_n 1) := vm_dD b_M_periodOf_0 12 rfl rfl
theorem d_M_periodOf_21 : vm_D q_M_periodOf.2.1 21 2 23 (.iload 4) := vm_dD b_M_periodOf_0 13 rfl rfl
theorem d_M_periodOf_23 : vm_D q_M_periodOf.2.1 23 1 24 (.iadd) := vm_dD b_M_periodOf_0 14 rfl rfl
theorem d_M_periodOf_24 : vm_D q_M_periodOf.2.1 24 1 25 (.iaload) := vm_dD b_M_periodOf_0 15 rfl rfl
theorem d_M_periodOf_25 : vm_D q_M_periodOf.2.1 25 1 26 (.aload_n 0) := vm_dD b_M_periodOf_0 16 rfl rfl
theorem d_M_periodOf_26 : vm_D q_M_periodOf.2.1 26 3 29 (.getfield 83) := vm_dD b_M_periodOf_0 17 rfl rfl
theorem d_M_periodOf_29 : vm_D q_M_periodOf.2.1 29 1 30 (.iload_n 1) := vm_dD b_M_periodOf_0 18 rfl rfl
theorem d_M_periodOf_30 : vm_D q_M_periodOf.2.1 30 2 32 (.iload 4) := vm_dD b_M_periodOf_0 19 rfl rfl
theorem d_M_periodOf_32 : vm_D q_M_periodOf.2.1 32 1 33 (.iadd) := vm_dD b_M_periodOf_0 20 rfl rfl
theorem d_M_periodOf_33 : vm_D q_M_periodOf.2.1 33 1 34 (.iload_n 3) := vm_dD b_M_periodOf_0 21 rfl rfl
theorem d_M_periodOf_34 : vm_D q_M_periodOf.2.1 34 1 35 (.isub) := vm_dD b_M_periodOf_0 22 rfl rfl
theorem d_M_periodOf_35 : vm_D q_M_periodOf.2.1 35 1 36 (.iaload) := vm_dD b_M_periodOf_0 23 rfl rfl
theorem d_M_periodOf_36 : vm_B q_M_periodOf.2.1 36 39 45 (fun o => .if_icmp .ne o) := ⟨9, vm_db b_M_periodOf_0 (i := 24) rfl, rfl, by decide⟩
theorem d_M_periodOf_39 : vm_D q_M_periodOf.2.1 39 3 42 (.iinc 4 1) := vm_dD b_M_periodOf_0 25 rfl rfl
theorem d_M_periodOf_42 : ∃ off : Int, decode q_M_periodOf.2.1 42 = .ok (.goto off, 3) ∧ ((42 : Nat) : Int) + off = ((10 : Nat) : Int) := ⟨-32, vm_db b_M_periodOf_0 (i := 26) rfl, by decide⟩
theorem d_M_periodOf_45 : vm_D q_M_periodOf.2.1 45 2 47 (.iload 4) := vm_dD b_M_periodOf_0 27 rfl rfl
theorem d_M_periodOf_47 : vm_D q_M_periodOf.2.1 47 1 48 (.iload_n 2) := vm_dD b_M_periodOf_0 28 rfl rfl
theorem d_M_periodOf_48 : vm_B q_M_periodOf.2.1 48 51 53 (fun o => .if_icmp .ne o) := ⟨5, vm_db b_M_periodOf_0 (i := 29) rfl, rfl, by decide⟩
theorem d_M_periodOf_53 : vm_D q_M_periodOf.2.1 53 3 56 (.iinc 3 1) := vm_dD b_M_periodOf_0 32 rfl rfl
theorem d_M_periodOf_56 : ∃ off : Int, decode q_M_periodOf.2.1 56 = .ok (.goto off, 3) ∧ ((56 : Nat) : Int) + off = ((2 : Nat) : Int) := ⟨-54, vm_db b_M_periodOf_0 (i := 33) rfl, by decide⟩
theorem d_M_periodOf_51 : vm_D q_M_periodOf.2.1 51 1 52 (.iload_n 3) := vm_dD b_M_periodOf_0 30 rfl rfl
theorem d_M_periodOf_52 : vm_D q_M_periodOf.2.1 52 1 53 (.ireturn) := vm_dD b_M_periodOf_0 31 rfl rfl
theorem d_M_periodOf_59 : vm_D q_M_periodOf.2.1 59 1 60 (.iload_n 2) := vm_dD b_M_periodOf_0 34 rfl rfl
theorem d_M_periodOf_60 : vm_D q_M_periodOf.2.1 60 1 61 (.ireturn) := vm_dD b_M_periodOf_0 35 rfl rfl
def q_M_greatest : vm_Y := ("RepeatFreeModel", cX11_greatest, 9, false, [])
def t_M_greatest_0 : List (Nat × Instr × Nat) := [(0, .aload_n 0, 1), (1, .iconst 0, 1), (2, .putfield 3, 3), (5, .aload_n 0, 1), (6, .iload_n 1, 1), (7, .iconst 0, 1), (8, .iconst 2, 1), (9, .invokestatic 65, 3), (12, .ifCond .ne 7, 3), (15, .iconst 1, 1), (16, .goto 4, 3), (19, .iconst 0, 1), (20, .iconst 1, 1), (21, .invokevirtual 180, 3), (24, .ifCond .ne 10, 3), (27, .aload_n 0, 1), (28, .getfield 184, 3), (31, .ifCond .ne 16, 3), (34, .aload_n 0, 1), (35, .getfield 3, 3), (38, .ifCond .le 7, 3), (41, .iconst 0, 1), (42, .goto 4, 3), (45, .iconst (-1), 1), (46, .ireturn, 1), (47, .iconst 1, 1), (48, .istore_n 2, 1), (49, .iconst 1, 1), (50, .istore_n 3, 1), (51, .iconst 0, 1), (52, .istore 4, 2), (54, .iconst 0, 1), (55, .istore 5, 2), (57, .iload 5, 2), (59, .aload_n 0, 1), (60, .getfield 184, 3), (63, .if_icmp .ge 87, 3), (66, .iconst 1, 1), (67, .istore 6, 2), (69, .iload 6, 2), (71, .aload_n 0, 1), (72, .getfield 184, 3), (75, .iload 5, 2), (77, .isub, 1), (78, .if_icmp .gt 66, 3), (81, .aload_n 0, 1), (82, .iload 5, 2), (84, .iload 6, 2), (86, .invokevirtual 245, 3), (89, .istore 7, 2), (91, .iload 6, 2), (93, .iload_n 3, 1), (94, .imul, 1), (95, .iload_n 2, 1), (96, .iload 7, 2), (98, .imul, 1), (99, .isub, 1), (100, .istore 8, 2), (102, .iload 8, 2), (104, .ifCond .lt 34, 3)]
theorem b_M_greatest_0 : (t_M_greatest_0.all fun q => decide (decode q_M_greatest.2.1 q.1 = .ok (q.2.1, q.2.2))) = true := by decide +kernel
def t_M_greatest_1 : List (Nat × Instr × Nat) := [(107, .iload 8, 2), (109, .ifCond .ne 19, 3), (112, .iload 5, 2), (114, .iload 4, 2), (116, .if_icmp .ne 22, 3), (119, .iload 6, 2), (121, .iload_n 2, 1), (122, .if_icmp .gt 6, 3), (125, .goto 13, 3), (128, .iload 6, 2), (130, .istore_n 2, 1), (131, .iload 7, 2), (133, .istore_n 3, 1), (134, .iload 5, 2), (136, .istore 4, 2), (138, .iinc 6 1, 3), (141, .goto (-72), 3), (144, .iinc 5 1, 3), (147, .goto (-90), 3), (150, .iload_n 1, 1), (151, .ifCond .ne 7, 3), (154, .iload_n 2, 1), (155, .goto 14, 3), (158, .iload_n 1, 1), (159, .iconst 1, 1), (160, .if_icmp .ne 7, 3), (163, .iload_n 3, 1), (164, .goto 5, 3), (167, .iload 4, 2), (169, .ireturn, 1)]
theorem b_M_greatest_1 : (t_M_greatest_1.all fun q => decide (decode q_M_greatest.2.1 q.1 = .ok (q.2.1, q.2.2))) = true := by decide +kernel
theorem d_M_greatest_0 : vm_D q_M_greatest.2.1 0 1 1 (.aload_n 0) := vm_dD b_M_greatest_0 0 rfl rfl
theorem d_M_greatest_1 : vm_D q_M_greatest.2.1 1 1 2 (.iconst 0) := vm_dD b_M_greatest_0 1 rfl rfl
theorem d_M_greatest_2 : vm_D q_M_greatest.2.1 2 3 5 (.putfield 3) := vm_dD b_M_greatest_0 2 rfl rfl
theorem d_M_greatest_5 : vm_D q_M_greatest.2.1 5 1 6 (.aload_n 0) := vm_dD b_M_greatest_0 3 rfl rfl
theorem d_M_greatest_6 : vm_D q_M_greatest.2.1 6 1 7 (.iload_n 1) := vm_dD b_M_greatest_0 4 rfl rfl
theorem d_M_greatest_7 : vm_D q_M_greatest.2.1 7 1 8 (.iconst 0) := vm_dD b_M_greatest_0 5 rfl rfl
theorem d_M_greatest_8 : vm_D q_M_greatest.2.1 8 1 9 (.iconst 2) := vm_dD b_M_greatest_0 6 rfl rfl
theorem d_M_greatest_9 : vm_D q_M_greatest.2.1 9 3 12 (.invokestatic 65) := vm_dD b_M_greatest_0 7 rfl rfl
theorem d_M_greatest_12 : vm_B q_M_greatest.2.1 12 15 19 (fun o => .ifCond .ne o) := ⟨7, vm_db b_M_greatest_0 (i := 8) rfl, rfl, by decide⟩
theorem d_M_greatest_20 : vm_D q_M_greatest.2.1 20 1 21 (.iconst 1) := vm_dD b_M_greatest_0 12 rfl rfl
theorem d_M_greatest_21 : vm_D q_M_greatest.2.1 21 3 24 (.invokevirtual 180) := vm_dD b_M_greatest_0 13 rfl rfl
theorem d_M_greatest_24 : vm_B q_M_greatest.2.1 24 27 34 (fun o => .ifCond .ne o) := ⟨10, vm_db b_M_greatest_0 (i := 14) rfl, rfl, by decide⟩
theorem d_M_greatest_34 : vm_D q_M_greatest.2.1 34 1 35 (.aload_n 0) := vm_dD b_M_greatest_0 18 rfl rfl
theorem d_M_greatest_35 : vm_D q_M_greatest.2.1 35 3 38 (.getfield 3) := vm_dD b_M_greatest_0 19 rfl rfl
theorem d_M_greatest_38 : vm_B q_M_greatest.2.1 38 41 45 (fun o => .ifCond .le o) := ⟨7, vm_db b_M_greatest_0 (i := 20) rfl, rfl, by decide⟩
theorem d_M_greatest_45 : vm_D q_M_greatest.2.1 45 1 46 (.iconst (-1)) := vm_dD b_M_greatest_0 23 rfl rfl
theorem d_M_greatest_46 : vm_D q_M_greatest.2.1 46 1 47 (.ireturn) := vm_dD b_M_greatest_0 24 rfl rfl
theorem d_M_greatest_41 : vm_D q_M_greatest.2.1 41 1 42 (.iconst 0) := vm_dD b_M_greatest_0 21 rfl rfl
theorem d_M_greatest_42 : ∃ off : Int, decode q_M_greatest.2.1 42 = .ok (.goto off, 3) ∧ ((42 : Nat) : Int) + off = ((46 : Nat) : Int) := ⟨4, vm_db b_M_greatest_0 (i := 22) rfl, by decide⟩
theorem d_M_greatest_27 : vm_D q_M_greatest.2.1 27 1 28 (.aload_n 0) := vm_dD b_M_greatest_0 15 rfl rfl
theorem d_M_greatest_28 : vm_D q_M_greatest.2.1 28 3 31 (.getfield 184) := vm_dD b_M_greatest_0 16 rfl rfl
theorem d_M_greatest_31 : vm_B q_M_greatest.2.1 31 34 47 (fun o => .ifCond .ne o) := ⟨16, vm_db b_M_greatest_0 (i := 17) rfl, rfl, by decide⟩
theorem d_M_greatest_47 : vm_D q_M_greatest.2.1 47 1 48 (.iconst 1) := vm_dD b_M_greatest_0 25 rfl rfl
theorem d_M_greatest_48 : vm_D q_M_greatest.2.1 48 1 49 (.istore_n 2) := vm_dD b_M_greatest_0 26 rfl rfl
theorem d_M_greatest_49 : vm_D q_M_greatest.2.1 49 1 50 (.iconst 1) := vm_dD b_M_greatest_0 27 rfl rfl
theorem d_M_greatest_50 : vm_D q_M_greatest.2.1 50 1 51 (.istore_n 3) := vm_dD b_M_greatest_0 28 rfl rfl
theorem d_M_greatest_51 : vm_D q_M_greatest.2.1 51 1 52 (.iconst 0) := vm_dD b_M_greatest_0 29 rfl rfl
theorem d_M_greatest_52 : vm_D q_M_greatest.2.1 52 2 54 (.istore 4) := vm_dD b_M_greatest_0 30 rfl rfl
theorem d_M_greatest_54 : vm_D q_M_greatest.2.1 54 1 55 (.iconst 0) := vm_dD b_M_greatest_0 31 rfl rfl
theorem d_M_greatest_55 : vm_D q_M_greatest.2.1 55 2 57 (.istore 5) := vm_dD b_M_greatest_0 32 rfl rfl
theorem d_M_greatest_57 : vm_D q_M_greatest.2.1 57 2 59 (.iload 5) := vm_dD b_M_greatest_0 33 rfl rfl
theorem d_M_greatest_59 : vm_D q_M_greatest.2.1 59 1 60 (.aload_n 0) := vm_dD b_M_greatest_0 34 rfl rfl
theorem d_M_greatest_60 : vm_D q_M_greatest.2.1 60 3 63 (.getfield 184) := vm_dD b_M_greatest_0 35 rfl rfl
theorem d_M_greatest_63 : vm_B q_M_greatest.2.1 63 66 150 (fun o => .if_icmp .ge o) := ⟨87, vm_db b_M_greatest_0 (i := 36) rfl, rfl, by decide⟩
theorem d_M_greatest_66 : vm_D q_M_greatest.2.1 66 1 67 (.iconst 1) := vm_dD b_M_greatest_0 37 rfl rfl
theorem d_M_greatest_67 : vm_D q_M_greatest.2.1 67 2 69 (.istore 6) := vm_dD b_M_greatest_0 38 rfl rfl
theorem d_M_greatest_69 : vm_D q_M_greatest.2.1 69 2 71 (.iload 6) := vm_dD b_M_greatest_0 39 rfl rfl
theorem d_M_greatest_71 : vm_D q_M_greatest.2.1 71 1 72 (.aload_n 0) := vm_dD b_M_greatest_0 40 rfl rfl
theorem d_M_greatest_72 : vm_D q_M_greatest.2.1 72 3 75 (.getfield 184) := vm_dD b_M_greatest_0 41 rfl rfl
theorem d_M_greatest_75 : vm_D q_M_greatest.2.1 75 2 77 (.iload 5) := vm_dD b_M_greatest_0 42 rfl rfl
theorem d_M_greatest_77 : vm_D q_M_greatest.2.1 77 1 78 (.isub) := vm_dD b_M_greatest_0 43 rfl rfl
theorem d_M_greatest_78 : vm_B q_M_greatest.2.1 78 81 144 (fun o => .if_icmp .gt o) := ⟨66, vm_db b_M_greatest_0 (i := 44) rfl, rfl, by decide⟩
theorem d_M_greatest_81 : vm_D q_M_greatest.2.1 81 1 82 (.aload_n 0) := vm_dD b_M_greatest_0 45 rfl rfl
theorem d_M_greatest_82 : vm_D q_M_greatest.2.1 82 2 84 (.iload 5) := vm_dD b_M_greatest_0 46 rfl rfl
theorem d_M_greatest_84 : vm_D q_M_greatest.2.1 84 2 86 (.iload 6) := vm_dD b_M_greatest_0 47 rfl rfl
theorem d_M_greatest_86 : vm_D q_M_greatest.2.1 86 3 89 (.invokevirtual 245) := vm_dD b_M_greatest_0 48 rfl rfl
theorem d_M_greatest_89 : vm_D q_M_greatest.2.1 89 2 91 (.istore 7) := vm_dD b_M_greatest_0 49 rfl rfl
theorem d_M_greatest_91 : vm_D q_M_greatest.2.1 91 2 93 (.iload 6) := vm_dD b_M_greatest_0 50 rfl rfl
theorem d_M_greatest_93 : vm_D q_M_greatest.2.1 93 1 94 (.iload_n 3) := vm_dD b_M_greatest_0 51 rfl rfl
theorem d_M_greatest_94 : vm_D q_M_greatest.2.1 94 1 95 (.imul) := vm_dD b_M_greatest_0 52 rfl rfl
theorem d_M_greatest_95 : vm_D q_M_greatest.2.1 95 1 96 (.iload_n 2) := vm_dD b_M_greatest_0 53 rfl rfl
theorem d_M_greatest_96 : vm_D q_M_greatest.2.1 96 2 98 (.iload 7) := vm_dD b_M_greatest_0 54 rfl rfl
theorem d_M_greatest_98 : vm_D q_M_greatest.2.1 98 1 99 (.imul) := vm_dD b_M_greatest_0 55 rfl rfl
theorem d_M_greatest_99 : vm_D q_M_greatest.2.1 99 1 100 (.isub) := vm_dD b_M_greatest_0 56 rfl rfl
theorem d_M_greatest_100 : vm_D q_M_greatest.2.1 100 2 102 (.istore 8) := vm_dD b_M_greatest_0 57 rfl rfl
theorem d_M_greatest_102 : vm_D q_M_greatest.2.1 102 2 104 (.iload 8) := vm_dD b_M_greatest_0 58 rfl rfl
theorem d_M_greatest_104 : vm_B q_M_greatest.2.1 104 107 138 (fun o => .ifCond .lt o) := ⟨34, vm_db b_M_greatest_0 (i := 59) rfl, rfl, by decide⟩
theorem d_M_greatest_138 : vm_D q_M_greatest.2.1 138 3 141 (.iinc 6 1) := vm_dD b_M_greatest_1 15 rfl rfl
theorem d_M_greatest_141 : ∃ off : Int, decode q_M_greatest.2.1 141 = .ok (.goto off, 3) ∧ ((141 : Nat) : Int) + off = ((69 : Nat) : Int) := ⟨-72, vm_db b_M_greatest_1 (i := 16) rfl, by decide⟩
theorem d_M_greatest_107 : vm_D q_M_greatest.2.1 107 2 109 (.iload 8) := vm_dD b_M_greatest_1 0 rfl rfl
theorem d_M_greatest_109 : vm_B q_M_greatest.2.1 109 112 128 (fun o => .ifCond .ne o) := ⟨19, vm_db b_M_greatest_1 (i := 1) rfl, rfl, by decide⟩
theorem d_M_greatest_128 : vm_D q_M_greatest.2.1 128 2 130 (.iload 6) := vm_dD b_M_greatest_1 9 rfl rfl
theorem d_M_greatest_130 : vm_D q_M_greatest.2.1 130 1 131 (.istore_n 2) := vm_dD b_M_greatest_1 10 rfl rfl
theorem d_M_greatest_131 : vm_D q_M_greatest.2.1 131 2 133 (.iload 7) := vm_dD b_M_greatest_1 11 rfl rfl
theorem d_M_greatest_133 : vm_D q_M_greatest.2.1 133 1 134 (.istore_n 3) := vm_dD b_M_greatest_1 12 rfl rfl
theorem d_M_greatest_134 : vm_D q_M_greatest.2.1 134 2 136 (.iload 5) := vm_dD b_M_greatest_1 13 rfl rfl
theorem d_M_greatest_136 : vm_D q_M_greatest.2.1 136 2 138 (.istore 4) := vm_dD b_M_greatest_1 14 rfl rfl
theorem d_M_greatest_112 : vm_D q_M_greatest.2.1 112 2 114 (.iload 5) := vm_dD b_M_greatest_1 2 rfl rfl
theorem d_M_greatest_114 : vm_D q_M_greatest.2.1 114 2 116 (.iload 4) := vm_dD b_M_greatest_1 3 rfl rfl
theorem d_M_greatest_116 : vm_B q_M_greatest.2.1 116 119 138 (fun o => .if_icmp .ne o) := ⟨22, vm_db b_M_greatest_1 (i := 4) rfl, rfl, by decide⟩
theorem d_M_greatest_119 : vm_D q_M_greatest.2.1 119 2 121 (.iload 6) := vm_dD b_M_greatest_1 5 rfl rfl
theorem d_M_greatest_121 : vm_D q_M_greatest.2.1 121 1 122 (.iload_n 2) := vm_dD b_M_greatest_1 6 rfl rfl
theorem d_M_greatest_122 : vm_B q_M_greatest.2.1 122 125 128 (fun o => .if_icmp .gt o) := ⟨6, vm_db b_M_greatest_1 (i := 7) rfl, rfl, by decide⟩
theorem d_M_greatest_125 : ∃ off : Int, decode q_M_greatest.2.1 125 = .ok (.goto off, 3) ∧ ((125 : Nat) : Int) + off = ((138 : Nat) : Int) := ⟨13, vm_db b_M_greatest_1 (i := 8) rfl, by decide⟩
theorem d_M_greatest_144 : vm_D q_M_greatest.2.1 144 3 147 (.iinc 5 1) := vm_dD b_M_greatest_1 17 rfl rfl
theorem d_M_greatest_147 : ∃ off : Int, decode q_M_greatest.2.1 147 = .ok (.goto off, 3) ∧ ((147 : Nat) : Int) + off = ((57 : Nat) : Int) := ⟨-90, vm_db b_M_greatest_1 (i := 18) rfl, by decide⟩
theorem d_M_greatest_150 : vm_D q_M_greatest.2.1 150 1 151 (.iload_n 1) := vm_dD b_M_greatest_1 19 rfl rfl
theorem d_M_greatest_151 : vm_B q_M_greatest.2.1 151 154 158 (fun o => .ifCond .ne o) := ⟨7, vm_db b_M_greatest_1 (i := 20) rfl, rfl, by decide⟩
theorem d_M_greatest_158 : vm_D q_M_greatest.2.1 158 1 159 (.iload_n 1) := vm_dD b_M_greatest_1 23 rfl rfl
theorem d_M_greatest_159 : vm_D q_M_greatest.2.1 159 1 160 (.iconst 1) := vm_dD b_M_greatest_1 24 rfl rfl
theorem d_M_greatest_160 : vm_B q_M_greatest.2.1 160 163 167 (fun o => .if_icmp .ne o) := ⟨7, vm_db b_M_greatest_1 (i := 25) rfl, rfl, by decide⟩
theorem d_M_greatest_167 : vm_D q_M_greatest.2.1 167 2 169 (.iload 4) := vm_dD b_M_greatest_1 28 rfl rfl
theorem d_M_greatest_169 : vm_D q_M_greatest.2.1 169 1 170 (.ireturn) := vm_dD b_M_greatest_1 29 rfl rfl
theorem d_M_greatest_163 : vm_D q_M_greatest.2.1 163 1 164 (.iload_n 3) := vm_dD b_M_greatest_1 26 rfl rfl
theorem d_M_greatest_164 : ∃ off : Int, decode q_M_greatest.2.1 164 = .ok (.goto off, 3) ∧ ((164 : Nat) : Int) + off = ((169 : Nat) : Int) := ⟨5, vm_db b_M_greatest_1 (i := 27) rfl, by decide⟩
theorem d_M_greatest_154 : vm_D q_M_greatest.2.1 154 1 155 (.iload_n 2) := vm_dD b_M_greatest_1 21 rfl rfl
theorem d_M_greatest_155 : ∃ off : Int, decode q_M_greatest.2.1 155 = .ok (.goto off, 3) ∧ ((155 : Nat) : Int) + off = ((169 : Nat) : Int) := ⟨14, vm_db b_M_greatest_1 (i := 22) rfl, by decide⟩
theorem d_M_greatest_19 : vm_D q_M_greatest.2.1 19 1 20 (.iconst 0) := vm_dD b_M_greatest_0 11 rfl rfl
theorem d_M_greatest_15 : vm_D q_M_greatest.2.1 15 1 16 (.iconst 1) := vm_dD b_M_greatest_0 9 rfl rfl
theorem d_M_greatest_16 : ∃ off : Int, decode q_M_greatest.2.1 16 = .ok (.goto off, 3) ∧ ((16 : Nat) : Int) + off = ((20 : Nat) : Int) := ⟨4, vm_db b_M_greatest_0 (i := 10) rfl, by decide⟩
def q_M_period : vm_Y := ("RepeatFreeModel", cX11_period, 1, false, [])
def t_M_period_0 : List (Nat × Instr × Nat) := [(0, .aload_n 0, 1), (1, .iconst 0, 1), (2, .putfield 3, 3), (5, .aload_n 0, 1), (6, .getfield 184, 3), (9, .ifCond .ne 7, 3), (12, .iconst (-1), 1), (13, .goto 12, 3), (16, .aload_n 0, 1), (17, .iconst 0, 1), (18, .aload_n 0, 1), (19, .getfield 184, 3), (22, .invokevirtual 245, 3), (25, .ireturn, 1)]
theorem b_M_period_0 : (t_M_period_0.all fun q => decide (decode q_M_period.2.1 q.1 = .ok (q.2.1, q.2.2))) = true := by decide +kernel
theorem d_M_period_0 : vm_D q_M_period.2.1 0 1 1 (.aload_n 0) := vm_dD b_M_period_0 0 rfl rfl
theorem d_M_period_1 : vm_D q_M_period.2.1 1 1 2 (.iconst 0) := vm_dD b_M_period_0 1 rfl rfl
theorem d_M_period_2 : vm_D q_M_period.2.1 2 3 5 (.putfield 3) := vm_dD b_M_period_0 2 rfl rfl
theorem d_M_period_5 : vm_D q_M_period.2.1 5 1 6 (.aload_n 0) := vm_dD b_M_period_0 3 rfl rfl
theorem d_M_period_6 : vm_D q_M_period.2.1 6 3 9 (.getfield 184) := vm_dD b_M_period_0 4 rfl rfl
theorem d_M_period_9 : vm_B q_M_period.2.1 9 12 16 (fun o => .ifCond .ne o) := ⟨7, vm_db b_M_period_0 (i := 5) rfl, rfl, by decide⟩
theorem d_M_period_16 : vm_D q_M_period.2.1 16 1 17 (.aload_n 0) := vm_dD b_M_period_0 8 rfl rfl
theorem d_M_period_17 : vm_D q_M_period.2.1 17 1 18 (.iconst 0) := vm_dD b_M_period_0 9 rfl rfl
theorem d_M_period_18 : vm_D q_M_period.2.1 18 1 19 (.aload_n 0) := vm_dD b_M_period_0 10 rfl rfl
theorem d_M_period_19 : vm_D q_M_period.2.1 19 3 22 (.getfield 184) := vm_dD b_M_period_0 11 rfl rfl
theorem d_M_period_22 : vm_D q_M_period.2.1 22 3 25 (.invokevirtual 245) := vm_dD b_M_period_0 12 rfl rfl
theorem d_M_period_25 : vm_D q_M_period.2.1 25 1 26 (.ireturn) := vm_dD b_M_period_0 13 rfl rfl
theorem d_M_period_12 : vm_D q_M_period.2.1 12 1 13 (.iconst (-1)) := vm_dD b_M_period_0 6 rfl rfl
theorem d_M_period_13 : ∃ off : Int, decode q_M_period.2.1 13 = .ok (.goto off, 3) ∧ ((13 : Nat) : Int) + off = ((25 : Nat) : Int) := ⟨12, vm_db b_M_period_0 (i := 7) rfl, by decide⟩
def q_M_border : vm_Y := ("RepeatFreeModel", cX11_border, 6, false, [])
def t_M_border_0 : List (Nat × Instr × Nat) := [(0, .aload_n 0, 1), (1, .iconst 0, 1), (2, .putfield 3, 3), (5, .iload_n 1, 1), (6, .istore_n 2, 1), (7, .aload_n 0, 1), (8, .getfield 184, 3), (11, .iconst 1, 1), (12, .isub, 1), (13, .istore_n 3, 1), (14, .iload_n 3, 1), (15, .ifCond .le 84, 3), (18, .iload_n 1, 1), (19, .ifCond .lt 80, 3), (22, .iconst 1, 1), (23, .istore 4, 2), (25, .iconst 0, 1), (26, .istore 5, 2), (28, .iload 5, 2), (30, .iload_n 3, 1), (31, .if_icmp .ge 45, 3), (34, .iload 4, 2), (36, .ifCond .eq 40, 3), (39, .aload_n 0, 1), (40, .getfield 83, 3), (43, .iload 5, 2), (45, .iaload, 1), (46, .aload_n 0, 1), (47, .getfield 83, 3), (50, .aload_n 0, 1), (51, .getfield 184, 3), (54, .iload_n 3, 1), (55, .isub, 1), (56, .iload 5, 2), (58, .iadd, 1), (59, .iaload, 1), (60, .if_icmp .ne 7, 3), (63, .iconst 1, 1), (64, .goto 4, 3), (67, .iconst 0, 1), (68, .istore 4, 2), (70, .iinc 5 1, 3), (73, .goto (-45), 3), (76, .iload 4, 2), (78, .ifCond .ne 6, 3), (81, .goto 12, 3), (84, .iload_n 2, 1), (85, .ifCond .ne 5, 3), (88, .iload_n 3, 1), (89, .ireturn, 1), (90, .iinc 2 (-1), 3), (93, .iinc 3 (-1), 3), (96, .goto (-82), 3), (99, .iconst (-1), 1), (100, .ireturn, 1)]
theorem b_M_border_0 : (t_M_border_0.all fun q => decide (decode q_M_border.2.1 q.1 = .ok (q.2.1, q.2.2))) = true := by decide +kernel
theorem d_M_border_0 : vm_D q_M_border.2.1 0 1 1 (.aload_n 0) := vm_dD b_M_border_0 0 rfl rfl
theorem d_M_border_1 : vm_D q_M_border.2.1 1 1 2 (.iconst 0) := vm_dD b_M_border_0 1 rfl rfl
theorem d_M_border_2 : vm_D q_M_border.2.1 2 3 5 (.putfield 3) := vm_dD b_M_border_0 2 rfl rfl
theorem d_M_border_5 : vm_D q_M_border.2.1 5 1 6 (.iload_n 1) := vm_dD b_M_border_0 3 rfl rfl
theorem d_M_border_6 : vm_D q_M_border.2.1 6 1 7 (.istore_n 2) := vm_dD b_M_border_0 4 rfl rfl
theorem d_M_border_7 : vm_D q_M_border.2.1 7 1 8 (.aload_n 0) := vm_dD b_M_border_0 5 rfl rfl
theorem d_M_border_8 : vm_D q_M_border.2.1 8 3 11 (.getfield 184) := vm_dD b_M_border_0 6 rfl rfl
theorem d_M_border_11 : vm_D q_M_border.2.1 11 1 12 (.iconst 1) := vm_dD b_M_border_0 7 rfl rfl
theorem d_M_border_12 : vm_D q_M_border.2.1 12 1 13 (.isub) := vm_dD b_M_border_0 8 rfl rfl
theorem d_M_border_13 : vm_D q_M_border.2.1 13 1 14 (.istore_n 3) := vm_dD b_M_border_0 9 rfl rfl
theorem d_M_border_14 : vm_D q_M_border.2.1 14 1 15 (.iload_n 3) := vm_dD b_M_border_0 10 rfl rfl
theorem d_M_border_15 : vm_B q_M_border.2.1 15 18 99 (fun o => .ifCond .le o) := ⟨84, vm_db b_M_border_0 (i := 11) rfl, rfl, by decide⟩
theorem d_M_border_18 : vm_D q_M_border.2.1 18 1 19 (.iload_n 1) := vm_dD b_M_border_0 12 rfl rfl
theorem d_M_border_19 : vm_B q_M_border.2.1 19 22 99 (fun o => .ifCond .lt o) := ⟨80, vm_db b_M_border_0 (i := 13) rfl, rfl, by decide⟩
theorem d_M_border_22 : vm_D q_M_border.2.1 22 1 23 (.iconst 1) := vm_dD b_M_border_0 14 rfl rfl
theorem d_M_border_23 : vm_D q_M_border.2.1 23 2 25 (.istore 4) := vm_dD b_M_border_0 15 rfl rfl
theorem d_M_border_25 : vm_D q_M_border.2.1 25 1 26 (.iconst 0) := vm_dD b_M_border_0 16 rfl rfl
theorem d_M_border_26 : vm_D q_M_border.2.1 26 2 28 (.istore 5) := vm_dD b_M_border_0 17 rfl rfl
theorem d_M_border_28 : vm_D q_M_border.2.1 28 2 30 (.iload 5) := vm_dD b_M_border_0 18 rfl rfl
theorem d_M_border_30 : vm_D q_M_border.2.1 30 1 31 (.iload_n 3) := vm_dD b_M_border_0 19 rfl rfl
theorem d_M_border_31 : vm_B q_M_border.2.1 31 34 76 (fun o => .if_icmp .ge o) := ⟨45, vm_db b_M_border_0 (i := 20) rfl, rfl, by decide⟩
theorem d_M_border_34 : vm_D q_M_border.2.1 34 2 36 (.iload 4) := vm_dD b_M_border_0 21 rfl rfl
theorem d_M_border_36 : vm_B q_M_border.2.1 36 39 76 (fun o => .ifCond .eq o) := ⟨40, vm_db b_M_border_0 (i := 22) rfl, rfl, by decide⟩
theorem d_M_border_39 : vm_D q_M_border.2.1 39 1 40 (.aload_n 0) := vm_dD b_M_border_0 23 rfl rfl
theorem d_M_border_40 : vm_D q_M_border.2.1 40 3 43 (.getfield 83) := vm_dD b_M_border_0 24 rfl rfl
theorem d_M_border_43 : vm_D q_M_border.2.1 43 2 45 (.iload 5) := vm_dD b_M_border_0 25 rfl rfl
theorem d_M_border_45 : vm_D q_M_border.2.1 45 1 46 (.iaload) := vm_dD b_M_border_0 26 rfl rfl
theorem d_M_border_46 : vm_D q_M_border.2.1 46 1 47 (.aload_n 0) := vm_dD b_M_border_0 27 rfl rfl
theorem d_M_border_47 : vm_D q_M_border.2.1 47 3 50 (.getfield 83) := vm_dD b_M_border_0 28 rfl rfl
theorem d_M_border_50 : vm_D q_M_border.2.1 50 1 51 (.aload_n 0) := vm_dD b_M_border_0 29 rfl rfl
theorem d_M_border_51 : vm_D q_M_border.2.1 51 3 54 (.getfield 184) := vm_dD b_M_border_0 30 rfl rfl
theorem d_M_border_54 : vm_D q_M_border.2.1 54 1 55 (.iload_n 3) := vm_dD b_M_border_0 31 rfl rfl
theorem d_M_border_55 : vm_D q_M_border.2.1 55 1 56 (.isub) := vm_dD b_M_border_0 32 rfl rfl
theorem d_M_border_56 : vm_D q_M_border.2.1 56 2 58 (.iload 5) := vm_dD b_M_border_0 33 rfl rfl
theorem d_M_border_58 : vm_D q_M_border.2.1 58 1 59 (.iadd) := vm_dD b_M_border_0 34 rfl rfl
theorem d_M_border_59 : vm_D q_M_border.2.1 59 1 60 (.iaload) := vm_dD b_M_border_0 35 rfl rfl
theorem d_M_border_60 : vm_B q_M_border.2.1 60 63 67 (fun o => .if_icmp .ne o) := ⟨7, vm_db b_M_border_0 (i := 36) rfl, rfl, by decide⟩
theorem d_M_border_68 : vm_D q_M_border.2.1 68 2 70 (.istore 4) := vm_dD b_M_border_0 40 rfl rfl
theorem d_M_border_70 : vm_D q_M_border.2.1 70 3 73 (.iinc 5 1) := vm_dD b_M_border_0 41 rfl rfl
theorem d_M_border_73 : ∃ off : Int, decode q_M_border.2.1 73 = .ok (.goto off, 3) ∧ ((73 : Nat) : Int) + off = ((28 : Nat) : Int) := ⟨-45, vm_db b_M_border_0 (i := 42) rfl, by decide⟩
theorem d_M_border_67 : vm_D q_M_border.2.1 67 1 68 (.iconst 0) := vm_dD b_M_border_0 39 rfl rfl
theorem d_M_border_63 : vm_D q_M_border.2.1 63 1 64 (.iconst 1) := vm_dD b_M_border_0 37 rfl rfl
theorem d_M_border_64 : ∃ off : Int, decode q_M_border.2.1 64 = .ok (.goto off, 3) ∧ ((64 : Nat) : Int) + off = ((68 : Nat) : Int) := ⟨4, vm_db b_M_border_0 (i := 38) rfl, by decide⟩
theorem d_M_border_76 : vm_D q_M_border.2.1 76 2 78 (.iload 4) := vm_dD b_M_border_0 43 rfl rfl
theorem d_M_border_78 : vm_B q_M_border.2.1 78 81 84 (fun o => .ifCond .ne o) := ⟨6, vm_db b_M_border_0 (i := 44) rfl, rfl, by decide⟩
theorem d_M_border_93 : vm_D q_M_border.2.1 93 3 96 (.iinc 3 (-1)) := vm_dD b_M_border_0 51 rfl rfl
theorem d_M_border_96 : ∃ off : Int, decode q_M_border.2.1 96 = .ok (.goto off, 3) ∧ ((96 : Nat) : Int) + off = ((14 : Nat) : Int) := ⟨-82, vm_db b_M_border_0 (i := 52) rfl, by decide⟩
theorem d_M_border_84 : vm_D q_M_border.2.1 84 1 85 (.iload_n 2) := vm_dD b_M_border_0 46 rfl rfl
theorem d_M_border_85 : vm_B q_M_border.2.1 85 88 90 (fun o => .ifCond .ne o) := ⟨5, vm_db b_M_border_0 (i := 47) rfl, rfl, by decide⟩
theorem d_M_border_90 : vm_D q_M_border.2.1 90 3 93 (.iinc 2 (-1)) := vm_dD b_M_border_0 50 rfl rfl
theorem d_M_border_88 : vm_D q_M_border.2.1 88 1 89 (.iload_n 3) := vm_dD b_M_border_0 48 rfl rfl
theorem d_M_border_89 : vm_D q_M_border.2.1 89 1 90 (.ireturn) := vm_dD b_M_border_0 49 rfl rfl
theorem d_M_border_81 : ∃ off : Int, decode q_M_border.2.1 81 = .ok (.goto off, 3) ∧ ((81 : Nat) : Int) + off = ((93 : Nat) : Int) := ⟨12, vm_db b_M_border_0 (i := 45) rfl, by decide⟩
theorem d_M_border_99 : vm_D q_M_border.2.1 99 1 100 (.iconst (-1)) := vm_dD b_M_border_0 53 rfl rfl
theorem d_M_border_100 : vm_D q_M_border.2.1 100 1 101 (.ireturn) := vm_dD b_M_border_0 54 rfl rfl
def q_M_runAt : vm_Y := ("RepeatFreeModel", cX11_runAt, 4, false, [])
def t_M_runAt_0 : List (Nat × Instr × Nat) := [(0, .iload_n 1, 1), (1, .ifCond .le 38, 3), (4, .iload_n 1, 1), (5, .iload_n 2, 1), (6, .iadd, 1), (7, .iconst 1, 1), (8, .isub, 1), (9, .aload_n 0, 1), (10, .getfield 184, 3), (13, .if_icmp .ge 26, 3), (16, .aload_n 0, 1), (17, .getfield 83, 3), (20, .iload_n 1, 1), (21, .iconst 1, 1), (22, .isub, 1), (23, .iaload, 1), (24, .aload_n 0, 1), (25, .getfield 83, 3), (28, .iload_n 1, 1), (29, .iload_n 2, 1), (30, .iadd, 1), (31, .iconst 1, 1), (32, .isub, 1), (33, .iaload, 1), (34, .if_icmp .ne 5, 3), (37, .iconst 0, 1), (38, .ireturn, 1), (39, .iload_n 2, 1), (40, .istore_n 3, 1), (41, .iload_n 1, 1), (42, .iload_n 3, 1), (43, .iadd, 1), (44, .aload_n 0, 1), (45, .getfield 184, 3), (48, .if_icmp .ge 30, 3), (51, .aload_n 0, 1), (52, .getfield 83, 3), (55, .iload_n 1, 1), (56, .iload_n 3, 1), (57, .iadd, 1), (58, .iaload, 1), (59, .aload_n 0, 1), (60, .getfield 83, 3), (63, .iload_n 1, 1), (64, .iload_n 3, 1), (65, .iadd, 1), (66, .iload_n 2, 1), (67, .isub, 1), (68, .iaload, 1), (69, .if_icmp .ne 9, 3), (72, .iinc 3 1, 3), (75, .goto (-34), 3), (78, .iload_n 3, 1), (79, .iconst 2, 1), (80, .iload_n 2, 1), (81, .imul, 1), (82, .if_icmp .lt 17, 3), (85, .aload_n 0, 1), (86, .iload_n 1, 1), (87, .iload_n 3, 1)]
theorem b_M_runAt_0 : (t_M_runAt_0.all fun q => decide (decode q_M_runAt.2.1 q.1 = .ok (q.2.1, q.2.2))) = true := by decide +kernel
def t_M_runAt_1 : List (Nat × Instr × Nat) := [(88, .invokevirtual 245, 3), (91, .iload_n 2, 1), (92, .if_icmp .ne 7, 3), (95, .iload_n 3, 1), (96, .goto 4, 3), (99, .iconst 0, 1), (100, .ireturn, 1)]
theorem b_M_runAt_1 : (t_M_runAt_1.all fun q => decide (decode q_M_runAt.2.1 q.1 = .ok (q.2.1, q.2.2))) = true := by decide +kernel
theorem d_M_runAt_0 : vm_D q_M_runAt.2.1 0 1 1 (.iload_n 1) := vm_dD b_M_runAt_0 0 rfl rfl
theorem d_M_runAt_1 : vm_B q_M_runAt.2.1 1 4 39 (fun o => .ifCond .le o) := ⟨38, vm_db b_M_runAt_0 (i := 1) rfl, rfl, by decide⟩
theorem d_M_runAt_39 : vm_D q_M_runAt.2.1 39 1 40 (.iload_n 2) := vm_dD b_M_runAt_0 27 rfl rfl
theorem d_M_runAt_40 : vm_D q_M_runAt.2.1 40 1 41 (.istore_n 3) := vm_dD b_M_runAt_0 28 rfl rfl
theorem d_M_runAt_41 : vm_D q_M_runAt.2.1 41 1 42 (.iload_n 1) := vm_dD b_M_runAt_0 29 rfl rfl
theorem d_M_runAt_42 : vm_D q_M_runAt.2.1 42 1 43 (.iload_n 3) := vm_dD b_M_runAt_0 30 rfl rfl
theorem d_M_runAt_43 : vm_D q_M_runAt.2.1 43 1 44 (.iadd) := vm_dD b_M_runAt_0 31 rfl rfl
theorem d_M_runAt_44 : vm_D q_M_runAt.2.1 44 1 45 (.aload_n 0) := vm_dD b_M_runAt_0 32 rfl rfl
theorem d_M_runAt_45 : vm_D q_M_runAt.2.1 45 3 48 (.getfield 184) := vm_dD b_M_runAt_0 33 rfl rfl
theorem d_M_runAt_48 : vm_B q_M_runAt.2.1 48 51 78 (fun o => .if_icmp .ge o) := ⟨30, vm_db b_M_runAt_0 (i := 34) rfl, rfl, by decide⟩
theorem d_M_runAt_51 : vm_D q_M_runAt.2.1 51 1 52 (.aload_n 0) := vm_dD b_M_runAt_0 35 rfl rfl
theorem d_M_runAt_52 : vm_D q_M_runAt.2.1 52 3 55 (.getfield 83) := vm_dD b_M_runAt_0 36 rfl rfl
theorem d_M_runAt_55 : vm_D q_M_runAt.2.1 55 1 56 (.iload_n 1) := vm_dD b_M_runAt_0 37 rfl rfl
theorem d_M_runAt_56 : vm_D q_M_runAt.2.1 56 1 57 (.iload_n 3) := vm_dD b_M_runAt_0 38 rfl rfl
theorem d_M_runAt_57 : vm_D q_M_runAt.2.1 57 1 58 (.iadd) := vm_dD b_M_runAt_0 39 rfl rfl
theorem d_M_runAt_58 : vm_D q_M_runAt.2.1 58 1 59 (.iaload) := vm_dD b_M_runAt_0 40 rfl rfl
theorem d_M_runAt_59 : vm_D q_M_runAt.2.1 59 1 60 (.aload_n 0) := vm_dD b_M_runAt_0 41 rfl rfl
theorem d_M_runAt_60 : vm_D q_M_runAt.2.1 60 3 63 (.getfield 83) := vm_dD b_M_runAt_0 42 rfl rfl
theorem d_M_runAt_63 : vm_D q_M_runAt.2.1 63 1 64 (.iload_n 1) := vm_dD b_M_runAt_0 43 rfl rfl
theorem d_M_runAt_64 : vm_D q_M_runAt.2.1 64 1 65 (.iload_n 3) := vm_dD b_M_runAt_0 44 rfl rfl
theorem d_M_runAt_65 : vm_D q_M_runAt.2.1 65 1 66 (.iadd) := vm_dD b_M_runAt_0 45 rfl rfl
theorem d_M_runAt_66 : vm_D q_M_runAt.2.1 66 1 67 (.iload_n 2) := vm_dD b_M_runAt_0 46 rfl rfl
theorem d_M_runAt_67 : vm_D q_M_runAt.2.1 67 1 68 (.isub) := vm_dD b_M_runAt_0 47 rfl rfl
theorem d_M_runAt_68 : vm_D q_M_runAt.2.1 68 1 69 (.iaload) := vm_dD b_M_runAt_0 48 rfl rfl
theorem d_M_runAt_69 : vm_B q_M_runAt.2.1 69 72 78 (fun o => .if_icmp .ne o) := ⟨9, vm_db b_M_runAt_0 (i := 49) rfl, rfl, by decide⟩
theorem d_M_runAt_72 : vm_D q_M_runAt.2.1 72 3 75 (.iinc 3 1) := vm_dD b_M_runAt_0 50 rfl rfl
theorem d_M_runAt_75 : ∃ off : Int, decode q_M_runAt.2.1 75 = .ok (.goto off, 3) ∧ ((75 : Nat) : Int) + off = ((41 : Nat) : Int) := ⟨-34, vm_db b_M_runAt_0 (i := 51) rfl, by decide⟩
theorem d_M_runAt_78 : vm_D q_M_runAt.2.1 78 1 79 (.iload_n 3) := vm_dD b_M_runAt_0 52 rfl rfl
theorem d_M_runAt_79 : vm_D q_M_runAt.2.1 79 1 80 (.iconst 2) := vm_dD b_M_runAt_0 53 rfl rfl
theorem d_M_runAt_80 : vm_D q_M_runAt.2.1 80 1 81 (.iload_n 2) := vm_dD b_M_runAt_0 54 rfl rfl
theorem d_M_runAt_81 : vm_D q_M_runAt.2.1 81 1 82 (.imul) := vm_dD b_M_runAt_0 55 rfl rfl
theorem d_M_runAt_82 : vm_B q_M_runAt.2.1 82 85 99 (fun o => .if_icmp .lt o) := ⟨17, vm_db b_M_runAt_0 (i := 56) rfl, rfl, by decide⟩
theorem d_M_runAt_99 : vm_D q_M_runAt.2.1 99 1 100 (.iconst 0) := vm_dD b_M_runAt_1 5 rfl rfl
theorem d_M_runAt_100 : vm_D q_M_runAt.2.1 100 1 101 (.ireturn) := vm_dD b_M_runAt_1 6 rfl rfl
theorem d_M_runAt_85 : vm_D q_M_runAt.2.1 85 1 86 (.aload_n 0) := vm_dD b_M_runAt_0 57 rfl rfl
theorem d_M_runAt_86 : vm_D q_M_runAt.2.1 86 1 87 (.iload_n 1) := vm_dD b_M_runAt_0 58 rfl rfl
theorem d_M_runAt_87 : vm_D q_M_runAt.2.1 87 1 88 (.iload_n 3) := vm_dD b_M_runAt_0 59 rfl rfl
theorem d_M_runAt_88 : vm_D q_M_runAt.2.1 88 3 91 (.invokevirtual 245) := vm_dD b_M_runAt_1 0 rfl rfl
theorem d_M_runAt_91 : vm_D q_M_runAt.2.1 91 1 92 (.iload_n 2) := vm_dD b_M_runAt_1 1 rfl rfl
theorem d_M_runAt_92 : vm_B q_M_runAt.2.1 92 95 99 (fun o => .if_icmp .ne o) := ⟨7, vm_db b_M_runAt_1 (i := 2) rfl, rfl, by decide⟩
theorem d_M_runAt_95 : vm_D q_M_runAt.2.1 95 1 96 (.iload_n 3) := vm_dD b_M_runAt_1 3 rfl rfl
theorem d_M_runAt_96 : ∃ off : Int, decode q_M_runAt.2.1 96 = .ok (.goto off, 3) ∧ ((96 : Nat) : Int) + off = ((100 : Nat) : Int) := ⟨4, vm_db b_M_runAt_1 (i := 4) rfl, by decide⟩
theorem d_M_runAt_4 : vm_D q_M_runAt.2.1 4 1 5 (.iload_n 1) := vm_dD b_M_runAt_0 2 rfl rfl
theorem d_M_runAt_5 : vm_D q_M_runAt.2.1 5 1 6 (.iload_n 2) := vm_dD b_M_runAt_0 3 rfl rfl
theorem d_M_runAt_6 : vm_D q_M_runAt.2.1 6 1 7 (.iadd) := vm_dD b_M_runAt_0 4 rfl rfl
theorem d_M_runAt_7 : vm_D q_M_runAt.2.1 7 1 8 (.iconst 1) := vm_dD b_M_runAt_0 5 rfl rfl
theorem d_M_runAt_8 : vm_D q_M_runAt.2.1 8 1 9 (.isub) := vm_dD b_M_runAt_0 6 rfl rfl
theorem d_M_runAt_9 : vm_D q_M_runAt.2.1 9 1 10 (.aload_n 0) := vm_dD b_M_runAt_0 7 rfl rfl
theorem d_M_runAt_10 : vm_D q_M_runAt.2.1 10 3 13 (.getfield 184) := vm_dD b_M_runAt_0 8 rfl rfl
theorem d_M_runAt_13 : vm_B q_M_runAt.2.1 13 16 39 (fun o => .if_icmp .ge o) := ⟨26, vm_db b_M_runAt_0 (i := 9) rfl, rfl, by decide⟩
theorem d_M_runAt_16 : vm_D q_M_runAt.2.1 16 1 17 (.aload_n 0) := vm_dD b_M_runAt_0 10 rfl rfl
theorem d_M_runAt_17 : vm_D q_M_runAt.2.1 17 3 20 (.getfield 83) := vm_dD b_M_runAt_0 11 rfl rfl
theorem d_M_runAt_20 : vm_D q_M_runAt.2.1 20 1 21 (.iload_n 1) := vm_dD b_M_runAt_0 12 rfl rfl
theorem d_M_runAt_21 : vm_D q_M_runAt.2.1 21 1 22 (.iconst 1) := vm_dD b_M_runAt_0 13 rfl rfl
theorem d_M_runAt_22 : vm_D q_M_runAt.2.1 22 1 23 (.isub) := vm_dD b_M_runAt_0 14 rfl rfl
theorem d_M_runAt_23 : vm_D q_M_runAt.2.1 23 1 24 (.iaload) := vm_dD b_M_runAt_0 15 rfl rfl
theorem d_M_runAt_24 : vm_D q_M_runAt.2.1 24 1 25 (.aload_n 0) := vm_dD b_M_runAt_0 16 rfl rfl
theorem d_M_runAt_25 : vm_D q_M_runAt.2.1 25 3 28 (.getfield 83) := vm_dD b_M_runAt_0 17 rfl rfl
theorem d_M_runAt_28 : vm_D q_M_runAt.2.1 28 1 29 (.iload_n 1) := vm_dD b_M_runAt_0 18 rfl rfl
theorem d_M_runAt_29 : vm_D q_M_runAt.2.1 29 1 30 (.iload_n 2) := vm_dD b_M_runAt_0 19 rfl rfl
theorem d_M_runAt_30 : vm_D q_M_runAt.2.1 30 1 31 (.iadd) := vm_dD b_M_runAt_0 20 rfl rfl
theorem d_M_runAt_31 : vm_D q_M_runAt.2.1 31 1 32 (.iconst 1) := vm_dD b_M_runAt_0 21 rfl rfl
theorem d_M_runAt_32 : vm_D q_M_runAt.2.1 32 1 33 (.isub) := vm_dD b_M_runAt_0 22 rfl rfl
theorem d_M_runAt_33 : vm_D q_M_runAt.2.1 33 1 34 (.iaload) := vm_dD b_M_runAt_0 23 rfl rfl
theorem d_M_runAt_34 : vm_B q_M_runAt.2.1 34 37 39 (fun o => .if_icmp .ne o) := ⟨5, vm_db b_M_runAt_0 (i := 24) rfl, rfl, by decide⟩
theorem d_M_runAt_37 : vm_D q_M_runAt.2.1 37 1 38 (.iconst 0) := vm_dD b_M_runAt_0 25 rfl rfl
theorem d_M_runAt_38 : vm_D q_M_runAt.2.1 38 1 39 (.ireturn) := vm_dD b_M_runAt_0 26 rfl rfl
def q_M_run : vm_Y := ("RepeatFreeModel", cX11_run, 7, false, [])
def t_M_run_0 : List (Nat × Instr × Nat) := [(0, .aload_n 0, 1), (1, .iconst 0, 1), (2, .putfield 3, 3), (5, .aload_n 0, 1), (6, .iload_n 2, 1), (7, .iconst 0, 1), (8, .iconst 2, 1), (9, .invokestatic 65, 3), (12, .ifCond .ne 7, 3), (15, .iconst 1, 1), (16, .goto 4, 3), (19, .iconst 0, 1), (20, .iconst 1, 1), (21, .invokevirtual 180, 3), (24, .ifCond .eq 5, 3), (27, .iconst 0, 1), (28, .ireturn, 1), (29, .iconst 0, 1), (30, .istore_n 3, 1), (31, .iconst 0, 1), (32, .istore 4, 2), (34, .iload 4, 2), (36, .aload_n 0, 1), (37, .getfield 184, 3), (40, .if_icmp .ge 80, 3), (43, .iconst 1, 1), (44, .istore 5, 2), (46, .iconst 2, 1), (47, .iload 5, 2), (49, .imul, 1), (50, .aload_n 0, 1), (51, .getfield 184, 3), (54, .iload 4, 2), (56, .isub, 1), (57, .if_icmp .gt 57, 3), (60, .aload_n 0, 1), (61, .iload 4, 2), (63, .iload 5, 2), (65, .invokevirtual 248, 3), (68, .istore 6, 2), (70, .iload 6, 2), (72, .ifCond .ne 6, 3), (75, .goto 33, 3), (78, .iload_n 3, 1), (79, .iload_n 1, 1), (80, .if_icmp .ne 25, 3), (83, .iload_n 2, 1), (84, .ifCond .ne 8, 3), (87, .iload 4, 2), (89, .goto 15, 3), (92, .iload_n 2, 1), (93, .iconst 1, 1), (94, .if_icmp .ne 8, 3), (97, .iload 6, 2), (99, .goto 5, 3), (102, .iload 5, 2), (104, .ireturn, 1), (105, .iinc 3 1, 3), (108, .iinc 5 1, 3), (111, .goto (-65), 3)]
theorem b_M_run_0 : (t_M_run_0.all fun q => decide (decode q_M_run.2.1 q.1 = .ok (q.2.1, q.2.2))) = true := by decide +kernel
def t_M_run_1 : List (Nat × Instr × Nat) := [(114, .iinc 4 1, 3), (117, .goto (-83), 3), (120, .iload_n 1, 1), (121, .iconst (-1), 1), (122, .if_icmp .ne 7, 3), (125, .iload_n 3, 1), (126, .goto 4, 3), (129, .iconst (-1), 1), (130, .ireturn, 1)]
theorem b_M_run_1 : (t_M_run_1.all fun q => decide (decode q_M_run.2.1 q.1 = .ok (q.2.1, q.2.2))) = true := by decide +kernel
theorem d_M_run_0 : vm_D q_M_run.2.1 0 1 1 (.aload_n 0) := vm_dD b_M_run_0 0 rfl rfl
theorem d_M_run_1 : vm_D q_M_run.2.1 1 1 2 (.iconst 0) := vm_dD b_M_run_0 1 rfl rfl
theorem d_M_run_2 : vm_D q_M_run.2.1 2 3 5 (.putfield 3) := vm_dD b_M_run_0 2 rfl rfl
theorem d_M_run_5 : vm_D q_M_run.2.1 5 1 6 (.aload_n 0) := vm_dD b_M_run_0 3 rfl rfl
theorem d_M_run_6 : vm_D q_M_run.2.1 6 1 7 (.iload_n 2) := vm_dD b_M_run_0 4 rfl rfl
theorem d_M_run_7 : vm_D q_M_run.2.1 7 1 8 (.iconst 0) := vm_dD b_M_run_0 5 rfl rfl
theorem d_M_run_8 : vm_D q_M_run.2.1 8 1 9 (.iconst 2) := vm_dD b_M_run_0 6 rfl rfl
theorem d_M_run_9 : vm_D q_M_run.2.1 9 3 12 (.invokestatic 65) := vm_dD b_M_run_0 7 rfl rfl
theorem d_M_run_12 : vm_B q_M_run.2.1 12 15 19 (fun o => .ifCond .ne o) := ⟨7, vm_db b_M_run_0 (i := 8) rfl, rfl, by decide⟩
theorem d_M_run_20 : vm_D q_M_run.2.1 20 1 21 (.iconst 1) := vm_dD b_M_run_0 12 rfl rfl
theorem d_M_run_21 : vm_D q_M_run.2.1 21 3 24 (.invokevirtual 180) := vm_dD b_M_run_0 13 rfl rfl
theorem d_M_run_24 : vm_B q_M_run.2.1 24 27 29 (fun o => .ifCond .eq o) := ⟨5, vm_db b_M_run_0 (i := 14) rfl, rfl, by decide⟩
theorem d_M_run_29 : vm_D q_M_run.2.1 29 1 30 (.iconst 0) := vm_dD b_M_run_0 17 rfl rfl
theorem d_M_run_30 : vm_D q_M_run.2.1 30 1 31 (.istore_n 3) := vm_dD b_M_run_0 18 rfl rfl
theorem d_M_run_31 : vm_D q_M_run.2.1 31 1 32 (.iconst 0) := vm_dD b_M_run_0 19 rfl rfl
theorem d_M_run_32 : vm_D q_M_run.2.1 32 2 34 (.istore 4) := vm_dD b_M_run_0 20 rfl rfl
theorem d_M_run_34 : vm_D q_M_run.2.1 34 2 36 (.iload 4) := vm_dD b_M_run_0 21 rfl rfl
theorem d_M_run_36 : vm_D q_M_run.2.1 36 1 37 (.aload_n 0) := vm_dD b_M_run_0 22 rfl rfl
theorem d_M_run_37 : vm_D q_M_run.2.1 37 3 40 (.getfield 184) := vm_dD b_M_run_0 23 rfl rfl
theorem d_M_run_40 : vm_B q_M_run.2.1 40 43 120 (fun o => .if_icmp .ge o) := ⟨80, vm_db b_M_run_0 (i := 24) rfl, rfl, by decide⟩
theorem d_M_run_43 : vm_D q_M_run.2.1 43 1 44 (.iconst 1) := vm_dD b_M_run_0 25 rfl rfl
theorem d_M_run_44 : vm_D q_M_run.2.1 44 2 46 (.istore 5) := vm_dD b_M_run_0 26 rfl rfl
theorem d_M_run_46 : vm_D q_M_run.2.1 46 1 47 (.iconst 2) := vm_dD b_M_run_0 27 rfl rfl
theorem d_M_run_47 : vm_D q_M_run.2.1 47 2 49 (.iload 5) := vm_dD b_M_run_0 28 rfl rfl
theorem d_M_run_49 : vm_D q_M_run.2.1 49 1 50 (.imul) := vm_dD b_M_run_0 29 rfl rfl
theorem d_M_run_50 : vm_D q_M_run.2.1 50 1 51 (.aload_n 0) := vm_dD b_M_run_0 30 rfl rfl
theorem d_M_run_51 : vm_D q_M_run.2.1 51 3 54 (.getfield 184) := vm_dD b_M_run_0 31 rfl rfl
theorem d_M_run_54 : vm_D q_M_run.2.1 54 2 56 (.iload 4) := vm_dD b_M_run_0 32 rfl rfl
theorem d_M_run_56 : vm_D q_M_run.2.1 56 1 57 (.isub) := vm_dD b_M_run_0 33 rfl rfl
theorem d_M_run_57 : vm_B q_M_run.2.1 57 60 114 (fun o => .if_icmp .gt o) := ⟨57, vm_db b_M_run_0 (i := 34) rfl, rfl, by decide⟩
theorem d_M_run_60 : vm_D q_M_run.2.1 60 1 61 (.aload_n 0) := vm_dD b_M_run_0 35 rfl rfl
theorem d_M_run_61 : vm_D q_M_run.2.1 61 2 63 (.iload 4) := vm_dD b_M_run_0 36 rfl rfl
theorem d_M_run_63 : vm_D q_M_run.2.1 63 2 65 (.iload 5) := vm_dD b_M_run_0 37 rfl rfl
theorem d_M_run_65 : vm_D q_M_run.2.1 65 3 68 (.invokevirtual 248) := vm_dD b_M_run_0 38 rfl rfl
theorem d_M_run_68 : vm_D q_M_run.2.1 68 2 70 (.istore 6) := vm_dD b_M_run_0 39 rfl rfl
theorem d_M_run_70 : vm_D q_M_run.2.1 70 2 72 (.iload 6) := vm_dD b_M_run_0 40 rfl rfl
theorem d_M_run_72 : vm_B q_M_run.2.1 72 75 78 (fun o => .ifCond .ne o) := ⟨6, vm_db b_M_run_0 (i := 41) rfl, rfl, by decide⟩
theorem d_M_run_108 : vm_D q_M_run.2.1 108 3 111 (.iinc 5 1) := vm_dD b_M_run_0 58 rfl rfl
theorem d_M_run_111 : ∃ off : Int, decode q_M_run.2.1 111 = .ok (.goto off, 3) ∧ ((111 : Nat) : Int) + off = ((46 : Nat) : Int) := ⟨-65, vm_db b_M_run_0 (i := 59) rfl, by decide⟩
theorem d_M_run_78 : vm_D q_M_run.2.1 78 1 79 (.iload_n 3) := vm_dD b_M_run_0 43 rfl rfl
theorem d_M_run_79 : vm_D q_M_run.2.1 79 1 80 (.iload_n 1) := vm_dD b_M_run_0 44 rfl rfl
theorem d_M_run_80 : vm_B q_M_run.2.1 80 83 105 (fun o => .if_icmp .ne o) := ⟨25, vm_db b_M_run_0 (i := 45) rfl, rfl, by decide⟩
theorem d_M_run_105 : vm_D q_M_run.2.1 105 3 108 (.iinc 3 1) := vm_dD b_M_run_0 57 rfl rfl
theorem d_M_run_83 : vm_D q_M_run.2.1 83 1 84 (.iload_n 2) := vm_dD b_M_run_0 46 rfl rfl
theorem d_M_run_84 : vm_B q_M_run.2.1 84 87 92 (fun o => .ifCond .ne o) := ⟨8, vm_db b_M_run_0 (i := 47) rfl, rfl, by decide⟩
theorem d_M_run_92 : vm_D q_M_run.2.1 92 1 93 (.iload_n 2) := vm_dD b_M_run_0 50 rfl rfl
theorem d_M_run_93 : vm_D q_M_run.2.1 93 1 94 (.iconst 1) := vm_dD b_M_run_0 51 rfl rfl
theorem d_M_run_94 : vm_B q_M_run.2.1 94 97 102 (fun o => .if_icmp .ne o) := ⟨8, vm_db b_M_run_0 (i := 52) rfl, rfl, by decide⟩
theorem d_M_run_102 : vm_D q_M_run.2.1 102 2 104 (.iload 5) := vm_dD b_M_run_0 55 rfl rfl
theorem d_M_run_104 : vm_D q_M_run.2.1 104 1 105 (.ireturn) := vm_dD b_M_run_0 56 rfl rfl
theorem d_M_run_97 : vm_D q_M_run.2.1 97 2 99 (.iload 6) := vm_dD b_M_run_0 53 rfl rfl
theorem d_M_run_99 : ∃ off : Int, decode q_M_run.2.1 99 = .ok (.goto off, 3) ∧ ((99 : Nat) : Int) + off = ((104 : Nat) : Int) := ⟨5, vm_db b_M_run_0 (i := 54) rfl, by decide⟩
theorem d_M_run_87 : vm_D q_M_run.2.1 87 2 89 (.iload 4) := vm_dD b_M_run_0 48 rfl rfl
theorem d_M_run_89 : ∃ off : Int, decode q_M_run.2.1 89 = .ok (.goto off, 3) ∧ ((89 : Nat) : Int) + off = ((104 : Nat) : Int) := ⟨15, vm_db b_M_run_0 (i := 49) rfl, by decide⟩
theorem d_M_run_75 : ∃ off : Int, decode q_M_run.2.1 75 = .ok (.goto off, 3) ∧ ((75 : Nat) : Int) + off = ((108 : Nat) : Int) := ⟨33, vm_db b_M_run_0 (i := 42) rfl, by decide⟩
theorem d_M_run_114 : vm_D q_M_run.2.1 114 3 117 (.iinc 4 1) := vm_dD b_M_run_1 0 rfl rfl
theorem d_M_run_117 : ∃ off : Int, decode q_M_run.2.1 117 = .ok (.goto off, 3) ∧ ((117 : Nat) : Int) + off = ((34 : Nat) : Int) := ⟨-83, vm_db b_M_run_1 (i := 1) rfl, by decide⟩
theorem d_M_run_120 : vm_D q_M_run.2.1 120 1 121 (.iload_n 1) := vm_dD b_M_run_1 2 rfl rfl
theorem d_M_run_121 : vm_D q_M_run.2.1 121 1 122 (.iconst (-1)) := vm_dD b_M_run_1 3 rfl rfl
theorem d_M_run_122 : vm_B q_M_run.2.1 122 125 129 (fun o => .if_icmp .ne o) := ⟨7, vm_db b_M_run_1 (i := 4) rfl, rfl, by decide⟩
theorem d_M_run_129 : vm_D q_M_run.2.1 129 1 130 (.iconst (-1)) := vm_dD b_M_run_1 7 rfl rfl
theorem d_M_run_130 : vm_D q_M_run.2.1 130 1 131 (.ireturn) := vm_dD b_M_run_1 8 rfl rfl
theorem d_M_run_125 : vm_D q_M_run.2.1 125 1 126 (.iload_n 3) := vm_dD b_M_run_1 5 rfl rfl
theorem d_M_run_126 : ∃ off : Int, decode q_M_run.2.1 126 = .ok (.goto off, 3) ∧ ((126 : Nat) : Int) + off = ((130 : Nat) : Int) := ⟨4, vm_db b_M_run_1 (i := 6) rfl, by decide⟩
theorem d_M_run_27 : vm_D q_M_run.2.1 27 1 28 (.iconst 0) := vm_dD b_M_run_0 15 rfl rfl
theorem d_M_run_28 : vm_D q_M_run.2.1 28 1 29 (.ireturn) := vm_dD b_M_run_0 16 rfl rfl
theorem d_M_run_19 : vm_D q_M_run.2.1 19 1 20 (.iconst 0) := vm_dD b_M_run_0 11 rfl rfl
theorem d_M_run_15 : vm_D q_M_run.2.1 15 1 16 (.iconst 1) := vm_dD b_M_run_0 9 rfl rfl
theorem d_M_run_16 : ∃ off : Int, decode q_M_run.2.1 16 = .ok (.goto off, 3) ∧ ((16 : Nat) : Int) + off = ((20 : Nat) : Int) := ⟨4, vm_db b_M_run_0 (i := 10) rfl, by decide⟩
def q_M_areAlike : vm_Y := ("RepeatFreeModel", cX11_areAlike, 5, false, [])
def t_M_areAlike_0 : List (Nat × Instr × Nat) := [(0, .iconst 0, 1), (1, .istore 4, 2), (3, .iload 4, 2), (5, .iload_n 3, 1), (6, .if_icmp .ge 32, 3), (9, .aload_n 0, 1), (10, .getfield 83, 3), (13, .iload_n 1, 1), (14, .iload 4, 2), (16, .iadd, 1), (17, .iaload, 1), (18, .aload_n 0, 1), (19, .getfield 83, 3), (22, .iload_n 2, 1), (23, .iload 4, 2), (25, .iadd, 1), (26, .iaload, 1), (27, .if_icmp .eq 5, 3), (30, .iconst 0, 1), (31, .ireturn, 1), (32, .iinc 4 1, 3), (35, .goto (-32), 3), (38, .iconst 1, 1), (39, .ireturn, 1)]
theorem b_M_areAlike_0 : (t_M_areAlike_0.all fun q => decide (decode q_M_areAlike.2.1 q.1 = .ok (q.2.1, q.2.2))) = true := by decide +kernel
theorem d_M_areAlike_0 : vm_D q_M_areAlike.2.1 0 1 1 (.iconst 0) := vm_dD b_M_areAlike_0 0 rfl rfl
theorem d_M_areAlike_1 : vm_D q_M_areAlike.2.1 1 2 3 (.istore 4) := vm_dD b_M_areAlike_0 1 rfl rfl
theorem d_M_areAlike_3 : vm_D q_M_areAlike.2.1 3 2 5 (.iload 4) := vm_dD b_M_areAlike_0 2 rfl rfl
theorem d_M_areAlike_5 : vm_D q_M_areAlike.2.1 5 1 6 (.iload_n 3) := vm_dD b_M_areAlike_0 3 rfl rfl
theorem d_M_areAlike_6 : vm_B q_M_areAlike.2.1 6 9 38 (fun o => .if_icmp .ge o) := ⟨32, vm_db b_M_areAlike_0 (i := 4) rfl, rfl, by decide⟩
theorem d_M_areAlike_9 : vm_D q_M_areAlike.2.1 9 1 10 (.aload_n 0) := vm_dD b_M_areAlike_0 5 rfl rfl
theorem d_M_areAlike_10 : vm_D q_M_areAlike.2.1 10 3 13 (.getfield 83) := vm_dD b_M_areAlike_0 6 rfl rfl
theorem d_M_areAlike_13 : vm_D q_M_areAlike.2.1 13 1 14 (.iload_n 1) := vm_dD b_M_areAlike_0 7 rfl rfl
theorem d_M_areAlike_14 : vm_D q_M_areAlike.2.1 14 2 16 (.iload 4) := vm_dD b_M_areAlike_0 8 rfl rfl
theorem d_M_areAlike_16 : vm_D q_M_areAlike.2.1 16 1 17 (.iadd) := vm_dD b_M_areAlike_0 9 rfl rfl
theorem d_M_areAlike_17 : vm_D q_M_areAlike.2.1 17 1 18 (.iaload) := vm_dD b_M_areAlike_0 10 rfl rfl
theorem d_M_areAlike_18 : vm_D q_M_areAlike.2.1 18 1 19 (.aload_n 0) := vm_dD b_M_areAlike_0 11 rfl rfl
theorem d_M_areAlike_19 : vm_D q_M_areAlike.2.1 19 3 22 (.getfield 83) := vm_dD b_M_areAlike_0 12 rfl rfl
theorem d_M_areAlike_22 : vm_D q_M_areAlike.2.1 22 1 23 (.iload_n 2) := vm_dD b_M_areAlike_0 13 rfl rfl
theorem d_M_areAlike_23 : vm_D q_M_areAlike.2.1 23 2 25 (.iload 4) := vm_dD b_M_areAlike_0 14 rfl rfl
theorem d_M_areAlike_25 : vm_D q_M_areAlike.2.1 25 1 26 (.iadd) := vm_dD b_M_areAlike_0 15 rfl rfl
theorem d_M_areAlike_26 : vm_D q_M_areAlike.2.1 26 1 27 (.iaload) := vm_dD b_M_areAlike_0 16 rfl rfl
theorem d_M_areAlike_27 : vm_B q_M_areAlike.2.1 27 30 32 (fun o => .if_icmp .eq o) := ⟨5, vm_db b_M_areAlike_0 (i := 17) rfl, rfl, by decide⟩
theorem d_M_areAlike_32 : vm_D q_M_areAlike.2.1 32 3 35 (.iinc 4 1) := vm_dD b_M_areAlike_0 20 rfl rfl
theorem d_M_areAlike_35 : ∃ off : Int, decode q_M_areAlike.2.1 35 = .ok (.goto off, 3) ∧ ((35 : Nat) : Int) + off = ((3 : Nat) : Int) := ⟨-32, vm_db b_M_areAlike_0 (i := 21) rfl, by decide⟩
theorem d_M_areAlike_30 : vm_D q_M_areAlike.2.1 30 1 31 (.iconst 0) := vm_dD b_M_areAlike_0 18 rfl rfl
theorem d_M_areAlike_31 : vm_D q_M_areAlike.2.1 31 1 32 (.ireturn) := vm_dD b_M_areAlike_0 19 rfl rfl
theorem d_M_areAlike_38 : vm_D q_M_areAlike.2.1 38 1 39 (.iconst 1) := vm_dD b_M_areAlike_0 22 rfl rfl
theorem d_M_areAlike_39 : vm_D q_M_areAlike.2.1 39 1 40 (.ireturn) := vm_dD b_M_areAlike_0 23 rfl rfl
def q_M_factors : vm_Y := ("RepeatFreeModel", cX11_factors, 6, false, [])
def t_M_factors_0 : List (Nat × Instr × Nat) := [(0, .aload_n 0, 1), (1, .iconst 0, 1), (2, .putfield 3, 3), (5, .aload_n 0, 1), (6, .iload_n 1, 1), (7, .iconst 1, 1), (8, .bipush 64, 2), (10, .invokestatic 65, 3), (13, .ifCond .ne 7, 3), (16, .iconst 1, 1), (17, .goto 4, 3), (20, .iconst 0, 1), (21, .iconst 1, 1), (22, .invokevirtual 180, 3), (25, .ifCond .eq 5, 3), (28, .iconst 0, 1), (29, .ireturn, 1), (30, .iconst 0, 1), (31, .istore_n 2, 1), (32, .iconst 0, 1), (33, .istore_n 3, 1), (34, .iload_n 3, 1), (35, .iload_n 1, 1), (36, .iadd, 1), (37, .aload_n 0, 1), (38, .getfield 184, 3), (41, .if_icmp .gt 63, 3), (44, .iconst 0, 1), (45, .istore 4, 2), (47, .iconst 0, 1), (48, .istore 5, 2), (50, .iload 5, 2), (52, .iload_n 3, 1), (53, .if_icmp .ge 32, 3), (56, .iload 4, 2), (58, .ifCond .ne 14, 3), (61, .aload_n 0, 1), (62, .iload_n 3, 1), (63, .iload 5, 2), (65, .iload_n 1, 1), (66, .invokevirtual 251, 3), (69, .ifCond .eq 7, 3), (72, .iconst 1, 1), (73, .goto 4, 3), (76, .iconst 0, 1), (77, .istore 4, 2), (79, .iinc 5 1, 3), (82, .goto (-32), 3), (85, .iload_n 2, 1), (86, .iload 4, 2), (88, .ifCond .eq 7, 3), (91, .iconst 0, 1), (92, .goto 4, 3), (95, .iconst 1, 1), (96, .iadd, 1), (97, .istore_n 2, 1), (98, .iinc 3 1, 3), (101, .goto (-67), 3), (104, .iload_n 2, 1), (105, .ireturn, 1)]
theorem b_M_factors_0 : (t_M_factors_0.all fun q => decide (decode q_M_factors.2.1 q.1 = .ok (q.2.1, q.2.2))) = true := by decide +kernel
theorem d_M_factors_0 : vm_D q_M_factors.2.1 0 1 1 (.aload_n 0) := vm_dD b_M_factors_0 0 rfl rfl
theorem d_M_factors_1 : vm_D q_M_factors.2.1 1 1 2 (.iconst 0) := vm_dD b_M_factors_0 1 rfl rfl
theorem d_M_factors_2 : vm_D q_M_factors.2.1 2 3 5 (.putfield 3) := vm_dD b_M_factors_0 2 rfl rfl
theorem d_M_factors_5 : vm_D q_M_factors.2.1 5 1 6 (.aload_n 0) := vm_dD b_M_factors_0 3 rfl rfl
theorem d_M_factors_6 : vm_D q_M_factors.2.1 6 1 7 (.iload_n 1) := vm_dD b_M_factors_0 4 rfl rfl
theorem d_M_factors_7 : vm_D q_M_factors.2.1 7 1 8 (.iconst 1) := vm_dD b_M_factors_0 5 rfl rfl
theorem d_M_factors_8 : vm_D q_M_factors.2.1 8 2 10 (.bipush 64) := vm_dD b_M_factors_0 6 rfl rfl
theorem d_M_factors_10 : vm_D q_M_factors.2.1 10 3 13 (.invokestatic 65) := vm_dD b_M_factors_0 7 rfl rfl
theorem d_M_factors_13 : vm_B q_M_factors.2.1 13 16 20 (fun o => .ifCond .ne o) := ⟨7, vm_db b_M_factors_0 (i := 8) rfl, rfl, by decide⟩
theorem d_M_factors_21 : vm_D q_M_factors.2.1 21 1 22 (.iconst 1) := vm_dD b_M_factors_0 12 rfl rfl
theorem d_M_factors_22 : vm_D q_M_factors.2.1 22 3 25 (.invokevirtual 180) := vm_dD b_M_factors_0 13 rfl rfl
theorem d_M_factors_25 : vm_B q_M_factors.2.1 25 28 30 (fun o => .ifCond .eq o) := ⟨5, vm_db b_M_factors_0 (i := 14) rfl, rfl, by decide⟩
theorem d_M_factors_30 : vm_D q_M_factors.2.1 30 1 31 (.iconst 0) := vm_dD b_M_factors_0 17 rfl rfl
theorem d_M_factors_31 : vm_D q_M_factors.2.1 31 1 32 (.istore_n 2) := vm_dD b_M_factors_0 18 rfl rfl
theorem d_M_factors_32 : vm_D q_M_factors.2.1 32 1 33 (.iconst 0) := vm_dD b_M_factors_0 19 rfl rfl
theorem d_M_factors_33 : vm_D q_M_factors.2.1 33 1 34 (.istore_n 3) := vm_dD b_M_factors_0 20 rfl rfl
theorem d_M_factors_34 : vm_D q_M_factors.2.1 34 1 35 (.iload_n 3) := vm_dD b_M_factors_0 21 rfl rfl
theorem d_M_factors_35 : vm_D q_M_factors.2.1 35 1 36 (.iload_n 1) := vm_dD b_M_factors_0 22 rfl rfl
theorem d_M_factors_36 : vm_D q_M_factors.2.1 36 1 37 (.iadd) := vm_dD b_M_factors_0 23 rfl rfl
theorem d_M_factors_37 : vm_D q_M_factors.2.1 37 1 38 (.aload_n 0) := vm_dD b_M_factors_0 24 rfl rfl
theorem d_M_factors_38 : vm_D q_M_factors.2.1 38 3 41 (.getfield 184) := vm_dD b_M_factors_0 25 rfl rfl
theorem d_M_factors_41 : vm_B q_M_factors.2.1 41 44 104 (fun o => .if_icmp .gt o) := ⟨63, vm_db b_M_factors_0 (i := 26) rfl, rfl, by decide⟩
theorem d_M_factors_44 : vm_D q_M_factors.2.1 44 1 45 (.iconst 0) := vm_dD b_M_factors_0 27 rfl rfl
theorem d_M_factors_45 : vm_D q_M_factors.2.1 45 2 47 (.istore 4) := vm_dD b_M_factors_0 28 rfl rfl
theorem d_M_factors_47 : vm_D q_M_factors.2.1 47 1 48 (.iconst 0) := vm_dD b_M_factors_0 29 rfl rfl
theorem d_M_factors_48 : vm_D q_M_factors.2.1 48 2 50 (.istore 5) := vm_dD b_M_factors_0 30 rfl rfl
theorem d_M_factors_50 : vm_D q_M_factors.2.1 50 2 52 (.iload 5) := vm_dD b_M_factors_0 31 rfl rfl
theorem d_M_factors_52 : vm_D q_M_factors.2.1 52 1 53 (.iload_n 3) := vm_dD b_M_factors_0 32 rfl rfl
theorem d_M_factors_53 : vm_B q_M_factors.2.1 53 56 85 (fun o => .if_icmp .ge o) := ⟨32, vm_db b_M_factors_0 (i := 33) rfl, rfl, by decide⟩
theorem d_M_factors_56 : vm_D q_M_factors.2.1 56 2 58 (.iload 4) := vm_dD b_M_factors_0 34 rfl rfl
theorem d_M_factors_58 : vm_B q_M_factors.2.1 58 61 72 (fun o => .ifCond .ne o) := ⟨14, vm_db b_M_factors_0 (i := 35) rfl, rfl, by decide⟩
theorem d_M_factors_77 : vm_D q_M_factors.2.1 77 2 79 (.istore 4) := vm_dD b_M_factors_0 45 rfl rfl
theorem d_M_factors_79 : vm_D q_M_factors.2.1 79 3 82 (.iinc 5 1) := vm_dD b_M_factors_0 46 rfl rfl
theorem d_M_factors_82 : ∃ off : Int, decode q_M_factors.2.1 82 = .ok (.goto off, 3) ∧ ((82 : Nat) : Int) + off = ((50 : Nat) : Int) := ⟨-32, vm_db b_M_factors_0 (i := 47) rfl, by decide⟩
theorem d_M_factors_72 : vm_D q_M_factors.2.1 72 1 73 (.iconst 1) := vm_dD b_M_factors_0 42 rfl rfl
theorem d_M_factors_73 : ∃ off : Int, decode q_M_factors.2.1 73 = .ok (.goto off, 3) ∧ ((73 : Nat) : Int) + off = ((77 : Nat) : Int) := ⟨4, vm_db b_M_factors_0 (i := 43) rfl, by decide⟩
theorem d_M_factors_61 : vm_D q_M_factors.2.1 61 1 62 (.aload_n 0) := vm_dD b_M_factors_0 36 rfl rfl
theorem d_M_factors_62 : vm_D q_M_factors.2.1 62 1 63 (.iload_n 3) := vm_dD b_M_factors_0 37 rfl rfl
theorem d_M_factors_63 : vm_D q_M_factors.2.1 63 2 65 (.iload 5) := vm_dD b_M_factors_0 38 rfl rfl
theorem d_M_factors_65 : vm_D q_M_factors.2.1 65 1 66 (.iload_n 1) := vm_dD b_M_factors_0 39 rfl rfl
theorem d_M_factors_66 : vm_D q_M_factors.2.1 66 3 69 (.invokevirtual 251) := vm_dD b_M_factors_0 40 rfl rfl
theorem d_M_factors_69 : vm_B q_M_factors.2.1 69 72 76 (fun o => .ifCond .eq o) := ⟨7, vm_db b_M_factors_0 (i := 41) rfl, rfl, by decide⟩
theorem d_M_factors_76 : vm_D q_M_factors.2.1 76 1 77 (.iconst 0) := vm_dD b_M_factors_0 44 rfl rfl
theorem d_M_factors_85 : vm_D q_M_factors.2.1 85 1 86 (.iload_n 2) := vm_dD b_M_factors_0 48 rfl rfl
theorem d_M_factors_86 : vm_D q_M_factors.2.1 86 2 88 (.iload 4) := vm_dD b_M_factors_0 49 rfl rfl
theorem d_M_factors_88 : vm_B q_M_factors.2.1 88 91 95 (fun o => .ifCond .eq o) := ⟨7, vm_db b_M_factors_0 (i := 50) rfl, rfl, by decide⟩
theorem d_M_factors_96 : vm_D q_M_factors.2.1 96 1 97 (.iadd) := vm_dD b_M_factors_0 54 rfl rfl
theorem d_M_factors_97 : vm_D q_M_factors.2.1 97 1 98 (.istore_n 2) := vm_dD b_M_factors_0 55 rfl rfl
theorem d_M_factors_98 : vm_D q_M_factors.2.1 98 3 101 (.iinc 3 1) := vm_dD b_M_factors_0 56 rfl rfl
theorem d_M_factors_101 : ∃ off : Int, decode q_M_factors.2.1 101 = .ok (.goto off, 3) ∧ ((101 : Nat) : Int) + off = ((34 : Nat) : Int) := ⟨-67, vm_db b_M_factors_0 (i := 57) rfl, by decide⟩
theorem d_M_factors_95 : vm_D q_M_factors.2.1 95 1 96 (.iconst 1) := vm_dD b_M_factors_0 53 rfl rfl
theorem d_M_factors_91 : vm_D q_M_factors.2.1 91 1 92 (.iconst 0) := vm_dD b_M_factors_0 51 rfl rfl
theorem d_M_factors_92 : ∃ off : Int, decode q_M_factors.2.1 92 = .ok (.goto off, 3) ∧ ((92 : Nat) : Int) + off = ((96 : Nat) : Int) := ⟨4, vm_db b_M_factors_0 (i := 52) rfl, by decide⟩
theorem d_M_factors_104 : vm_D q_M_factors.2.1 104 1 105 (.iload_n 2) := vm_dD b_M_factors_0 58 rfl rfl
theorem d_M_factors_105 : vm_D q_M_factors.2.1 105 1 106 (.ireturn) := vm_dD b_M_factors_0 59 rfl rfl
theorem d_M_factors_28 : vm_D q_M_factors.2.1 28 1 29 (.iconst 0) := vm_dD b_M_factors_0 15 rfl rfl
theorem d_M_factors_29 : vm_D q_M_factors.2.1 29 1 30 (.ireturn) := vm_dD b_M_factors_0 16 rfl rfl
theorem d_M_factors_20 : vm_D q_M_factors.2.1 20 1 21 (.iconst 0) := vm_dD b_M_factors_0 11 rfl rfl
theorem d_M_factors_16 : vm_D q_M_factors.2.1 16 1 17 (.iconst 1) := vm_dD b_M_factors_0 9 rfl rfl
theorem d_M_factors_17 : ∃ off : Int, decode q_M_factors.2.1 17 = .ok (.goto off, 3) ∧ ((17 : Nat) : Int) + off = ((21 : Nat) : Int) := ⟨4, vm_db b_M_factors_0 (i := 10) rfl, by decide⟩
def q_M_mirror : vm_Y := ("RepeatFreeModel", cX11_mirror, 5, false, [])
def t_M_mirror_0 : List (Nat × Instr × Nat) := [(0, .aload_n 0, 1), (1, .iconst 0, 1), (2, .putfield 3, 3), (5, .iconst 0, 1), (6, .istore_n 1, 1), (7, .iconst 0, 1), (8, .istore_n 2, 1), (9, .iload_n 2, 1), (10, .aload_n 0, 1), (11, .getfield 184, 3), (14, .if_icmp .ge 87, 3), (17, .iload_n 2, 1), (18, .istore_n 3, 1), (19, .iload_n 3, 1), (20, .aload_n 0, 1), (21, .getfield 184, 3), (24, .if_icmp .ge 71, 3), (27, .iconst 0, 1), (28, .istore 4, 2), (30, .iload_n 2, 1), (31, .iload 4, 2), (33, .iadd, 1), (34, .iload_n 3, 1), (35, .iload 4, 2), (37, .isub, 1), (38, .if_icmp .ge 30, 3), (41, .aload_n 0, 1), (42, .getfield 83, 3), (45, .iload_n 2, 1), (46, .iload 4, 2), (48, .iadd, 1), (49, .iaload, 1), (50, .aload_n 0, 1), (51, .getfield 83, 3), (54, .iload_n 3, 1), (55, .iload 4, 2), (57, .isub, 1), (58, .iaload, 1), (59, .if_icmp .ne 9, 3), (62, .iinc 4 1, 3), (65, .goto (-35), 3), (68, .iload_n 2, 1), (69, .iload 4, 2), (71, .iadd, 1), (72, .iload_n 3, 1), (73, .iload 4, 2), (75, .isub, 1), (76, .if_icmp .lt 13, 3), (79, .iload_n 1, 1), (80, .iload_n 3, 1), (81, .iload_n 2, 1), (82, .isub, 1), (83, .iconst 1, 1), (84, .iadd, 1), (85, .invokestatic 254, 3), (88, .istore_n 1, 1), (89, .iinc 3 1, 3), (92, .goto (-73), 3), (95, .iinc 2 1, 3), (98, .goto (-89), 3)]
theorem b_M_mirror_0 : (t_M_mirror_0.all fun q => decide (decode q_M_mirror.2.1 q.1 = .ok (q.2.1, q.2.2))) = true := by decide +kernel
def t_M_mirror_1 : List (Nat × Instr × Nat) := [(101, .iload_n 1, 1), (102, .ireturn, 1)]
theorem b_M_mirror_1 : (t_M_mirror_1.all fun q => decide (decode q_M_mirror.2.1 q.1 = .ok (q.2.1, q.2.2))) = true := by decide +kernel
theorem d_M_mirror_0 : vm_D q_M_mirror.2.1 0 1 1 (.aload_n 0) := vm_dD b_M_mirror_0 0 rfl rfl
theorem d_M_mirror_1 : vm_D q_M_mirror.2.1 1 1 2 (.iconst 0) := vm_dD b_M_mirror_0 1 rfl rfl
theorem d_M_mirror_2 : vm_D q_M_mirror.2.1 2 3 5 (.putfield 3) := vm_dD b_M_mirror_0 2 rfl rfl
theorem d_M_mirror_5 : vm_D q_M_mirror.2.1 5 1 6 (.iconst 0) := vm_dD b_M_mirror_0 3 rfl rfl
theorem d_M_mirror_6 : vm_D q_M_mirror.2.1 6 1 7 (.istore_n 1) := vm_dD b_M_mirror_0 4 rfl rfl
theorem d_M_mirror_7 : vm_D q_M_mirror.2.1 7 1 8 (.iconst 0) := vm_dD b_M_mirror_0 5 rfl rfl
theorem d_M_mirror_8 : vm_D q_M_mirror.2.1 8 1 9 (.istore_n 2) := vm_dD b_M_mirror_0 6 rfl rfl
theorem d_M_mirror_9 : vm_D q_M_mirror.2.1 9 1 10 (.iload_n 2) := vm_dD b_M_mirror_0 7 rfl rfl
theorem d_M_mirror_10 : vm_D q_M_mirror.2.1 10 1 11 (.aload_n 0) := vm_dD b_M_mirror_0 8 rfl rfl
theorem d_M_mirror_11 : vm_D q_M_mirror.2.1 11 3 14 (.getfield 184) := vm_dD b_M_mirror_0 9 rfl rfl
theorem d_M_mirror_14 : vm_B q_M_mirror.2.1 14 17 101 (fun o => .if_icmp .ge o) := ⟨87, vm_db b_M_mirror_0 (i := 10) rfl, rfl, by decide⟩
theorem d_M_mirror_17 : vm_D q_M_mirror.2.1 17 1 18 (.iload_n 2) := vm_dD b_M_mirror_0 11 rfl rfl
theorem d_M_mirror_18 : vm_D q_M_mirror.2.1 18 1 19 (.istore_n 3) := vm_dD b_M_mirror_0 12 rfl rfl
theorem d_M_mirror_19 : vm_D q_M_mirror.2.1 19 1 20 (.iload_n 3) := vm_dD b_M_mirror_0 13 rfl rfl
theorem d_M_mirror_20 : vm_D q_M_mirror.2.1 20 1 21 (.aload_n 0) := vm_dD b_M_mirror_0 14 rfl rfl
theorem d_M_mirror_21 : vm_D q_M_mirror.2.1 21 3 24 (.getfield 184) := vm_dD b_M_mirror_0 15 rfl rfl
theorem d_M_mirror_24 : vm_B q_M_mirror.2.1 24 27 95 (fun o => .if_icmp .ge o) := ⟨71, vm_db b_M_mirror_0 (i := 16) rfl, rfl, by decide⟩
theorem d_M_mirror_27 : vm_D q_M_mirror.2.1 27 1 28 (.iconst 0) := vm_dD b_M_mirror_0 17 rfl rfl
theorem d_M_mirror_28 : vm_D q_M_mirror.2.1 28 2 30 (.istore 4) := vm_dD b_M_mirror_0 18 rfl rfl
theorem d_M_mirror_30 : vm_D q_M_mirror.2.1 30 1 31 (.iload_n 2) := vm_dD b_M_mirror_0 19 rfl rfl
theorem d_M_mirror_31 : vm_D q_M_mirror.2.1 31 2 33 (.iload 4) := vm_dD b_M_mirror_0 20 rfl rfl
theorem d_M_mirror_33 : vm_D q_M_mirror.2.1 33 1 34 (.iadd) := vm_dD b_M_mirror_0 21 rfl rfl
theorem d_M_mirror_34 : vm_D q_M_mirror.2.1 34 1 35 (.iload_n 3) := vm_dD b_M_mirror_0 22 rfl rfl
theorem d_M_mirror_35 : vm_D q_M_mirror.2.1 35 2 37 (.iload 4) := vm_dD b_M_mirror_0 23 rfl rfl
theorem d_M_mirror_37 : vm_D q_M_mirror.2.1 37 1 38 (.isub) := vm_dD b_M_mirror_0 24 rfl rfl
theorem d_M_mirror_38 : vm_B q_M_mirror.2.1 38 41 68 (fun o => .if_icmp .ge o) := ⟨30, vm_db b_M_mirror_0 (i := 25) rfl, rfl, by decide⟩
theorem d_M_mirror_41 : vm_D q_M_mirror.2.1 41 1 42 (.aload_n 0) := vm_dD b_M_mirror_0 26 rfl rfl
theorem d_M_mirror_42 : vm_D q_M_mirror.2.1 42 3 45 (.getfield 83) := vm_dD b_M_mirror_0 27 rfl rfl
theorem d_M_mirror_45 : vm_D q_M_mirror.2.1 45 1 46 (.iload_n 2) := vm_dD b_M_mirror_0 28 rfl rfl
theorem d_M_mirror_46 : vm_D q_M_mirror.2.1 46 2 48 (.iload 4) := vm_dD b_M_mirror_0 29 rfl rfl
theorem d_M_mirror_48 : vm_D q_M_mirror.2.1 48 1 49 (.iadd) := vm_dD b_M_mirror_0 30 rfl rfl
theorem d_M_mirror_49 : vm_D q_M_mirror.2.1 49 1 50 (.iaload) := vm_dD b_M_mirror_0 31 rfl rfl
theorem d_M_mirror_50 : vm_D q_M_mirror.2.1 50 1 51 (.aload_n 0) := vm_dD b_M_mirror_0 32 rfl rfl
theorem d_M_mirror_51 : vm_D q_M_mirror.2.1 51 3 54 (.getfield 83) := vm_dD b_M_mirror_0 33 rfl rfl
theorem d_M_mirror_54 : vm_D q_M_mirror.2.1 54 1 55 (.iload_n 3) := vm_dD b_M_mirror_0 34 rfl rfl
theorem d_M_mirror_55 : vm_D q_M_mirror.2.1 55 2 57 (.iload 4) := vm_dD b_M_mirror_0 35 rfl rfl
theorem d_M_mirror_57 : vm_D q_M_mirror.2.1 57 1 58 (.isub) := vm_dD b_M_mirror_0 36 rfl rfl
theorem d_M_mirror_58 : vm_D q_M_mirror.2.1 58 1 59 (.iaload) := vm_dD b_M_mirror_0 37 rfl rfl
theorem d_M_mirror_59 : vm_B q_M_mirror.2.1 59 62 68 (fun o => .if_icmp .ne o) := ⟨9, vm_db b_M_mirror_0 (i := 38) rfl, rfl, by decide⟩
theorem d_M_mirror_62 : vm_D q_M_mirror.2.1 62 3 65 (.iinc 4 1) := vm_dD b_M_mirror_0 39 rfl rfl
theorem d_M_mirror_65 : ∃ off : Int, decode q_M_mirror.2.1 65 = .ok (.goto off, 3) ∧ ((65 : Nat) : Int) + off = ((30 : Nat) : Int) := ⟨-35, vm_db b_M_mirror_0 (i := 40) rfl, by decide⟩
theorem d_M_mirror_68 : vm_D q_M_mirror.2.1 68 1 69 (.iload_n 2) := vm_dD b_M_mirror_0 41 rfl rfl
theorem d_M_mirror_69 : vm_D q_M_mirror.2.1 69 2 71 (.iload 4) := vm_dD b_M_mirror_0 42 rfl rfl
theorem d_M_mirror_71 : vm_D q_M_mirror.2.1 71 1 72 (.iadd) := vm_dD b_M_mirror_0 43 rfl rfl
theorem d_M_mirror_72 : vm_D q_M_mirror.2.1 72 1 73 (.iload_n 3) := vm_dD b_M_mirror_0 44 rfl rfl
theorem d_M_mirror_73 : vm_D q_M_mirror.2.1 73 2 75 (.iload 4) := vm_dD b_M_mirror_0 45 rfl rfl
theorem d_M_mirror_75 : vm_D q_M_mirror.2.1 75 1 76 (.isub) := vm_dD b_M_mirror_0 46 rfl rfl
theorem d_M_mirror_76 : vm_B q_M_mirror.2.1 76 79 89 (fun o => .if_icmp .lt o) := ⟨13, vm_db b_M_mirror_0 (i := 47) rfl, rfl, by decide⟩
theorem d_M_mirror_89 : vm_D q_M_mirror.2.1 89 3 92 (.iinc 3 1) := vm_dD b_M_mirror_0 56 rfl rfl
theorem d_M_mirror_92 : ∃ off : Int, decode q_M_mirror.2.1 92 = .ok (.goto off, 3) ∧ ((92 : Nat) : Int) + off = ((19 : Nat) : Int) := ⟨-73, vm_db b_M_mirror_0 (i := 57) rfl, by decide⟩
theorem d_M_mirror_79 : vm_D q_M_mirror.2.1 79 1 80 (.iload_n 1) := vm_dD b_M_mirror_0 48 rfl rfl
theorem d_M_mirror_80 : vm_D q_M_mirror.2.1 80 1 81 (.iload_n 3) := vm_dD b_M_mirror_0 49 rfl rfl
theorem d_M_mirror_81 : vm_D q_M_mirror.2.1 81 1 82 (.iload_n 2) := vm_dD b_M_mirror_0 50 rfl rfl
theorem d_M_mirror_82 : vm_D q_M_mirror.2.1 82 1 83 (.isub) := vm_dD b_M_mirror_0 51 rfl rfl
theorem d_M_mirror_83 : vm_D q_M_mirror.2.1 83 1 84 (.iconst 1) := vm_dD b_M_mirror_0 52 rfl rfl
theorem d_M_mirror_84 : vm_D q_M_mirror.2.1 84 1 85 (.iadd) := vm_dD b_M_mirror_0 53 rfl rfl
theorem d_M_mirror_85 : vm_D q_M_mirror.2.1 85 3 88 (.invokestatic 254) := vm_dD b_M_mirror_0 54 rfl rfl
theorem d_M_mirror_88 : vm_D q_M_mirror.2.1 88 1 89 (.istore_n 1) := vm_dD b_M_mirror_0 55 rfl rfl
theorem d_M_mirror_95 : vm_D q_M_mirror.2.1 95 3 98 (.iinc 2 1) := vm_dD b_M_mirror_0 58 rfl rfl
theorem d_M_mirror_98 : ∃ off : Int, decode q_M_mirror.2.1 98 = .ok (.goto off, 3) ∧ ((98 : Nat) : Int) + off = ((9 : Nat) : Int) := ⟨-89, vm_db b_M_mirror_0 (i := 59) rfl, by decide⟩
theorem d_M_mirror_101 : vm_D q_M_mirror.2.1 101 1 102 (.iload_n 1) := vm_dD b_M_mirror_1 0 rfl rfl
theorem d_M_mirror_102 : vm_D q_M_mirror.2.1 102 1 103 (.ireturn) := vm_dD b_M_mirror_1 1 rfl rfl
def q_M_lyndon : vm_Y := ("RepeatFreeModel", cX11_lyndon, 7, false, [])
def t_M_lyndon_0 : List (Nat × Instr × Nat) := [(0, .aload_n 0, 1), (1, .iconst 0, 1), (2, .putfield 3, 3), (5, .iconst 0, 1), (6, .istore_n 2, 1), (7, .iconst 0, 1), (8, .istore_n 3, 1), (9, .iload_n 3, 1), (10, .aload_n 0, 1), (11, .getfield 184, 3), (14, .if_icmp .ge 105, 3), (17, .iload_n 3, 1), (18, .istore 4, 2), (20, .iload_n 3, 1), (21, .iconst 1, 1), (22, .iadd, 1), (23, .istore 5, 2), (25, .iload 5, 2), (27, .aload_n 0, 1), (28, .getfield 184, 3), (31, .if_icmp .ge 53, 3), (34, .aload_n 0, 1), (35, .getfield 83, 3), (38, .iload 4, 2), (40, .iaload, 1), (41, .aload_n 0, 1), (42, .getfield 83, 3), (45, .iload 5, 2), (47, .iaload, 1), (48, .if_icmp .gt 36, 3), (51, .aload_n 0, 1), (52, .getfield 83, 3), (55, .iload 4, 2), (57, .iaload, 1), (58, .aload_n 0, 1), (59, .getfield 83, 3), (62, .iload 5, 2), (64, .iaload, 1), (65, .if_icmp .ne 10, 3), (68, .iload 4, 2), (70, .iconst 1, 1), (71, .iadd, 1), (72, .goto 4, 3), (75, .iload_n 3, 1), (76, .istore 4, 2), (78, .iinc 5 1, 3), (81, .goto (-56), 3), (84, .iload 5, 2), (86, .iload 4, 2), (88, .isub, 1), (89, .istore 6, 2), (91, .iload_n 3, 1), (92, .iload 4, 2), (94, .if_icmp .gt 22, 3), (97, .iload_n 2, 1), (98, .iload_n 1, 1), (99, .if_icmp .ne 6, 3), (102, .iload 6, 2), (104, .ireturn, 1), (105, .iinc 2 1, 3)]
theorem b_M_lyndon_0 : (t_M_lyndon_0.all fun q => decide (decode q_M_lyndon.2.1 q.1 = .ok (q.2.1, q.2.2))) = true := by decide +kernel
def t_M_lyndon_1 : List (Nat × Instr × Nat) := [(108, .iload_n 3, 1), (109, .iload 6, 2), (111, .iadd, 1), (112, .istore_n 3, 1), (113, .goto (-22), 3), (116, .goto (-107), 3), (119, .iload_n 1, 1), (120, .iconst (-1), 1), (121, .if_icmp .ne 7, 3), (124, .iload_n 2, 1), (125, .goto 4, 3), (128, .iconst (-1), 1), (129, .ireturn, 1)]
theorem b_M_lyndon_1 : (t_M_lyndon_1.all fun q => decide (decode q_M_lyndon.2.1 q.1 = .ok (q.2.1, q.2.2))) = true := by decide +kernel
theorem d_M_lyndon_0 : vm_D q_M_lyndon.2.1 0 1 1 (.aload_n 0) := vm_dD b_M_lyndon_0 0 rfl rfl
theorem d_M_lyndon_1 : vm_D q_M_lyndon.2.1 1 1 2 (.iconst 0) := vm_dD b_M_lyndon_0 1 rfl rfl
theorem d_M_lyndon_2 : vm_D q_M_lyndon.2.1 2 3 5 (.putfield 3) := vm_dD b_M_lyndon_0 2 rfl rfl
theorem d_M_lyndon_5 : vm_D q_M_lyndon.2.1 5 1 6 (.iconst 0) := vm_dD b_M_lyndon_0 3 rfl rfl
theorem d_M_lyndon_6 : vm_D q_M_lyndon.2.1 6 1 7 (.istore_n 2) := vm_dD b_M_lyndon_0 4 rfl rfl
theorem d_M_lyndon_7 : vm_D q_M_lyndon.2.1 7 1 8 (.iconst 0) := vm_dD b_M_lyndon_0 5 rfl rfl
theorem d_M_lyndon_8 : vm_D q_M_lyndon.2.1 8 1 9 (.istore_n 3) := vm_dD b_M_lyndon_0 6 rfl rfl
theorem d_M_lyndon_9 : vm_D q_M_lyndon.2.1 9 1 10 (.iload_n 3) := vm_dD b_M_lyndon_0 7 rfl rfl
theorem d_M_lyndon_10 : vm_D q_M_lyndon.2.1 10 1 11 (.aload_n 0) := vm_dD b_M_lyndon_0 8 rfl rfl
theorem d_M_lyndon_11 : vm_D q_M_lyndon.2.1 11 3 14 (.getfield 184) := vm_dD b_M_lyndon_0 9 rfl rfl
theorem d_M_lyndon_14 : vm_B q_M_lyndon.2.1 14 17 119 (fun o => .if_icmp .ge o) := ⟨105, vm_db b_M_lyndon_0 (i := 10) rfl, rfl, by decide⟩
theorem d_M_lyndon_17 : vm_D q_M_lyndon.2.1 17 1 18 (.iload_n 3) := vm_dD b_M_lyndon_0 11 rfl rfl
theorem d_M_lyndon_18 : vm_D q_M_lyndon.2.1 18 2 20 (.istore 4) := vm_dD b_M_lyndon_0 12 rfl rfl
theorem d_M_lyndon_20 : vm_D q_M_lyndon.2.1 20 1 21 (.iload_n 3) := vm_dD b_M_lyndon_0 13 rfl rfl
theorem d_M_lyndon_21 : vm_D q_M_lyndon.2.1 21 1 22 (.iconst 1) := vm_dD b_M_lyndon_0 14 rfl rfl
theorem d_M_lyndon_22 : vm_D q_M_lyndon.2.1 22 1 23 (.iadd) := vm_dD b_M_lyndon_0 15 rfl rfl
theorem d_M_lyndon_23 : vm_D q_M_lyndon.2.1 23 2 25 (.istore 5) := vm_dD b_M_lyndon_0 16 rfl rfl
theorem d_M_lyndon_25 : vm_D q_M_lyndon.2.1 25 2 27 (.iload 5) := vm_dD b_M_lyndon_0 17 rfl rfl
theorem d_M_lyndon_27 : vm_D q_M_lyndon.2.1 27 1 28 (.aload_n 0) := vm_dD b_M_lyndon_0 18 rfl rfl
theorem d_M_lyndon_28 : vm_D q_M_lyndon.2.1 28 3 31 (.getfield 184) := vm_dD b_M_lyndon_0 19 rfl rfl
theorem d_M_lyndon_31 : vm_B q_M_lyndon.2.1 31 34 84 (fun o => .if_icmp .ge o) := ⟨53, vm_db b_M_lyndon_0 (i := 20) rfl, rfl, by decide⟩
theorem d_M_lyndon_34 : vm_D q_M_lyndon.2.1 34 1 35 (.aload_n 0) := vm_dD b_M_lyndon_0 21 rfl rfl
theorem d_M_lyndon_35 : vm_D q_M_lyndon.2.1 35 3 38 (.getfield 83) := vm_dD b_M_lyndon_0 22 rfl rfl
theorem d_M_lyndon_38 : vm_D q_M_lyndon.2.1 38 2 40 (.iload 4) := vm_dD b_M_lyndon_0 23 rfl rfl
theorem d_M_lyndon_40 : vm_D q_M_lyndon.2.1 40 1 41 (.iaload) := vm_dD b_M_lyndon_0 24 rfl rfl
theorem d_M_lyndon_41 : vm_D q_M_lyndon.2.1 41 1 42 (.aload_n 0) := vm_dD b_M_lyndon_0 25 rfl rfl
theorem d_M_lyndon_42 : vm_D q_M_lyndon.2.1 42 3 45 (.getfield 83) := vm_dD b_M_lyndon_0 26 rfl rfl
theorem d_M_lyndon_45 : vm_D q_M_lyndon.2.1 45 2 47 (.iload 5) := vm_dD b_M_lyndon_0 27 rfl rfl
theorem d_M_lyndon_47 : vm_D q_M_lyndon.2.1 47 1 48 (.iaload) := vm_dD b_M_lyndon_0 28 rfl rfl
theorem d_M_lyndon_48 : vm_B q_M_lyndon.2.1 48 51 84 (fun o => .if_icmp .gt o) := ⟨36, vm_db b_M_lyndon_0 (i := 29) rfl, rfl, by decide⟩
theorem d_M_lyndon_51 : vm_D q_M_lyndon.2.1 51 1 52 (.aload_n 0) := vm_dD b_M_lyndon_0 30 rfl rfl
theorem d_M_lyndon_52 : vm_D q_M_lyndon.2.1 52 3 55 (.getfield 83) := vm_dD b_M_lyndon_0 31 rfl rfl
theorem d_M_lyndon_55 : vm_D q_M_lyndon.2.1 55 2 57 (.iload 4) := vm_dD b_M_lyndon_0 32 rfl rfl
theorem d_M_lyndon_57 : vm_D q_M_lyndon.2.1 57 1 58 (.iaload) := vm_dD b_M_lyndon_0 33 rfl rfl
theorem d_M_lyndon_58 : vm_D q_M_lyndon.2.1 58 1 59 (.aload_n 0) := vm_dD b_M_lyndon_0 34 rfl rfl
theorem d_M_lyndon_59 : vm_D q_M_lyndon.2.1 59 3 62 (.getfield 83) := vm_dD b_M_lyndon_0 35 rfl rfl
theorem d_M_lyndon_62 : vm_D q_M_lyndon.2.1 62 2 64 (.iload 5) := vm_dD b_M_lyndon_0 36 rfl rfl
theorem d_M_lyndon_64 : vm_D q_M_lyndon.2.1 64 1 65 (.iaload) := vm_dD b_M_lyndon_0 37 rfl rfl
theorem d_M_lyndon_65 : vm_B q_M_lyndon.2.1 65 68 75 (fun o => .if_icmp .ne o) := ⟨10, vm_db b_M_lyndon_0 (i := 38) rfl, rfl, by decide⟩
theorem d_M_lyndon_76 : vm_D q_M_lyndon.2.1 76 2 78 (.istore 4) := vm_dD b_M_lyndon_0 44 rfl rfl
theorem d_M_lyndon_78 : vm_D q_M_lyndon.2.1 78 3 81 (.iinc 5 1) := vm_dD b_M_lyndon_0 45 rfl rfl
theorem d_M_lyndon_81 : ∃ off : Int, decode q_M_lyndon.2.1 81 = .ok (.goto off, 3) ∧ ((81 : Nat) : Int) + off = ((25 : Nat) : Int) := ⟨-56, vm_db b_M_lyndon_0 (i := 46) rfl, by decide⟩
theorem d_M_lyndon_75 : vm_D q_M_lyndon.2.1 75 1 76 (.iload_n 3) := vm_dD b_M_lyndon_0 43 rfl rfl
theorem d_M_lyndon_68 : vm_D q_M_lyndon.2.1 68 2 70 (.iload 4) := vm_dD b_M_lyndon_0 39 rfl rfl
theorem d_M_lyndon_70 : vm_D q_M_lyndon.2.1 70 1 71 (.iconst 1) := vm_dD b_M_lyndon_0 40 rfl rfl
theorem d_M_lyndon_71 : vm_D q_M_lyndon.2.1 71 1 72 (.iadd) := vm_dD b_M_lyndon_0 41 rfl rfl
theorem d_M_lyndon_72 : ∃ off : Int, decode q_M_lyndon.2.1 72 = .ok (.goto off, 3) ∧ ((72 : Nat) : Int) + off = ((76 : Nat) : Int) := ⟨4, vm_db b_M_lyndon_0 (i := 42) rfl, by decide⟩
theorem d_M_lyndon_84 : vm_D q_M_lyndon.2.1 84 2 86 (.iload 5) := vm_dD b_M_lyndon_0 47 rfl rfl
theorem d_M_lyndon_86 : vm_D q_M_lyndon.2.1 86 2 88 (.iload 4) := vm_dD b_M_lyndon_0 48 rfl rfl
theorem d_M_lyndon_88 : vm_D q_M_lyndon.2.1 88 1 89 (.isub) := vm_dD b_M_lyndon_0 49 rfl rfl
theorem d_M_lyndon_89 : vm_D q_M_lyndon.2.1 89 2 91 (.istore 6) := vm_dD b_M_lyndon_0 50 rfl rfl
theorem d_M_lyndon_91 : vm_D q_M_lyndon.2.1 91 1 92 (.iload_n 3) := vm_dD b_M_lyndon_0 51 rfl rfl
theorem d_M_lyndon_92 : vm_D q_M_lyndon.2.1 92 2 94 (.iload 4) := vm_dD b_M_lyndon_0 52 rfl rfl
theorem d_M_lyndon_94 : vm_B q_M_lyndon.2.1 94 97 116 (fun o => .if_icmp .gt o) := ⟨22, vm_db b_M_lyndon_0 (i := 53) rfl, rfl, by decide⟩
theorem d_M_lyndon_97 : vm_D q_M_lyndon.2.1 97 1 98 (.iload_n 2) := vm_dD b_M_lyndon_0 54 rfl rfl
theorem d_M_lyndon_98 : vm_D q_M_lyndon.2.1 98 1 99 (.iload_n 1) := vm_dD b_M_lyndon_0 55 rfl rfl
theorem d_M_lyndon_99 : vm_B q_M_lyndon.2.1 99 102 105 (fun o => .if_icmp .ne o) := ⟨6, vm_db b_M_lyndon_0 (i := 56) rfl, rfl, by decide⟩
theorem d_M_lyndon_105 : vm_D q_M_lyndon.2.1 105 3 108 (.iinc 2 1) := vm_dD b_M_lyndon_0 59 rfl rfl
theorem d_M_lyndon_108 : vm_D q_M_lyndon.2.1 108 1 109 (.iload_n 3) := vm_dD b_M_lyndon_1 0 rfl rfl
theorem d_M_lyndon_109 : vm_D q_M_lyndon.2.1 109 2 111 (.iload 6) := vm_dD b_M_lyndon_1 1 rfl rfl
theorem d_M_lyndon_111 : vm_D q_M_lyndon.2.1 111 1 112 (.iadd) := vm_dD b_M_lyndon_1 2 rfl rfl
theorem d_M_lyndon_112 : vm_D q_M_lyndon.2.1 112 1 113 (.istore_n 3) := vm_dD b_M_lyndon_1 3 rfl rfl
theorem d_M_lyndon_113 : ∃ off : Int, decode q_M_lyndon.2.1 113 = .ok (.goto off, 3) ∧ ((113 : Nat) : Int) + off = ((91 : Nat) : Int) := ⟨-22, vm_db b_M_lyndon_1 (i := 4) rfl, by decide⟩
theorem d_M_lyndon_102 : vm_D q_M_lyndon.2.1 102 2 104 (.iload 6) := vm_dD b_M_lyndon_0 57 rfl rfl
theorem d_M_lyndon_104 : vm_D q_M_lyndon.2.1 104 1 105 (.ireturn) := vm_dD b_M_lyndon_0 58 rfl rfl
theorem d_M_lyndon_116 : ∃ off : Int, decode q_M_lyndon.2.1 116 = .ok (.goto off, 3) ∧ ((116 : Nat) : Int) + off = ((9 : Nat) : Int) := ⟨-107, vm_db b_M_lyndon_1 (i := 5) rfl, by decide⟩
theorem d_M_lyndon_119 : vm_D q_M_lyndon.2.1 119 1 120 (.iload_n 1) := vm_dD b_M_lyndon_1 6 rfl rfl
theorem d_M_lyndon_120 : vm_D q_M_lyndon.2.1 120 1 121 (.iconst (-1)) := vm_dD b_M_lyndon_1 7 rfl rfl
theorem d_M_lyndon_121 : vm_B q_M_lyndon.2.1 121 124 128 (fun o => .if_icmp .ne o) := ⟨7, vm_db b_M_lyndon_1 (i := 8) rfl, rfl, by decide⟩
theorem d_M_lyndon_128 : vm_D q_M_lyndon.2.1 128 1 129 (.iconst (-1)) := vm_dD b_M_lyndon_1 11 rfl rfl
theorem d_M_lyndon_129 : vm_D q_M_lyndon.2.1 129 1 130 (.ireturn) := vm_dD b_M_lyndon_1 12 rfl rfl
theorem d_M_lyndon_124 : vm_D q_M_lyndon.2.1 124 1 125 (.iload_n 2) := vm_dD b_M_lyndon_1 9 rfl rfl
theorem d_M_lyndon_125 : ∃ off : Int, decode q_M_lyndon.2.1 125 = .ok (.goto off, 3) ∧ ((125 : Nat) : Int) + off = ((129 : Nat) : Int) := ⟨4, vm_db b_M_lyndon_1 (i := 10) rfl, by decide⟩
def q_M_turned : vm_Y := ("RepeatFreeModel", cX11_turned, 4, false, [])
def t_M_turned_0 : List (Nat × Instr × Nat) := [(0, .aload_n 0, 1), (1, .iconst 0, 1), (2, .putfield 3, 3), (5, .aload_n 0, 1), (6, .getfield 184, 3), (9, .ifCond .ne 7, 3), (12, .iconst (-1), 1), (13, .goto 4, 3), (16, .iconst 0, 1), (17, .istore_n 1, 1), (18, .iconst 1, 1), (19, .istore_n 2, 1), (20, .iload_n 2, 1), (21, .aload_n 0, 1), (22, .getfield 184, 3), (25, .if_icmp .ge 93, 3), (28, .iconst 0, 1), (29, .istore_n 3, 1), (30, .iload_n 3, 1), (31, .aload_n 0, 1), (32, .getfield 184, 3), (35, .if_icmp .ge 38, 3), (38, .aload_n 0, 1), (39, .getfield 83, 3), (42, .iload_n 2, 1), (43, .iload_n 3, 1), (44, .iadd, 1), (45, .aload_n 0, 1), (46, .getfield 184, 3), (49, .irem, 1), (50, .iaload, 1), (51, .aload_n 0, 1), (52, .getfield 83, 3), (55, .iload_n 1, 1), (56, .iload_n 3, 1), (57, .iadd, 1), (58, .aload_n 0, 1), (59, .getfield 184, 3), (62, .irem, 1), (63, .iaload, 1), (64, .if_icmp .ne 9, 3), (67, .iinc 3 1, 3), (70, .goto (-40), 3), (73, .iload_n 3, 1), (74, .aload_n 0, 1), (75, .getfield 184, 3), (78, .if_icmp .ge 34, 3), (81, .aload_n 0, 1), (82, .getfield 83, 3), (85, .iload_n 2, 1), (86, .iload_n 3, 1), (87, .iadd, 1), (88, .aload_n 0, 1), (89, .getfield 184, 3), (92, .irem, 1), (93, .iaload, 1), (94, .aload_n 0, 1), (95, .getfield 83, 3), (98, .iload_n 1, 1), (99, .iload_n 3, 1)]
theorem b_M_turned_0 : (t_M_turned_0.all fun q => decide (decode q_M_turned.2.1 q.1 = .ok (q.2.1, q.2.2))) = true := by decide +kernel
def t_M_turned_1 : List (Nat × Instr × Nat) := [(100, .iadd, 1), (101, .aload_n 0, 1), (102, .getfield 184, 3), (105, .irem, 1), (106, .iaload, 1), (107, .if_icmp .ge 5, 3), (110, .iload_n 2, 1), (111, .istore_n 1, 1), (112, .iinc 2 1, 3), (115, .goto (-95), 3), (118, .iload_n 1, 1), (119, .ireturn, 1)]
theorem b_M_turned_1 : (t_M_turned_1.all fun q => decide (decode q_M_turned.2.1 q.1 = .ok (q.2.1, q.2.2))) = true := by decide +kernel
theorem d_M_turned_0 : vm_D q_M_turned.2.1 0 1 1 (.aload_n 0) := vm_dD b_M_turned_0 0 rfl rfl
theorem d_M_turned_1 : vm_D q_M_turned.2.1 1 1 2 (.iconst 0) := vm_dD b_M_turned_0 1 rfl rfl
theorem d_M_turned_2 : vm_D q_M_turned.2.1 2 3 5 (.putfield 3) := vm_dD b_M_turned_0 2 rfl rfl
theorem d_M_turned_5 : vm_D q_M_turned.2.1 5 1 6 (.aload_n 0) := vm_dD b_M_turned_0 3 rfl rfl
theorem d_M_turned_6 : vm_D q_M_turned.2.1 6 3 9 (.getfield 184) := vm_dD b_M_turned_0 4 rfl rfl
theorem d_M_turned_9 : vm_B q_M_turned.2.1 9 12 16 (fun o => .ifCond .ne o) := ⟨7, vm_db b_M_turned_0 (i := 5) rfl, rfl, by decide⟩
theorem d_M_turned_17 : vm_D q_M_turned.2.1 17 1 18 (.istore_n 1) := vm_dD b_M_turned_0 9 rfl rfl
theorem d_M_turned_18 : vm_D q_M_turned.2.1 18 1 19 (.iconst 1) := vm_dD b_M_turned_0 10 rfl rfl
theorem d_M_turned_19 : vm_D q_M_turned.2.1 19 1 20 (.istore_n 2) := vm_dD b_M_turned_0 11 rfl rfl
theorem d_M_turned_20 : vm_D q_M_turned.2.1 20 1 21 (.iload_n 2) := vm_dD b_M_turned_0 12 rfl rfl
theorem d_M_turned_21 : vm_D q_M_turned.2.1 21 1 22 (.aload_n 0) := vm_dD b_M_turned_0 13 rfl rfl
theorem d_M_turned_22 : vm_D q_M_turned.2.1 22 3 25 (.getfield 184) := vm_dD b_M_turned_0 14 rfl rfl
theorem d_M_turned_25 : vm_B q_M_turned.2.1 25 28 118 (fun o => .if_icmp .ge o) := ⟨93, vm_db b_M_turned_0 (i := 15) rfl, rfl, by decide⟩
theorem d_M_turned_28 : vm_D q_M_turned.2.1 28 1 29 (.iconst 0) := vm_dD b_M_turned_0 16 rfl rfl
theorem d_M_turned_29 : vm_D q_M_turned.2.1 29 1 30 (.istore_n 3) := vm_dD b_M_turned_0 17 rfl rfl
theorem d_M_turned_30 : vm_D q_M_turned.2.1 30 1 31 (.iload_n 3) := vm_dD b_M_turned_0 18 rfl rfl
theorem d_M_turned_31 : vm_D q_M_turned.2.1 31 1 32 (.aload_n 0) := vm_dD b_M_turned_0 19 rfl rfl
theorem d_M_turned_32 : vm_D q_M_turned.2.1 32 3 35 (.getfield 184) := vm_dD b_M_turned_0 20 rfl rfl
theorem d_M_turned_35 : vm_B q_M_turned.2.1 35 38 73 (fun o => .if_icmp .ge o) := ⟨38, vm_db b_M_turned_0 (i := 21) rfl, rfl, by decide⟩
theorem d_M_turned_38 : vm_D q_M_turned.2.1 38 1 39 (.aload_n 0) := vm_dD b_M_turned_0 22 rfl rfl
theorem d_M_turned_39 : vm_D q_M_turned.2.1 39 3 42 (.getfield 83) := vm_dD b_M_turned_0 23 rfl rfl
theorem d_M_turned_42 : vm_D q_M_turned.2.1 42 1 43 (.iload_n 2) := vm_dD b_M_turned_0 24 rfl rfl
theorem d_M_turned_43 : vm_D q_M_turned.2.1 43 1 44 (.iload_n 3) := vm_dD b_M_turned_0 25 rfl rfl
theorem d_M_turned_44 : vm_D q_M_turned.2.1 44 1 45 (.iadd) := vm_dD b_M_turned_0 26 rfl rfl
theorem d_M_turned_45 : vm_D q_M_turned.2.1 45 1 46 (.aload_n 0) := vm_dD b_M_turned_0 27 rfl rfl
theorem d_M_turned_46 : vm_D q_M_turned.2.1 46 3 49 (.getfield 184) := vm_dD b_M_turned_0 28 rfl rfl
theorem d_M_turned_49 : vm_D q_M_turned.2.1 49 1 50 (.irem) := vm_dD b_M_turned_0 29 rfl rfl
theorem d_M_turned_50 : vm_D q_M_turned.2.1 50 1 51 (.iaload) := vm_dD b_M_turned_0 30 rfl rfl
theorem d_M_turned_51 : vm_D q_M_turned.2.1 51 1 52 (.aload_n 0) := vm_dD b_M_turned_0 31 rfl rfl
theorem d_M_turned_52 : vm_D q_M_turned.2.1 52 3 55 (.getfield 83) := vm_dD b_M_turned_0 32 rfl rfl
theorem d_M_turned_55 : vm_D q_M_turned.2.1 55 1 56 (.iload_n 1) := vm_dD b_M_turned_0 33 rfl rfl
theorem d_M_turned_56 : vm_D q_M_turned.2.1 56 1 57 (.iload_n 3) := vm_dD b_M_turned_0 34 rfl rfl
theorem d_M_turned_57 : vm_D q_M_turned.2.1 57 1 58 (.iadd) := vm_dD b_M_turned_0 35 rfl rfl
theorem d_M_turned_58 : vm_D q_M_turned.2.1 58 1 59 (.aload_n 0) := vm_dD b_M_turned_0 36 rfl rfl
theorem d_M_turned_59 : vm_D q_M_turned.2.1 59 3 62 (.getfield 184) := vm_dD b_M_turned_0 37 rfl rfl
theorem d_M_turned_62 : vm_D q_M_turned.2.1 62 1 63 (.irem) := vm_dD b_M_turned_0 38 rfl rfl
theorem d_M_turned_63 : vm_D q_M_turned.2.1 63 1 64 (.iaload) := vm_dD b_M_turned_0 39 rfl rfl
theorem d_M_turned_64 : vm_B q_M_turned.2.1 64 67 73 (fun o => .if_icmp .ne o) := ⟨9, vm_db b_M_turned_0 (i := 40) rfl, rfl, by decide⟩
theorem d_M_turned_67 : vm_D q_M_turned.2.1 67 3 70 (.iinc 3 1) := vm_dD b_M_turned_0 41 rfl rfl
theorem d_M_turned_70 : ∃ off : Int, decode q_M_turned.2.1 70 = .ok (.goto off, 3) ∧ ((70 : Nat) : Int) + off = ((30 : Nat) : Int) := ⟨-40, vm_db b_M_turned_0 (i := 42) rfl, by decide⟩
theorem d_M_turned_73 : vm_D q_M_turned.2.1 73 1 74 (.iload_n 3) := vm_dD b_M_turned_0 43 rfl rfl
theorem d_M_turned_74 : vm_D q_M_turned.2.1 74 1 75 (.aload_n 0) := vm_dD b_M_turned_0 44 rfl rfl
theorem d_M_turned_75 : vm_D q_M_turned.2.1 75 3 78 (.getfield 184) := vm_dD b_M_turned_0 45 rfl rfl
theorem d_M_turned_78 : vm_B q_M_turned.2.1 78 81 112 (fun o => .if_icmp .ge o) := ⟨34, vm_db b_M_turned_0 (i := 46) rfl, rfl, by decide⟩
theorem d_M_turned_112 : vm_D q_M_turned.2.1 112 3 115 (.iinc 2 1) := vm_dD b_M_turned_1 8 rfl rfl
theorem d_M_turned_115 : ∃ off : Int, decode q_M_turned.2.1 115 = .ok (.goto off, 3) ∧ ((115 : Nat) : Int) + off = ((20 : Nat) : Int) := ⟨-95, vm_db b_M_turned_1 (i := 9) rfl, by decide⟩
theorem d_M_turned_81 : vm_D q_M_turned.2.1 81 1 82 (.aload_n 0) := vm_dD b_M_turned_0 47 rfl rfl
theorem d_M_turned_82 : vm_D q_M_turned.2.1 82 3 85 (.getfield 83) := vm_dD b_M_turned_0 48 rfl rfl
theorem d_M_turned_85 : vm_D q_M_turned.2.1 85 1 86 (.iload_n 2) := vm_dD b_M_turned_0 49 rfl rfl
theorem d_M_turned_86 : vm_D q_M_turned.2.1 86 1 87 (.iload_n 3) := vm_dD b_M_turned_0 50 rfl rfl
theorem d_M_turned_87 : vm_D q_M_turned.2.1 87 1 88 (.iadd) := vm_dD b_M_turned_0 51 rfl rfl
theorem d_M_turned_88 : vm_D q_M_turned.2.1 88 1 89 (.aload_n 0) := vm_dD b_M_turned_0 52 rfl rfl
theorem d_M_turned_89 : vm_D q_M_turned.2.1 89 3 92 (.getfield 184) := vm_dD b_M_turned_0 53 rfl rfl
theorem d_M_turned_92 : vm_D q_M_turned.2.1 92 1 93 (.irem) := vm_dD b_M_turned_0 54 rfl rfl
theorem d_M_turned_93 : vm_D q_M_turned.2.1 93 1 94 (.iaload) := vm_dD b_M_turned_0 55 rfl rfl
theorem d_M_turned_94 : vm_D q_M_turned.2.1 94 1 95 (.aload_n 0) := vm_dD b_M_turned_0 56 rfl rfl
theorem d_M_turned_95 : vm_D q_M_turned.2.1 95 3 98 (.getfield 83) := vm_dD b_M_turned_0 57 rfl rfl
theorem d_M_turned_98 : vm_D q_M_turned.2.1 98 1 99 (.iload_n 1) := vm_dD b_M_turned_0 58 rfl rfl
theorem d_M_turned_99 : vm_D q_M_turned.2.1 99 1 100 (.iload_n 3) := vm_dD b_M_turned_0 59 rfl rfl
theorem d_M_turned_100 : vm_D q_M_turned.2.1 100 1 101 (.iadd) := vm_dD b_M_turned_1 0 rfl rfl
theorem d_M_turned_101 : vm_D q_M_turned.2.1 101 1 102 (.aload_n 0) := vm_dD b_M_turned_1 1 rfl rfl
theorem d_M_turned_102 : vm_D q_M_turned.2.1 102 3 105 (.getfield 184) := vm_dD b_M_turned_1 2 rfl rfl
theorem d_M_turned_105 : vm_D q_M_turned.2.1 105 1 106 (.irem) := vm_dD b_M_turned_1 3 rfl rfl
theorem d_M_turned_106 : vm_D q_M_turned.2.1 106 1 107 (.iaload) := vm_dD b_M_turned_1 4 rfl rfl
theorem d_M_turned_107 : vm_B q_M_turned.2.1 107 110 112 (fun o => .if_icmp .ge o) := ⟨5, vm_db b_M_turned_1 (i := 5) rfl, rfl, by decide⟩
theorem d_M_turned_110 : vm_D q_M_turned.2.1 110 1 111 (.iload_n 2) := vm_dD b_M_turned_1 6 rfl rfl
theorem d_M_turned_111 : vm_D q_M_turned.2.1 111 1 112 (.istore_n 1) := vm_dD b_M_turned_1 7 rfl rfl
theorem d_M_turned_118 : vm_D q_M_turned.2.1 118 1 119 (.iload_n 1) := vm_dD b_M_turned_1 10 rfl rfl
theorem d_M_turned_119 : vm_D q_M_turned.2.1 119 1 120 (.ireturn) := vm_dD b_M_turned_1 11 rfl rfl
theorem d_M_turned_16 : vm_D q_M_turned.2.1 16 1 17 (.iconst 0) := vm_dD b_M_turned_0 8 rfl rfl
theorem d_M_turned_12 : vm_D q_M_turned.2.1 12 1 13 (.iconst (-1)) := vm_dD b_M_turned_0 6 rfl rfl
theorem d_M_turned_13 : ∃ off : Int, decode q_M_turned.2.1 13 = .ok (.goto off, 3) ∧ ((13 : Nat) : Int) + off = ((17 : Nat) : Int) := ⟨4, vm_db b_M_turned_0 (i := 7) rfl, by decide⟩
def q_M_local : vm_Y := ("RepeatFreeModel", cX11_local, 5, false, [])
def t_M_local_0 : List (Nat × Instr × Nat) := [(0, .aload_n 0, 1), (1, .iconst 0, 1), (2, .putfield 3, 3), (5, .aload_n 0, 1), (6, .iload_n 1, 1), (7, .iconst 1, 1), (8, .aload_n 0, 1), (9, .getfield 184, 3), (12, .iconst 1, 1), (13, .isub, 1), (14, .invokestatic 65, 3), (17, .ifCond .ne 7, 3), (20, .iconst 1, 1), (21, .goto 4, 3), (24, .iconst 0, 1), (25, .iconst 1, 1), (26, .invokevirtual 180, 3), (29, .ifCond .eq 5, 3), (32, .iconst 0, 1), (33, .ireturn, 1), (34, .iconst 0, 1), (35, .istore_n 2, 1), (36, .iconst 0, 1), (37, .istore_n 3, 1), (38, .iload_n 3, 1), (39, .ifCond .ne 72, 3), (42, .iinc 2 1, 3), (45, .iconst 1, 1), (46, .istore_n 3, 1), (47, .iconst 0, 1), (48, .iload_n 1, 1), (49, .iload_n 2, 1), (50, .isub, 1), (51, .invokestatic 254, 3), (54, .istore 4, 2), (56, .iload 4, 2), (58, .iload_n 1, 1), (59, .if_icmp .ge 49, 3), (62, .iload 4, 2), (64, .iload_n 2, 1), (65, .iadd, 1), (66, .aload_n 0, 1), (67, .getfield 184, 3), (70, .if_icmp .ge 38, 3), (73, .iload_n 3, 1), (74, .ifCond .eq 26, 3), (77, .aload_n 0, 1), (78, .getfield 83, 3), (81, .iload 4, 2), (83, .iaload, 1), (84, .aload_n 0, 1), (85, .getfield 83, 3), (88, .iload 4, 2), (90, .iload_n 2, 1), (91, .iadd, 1), (92, .iaload, 1), (93, .if_icmp .ne 7, 3), (96, .iconst 1, 1), (97, .goto 4, 3), (100, .iconst 0, 1)]
theorem b_M_local_0 : (t_M_local_0.all fun q => decide (decode q_M_local.2.1 q.1 = .ok (q.2.1, q.2.2))) = true := by decide +kernel
def t_M_local_1 : List (Nat × Instr × Nat) := [(101, .istore_n 3, 1), (102, .iinc 4 1, 3), (105, .goto (-49), 3), (108, .goto (-70), 3), (111, .iload_n 2, 1), (112, .ireturn, 1)]
theorem b_M_local_1 : (t_M_local_1.all fun q => decide (decode q_M_local.2.1 q.1 = .ok (q.2.1, q.2.2))) = true := by decide +kernel
theorem d_M_local_0 : vm_D q_M_local.2.1 0 1 1 (.aload_n 0) := vm_dD b_M_local_0 0 rfl rfl
theorem d_M_local_1 : vm_D q_M_local.2.1 1 1 2 (.iconst 0) := vm_dD b_M_local_0 1 rfl rfl
theorem d_M_local_2 : vm_D q_M_local.2.1 2 3 5 (.putfield 3) := vm_dD b_M_local_0 2 rfl rfl
theorem d_M_local_5 : vm_D q_M_local.2.1 5 1 6 (.aload_n 0) := vm_dD b_M_local_0 3 rfl rfl
theorem d_M_local_6 : vm_D q_M_local.2.1 6 1 7 (.iload_n 1) := vm_dD b_M_local_0 4 rfl rfl
theorem d_M_local_7 : vm_D q_M_local.2.1 7 1 8 (.iconst 1) := vm_dD b_M_local_0 5 rfl rfl
theorem d_M_local_8 : vm_D q_M_local.2.1 8 1 9 (.aload_n 0) := vm_dD b_M_local_0 6 rfl rfl
theorem d_M_local_9 : vm_D q_M_local.2.1 9 3 12 (.getfield 184) := vm_dD b_M_local_0 7 rfl rfl
theorem d_M_local_12 : vm_D q_M_local.2.1 12 1 13 (.iconst 1) := vm_dD b_M_local_0 8 rfl rfl
theorem d_M_local_13 : vm_D q_M_local.2.1 13 1 14 (.isub) := vm_dD b_M_local_0 9 rfl rfl
theorem d_M_local_14 : vm_D q_M_local.2.1 14 3 17 (.invokestatic 65) := vm_dD b_M_local_0 10 rfl rfl
theorem d_M_local_17 : vm_B q_M_local.2.1 17 20 24 (fun o => .ifCond .ne o) := ⟨7, vm_db b_M_local_0 (i := 11) rfl, rfl, by decide⟩
theorem d_M_local_25 : vm_D q_M_local.2.1 25 1 26 (.iconst 1) := vm_dD b_M_local_0 15 rfl rfl
theorem d_M_local_26 : vm_D q_M_local.2.1 26 3 29 (.invokevirtual 180) := vm_dD b_M_local_0 16 rfl rfl
theorem d_M_local_29 : vm_B q_M_local.2.1 29 32 34 (fun o => .ifCond .eq o) := ⟨5, vm_db b_M_local_0 (i := 17) rfl, rfl, by decide⟩
theorem d_M_local_34 : vm_D q_M_local.2.1 34 1 35 (.iconst 0) := vm_dD b_M_local_0 20 rfl rfl
theorem d_M_local_35 : vm_D q_M_local.2.1 35 1 36 (.istore_n 2) := vm_dD b_M_local_0 21 rfl rfl
theorem d_M_local_36 : vm_D q_M_local.2.1 36 1 37 (.iconst 0) := vm_dD b_M_local_0 22 rfl rfl
theorem d_M_local_37 : vm_D q_M_local.2.1 37 1 38 (.istore_n 3) := vm_dD b_M_local_0 23 rfl rfl
theorem d_M_local_38 : vm_D q_M_local.2.1 38 1 39 (.iload_n 3) := vm_dD b_M_local_0 24 rfl rfl
theorem d_M_local_39 : vm_B q_M_local.2.1 39 42 111 (fun o => .ifCond .ne o) := ⟨72, vm_db b_M_local_0 (i := 25) rfl, rfl, by decide⟩
theorem d_M_local_42 : vm_D q_M_local.2.1 42 3 45 (.iinc 2 1) := vm_dD b_M_local_0 26 rfl rfl
theorem d_M_local_45 : vm_D q_M_local.2.1 45 1 46 (.iconst 1) := vm_dD b_M_local_0 27 rfl rfl
theorem d_M_local_46 : vm_D q_M_local.2.1 46 1 47 (.istore_n 3) := vm_dD b_M_local_0 28 rfl rfl
theorem d_M_local_47 : vm_D q_M_local.2.1 47 1 48 (.iconst 0) := vm_dD b_M_local_0 29 rfl rfl
theorem d_M_local_48 : vm_D q_M_local.2.1 48 1 49 (.iload_n 1) := vm_dD b_M_local_0 30 rfl rfl
theorem d_M_local_49 : vm_D q_M_local.2.1 49 1 50 (.iload_n 2) := vm_dD b_M_local_0 31 rfl rfl
theorem d_M_local_50 : vm_D q_M_local.2.1 50 1 51 (.isub) := vm_dD b_M_local_0 32 rfl rfl
theorem d_M_local_51 : vm_D q_M_local.2.1 51 3 54 (.invokestatic 254) := vm_dD b_M_local_0 33 rfl rfl
theorem d_M_local_54 : vm_D q_M_local.2.1 54 2 56 (.istore 4) := vm_dD b_M_local_0 34 rfl rfl
theorem d_M_local_56 : vm_D q_M_local.2.1 56 2 58 (.iload 4) := vm_dD b_M_local_0 35 rfl rfl
theorem d_M_local_58 : vm_D q_M_local.2.1 58 1 59 (.iload_n 1) := vm_dD b_M_local_0 36 rfl rfl
theorem d_M_local_59 : vm_B q_M_local.2.1 59 62 108 (fun o => .if_icmp .ge o) := ⟨49, vm_db b_M_local_0 (i := 37) rfl, rfl, by decide⟩
theorem d_M_local_62 : vm_D q_M_local.2.1 62 2 64 (.iload 4) := vm_dD b_M_local_0 38 rfl rfl
theorem d_M_local_64 : vm_D q_M_local.2.1 64 1 65 (.iload_n 2) := vm_dD b_M_local_0 39 rfl rfl
theorem d_M_local_65 : vm_D q_M_local.2.1 65 1 66 (.iadd) := vm_dD b_M_local_0 40 rfl rfl
theorem d_M_local_66 : vm_D q_M_local.2.1 66 1 67 (.aload_n 0) := vm_dD b_M_local_0 41 rfl rfl
theorem d_M_local_67 : vm_D q_M_local.2.1 67 3 70 (.getfield 184) := vm_dD b_M_local_0 42 rfl rfl
theorem d_M_local_70 : vm_B q_M_local.2.1 70 73 108 (fun o => .if_icmp .ge o) := ⟨38, vm_db b_M_local_0 (i := 43) rfl, rfl, by decide⟩
theorem d_M_local_73 : vm_D q_M_local.2.1 73 1 74 (.iload_n 3) := vm_dD b_M_local_0 44 rfl rfl
theorem d_M_local_74 : vm_B q_M_local.2.1 74 77 100 (fun o => .ifCond .eq o) := ⟨26, vm_db b_M_local_0 (i := 45) rfl, rfl, by decide⟩
theorem d_M_local_101 : vm_D q_M_local.2.1 101 1 102 (.istore_n 3) := vm_dD b_M_local_1 0 rfl rfl
theorem d_M_local_102 : vm_D q_M_local.2.1 102 3 105 (.iinc 4 1) := vm_dD b_M_local_1 1 rfl rfl
theorem d_M_local_105 : ∃ off : Int, decode q_M_local.2.1 105 = .ok (.goto off, 3) ∧ ((105 : Nat) : Int) + off = ((56 : Nat) : Int) := ⟨-49, vm_db b_M_local_1 (i := 2) rfl, by decide⟩
theorem d_M_local_100 : vm_D q_M_local.2.1 100 1 101 (.iconst 0) := vm_dD b_M_local_0 59 rfl rfl
theorem d_M_local_77 : vm_D q_M_local.2.1 77 1 78 (.aload_n 0) := vm_dD b_M_local_0 46 rfl rfl
theorem d_M_local_78 : vm_D q_M_local.2.1 78 3 81 (.getfield 83) := vm_dD b_M_local_0 47 rfl rfl
theorem d_M_local_81 : vm_D q_M_local.2.1 81 2 83 (.iload 4) := vm_dD b_M_local_0 48 rfl rfl
theorem d_M_local_83 : vm_D q_M_local.2.1 83 1 84 (.iaload) := vm_dD b_M_local_0 49 rfl rfl
theorem d_M_local_84 : vm_D q_M_local.2.1 84 1 85 (.aload_n 0) := vm_dD b_M_local_0 50 rfl rfl
theorem d_M_local_85 : vm_D q_M_local.2.1 85 3 88 (.getfield 83) := vm_dD b_M_local_0 51 rfl rfl
theorem d_M_local_88 : vm_D q_M_local.2.1 88 2 90 (.iload 4) := vm_dD b_M_local_0 52 rfl rfl
theorem d_M_local_90 : vm_D q_M_local.2.1 90 1 91 (.iload_n 2) := vm_dD b_M_local_0 53 rfl rfl
theorem d_M_local_91 : vm_D q_M_local.2.1 91 1 92 (.iadd) := vm_dD b_M_local_0 54 rfl rfl
theorem d_M_local_92 : vm_D q_M_local.2.1 92 1 93 (.iaload) := vm_dD b_M_local_0 55 rfl rfl
theorem d_M_local_93 : vm_B q_M_local.2.1 93 96 100 (fun o => .if_icmp .ne o) := ⟨7, vm_db b_M_local_0 (i := 56) rfl, rfl, by decide⟩
theorem d_M_local_96 : vm_D q_M_local.2.1 96 1 97 (.iconst 1) := vm_dD b_M_local_0 57 rfl rfl
theorem d_M_local_97 : ∃ off : Int, decode q_M_local.2.1 97 = .ok (.goto off, 3) ∧ ((97 : Nat) : Int) + off = ((101 : Nat) : Int) := ⟨4, vm_db b_M_local_0 (i := 58) rfl, by decide⟩
theorem d_M_local_108 : ∃ off : Int, decode q_M_local.2.1 108 = .ok (.goto off, 3) ∧ ((108 : Nat) : Int) + off = ((38 : Nat) : Int) := ⟨-70, vm_db b_M_local_1 (i := 3) rfl, by decide⟩
theorem d_M_local_111 : vm_D q_M_local.2.1 111 1 112 (.iload_n 2) := vm_dD b_M_local_1 4 rfl rfl
theorem d_M_local_112 : vm_D q_M_local.2.1 112 1 113 (.ireturn) := vm_dD b_M_local_1 5 rfl rfl
theorem d_M_local_32 : vm_D q_M_local.2.1 32 1 33 (.iconst 0) := vm_dD b_M_local_0 18 rfl rfl
theorem d_M_local_33 : vm_D q_M_local.2.1 33 1 34 (.ireturn) := vm_dD b_M_local_0 19 rfl rfl
theorem d_M_local_24 : vm_D q_M_local.2.1 24 1 25 (.iconst 0) := vm_dD b_M_local_0 14 rfl rfl
theorem d_M_local_20 : vm_D q_M_local.2.1 20 1 21 (.iconst 1) := vm_dD b_M_local_0 12 rfl rfl
theorem d_M_local_21 : ∃ off : Int, decode q_M_local.2.1 21 = .ok (.goto off, 3) ∧ ((21 : Nat) : Int) + off = ((25 : Nat) : Int) := ⟨4, vm_db b_M_local_0 (i := 13) rfl, by decide⟩
def q_M_imageOf : vm_Y := ("RepeatFreeModel", cX11_imageOf, 4, false, [])
def t_M_imageOf_0 : List (Nat × Instr × Nat) := [(0, .aload_n 0, 1), (1, .getfield 77, 3), (4, .bipush 70, 2), (6, .bipush 6, 2), (8, .iconst 4, 1), (9, .iload_n 1, 1), (10, .imul, 1), (11, .iload_n 2, 1), (12, .iadd, 1), (13, .imul, 1), (14, .iadd, 1), (15, .iload_n 3, 1), (16, .iadd, 1), (17, .iaload, 1), (18, .ireturn, 1)]
theorem b_M_imageOf_0 : (t_M_imageOf_0.all fun q => decide (decode q_M_imageOf.2.1 q.1 = .ok (q.2.1, q.2.2))) = true := by decide +kernel
theorem d_M_imageOf_0 : vm_D q_M_imageOf.2.1 0 1 1 (.aload_n 0) := vm_dD b_M_imageOf_0 0 rfl rfl
theorem d_M_imageOf_1 : vm_D q_M_imageOf.2.1 1 3 4 (.getfield 77) := vm_dD b_M_imageOf_0 1 rfl rfl
theorem d_M_imageOf_4 : vm_D q_M_imageOf.2.1 4 2 6 (.bipush 70) := vm_dD b_M_imageOf_0 2 rfl rfl
theorem d_M_imageOf_6 : vm_D q_M_imageOf.2.1 6 2 8 (.bipush 6) := vm_dD b_M_imageOf_0 3 rfl rfl
theorem d_M_imageOf_8 : vm_D q_M_imageOf.2.1 8 1 9 (.iconst 4) := vm_dD b_M_imageOf_0 4 rfl rfl
theorem d_M_imageOf_9 : vm_D q_M_imageOf.2.1 9 1 10 (.iload_n 1) := vm_dD b_M_imageOf_0 5 rfl rfl
theorem d_M_imageOf_10 : vm_D q_M_imageOf.2.1 10 1 11 (.imul) := vm_dD b_M_imageOf_0 6 rfl rfl
theorem d_M_imageOf_11 : vm_D q_M_imageOf.2.1 11 1 12 (.iload_n 2) := vm_dD b_M_imageOf_0 7 rfl rfl
theorem d_M_imageOf_12 : vm_D q_M_imageOf.2.1 12 1 13 (.iadd) := vm_dD b_M_imageOf_0 8 rfl rfl
theorem d_M_imageOf_13 : vm_D q_M_imageOf.2.1 13 1 14 (.imul) := vm_dD b_M_imageOf_0 9 rfl rfl
theorem d_M_imageOf_14 : vm_D q_M_imageOf.2.1 14 1 15 (.iadd) := vm_dD b_M_imageOf_0 10 rfl rfl
theorem d_M_imageOf_15 : vm_D q_M_imageOf.2.1 15 1 16 (.iload_n 3) := vm_dD b_M_imageOf_0 11 rfl rfl
theorem d_M_imageOf_16 : vm_D q_M_imageOf.2.1 16 1 17 (.iadd) := vm_dD b_M_imageOf_0 12 rfl rfl
theorem d_M_imageOf_17 : vm_D q_M_imageOf.2.1 17 1 18 (.iaload) := vm_dD b_M_imageOf_0 13 rfl rfl
theorem d_M_imageOf_18 : vm_D q_M_imageOf.2.1 18 1 19 (.ireturn) := vm_dD b_M_imageOf_0 14 rfl rfl
def q_M_longOf : vm_Y := ("RepeatFreeModel", cX11_longOf, 3, false, [])
def t_M_longOf_0 : List (Nat × Instr × Nat) := [(0, .aload_n 0, 1), (1, .getfield 77, 3), (4, .bipush 54, 2), (6, .iconst 4, 1), (7, .iload_n 1, 1), (8, .imul, 1), (9, .iadd, 1), (10, .iload_n 2, 1), (11, .iadd, 1), (12, .iaload, 1), (13, .ireturn, 1)]
theorem b_M_longOf_0 : (t_M_longOf_0.all fun q => decide (decode q_M_longOf.2.1 q.1 = .ok (q.2.1, q.2.2))) = true := by decide +kernel
theorem d_M_longOf_0 : vm_D q_M_longOf.2.1 0 1 1 (.aload_n 0) := vm_dD b_M_longOf_0 0 rfl rfl
theorem d_M_longOf_1 : vm_D q_M_longOf.2.1 1 3 4 (.getfield 77) := vm_dD b_M_longOf_0 1 rfl rfl
theorem d_M_longOf_4 : vm_D q_M_longOf.2.1 4 2 6 (.bipush 54) := vm_dD b_M_longOf_0 2 rfl rfl
theorem d_M_longOf_6 : vm_D q_M_longOf.2.1 6 1 7 (.iconst 4) := vm_dD b_M_longOf_0 3 rfl rfl
theorem d_M_longOf_7 : vm_D q_M_longOf.2.1 7 1 8 (.iload_n 1) := vm_dD b_M_longOf_0 4 rfl rfl
theorem d_M_longOf_8 : vm_D q_M_longOf.2.1 8 1 9 (.imul) := vm_dD b_M_longOf_0 5 rfl rfl
theorem d_M_longOf_9 : vm_D q_M_longOf.2.1 9 1 10 (.iadd) := vm_dD b_M_longOf_0 6 rfl rfl
theorem d_M_longOf_10 : vm_D q_M_longOf.2.1 10 1 11 (.iload_n 2) := vm_dD b_M_longOf_0 7 rfl rfl
theorem d_M_longOf_11 : vm_D q_M_longOf.2.1 11 1 12 (.iadd) := vm_dD b_M_longOf_0 8 rfl rfl
theorem d_M_longOf_12 : vm_D q_M_longOf.2.1 12 1 13 (.iaload) := vm_dD b_M_longOf_0 9 rfl rfl
theorem d_M_longOf_13 : vm_D q_M_longOf.2.1 13 1 14 (.ireturn) := vm_dD b_M_longOf_0 10 rfl rfl
def q_M_images : vm_Y := ("RepeatFreeModel", cX11_images, 7, false, [])
def t_M_images_0 : List (Nat × Instr × Nat) := [(0, .iconst 0, 1), (1, .istore 4, 2), (3, .iconst 0, 1), (4, .istore 5, 2), (6, .iload 5, 2), (8, .iload_n 2, 1), (9, .if_icmp .ge 53, 3), (12, .iconst 0, 1), (13, .istore 6, 2), (15, .iload 6, 2), (17, .aload_n 0, 1), (18, .iload_n 3, 1), (19, .aload_n 1, 1), (20, .iload 5, 2), (22, .iaload, 1), (23, .invokevirtual 305, 3), (26, .if_icmp .ge 30, 3), (29, .aload_n 0, 1), (30, .getfield 101, 3), (33, .iload 4, 2), (35, .aload_n 0, 1), (36, .iload_n 3, 1), (37, .aload_n 1, 1), (38, .iload 5, 2), (40, .iaload, 1), (41, .iload 6, 2), (43, .invokevirtual 308, 3), (46, .iastore, 1), (47, .iinc 4 1, 3), (50, .iinc 6 1, 3), (53, .goto (-38), 3), (56, .iinc 5 1, 3), (59, .goto (-53), 3), (62, .iload 4, 2), (64, .ireturn, 1)]
theorem b_M_images_0 : (t_M_images_0.all fun q => decide (decode q_M_images.2.1 q.1 = .ok (q.2.1, q.2.2))) = true := by decide +kernel
theorem d_M_images_0 : vm_D q_M_images.2.1 0 1 1 (.iconst 0) := vm_dD b_M_images_0 0 rfl rfl
theorem d_M_images_1 : vm_D q_M_images.2.1 1 2 3 (.istore 4) := vm_dD b_M_images_0 1 rfl rfl
theorem d_M_images_3 : vm_D q_M_images.2.1 3 1 4 (.iconst 0) := vm_dD b_M_images_0 2 rfl rfl
theorem d_M_images_4 : vm_D q_M_images.2.1 4 2 6 (.istore 5) := vm_dD b_M_images_0 3 rfl rfl
theorem d_M_images_6 : vm_D q_M_images.2.1 6 2 8 (.iload 5) := vm_dD b_M_images_0 4 rfl rfl
theorem d_M_images_8 : vm_D q_M_images.2.1 8 1 9 (.iload_n 2) := vm_dD b_M_images_0 5 rfl rfl
theorem d_M_images_9 : vm_B q_M_images.2.1 9 12 62 (fun o => .if_icmp .ge o) := ⟨53, vm_db b_M_images_0 (i := 6) rfl, rfl, by decide⟩
theorem d_M_images_12 : vm_D q_M_images.2.1 12 1 13 (.iconst 0) := vm_dD b_M_images_0 7 rfl rfl
theorem d_M_images_13 : vm_D q_M_images.2.1 13 2 15 (.istore 6) := vm_dD b_M_images_0 8 rfl rfl
theorem d_M_images_15 : vm_D q_M_images.2.1 15 2 17 (.iload 6) := vm_dD b_M_images_0 9 rfl rfl
theorem d_M_images_17 : vm_D q_M_images.2.1 17 1 18 (.aload_n 0) := vm_dD b_M_images_0 10 rfl rfl
theorem d_M_images_18 : vm_D q_M_images.2.1 18 1 19 (.iload_n 3) := vm_dD b_M_images_0 11 rfl rfl
theorem d_M_images_19 : vm_D q_M_images.2.1 19 1 20 (.aload_n 1) := vm_dD b_M_images_0 12 rfl rfl
theorem d_M_images_20 : vm_D q_M_images.2.1 20 2 22 (.iload 5) := vm_dD b_M_images_0 13 rfl rfl
theorem d_M_images_22 : vm_D q_M_images.2.1 22 1 23 (.iaload) := vm_dD b_M_images_0 14 rfl rfl
theorem d_M_images_23 : vm_D q_M_images.2.1 23 3 26 (.invokevirtual 305) := vm_dD b_M_images_0 15 rfl rfl
theorem d_M_images_26 : vm_B q_M_images.2.1 26 29 56 (fun o => .if_icmp .ge o) := ⟨30, vm_db b_M_images_0 (i := 16) rfl, rfl, by decide⟩
theorem d_M_images_29 : vm_D q_M_images.2.1 29 1 30 (.aload_n 0) := vm_dD b_M_images_0 17 rfl rfl
theorem d_M_images_30 : vm_D q_M_images.2.1 30 3 33 (.getfield 101) := vm_dD b_M_images_0 18 rfl rfl
theorem d_M_images_33 : vm_D q_M_images.2.1 33 2 35 (.iload 4) := vm_dD b_M_images_0 19 rfl rfl
theorem d_M_images_35 : vm_D q_M_images.2.1 35 1 36 (.aload_n 0) := vm_dD b_M_images_0 20 rfl rfl
theorem d_M_images_36 : vm_D q_M_images.2.1 36 1 37 (.iload_n 3) := vm_dD b_M_images_0 21 rfl rfl
theorem d_M_images_37 : vm_D q_M_images.2.1 37 1 38 (.aload_n 1) := vm_dD b_M_images_0 22 rfl rfl
theorem d_M_images_38 : vm_D q_M_images.2.1 38 2 40 (.iload 5) := vm_dD b_M_images_0 23 rfl rfl
theorem d_M_images_40 : vm_D q_M_images.2.1 40 1 41 (.iaload) := vm_dD b_M_images_0 24 rfl rfl
theorem d_M_images_41 : vm_D q_M_images.2.1 41 2 43 (.iload 6) := vm_dD b_M_images_0 25 rfl rfl
theorem d_M_images_43 : vm_D q_M_images.2.1 43 3 46 (.invokevirtual 308) := vm_dD b_M_images_0 26 rfl rfl
theorem d_M_images_46 : vm_D q_M_images.2.1 46 1 47 (.iastore) := vm_dD b_M_images_0 27 rfl rfl
theorem d_M_images_47 : vm_D q_M_images.2.1 47 3 50 (.iinc 4 1) := vm_dD b_M_images_0 28 rfl rfl
theorem d_M_images_50 : vm_D q_M_images.2.1 50 3 53 (.iinc 6 1) := vm_dD b_M_images_0 29 rfl rfl
theorem d_M_images_53 : ∃ off : Int, decode q_M_images.2.1 53 = .ok (.goto off, 3) ∧ ((53 : Nat) : Int) + off = ((15 : Nat) : Int) := ⟨-38, vm_db b_M_images_0 (i := 30) rfl, by decide⟩
theorem d_M_images_56 : vm_D q_M_images.2.1 56 3 59 (.iinc 5 1) := vm_dD b_M_images_0 31 rfl rfl
theorem d_M_images_59 : ∃ off : Int, decode q_M_images.2.1 59 = .ok (.goto off, 3) ∧ ((59 : Nat) : Int) + off = ((6 : Nat) : Int) := ⟨-53, vm_db b_M_images_0 (i := 32) rfl, by decide⟩
theorem d_M_images_62 : vm_D q_M_images.2.1 62 2 64 (.iload 4) := vm_dD b_M_images_0 33 rfl rfl
theorem d_M_images_64 : vm_D q_M_images.2.1 64 1 65 (.ireturn) := vm_dD b_M_images_0 34 rfl rfl
def q_M_doesBreak : vm_Y := ("RepeatFreeModel", cX11_doesBreak, 3, false, [])
def t_M_doesBreak_0 : List (Nat × Instr × Nat) := [(0, .aload_n 0, 1), (1, .aload_n 0, 1), (2, .getfield 98, 3), (5, .iload_n 1, 1), (6, .aload_n 0, 1), (7, .getfield 312, 3), (10, .invokevirtual 315, 3), (13, .istore_n 2, 1), (14, .aload_n 0, 1), (15, .aload_n 0, 1), (16, .getfield 101, 3), (19, .iload_n 2, 1), (20, .invokevirtual 232, 3), (23, .iload_n 2, 1), (24, .if_icmp .ge 7, 3), (27, .iconst 1, 1), (28, .goto 4, 3), (31, .iconst 0, 1), (32, .ireturn, 1)]
theorem b_M_doesBreak_0 : (t_M_doesBreak_0.all fun q => decide (decode q_M_doesBreak.2.1 q.1 = .ok (q.2.1, q.2.2))) = true := by decide +kernel
theorem d_M_doesBreak_0 : vm_D q_M_doesBreak.2.1 0 1 1 (.aload_n 0) := vm_dD b_M_doesBreak_0 0 rfl rfl
theorem d_M_doesBreak_1 : vm_D q_M_doesBreak.2.1 1 1 2 (.aload_n 0) := vm_dD b_M_doesBreak_0 1 rfl rfl
theorem d_M_doesBreak_2 : vm_D q_M_doesBreak.2.1 2 3 5 (.getfield 98) := vm_dD b_M_doesBreak_0 2 rfl rfl
theorem d_M_doesBreak_5 : vm_D q_M_doesBreak.2.1 5 1 6 (.iload_n 1) := vm_dD b_M_doesBreak_0 3 rfl rfl
theorem d_M_doesBreak_6 : vm_D q_M_doesBreak.2.1 6 1 7 (.aload_n 0) := vm_dD b_M_doesBreak_0 4 rfl rfl
theorem d_M_doesBreak_7 : vm_D q_M_doesBreak.2.1 7 3 10 (.getfield 312) := vm_dD b_M_doesBreak_0 5 rfl rfl
theorem d_M_doesBreak_10 : vm_D q_M_doesBreak.2.1 10 3 13 (.invokevirtual 315) := vm_dD b_M_doesBreak_0 6 rfl rfl
theorem d_M_doesBreak_13 : vm_D q_M_doesBreak.2.1 13 1 14 (.istore_n 2) := vm_dD b_M_doesBreak_0 7 rfl rfl
theorem d_M_doesBreak_14 : vm_D q_M_doesBreak.2.1 14 1 15 (.aload_n 0) := vm_dD b_M_doesBreak_0 8 rfl rfl
theorem d_M_doesBreak_15 : vm_D q_M_doesBreak.2.1 15 1 16 (.aload_n 0) := vm_dD b_M_doesBreak_0 9 rfl rfl
theorem d_M_doesBreak_16 : vm_D q_M_doesBreak.2.1 16 3 19 (.getfield 101) := vm_dD b_M_doesBreak_0 10 rfl rfl
theorem d_M_doesBreak_19 : vm_D q_M_doesBreak.2.1 19 1 20 (.iload_n 2) := vm_dD b_M_doesBreak_0 11 rfl rfl
theorem d_M_doesBreak_20 : vm_D q_M_doesBreak.2.1 20 3 23 (.invokevirtual 232) := vm_dD b_M_doesBreak_0 12 rfl rfl
theorem d_M_doesBreak_23 : vm_D q_M_doesBreak.2.1 23 1 24 (.iload_n 2) := vm_dD b_M_doesBreak_0 13 rfl rfl
theorem d_M_doesBreak_24 : vm_B q_M_doesBreak.2.1 24 27 31 (fun o => .if_icmp .ge o) := ⟨7, vm_db b_M_doesBreak_0 (i := 14) rfl, rfl, by decide⟩
theorem d_M_doesBreak_31 : vm_D q_M_doesBreak.2.1 31 1 32 (.iconst 0) := vm_dD b_M_doesBreak_0 17 rfl rfl
theorem d_M_doesBreak_32 : vm_D q_M_doesBreak.2.1 32 1 33 (.ireturn) := vm_dD b_M_doesBreak_0 18 rfl rfl
theorem d_M_doesBreak_27 : vm_D q_M_doesBreak.2.1 27 1 28 (.iconst 1) := vm_dD b_M_doesBreak_0 15 rfl rfl
theorem d_M_doesBreak_28 : ∃ off : Int, decode q_M_doesBreak.2.1 28 = .ok (.goto off, 3) ∧ ((28 : Nat) : Int) + off = ((32 : Nat) : Int) := ⟨4, vm_db b_M_doesBreak_0 (i := 16) rfl, by decide⟩
def q_M_isAheadOf : vm_Y := ("RepeatFreeModel", cX11_isAheadOf, 3, false, [])
def t_M_isAheadOf_0 : List (Nat × Instr × Nat) := [(0, .iconst 0, 1), (1, .istore_n 2, 1), (2, .iload_n 2, 1), (3, .iload_n 1, 1), (4, .if_icmp .ge 24, 3), (7, .aload_n 0, 1), (8, .getfield 98, 3), (11, .iload_n 2, 1), (12, .iaload, 1), (13, .aload_n 0, 1), (14, .getfield 83, 3), (17, .iload_n 2, 1), (18, .iaload, 1), (19, .if_icmp .ne 9, 3), (22, .iinc 2 1, 3), (25, .goto (-23), 3), (28, .iload_n 2, 1), (29, .iload_n 1, 1), (30, .if_icmp .ge 22, 3), (33, .aload_n 0, 1), (34, .getfield 98, 3), (37, .iload_n 2, 1), (38, .iaload, 1), (39, .aload_n 0, 1), (40, .getfield 83, 3), (43, .iload_n 2, 1), (44, .iaload, 1), (45, .if_icmp .ge 7, 3), (48, .iconst 1, 1), (49, .goto 4, 3), (52, .iconst 0, 1), (53, .ireturn, 1)]
theorem b_M_isAheadOf_0 : (t_M_isAheadOf_0.all fun q => decide (decode q_M_isAheadOf.2.1 q.1 = .ok (q.2.1, q.2.2))) = true := by decide +kernel
theorem d_M_isAheadOf_0 : vm_D q_M_isAheadOf.2.1 0 1 1 (.iconst 0) := vm_dD b_M_isAheadOf_0 0 rfl rfl
theorem d_M_isAheadOf_1 : vm_D q_M_isAheadOf.2.1 1 1 2 (.istore_n 2) := vm_dD b_M_isAheadOf_0 1 rfl rfl
theorem d_M_isAheadOf_2 : vm_D q_M_isAheadOf.2.1 2 1 3 (.iload_n 2) := vm_dD b_M_isAheadOf_0 2 rfl rfl
theorem d_M_isAheadOf_3 : vm_D q_M_isAheadOf.2.1 3 1 4 (.iload_n 1) := vm_dD b_M_isAheadOf_0 3 rfl rfl
theorem d_M_isAheadOf_4 : vm_B q_M_isAheadOf.2.1 4 7 28 (fun o => .if_icmp .ge o) := ⟨24, vm_db b_M_isAheadOf_0 (i := 4) rfl, rfl, by decide⟩
theorem d_M_isAheadOf_7 : vm_D q_M_isAheadOf.2.1 7 1 8 (.aload_n 0) := vm_dD b_M_isAheadOf_0 5 rfl rfl
theorem d_M_isAheadOf_8 : vm_D q_M_isAheadOf.2.1 8 3 11 (.getfield 98) := vm_dD b_M_isAheadOf_0 6 rfl rfl
theorem d_M_isAheadOf_11 : vm_D q_M_isAheadOf.2.1 11 1 12 (.iload_n 2) := vm_dD b_M_isAheadOf_0 7 rfl rfl
theorem d_M_isAheadOf_12 : vm_D q_M_isAheadOf.2.1 12 1 13 (.iaload) := vm_dD b_M_isAheadOf_0 8 rfl rfl
theorem d_M_isAheadOf_13 : vm_D q_M_isAheadOf.2.1 13 1 14 (.aload_n 0) := vm_dD b_M_isAheadOf_0 9 rfl rfl
theorem d_M_isAheadOf_14 : vm_D q_M_isAheadOf.2.1 14 3 17 (.getfield 83) := vm_dD b_M_isAheadOf_0 10 rfl rfl
theorem d_M_isAheadOf_17 : vm_D q_M_isAheadOf.2.1 17 1 18 (.iload_n 2) := vm_dD b_M_isAheadOf_0 11 rfl rfl
theorem d_M_isAheadOf_18 : vm_D q_M_isAheadOf.2.1 18 1 19 (.iaload) := vm_dD b_M_isAheadOf_0 12 rfl rfl
theorem d_M_isAheadOf_19 : vm_B q_M_isAheadOf.2.1 19 22 28 (fun o => .if_icmp .ne o) := ⟨9, vm_db b_M_isAheadOf_0 (i := 13) rfl, rfl, by decide⟩
theorem d_M_isAheadOf_22 : vm_D q_M_isAheadOf.2.1 22 3 25 (.iinc 2 1) := vm_dD b_M_isAheadOf_0 14 rfl rfl
theorem d_M_isAheadOf_25 : ∃ off : Int, decode q_M_isAheadOf.2.1 25 = .ok (.goto off, 3) ∧ ((25 : Nat) : Int) + off = ((2 : Nat) : Int) := ⟨-23, vm_db b_M_isAheadOf_0 (i := 15) rfl, by decide⟩
theorem d_M_isAheadOf_28 : vm_D q_M_isAheadOf.2.1 28 1 29 (.iload_n 2) := vm_dD b_M_isAheadOf_0 16 rfl rfl
theorem d_M_isAheadOf_29 : vm_D q_M_isAheadOf.2.1 29 1 30 (.iload_n 1) := vm_dD b_M_isAheadOf_0 17 rfl rfl
theorem d_M_isAheadOf_30 : vm_B q_M_isAheadOf.2.1 30 33 52 (fun o => .if_icmp .ge o) := ⟨22, vm_db b_M_isAheadOf_0 (i := 18) rfl, rfl, by decide⟩
theorem d_M_isAheadOf_52 : vm_D q_M_isAheadOf.2.1 52 1 53 (.iconst 0) := vm_dD b_M_isAheadOf_0 30 rfl rfl
theorem d_M_isAheadOf_53 : vm_D q_M_isAheadOf.2.1 53 1 54 (.ireturn) := vm_dD b_M_isAheadOf_0 31 rfl rfl
theorem d_M_isAheadOf_33 : vm_D q_M_isAheadOf.2.1 33 1 34 (.aload_n 0) := vm_dD b_M_isAheadOf_0 19 rfl rfl
theorem d_M_isAheadOf_34 : vm_D q_M_isAheadOf.2.1 34 3 37 (.getfield 98) := vm_dD b_M_isAheadOf_0 20 rfl rfl
theorem d_M_isAheadOf_37 : vm_D q_M_isAheadOf.2.1 37 1 38 (.iload_n 2) := vm_dD b_M_isAheadOf_0 21 rfl rfl
theorem d_M_isAheadOf_38 : vm_D q_M_isAheadOf.2.1 38 1 39 (.iaload) := vm_dD b_M_isAheadOf_0 22 rfl rfl
theorem d_M_isAheadOf_39 : vm_D q_M_isAheadOf.2.1 39 1 40 (.aload_n 0) := vm_dD b_M_isAheadOf_0 23 rfl rfl
theorem d_M_isAheadOf_40 : vm_D q_M_isAheadOf.2.1 40 3 43 (.getfield 83) := vm_dD b_M_isAheadOf_0 24 rfl rfl
theorem d_M_isAheadOf_43 : vm_D q_M_isAheadOf.2.1 43 1 44 (.iload_n 2) := vm_dD b_M_isAheadOf_0 25 rfl rfl
theorem d_M_isAheadOf_44 : vm_D q_M_isAheadOf.2.1 44 1 45 (.iaload) := vm_dD b_M_isAheadOf_0 26 rfl rfl
theorem d_M_isAheadOf_45 : vm_B q_M_isAheadOf.2.1 45 48 52 (fun o => .if_icmp .ge o) := ⟨7, vm_db b_M_isAheadOf_0 (i := 27) rfl, rfl, by decide⟩
theorem d_M_isAheadOf_48 : vm_D q_M_isAheadOf.2.1 48 1 49 (.iconst 1) := vm_dD b_M_isAheadOf_0 28 rfl rfl
theorem d_M_isAheadOf_49 : ∃ off : Int, decode q_M_isAheadOf.2.1 49 = .ok (.goto off, 3) ∧ ((49 : Nat) : Int) + off = ((53 : Nat) : Int) := ⟨4, vm_db b_M_isAheadOf_0 (i := 29) rfl, by decide⟩
def q_M_isStuck : vm_Y := ("RepeatFreeModel", cX11_isStuck, 3, false, [])
def t_M_isStuck_0 : List (Nat × Instr × Nat) := [(0, .iconst 0, 1), (1, .istore_n 2, 1), (2, .iload_n 2, 1), (3, .aload_n 0, 1), (4, .getfield 77, 3), (7, .iconst 0, 1), (8, .iaload, 1), (9, .if_icmp .ge 32, 3), (12, .aload_n 0, 1), (13, .getfield 98, 3), (16, .iload_n 1, 1), (17, .iload_n 2, 1), (18, .iastore, 1), (19, .aload_n 0, 1), (20, .aload_n 0, 1), (21, .getfield 98, 3), (24, .iload_n 1, 1), (25, .iconst 1, 1), (26, .iadd, 1), (27, .invokevirtual 229, 3), (30, .ifCond .eq 5, 3), (33, .iconst 0, 1), (34, .ireturn, 1), (35, .iinc 2 1, 3), (38, .goto (-36), 3), (41, .iconst 1, 1), (42, .ireturn, 1)]
theorem b_M_isStuck_0 : (t_M_isStuck_0.all fun q => decide (decode q_M_isStuck.2.1 q.1 = .ok (q.2.1, q.2.2))) = true := by decide +kernel
theorem d_M_isStuck_0 : vm_D q_M_isStuck.2.1 0 1 1 (.iconst 0) := vm_dD b_M_isStuck_0 0 rfl rfl
theorem d_M_isStuck_1 : vm_D q_M_isStuck.2.1 1 1 2 (.istore_n 2) := vm_dD b_M_isStuck_0 1 rfl rfl
theorem d_M_isStuck_2 : vm_D q_M_isStuck.2.1 2 1 3 (.iload_n 2) := vm_dD b_M_isStuck_0 2 rfl rfl
theorem d_M_isStuck_3 : vm_D q_M_isStuck.2.1 3 1 4 (.aload_n 0) := vm_dD b_M_isStuck_0 3 rfl rfl
theorem d_M_isStuck_4 : vm_D q_M_isStuck.2.1 4 3 7 (.getfield 77) := vm_dD b_M_isStuck_0 4 rfl rfl
theorem d_M_isStuck_7 : vm_D q_M_isStuck.2.1 7 1 8 (.iconst 0) := vm_dD b_M_isStuck_0 5 rfl rfl
theorem d_M_isStuck_8 : vm_D q_M_isStuck.2.1 8 1 9 (.iaload) := vm_dD b_M_isStuck_0 6 rfl rfl
theorem d_M_isStuck_9 : vm_B q_M_isStuck.2.1 9 12 41 (fun o => .if_icmp .ge o) := ⟨32, vm_db b_M_isStuck_0 (i := 7) rfl, rfl, by decide⟩
theorem d_M_isStuck_12 : vm_D q_M_isStuck.2.1 12 1 13 (.aload_n 0) := vm_dD b_M_isStuck_0 8 rfl rfl
theorem d_M_isStuck_13 : vm_D q_M_isStuck.2.1 13 3 16 (.getfield 98) := vm_dD b_M_isStuck_0 9 rfl rfl
theorem d_M_isStuck_16 : vm_D q_M_isStuck.2.1 16 1 17 (.iload_n 1) := vm_dD b_M_isStuck_0 10 rfl rfl
theorem d_M_isStuck_17 : vm_D q_M_isStuck.2.1 17 1 18 (.iload_n 2) := vm_dD b_M_isStuck_0 11 rfl rfl
theorem d_M_isStuck_18 : vm_D q_M_isStuck.2.1 18 1 19 (.iastore) := vm_dD b_M_isStuck_0 12 rfl rfl
theorem d_M_isStuck_19 : vm_D q_M_isStuck.2.1 19 1 20 (.aload_n 0) := vm_dD b_M_isStuck_0 13 rfl rfl
theorem d_M_isStuck_20 : vm_D q_M_isStuck.2.1 20 1 21 (.aload_n 0) := vm_dD b_M_isStuck_0 14 rfl rfl
theorem d_M_isStuck_21 : vm_D q_M_isStuck.2.1 21 3 24 (.getfield 98) := vm_dD b_M_isStuck_0 15 rfl rfl
theorem d_M_isStuck_24 : vm_D q_M_isStuck.2.1 24 1 25 (.iload_n 1) := vm_dD b_M_isStuck_0 16 rfl rfl
theorem d_M_isStuck_25 : vm_D q_M_isStuck.2.1 25 1 26 (.iconst 1) := vm_dD b_M_isStuck_0 17 rfl rfl
theorem d_M_isStuck_26 : vm_D q_M_isStuck.2.1 26 1 27 (.iadd) := vm_dD b_M_isStuck_0 18 rfl rfl
theorem d_M_isStuck_27 : vm_D q_M_isStuck.2.1 27 3 30 (.invokevirtual 229) := vm_dD b_M_isStuck_0 19 rfl rfl
theorem d_M_isStuck_30 : vm_B q_M_isStuck.2.1 30 33 35 (fun o => .ifCond .eq o) := ⟨5, vm_db b_M_isStuck_0 (i := 20) rfl, rfl, by decide⟩
theorem d_M_isStuck_35 : vm_D q_M_isStuck.2.1 35 3 38 (.iinc 2 1) := vm_dD b_M_isStuck_0 23 rfl rfl
theorem d_M_isStuck_38 : ∃ off : Int, decode q_M_isStuck.2.1 38 = .ok (.goto off, 3) ∧ ((38 : Nat) : Int) + off = ((2 : Nat) : Int) := ⟨-36, vm_db b_M_isStuck_0 (i := 24) rfl, by decide⟩
theorem d_M_isStuck_33 : vm_D q_M_isStuck.2.1 33 1 34 (.iconst 0) := vm_dD b_M_isStuck_0 21 rfl rfl
theorem d_M_isStuck_34 : vm_D q_M_isStuck.2.1 34 1 35 (.ireturn) := vm_dD b_M_isStuck_0 22 rfl rfl
theorem d_M_isStuck_41 : vm_D q_M_isStuck.2.1 41 1 42 (.iconst 1) := vm_dD b_M_isStuck_0 25 rfl rfl
theorem d_M_isStuck_42 : vm_D q_M_isStuck.2.1 42 1 43 (.ireturn) := vm_dD b_M_isStuck_0 26 rfl rfl
def q_M_meets : vm_Y := ("RepeatFreeModel", cX11_meets, 3, false, [])
def t_M_meets_0 : List (Nat × Instr × Nat) := [(0, .iload_n 2, 1), (1, .tableswitch 143 0 4 #[35, 42, 54, 78, 100], 35), (36, .aload_n 0, 1), (37, .iconst 1, 1), (38, .putfield 271, 3), (41, .iconst 0, 1), (42, .ireturn, 1), (43, .aload_n 0, 1), (44, .dup, 1), (45, .getfield 274, 3), (48, .iconst 1, 1), (49, .iadd, 1), (50, .putfield 274, 3), (53, .iconst 1, 1), (54, .ireturn, 1), (55, .aload_n 0, 1), (56, .dup, 1), (57, .getfield 274, 3), (60, .aload_n 0, 1), (61, .iload_n 1, 1), (62, .invokevirtual 277, 3), (65, .ifCond .eq 7, 3), (68, .iconst 1, 1), (69, .goto 4, 3), (72, .iconst 0, 1), (73, .iadd, 1), (74, .putfield 274, 3), (77, .iconst 1, 1), (78, .ireturn, 1), (79, .aload_n 0, 1), (80, .iload_n 1, 1), (81, .invokevirtual 281, 3), (84, .ifCond .ne 5, 3), (87, .iconst 0, 1), (88, .ireturn, 1), (89, .aload_n 0, 1), (90, .dup, 1), (91, .getfield 274, 3), (94, .iconst 1, 1), (95, .iadd, 1), (96, .putfield 274, 3), (99, .iconst 1, 1), (100, .ireturn, 1), (101, .aload_n 0, 1), (102, .aload_n 0, 1), (103, .getfield 274, 3), (106, .aload_n 0, 1), (107, .getfield 284, 3), (110, .if_icmp .ne 7, 3), (113, .iconst 1, 1), (114, .goto 4, 3), (117, .iconst 0, 1), (118, .putfield 271, 3), (121, .aload_n 0, 1), (122, .dup, 1), (123, .getfield 274, 3), (126, .iconst 1, 1), (127, .iadd, 1), (128, .putfield 274, 3), (131, .aload_n 0, 1)]
theorem b_M_meets_0 : (t_M_meets_0.all fun q => decide (decode q_M_meets.2.1 q.1 = .ok (q.2.1, q.2.2))) = true := by decide +kernel
def t_M_meets_1 : List (Nat × Instr × Nat) := [(132, .getfield 271, 3), (135, .ifCond .ne 7, 3), (138, .iconst 1, 1), (139, .goto 4, 3), (142, .iconst 0, 1), (143, .ireturn, 1), (144, .aload_n 0, 1), (145, .aload_n 0, 1), (146, .iload_n 1, 1), (147, .invokevirtual 287, 3), (150, .putfield 271, 3), (153, .aload_n 0, 1), (154, .getfield 271, 3), (157, .ifCond .ne 7, 3), (160, .iconst 1, 1), (161, .goto 4, 3), (164, .iconst 0, 1), (165, .ireturn, 1)]
theorem b_M_meets_1 : (t_M_meets_1.all fun q => decide (decode q_M_meets.2.1 q.1 = .ok (q.2.1, q.2.2))) = true := by decide +kernel
theorem d_M_meets_0 : vm_D q_M_meets.2.1 0 1 1 (.iload_n 2) := vm_dD b_M_meets_0 0 rfl rfl
theorem d_M_meets_1 : decode q_M_meets.2.1 1 = .ok (.tableswitch 143 0 4 #[35, 42, 54, 78, 100], 35) := vm_db b_M_meets_0 (i := 1) rfl
theorem d_M_meets_1_o : ∀ i, i < 5 → ∃ off : Int, (#[35, 42, 54, 78, 100] : Array Int)[i]? = some off ∧ ((1 : Nat) : Int) + off = ((([36, 43, 55, 79, 101] : List Nat).getD i 0 : Nat) : Int) := by
  intro i hi
  match i, hi with
  | 0, _ => exact ⟨_, rfl, rfl⟩
  | 1, _ => exact ⟨_, rfl, rfl⟩
  | 2, _ => exact ⟨_, rfl, rfl⟩
  | 3, _ => exact ⟨_, rfl, rfl⟩
  | 4, _ => exact ⟨_, rfl, rfl⟩
  | k + 5, hi => exact absurd hi (by omega)
theorem d_M_meets_144 : vm_D q_M_meets.2.1 144 1 145 (.aload_n 0) := vm_dD b_M_meets_1 6 rfl rfl
theorem d_M_meets_145 : vm_D q_M_meets.2.1 145 1 146 (.aload_n 0) := vm_dD b_M_meets_1 7 rfl rfl
theorem d_M_meets_146 : vm_D q_M_meets.2.1 146 1 147 (.iload_n 1) := vm_dD b_M_meets_1 8 rfl rfl
theorem d_M_meets_147 : vm_D q_M_meets.2.1 147 3 150 (.invokevirtual 287) := vm_dD b_M_meets_1 9 rfl rfl
theorem d_M_meets_150 : vm_D q_M_meets.2.1 150 3 153 (.putfield 271) := vm_dD b_M_meets_1 10 rfl rfl
theorem d_M_meets_153 : vm_D q_M_meets.2.1 153 1 154 (.aload_n 0) := vm_dD b_M_meets_1 11 rfl rfl
theorem d_M_meets_154 : vm_D q_M_meets.2.1 154 3 157 (.getfield 271) := vm_dD b_M_meets_1 12 rfl rfl
theorem d_M_meets_157 : vm_B q_M_meets.2.1 157 160 164 (fun o => .ifCond .ne o) := ⟨7, vm_db b_M_meets_1 (i := 13) rfl, rfl, by decide⟩
theorem d_M_meets_164 : vm_D q_M_meets.2.1 164 1 165 (.iconst 0) := vm_dD b_M_meets_1 16 rfl rfl
theorem d_M_meets_165 : vm_D q_M_meets.2.1 165 1 166 (.ireturn) := vm_dD b_M_meets_1 17 rfl rfl
theorem d_M_meets_160 : vm_D q_M_meets.2.1 160 1 161 (.iconst 1) := vm_dD b_M_meets_1 14 rfl rfl
theorem d_M_meets_161 : ∃ off : Int, decode q_M_meets.2.1 161 = .ok (.goto off, 3) ∧ ((161 : Nat) : Int) + off = ((165 : Nat) : Int) := ⟨4, vm_db b_M_meets_1 (i := 15) rfl, by decide⟩
theorem d_M_meets_36 : vm_D q_M_meets.2.1 36 1 37 (.aload_n 0) := vm_dD b_M_meets_0 2 rfl rfl
theorem d_M_meets_37 : vm_D q_M_meets.2.1 37 1 38 (.iconst 1) := vm_dD b_M_meets_0 3 rfl rfl
theorem d_M_meets_38 : vm_D q_M_meets.2.1 38 3 41 (.putfield 271) := vm_dD b_M_meets_0 4 rfl rfl
theorem d_M_meets_41 : vm_D q_M_meets.2.1 41 1 42 (.iconst 0) := vm_dD b_M_meets_0 5 rfl rfl
theorem d_M_meets_42 : vm_D q_M_meets.2.1 42 1 43 (.ireturn) := vm_dD b_M_meets_0 6 rfl rfl
theorem d_M_meets_43 : vm_D q_M_meets.2.1 43 1 44 (.aload_n 0) := vm_dD b_M_meets_0 7 rfl rfl
theorem d_M_meets_44 : vm_D q_M_meets.2.1 44 1 45 (.dup) := vm_dD b_M_meets_0 8 rfl rfl
theorem d_M_meets_45 : vm_D q_M_meets.2.1 45 3 48 (.getfield 274) := vm_dD b_M_meets_0 9 rfl rfl
theorem d_M_meets_48 : vm_D q_M_meets.2.1 48 1 49 (.iconst 1) := vm_dD b_M_meets_0 10 rfl rfl
theorem d_M_meets_49 : vm_D q_M_meets.2.1 49 1 50 (.iadd) := vm_dD b_M_meets_0 11 rfl rfl
theorem d_M_meets_50 : vm_D q_M_meets.2.1 50 3 53 (.putfield 274) := vm_dD b_M_meets_0 12 rfl rfl
theorem d_M_meets_53 : vm_D q_M_meets.2.1 53 1 54 (.iconst 1) := vm_dD b_M_meets_0 13 rfl rfl
theorem d_M_meets_54 : vm_D q_M_meets.2.1 54 1 55 (.ireturn) := vm_dD b_M_meets_0 14 rfl rfl
theorem d_M_meets_55 : vm_D q_M_meets.2.1 55 1 56 (.aload_n 0) := vm_dD b_M_meets_0 15 rfl rfl
theorem d_M_meets_56 : vm_D q_M_meets.2.1 56 1 57 (.dup) := vm_dD b_M_meets_0 16 rfl rfl
theorem d_M_meets_57 : vm_D q_M_meets.2.1 57 3 60 (.getfield 274) := vm_dD b_M_meets_0 17 rfl rfl
theorem d_M_meets_60 : vm_D q_M_meets.2.1 60 1 61 (.aload_n 0) := vm_dD b_M_meets_0 18 rfl rfl
theorem d_M_meets_61 : vm_D q_M_meets.2.1 61 1 62 (.iload_n 1) := vm_dD b_M_meets_0 19 rfl rfl
theorem d_M_meets_62 : vm_D q_M_meets.2.1 62 3 65 (.invokevirtual 277) := vm_dD b_M_meets_0 20 rfl rfl
theorem d_M_meets_65 : vm_B q_M_meets.2.1 65 68 72 (fun o => .ifCond .eq o) := ⟨7, vm_db b_M_meets_0 (i := 21) rfl, rfl, by decide⟩
theorem d_M_meets_73 : vm_D q_M_meets.2.1 73 1 74 (.iadd) := vm_dD b_M_meets_0 25 rfl rfl
theorem d_M_meets_74 : vm_D q_M_meets.2.1 74 3 77 (.putfield 274) := vm_dD b_M_meets_0 26 rfl rfl
theorem d_M_meets_77 : vm_D q_M_meets.2.1 77 1 78 (.iconst 1) := vm_dD b_M_meets_0 27 rfl rfl
theorem d_M_meets_78 : vm_D q_M_meets.2.1 78 1 79 (.ireturn) := vm_dD b_M_meets_0 28 rfl rfl
theorem d_M_meets_72 : vm_D q_M_meets.2.1 72 1 73 (.iconst 0) := vm_dD b_M_meets_0 24 rfl rfl
theorem d_M_meets_68 : vm_D q_M_meets.2.1 68 1 69 (.iconst 1) := vm_dD b_M_meets_0 22 rfl rfl
theorem d_M_meets_69 : ∃ off : Int, decode q_M_meets.2.1 69 = .ok (.goto off, 3) ∧ ((69 : Nat) : Int) + off = ((73 : Nat) : Int) := ⟨4, vm_db b_M_meets_0 (i := 23) rfl, by decide⟩
theorem d_M_meets_79 : vm_D q_M_meets.2.1 79 1 80 (.aload_n 0) := vm_dD b_M_meets_0 29 rfl rfl
theorem d_M_meets_80 : vm_D q_M_meets.2.1 80 1 81 (.iload_n 1) := vm_dD b_M_meets_0 30 rfl rfl
theorem d_M_meets_81 : vm_D q_M_meets.2.1 81 3 84 (.invokevirtual 281) := vm_dD b_M_meets_0 31 rfl rfl
theorem d_M_meets_84 : vm_B q_M_meets.2.1 84 87 89 (fun o => .ifCond .ne o) := ⟨5, vm_db b_M_meets_0 (i := 32) rfl, rfl, by decide⟩
theorem d_M_meets_89 : vm_D q_M_meets.2.1 89 1 90 (.aload_n 0) := vm_dD b_M_meets_0 35 rfl rfl
theorem d_M_meets_90 : vm_D q_M_meets.2.1 90 1 91 (.dup) := vm_dD b_M_meets_0 36 rfl rfl
theorem d_M_meets_91 : vm_D q_M_meets.2.1 91 3 94 (.getfield 274) := vm_dD b_M_meets_0 37 rfl rfl
theorem d_M_meets_94 : vm_D q_M_meets.2.1 94 1 95 (.iconst 1) := vm_dD b_M_meets_0 38 rfl rfl
theorem d_M_meets_95 : vm_D q_M_meets.2.1 95 1 96 (.iadd) := vm_dD b_M_meets_0 39 rfl rfl
theorem d_M_meets_96 : vm_D q_M_meets.2.1 96 3 99 (.putfield 274) := vm_dD b_M_meets_0 40 rfl rfl
theorem d_M_meets_99 : vm_D q_M_meets.2.1 99 1 100 (.iconst 1) := vm_dD b_M_meets_0 41 rfl rfl
theorem d_M_meets_100 : vm_D q_M_meets.2.1 100 1 101 (.ireturn) := vm_dD b_M_meets_0 42 rfl rfl
theorem d_M_meets_87 : vm_D q_M_meets.2.1 87 1 88 (.iconst 0) := vm_dD b_M_meets_0 33 rfl rfl
theorem d_M_meets_88 : vm_D q_M_meets.2.1 88 1 89 (.ireturn) := vm_dD b_M_meets_0 34 rfl rfl
theorem d_M_meets_101 : vm_D q_M_meets.2.1 101 1 102 (.aload_n 0) := vm_dD b_M_meets_0 43 rfl rfl
theorem d_M_meets_102 : vm_D q_M_meets.2.1 102 1 103 (.aload_n 0) := vm_dD b_M_meets_0 44 rfl rfl
theorem d_M_meets_103 : vm_D q_M_meets.2.1 103 3 106 (.getfield 274) := vm_dD b_M_meets_0 45 rfl rfl
theorem d_M_meets_106 : vm_D q_M_meets.2.1 106 1 107 (.aload_n 0) := vm_dD b_M_meets_0 46 rfl rfl
theorem d_M_meets_107 : vm_D q_M_meets.2.1 107 3 110 (.getfield 284) := vm_dD b_M_meets_0 47 rfl rfl
theorem d_M_meets_110 : vm_B q_M_meets.2.1 110 113 117 (fun o => .if_icmp .ne o) := ⟨7, vm_db b_M_meets_0 (i := 48) rfl, rfl, by decide⟩
theorem d_M_meets_118 : vm_D q_M_meets.2.1 118 3 121 (.putfield 271) := vm_dD b_M_meets_0 52 rfl rfl
theorem d_M_meets_121 : vm_D q_M_meets.2.1 121 1 122 (.aload_n 0) := vm_dD b_M_meets_0 53 rfl rfl
theorem d_M_meets_122 : vm_D q_M_meets.2.1 122 1 123 (.dup) := vm_dD b_M_meets_0 54 rfl rfl
theorem d_M_meets_123 : vm_D q_M_meets.2.1 123 3 126 (.getfield 274) := vm_dD b_M_meets_0 55 rfl rfl
theorem d_M_meets_126 : vm_D q_M_meets.2.1 126 1 127 (.iconst 1) := vm_dD b_M_meets_0 56 rfl rfl
theorem d_M_meets_127 : vm_D q_M_meets.2.1 127 1 128 (.iadd) := vm_dD b_M_meets_0 57 rfl rfl
theorem d_M_meets_128 : vm_D q_M_meets.2.1 128 3 131 (.putfield 274) := vm_dD b_M_meets_0 58 rfl rfl
theorem d_M_meets_131 : vm_D q_M_meets.2.1 131 1 132 (.aload_n 0) := vm_dD b_M_meets_0 59 rfl rfl
theorem d_M_meets_132 : vm_D q_M_meets.2.1 132 3 135 (.getfield 271) := vm_dD b_M_meets_1 0 rfl rfl
theorem d_M_meets_135 : vm_B q_M_meets.2.1 135 138 142 (fun o => .ifCond .ne o) := ⟨7, vm_db b_M_meets_1 (i := 1) rfl, rfl, by decide⟩
theorem d_M_meets_142 : vm_D q_M_meets.2.1 142 1 143 (.iconst 0) := vm_dD b_M_meets_1 4 rfl rfl
theorem d_M_meets_143 : vm_D q_M_meets.2.1 143 1 144 (.ireturn) := vm_dD b_M_meets_1 5 rfl rfl
theorem d_M_meets_138 : vm_D q_M_meets.2.1 138 1 139 (.iconst 1) := vm_dD b_M_meets_1 2 rfl rfl
theorem d_M_meets_139 : ∃ off : Int, decode q_M_meets.2.1 139 = .ok (.goto off, 3) ∧ ((139 : Nat) : Int) + off = ((143 : Nat) : Int) := ⟨4, vm_db b_M_meets_1 (i := 3) rfl, by decide⟩
theorem d_M_meets_117 : vm_D q_M_meets.2.1 117 1 118 (.iconst 0) := vm_dD b_M_meets_0 51 rfl rfl
theorem d_M_meets_113 : vm_D q_M_meets.2.1 113 1 114 (.iconst 1) := vm_dD b_M_meets_0 49 rfl rfl
theorem d_M_meets_114 : ∃ off : Int, decode q_M_meets.2.1 114 = .ok (.goto off, 3) ∧ ((114 : Nat) : Int) + off = ((118 : Nat) : Int) := ⟨4, vm_db b_M_meets_0 (i := 50) rfl, by decide⟩
def q_M_searches : vm_Y := ("RepeatFreeModel", cX11_searches, 5, false, [])
def t_M_searches_0 : List (Nat × Instr × Nat) := [(0, .iload_n 1, 1), (1, .iload_n 2, 1), (2, .if_icmp .ne 10, 3), (5, .aload_n 0, 1), (6, .iload_n 2, 1), (7, .iload_n 3, 1), (8, .invokevirtual 259, 3), (11, .ireturn, 1), (12, .iconst 0, 1), (13, .istore 4, 2), (15, .iload 4, 2), (17, .aload_n 0, 1), (18, .getfield 77, 3), (21, .iconst 0, 1), (22, .iaload, 1), (23, .if_icmp .ge 72, 3), (26, .aload_n 0, 1), (27, .getfield 262, 3), (30, .sipush 5000, 3), (33, .if_icmp .ne 10, 3), (36, .aload_n 0, 1), (37, .iconst 1, 1), (38, .putfield 265, 3), (41, .iconst 0, 1), (42, .ireturn, 1), (43, .aload_n 0, 1), (44, .dup, 1), (45, .getfield 262, 3), (48, .iconst 1, 1), (49, .iadd, 1), (50, .putfield 262, 3), (53, .aload_n 0, 1), (54, .getfield 98, 3), (57, .iload_n 1, 1), (58, .iload 4, 2), (60, .iastore, 1), (61, .aload_n 0, 1), (62, .aload_n 0, 1), (63, .getfield 98, 3), (66, .iload_n 1, 1), (67, .iconst 1, 1), (68, .iadd, 1), (69, .invokevirtual 229, 3), (72, .ifCond .eq 17, 3), (75, .aload_n 0, 1), (76, .iload_n 1, 1), (77, .iconst 1, 1), (78, .iadd, 1), (79, .iload_n 2, 1), (80, .iload_n 3, 1), (81, .invokevirtual 268, 3), (84, .ifCond .ne 5, 3), (87, .iconst 0, 1), (88, .ireturn, 1), (89, .iinc 4 1, 3), (92, .goto (-77), 3), (95, .iconst 1, 1), (96, .ireturn, 1)]
theorem b_M_searches_0 : (t_M_searches_0.all fun q => decide (decode q_M_searches.2.1 q.1 = .ok (q.2.1, q.2.2))) = true := by decide +kernel
theorem d_M_searches_0 : vm_D q_M_searches.2.1 0 1 1 (.iload_n 1) := vm_dD b_M_searches_0 0 rfl rfl
theorem d_M_searches_1 : vm_D q_M_searches.2.1 1 1 2 (.iload_n 2) := vm_dD b_M_searches_0 1 rfl rfl
theorem d_M_searches_2 : vm_B q_M_searches.2.1 2 5 12 (fun o => .if_icmp .ne o) := ⟨10, vm_db b_M_searches_0 (i := 2) rfl, rfl, by decide⟩
theorem d_M_searches_12 : vm_D q_M_searches.2.1 12 1 13 (.iconst 0) := vm_dD b_M_searches_0 8 rfl rfl
theorem d_M_searches_13 : vm_D q_M_searches.2.1 13 2 15 (.istore 4) := vm_dD b_M_searches_0 9 rfl rfl
theorem d_M_searches_15 : vm_D q_M_searches.2.1 15 2 17 (.iload 4) := vm_dD b_M_searches_0 10 rfl rfl
theorem d_M_searches_17 : vm_D q_M_searches.2.1 17 1 18 (.aload_n 0) := vm_dD b_M_searches_0 11 rfl rfl
theorem d_M_searches_18 : vm_D q_M_searches.2.1 18 3 21 (.getfield 77) := vm_dD b_M_searches_0 12 rfl rfl
theorem d_M_searches_21 : vm_D q_M_searches.2.1 21 1 22 (.iconst 0) := vm_dD b_M_searches_0 13 rfl rfl
theorem d_M_searches_22 : vm_D q_M_searches.2.1 22 1 23 (.iaload) := vm_dD b_M_searches_0 14 rfl rfl
theorem d_M_searches_23 : vm_B q_M_searches.2.1 23 26 95 (fun o => .if_icmp .ge o) := ⟨72, vm_db b_M_searches_0 (i := 15) rfl, rfl, by decide⟩
theorem d_M_searches_26 : vm_D q_M_searches.2.1 26 1 27 (.aload_n 0) := vm_dD b_M_searches_0 16 rfl rfl
theorem d_M_searches_27 : vm_D q_M_searches.2.1 27 3 30 (.getfield 262) := vm_dD b_M_searches_0 17 rfl rfl
theorem d_M_searches_30 : vm_D q_M_searches.2.1 30 3 33 (.sipush 5000) := vm_dD b_M_searches_0 18 rfl rfl
theorem d_M_searches_33 : vm_B q_M_searches.2.1 33 36 43 (fun o => .if_icmp .ne o) := ⟨10, vm_db b_M_searches_0 (i := 19) rfl, rfl, by decide⟩
theorem d_M_searches_43 : vm_D q_M_searches.2.1 43 1 44 (.aload_n 0) := vm_dD b_M_searches_0 25 rfl rfl
theorem d_M_searches_44 : vm_D q_M_searches.2.1 44 1 45 (.dup) := vm_dD b_M_searches_0 26 rfl rfl
theorem d_M_searches_45 : vm_D q_M_searches.2.1 45 3 48 (.getfield 262) := vm_dD b_M_searches_0 27 rfl rfl
theorem d_M_searches_48 : vm_D q_M_searches.2.1 48 1 49 (.iconst 1) := vm_dD b_M_searches_0 28 rfl rfl
theorem d_M_searches_49 : vm_D q_M_searches.2.1 49 1 50 (.iadd) := vm_dD b_M_searches_0 29 rfl rfl
theorem d_M_searches_50 : vm_D q_M_searches.2.1 50 3 53 (.putfield 262) := vm_dD b_M_searches_0 30 rfl rfl
theorem d_M_searches_53 : vm_D q_M_searches.2.1 53 1 54 (.aload_n 0) := vm_dD b_M_searches_0 31 rfl rfl
theorem d_M_searches_54 : vm_D q_M_searches.2.1 54 3 57 (.getfield 98) := vm_dD b_M_searches_0 32 rfl rfl
theorem d_M_searches_57 : vm_D q_M_searches.2.1 57 1 58 (.iload_n 1) := vm_dD b_M_searches_0 33 rfl rfl
theorem d_M_searches_58 : vm_D q_M_searches.2.1 58 2 60 (.iload 4) := vm_dD b_M_searches_0 34 rfl rfl
theorem d_M_searches_60 : vm_D q_M_searches.2.1 60 1 61 (.iastore) := vm_dD b_M_searches_0 35 rfl rfl
theorem d_M_searches_61 : vm_D q_M_searches.2.1 61 1 62 (.aload_n 0) := vm_dD b_M_searches_0 36 rfl rfl
theorem d_M_searches_62 : vm_D q_M_searches.2.1 62 1 63 (.aload_n 0) := vm_dD b_M_searches_0 37 rfl rfl
theorem d_M_searches_63 : vm_D q_M_searches.2.1 63 3 66 (.getfield 98) := vm_dD b_M_searches_0 38 rfl rfl
theorem d_M_searches_66 : vm_D q_M_searches.2.1 66 1 67 (.iload_n 1) := vm_dD b_M_searches_0 39 rfl rfl
theorem d_M_searches_67 : vm_D q_M_searches.2.1 67 1 68 (.iconst 1) := vm_dD b_M_searches_0 40 rfl rfl
theorem d_M_searches_68 : vm_D q_M_searches.2.1 68 1 69 (.iadd) := vm_dD b_M_searches_0 41 rfl rfl
theorem d_M_searches_69 : vm_D q_M_searches.2.1 69 3 72 (.invokevirtual 229) := vm_dD b_M_searches_0 42 rfl rfl
theorem d_M_searches_72 : vm_B q_M_searches.2.1 72 75 89 (fun o => .ifCond .eq o) := ⟨17, vm_db b_M_searches_0 (i := 43) rfl, rfl, by decide⟩
theorem d_M_searches_89 : vm_D q_M_searches.2.1 89 3 92 (.iinc 4 1) := vm_dD b_M_searches_0 54 rfl rfl
theorem d_M_searches_92 : ∃ off : Int, decode q_M_searches.2.1 92 = .ok (.goto off, 3) ∧ ((92 : Nat) : Int) + off = ((15 : Nat) : Int) := ⟨-77, vm_db b_M_searches_0 (i := 55) rfl, by decide⟩
theorem d_M_searches_75 : vm_D q_M_searches.2.1 75 1 76 (.aload_n 0) := vm_dD b_M_searches_0 44 rfl rfl
theorem d_M_searches_76 : vm_D q_M_searches.2.1 76 1 77 (.iload_n 1) := vm_dD b_M_searches_0 45 rfl rfl
theorem d_M_searches_77 : vm_D q_M_searches.2.1 77 1 78 (.iconst 1) := vm_dD b_M_searches_0 46 rfl rfl
theorem d_M_searches_78 : vm_D q_M_searches.2.1 78 1 79 (.iadd) := vm_dD b_M_searches_0 47 rfl rfl
theorem d_M_searches_79 : vm_D q_M_searches.2.1 79 1 80 (.iload_n 2) := vm_dD b_M_searches_0 48 rfl rfl
theorem d_M_searches_80 : vm_D q_M_searches.2.1 80 1 81 (.iload_n 3) := vm_dD b_M_searches_0 49 rfl rfl
theorem d_M_searches_81 : vm_D q_M_searches.2.1 81 3 84 (.invokevirtual 268) := vm_dD b_M_searches_0 50 rfl rfl
theorem d_M_searches_84 : vm_B q_M_searches.2.1 84 87 89 (fun o => .ifCond .ne o) := ⟨5, vm_db b_M_searches_0 (i := 51) rfl, rfl, by decide⟩
theorem d_M_searches_87 : vm_D q_M_searches.2.1 87 1 88 (.iconst 0) := vm_dD b_M_searches_0 52 rfl rfl
theorem d_M_searches_88 : vm_D q_M_searches.2.1 88 1 89 (.ireturn) := vm_dD b_M_searches_0 53 rfl rfl
theorem d_M_searches_36 : vm_D q_M_searches.2.1 36 1 37 (.aload_n 0) := vm_dD b_M_searches_0 20 rfl rfl
theorem d_M_searches_37 : vm_D q_M_searches.2.1 37 1 38 (.iconst 1) := vm_dD b_M_searches_0 21 rfl rfl
theorem d_M_searches_38 : vm_D q_M_searches.2.1 38 3 41 (.putfield 265) := vm_dD b_M_searches_0 22 rfl rfl
theorem d_M_searches_41 : vm_D q_M_searches.2.1 41 1 42 (.iconst 0) := vm_dD b_M_searches_0 23 rfl rfl
theorem d_M_searches_42 : vm_D q_M_searches.2.1 42 1 43 (.ireturn) := vm_dD b_M_searches_0 24 rfl rfl
theorem d_M_searches_95 : vm_D q_M_searches.2.1 95 1 96 (.iconst 1) := vm_dD b_M_searches_0 56 rfl rfl
theorem d_M_searches_96 : vm_D q_M_searches.2.1 96 1 97 (.ireturn) := vm_dD b_M_searches_0 57 rfl rfl
theorem d_M_searches_5 : vm_D q_M_searches.2.1 5 1 6 (.aload_n 0) := vm_dD b_M_searches_0 3 rfl rfl
theorem d_M_searches_6 : vm_D q_M_searches.2.1 6 1 7 (.iload_n 2) := vm_dD b_M_searches_0 4 rfl rfl
theorem d_M_searches_7 : vm_D q_M_searches.2.1 7 1 8 (.iload_n 3) := vm_dD b_M_searches_0 5 rfl rfl
theorem d_M_searches_8 : vm_D q_M_searches.2.1 8 3 11 (.invokevirtual 259) := vm_dD b_M_searches_0 6 rfl rfl
theorem d_M_searches_11 : vm_D q_M_searches.2.1 11 1 12 (.ireturn) := vm_dD b_M_searches_0 7 rfl rfl
def q_M_startsSearch : vm_Y := ("RepeatFreeModel", cX11_startsSearch, 1, false, [])
def t_M_startsSearch_0 : List (Nat × Instr × Nat) := [(0, .aload_n 0, 1), (1, .iconst 0, 1), (2, .putfield 262, 3), (5, .aload_n 0, 1), (6, .iconst 0, 1), (7, .putfield 274, 3), (10, .aload_n 0, 1), (11, .iconst 0, 1), (12, .putfield 265, 3), (15, .aload_n 0, 1), (16, .iconst 0, 1), (17, .putfield 271, 3), (20, .return_, 1)]
theorem b_M_startsSearch_0 : (t_M_startsSearch_0.all fun q => decide (decode q_M_startsSearch.2.1 q.1 = .ok (q.2.1, q.2.2))) = true := by decide +kernel
theorem d_M_startsSearch_0 : vm_D q_M_startsSearch.2.1 0 1 1 (.aload_n 0) := vm_dD b_M_startsSearch_0 0 rfl rfl
theorem d_M_startsSearch_1 : vm_D q_M_startsSearch.2.1 1 1 2 (.iconst 0) := vm_dD b_M_startsSearch_0 1 rfl rfl
theorem d_M_startsSearch_2 : vm_D q_M_startsSearch.2.1 2 3 5 (.putfield 262) := vm_dD b_M_startsSearch_0 2 rfl rfl
theorem d_M_startsSearch_5 : vm_D q_M_startsSearch.2.1 5 1 6 (.aload_n 0) := vm_dD b_M_startsSearch_0 3 rfl rfl
theorem d_M_startsSearch_6 : vm_D q_M_startsSearch.2.1 6 1 7 (.iconst 0) := vm_dD b_M_startsSearch_0 4 rfl rfl
theorem d_M_startsSearch_7 : vm_D q_M_startsSearch.2.1 7 3 10 (.putfield 274) := vm_dD b_M_startsSearch_0 5 rfl rfl
theorem d_M_startsSearch_10 : vm_D q_M_startsSearch.2.1 10 1 11 (.aload_n 0) := vm_dD b_M_startsSearch_0 6 rfl rfl
theorem d_M_startsSearch_11 : vm_D q_M_startsSearch.2.1 11 1 12 (.iconst 0) := vm_dD b_M_startsSearch_0 7 rfl rfl
theorem d_M_startsSearch_12 : vm_D q_M_startsSearch.2.1 12 3 15 (.putfield 265) := vm_dD b_M_startsSearch_0 8 rfl rfl
theorem d_M_startsSearch_15 : vm_D q_M_startsSearch.2.1 15 1 16 (.aload_n 0) := vm_dD b_M_startsSearch_0 9 rfl rfl
theorem d_M_startsSearch_16 : vm_D q_M_startsSearch.2.1 16 1 17 (.iconst 0) := vm_dD b_M_startsSearch_0 10 rfl rfl
theorem d_M_startsSearch_17 : vm_D q_M_startsSearch.2.1 17 3 20 (.putfield 271) := vm_dD b_M_startsSearch_0 11 rfl rfl
theorem d_M_startsSearch_20 : vm_D q_M_startsSearch.2.1 20 1 21 (.return_) := vm_dD b_M_startsSearch_0 12 rfl rfl
def q_M_takes : vm_Y := ("RepeatFreeModel", cX11_takes, 2, false, [])
def t_M_takes_0 : List (Nat × Instr × Nat) := [(0, .iconst 0, 1), (1, .istore_n 1, 1), (2, .iload_n 1, 1), (3, .aload_n 0, 1), (4, .getfield 184, 3), (7, .if_icmp .ge 21, 3), (10, .aload_n 0, 1), (11, .getfield 98, 3), (14, .iload_n 1, 1), (15, .aload_n 0, 1), (16, .getfield 83, 3), (19, .iload_n 1, 1), (20, .iaload, 1), (21, .iastore, 1), (22, .iinc 1 1, 3), (25, .goto (-23), 3), (28, .return_, 1)]
theorem b_M_takes_0 : (t_M_takes_0.all fun q => decide (decode q_M_takes.2.1 q.1 = .ok (q.2.1, q.2.2))) = true := by decide +kernel
theorem d_M_takes_0 : vm_D q_M_takes.2.1 0 1 1 (.iconst 0) := vm_dD b_M_takes_0 0 rfl rfl
theorem d_M_takes_1 : vm_D q_M_takes.2.1 1 1 2 (.istore_n 1) := vm_dD b_M_takes_0 1 rfl rfl
theorem d_M_takes_2 : vm_D q_M_takes.2.1 2 1 3 (.iload_n 1) := vm_dD b_M_takes_0 2 rfl rfl
theorem d_M_takes_3 : vm_D q_M_takes.2.1 3 1 4 (.aload_n 0) := vm_dD b_M_takes_0 3 rfl rfl
theorem d_M_takes_4 : vm_D q_M_takes.2.1 4 3 7 (.getfield 184) := vm_dD b_M_takes_0 4 rfl rfl
theorem d_M_takes_7 : vm_B q_M_takes.2.1 7 10 28 (fun o => .if_icmp .ge o) := ⟨21, vm_db b_M_takes_0 (i := 5) rfl, rfl, by decide⟩
theorem d_M_takes_10 : vm_D q_M_takes.2.1 10 1 11 (.aload_n 0) := vm_dD b_M_takes_0 6 rfl rfl
theorem d_M_takes_11 : vm_D q_M_takes.2.1 11 3 14 (.getfield 98) := vm_dD b_M_takes_0 7 rfl rfl
theorem d_M_takes_14 : vm_D q_M_takes.2.1 14 1 15 (.iload_n 1) := vm_dD b_M_takes_0 8 rfl rfl
theorem d_M_takes_15 : vm_D q_M_takes.2.1 15 1 16 (.aload_n 0) := vm_dD b_M_takes_0 9 rfl rfl
theorem d_M_takes_16 : vm_D q_M_takes.2.1 16 3 19 (.getfield 83) := vm_dD b_M_takes_0 10 rfl rfl
theorem d_M_takes_19 : vm_D q_M_takes.2.1 19 1 20 (.iload_n 1) := vm_dD b_M_takes_0 11 rfl rfl
theorem d_M_takes_20 : vm_D q_M_takes.2.1 20 1 21 (.iaload) := vm_dD b_M_takes_0 12 rfl rfl
theorem d_M_takes_21 : vm_D q_M_takes.2.1 21 1 22 (.iastore) := vm_dD b_M_takes_0 13 rfl rfl
theorem d_M_takes_22 : vm_D q_M_takes.2.1 22 3 25 (.iinc 1 1) := vm_dD b_M_takes_0 14 rfl rfl
theorem d_M_takes_25 : ∃ off : Int, decode q_M_takes.2.1 25 = .ok (.goto off, 3) ∧ ((25 : Nat) : Int) + off = ((2 : Nat) : Int) := ⟨-23, vm_db b_M_takes_0 (i := 15) rfl, by decide⟩
theorem d_M_takes_28 : vm_D q_M_takes.2.1 28 1 29 (.return_) := vm_dD b_M_takes_0 16 rfl rfl
def q_M_becomesFound : vm_Y := ("RepeatFreeModel", cX11_becomesFound, 3, false, [])
def t_M_becomesFound_0 : List (Nat × Instr × Nat) := [(0, .iconst 0, 1), (1, .istore_n 2, 1), (2, .iload_n 2, 1), (3, .iload_n 1, 1), (4, .if_icmp .ge 21, 3), (7, .aload_n 0, 1), (8, .getfield 86, 3), (11, .iload_n 2, 1), (12, .aload_n 0, 1), (13, .getfield 98, 3), (16, .iload_n 2, 1), (17, .iaload, 1), (18, .iastore, 1), (19, .iinc 2 1, 3), (22, .goto (-20), 3), (25, .aload_n 0, 1), (26, .iload_n 1, 1), (27, .invokevirtual 193, 3), (30, .return_, 1)]
theorem b_M_becomesFound_0 : (t_M_becomesFound_0.all fun q => decide (decode q_M_becomesFound.2.1 q.1 = .ok (q.2.1, q.2.2))) = true := by decide +kernel
theorem d_M_becomesFound_0 : vm_D q_M_becomesFound.2.1 0 1 1 (.iconst 0) := vm_dD b_M_becomesFound_0 0 rfl rfl
theorem d_M_becomesFound_1 : vm_D q_M_becomesFound.2.1 1 1 2 (.istore_n 2) := vm_dD b_M_becomesFound_0 1 rfl rfl
theorem d_M_becomesFound_2 : vm_D q_M_becomesFound.2.1 2 1 3 (.iload_n 2) := vm_dD b_M_becomesFound_0 2 rfl rfl
theorem d_M_becomesFound_3 : vm_D q_M_becomesFound.2.1 3 1 4 (.iload_n 1) := vm_dD b_M_becomesFound_0 3 rfl rfl
theorem d_M_becomesFound_4 : vm_B q_M_becomesFound.2.1 4 7 25 (fun o => .if_icmp .ge o) := ⟨21, vm_db b_M_becomesFound_0 (i := 4) rfl, rfl, by decide⟩
theorem d_M_becomesFound_7 : vm_D q_M_becomesFound.2.1 7 1 8 (.aload_n 0) := vm_dD b_M_becomesFound_0 5 rfl rfl
theorem d_M_becomesFound_8 : vm_D q_M_becomesFound.2.1 8 3 11 (.getfield 86) := vm_dD b_M_becomesFound_0 6 rfl rfl
theorem d_M_becomesFound_11 : vm_D q_M_becomesFound.2.1 11 1 12 (.iload_n 2) := vm_dD b_M_becomesFound_0 7 rfl rfl
theorem d_M_becomesFound_12 : vm_D q_M_becomesFound.2.1 12 1 13 (.aload_n 0) := vm_dD b_M_becomesFound_0 8 rfl rfl
theorem d_M_becomesFound_13 : vm_D q_M_becomesFound.2.1 13 3 16 (.getfield 98) := vm_dD b_M_becomesFound_0 9 rfl rfl
theorem d_M_becomesFound_16 : vm_D q_M_becomesFound.2.1 16 1 17 (.iload_n 2) := vm_dD b_M_becomesFound_0 10 rfl rfl
theorem d_M_becomesFound_17 : vm_D q_M_becomesFound.2.1 17 1 18 (.iaload) := vm_dD b_M_becomesFound_0 11 rfl rfl
theorem d_M_becomesFound_18 : vm_D q_M_becomesFound.2.1 18 1 19 (.iastore) := vm_dD b_M_becomesFound_0 12 rfl rfl
theorem d_M_becomesFound_19 : vm_D q_M_becomesFound.2.1 19 3 22 (.iinc 2 1) := vm_dD b_M_becomesFound_0 13 rfl rfl
theorem d_M_becomesFound_22 : ∃ off : Int, decode q_M_becomesFound.2.1 22 = .ok (.goto off, 3) ∧ ((22 : Nat) : Int) + off = ((2 : Nat) : Int) := ⟨-20, vm_db b_M_becomesFound_0 (i := 14) rfl, by decide⟩
theorem d_M_becomesFound_25 : vm_D q_M_becomesFound.2.1 25 1 26 (.aload_n 0) := vm_dD b_M_becomesFound_0 15 rfl rfl
theorem d_M_becomesFound_26 : vm_D q_M_becomesFound.2.1 26 1 27 (.iload_n 1) := vm_dD b_M_becomesFound_0 16 rfl rfl
theorem d_M_becomesFound_27 : vm_D q_M_becomesFound.2.1 27 3 30 (.invokevirtual 193) := vm_dD b_M_becomesFound_0 17 rfl rfl
theorem d_M_becomesFound_30 : vm_D q_M_becomesFound.2.1 30 1 31 (.return_) := vm_dD b_M_becomesFound_0 18 rfl rfl
def q_M_first : vm_Y := ("RepeatFreeModel", cX11_first, 3, false, [])
def t_M_first_0 : List (Nat × Instr × Nat) := [(0, .aload_n 0, 1), (1, .iconst 0, 1), (2, .putfield 3, 3), (5, .aload_n 0, 1), (6, .iload_n 1, 1), (7, .iconst 1, 1), (8, .bipush 40, 2), (10, .invokestatic 65, 3), (13, .ifCond .ne 7, 3), (16, .iconst 1, 1), (17, .goto 4, 3), (20, .iconst 0, 1), (21, .iconst 1, 1), (22, .invokevirtual 180, 3), (25, .ifCond .eq 5, 3), (28, .iconst 0, 1), (29, .ireturn, 1), (30, .aload_n 0, 1), (31, .invokevirtual 290, 3), (34, .aload_n 0, 1), (35, .iconst 0, 1), (36, .iload_n 1, 1), (37, .iconst 0, 1), (38, .invokevirtual 268, 3), (41, .istore_n 2, 1), (42, .aload_n 0, 1), (43, .getfield 265, 3), (46, .ifCond .eq 6, 3), (49, .bipush (-2), 2), (51, .ireturn, 1), (52, .aload_n 0, 1), (53, .getfield 271, 3), (56, .ifCond .ne 5, 3), (59, .iconst (-1), 1), (60, .ireturn, 1), (61, .aload_n 0, 1), (62, .iload_n 1, 1), (63, .invokevirtual 293, 3), (66, .aload_n 0, 1), (67, .getfield 262, 3), (70, .ireturn, 1)]
theorem b_M_first_0 : (t_M_first_0.all fun q => decide (decode q_M_first.2.1 q.1 = .ok (q.2.1, q.2.2))) = true := by decide +kernel
theorem d_M_first_0 : vm_D q_M_first.2.1 0 1 1 (.aload_n 0) := vm_dD b_M_first_0 0 rfl rfl
theorem d_M_first_1 : vm_D q_M_first.2.1 1 1 2 (.iconst 0) := vm_dD b_M_first_0 1 rfl rfl
theorem d_M_first_2 : vm_D q_M_first.2.1 2 3 5 (.putfield 3) := vm_dD b_M_first_0 2 rfl rfl
theorem d_M_first_5 : vm_D q_M_first.2.1 5 1 6 (.aload_n 0) := vm_dD b_M_first_0 3 rfl rfl
theorem d_M_first_6 : vm_D q_M_first.2.1 6 1 7 (.iload_n 1) := vm_dD b_M_first_0 4 rfl rfl
theorem d_M_first_7 : vm_D q_M_first.2.1 7 1 8 (.iconst 1) := vm_dD b_M_first_0 5 rfl rfl
theorem d_M_first_8 : vm_D q_M_first.2.1 8 2 10 (.bipush 40) := vm_dD b_M_first_0 6 rfl rfl
theorem d_M_first_10 : vm_D q_M_first.2.1 10 3 13 (.invokestatic 65) := vm_dD b_M_first_0 7 rfl rfl
theorem d_M_first_13 : vm_B q_M_first.2.1 13 16 20 (fun o => .ifCond .ne o) := ⟨7, vm_db b_M_first_0 (i := 8) rfl, rfl, by decide⟩
theorem d_M_first_21 : vm_D q_M_first.2.1 21 1 22 (.iconst 1) := vm_dD b_M_first_0 12 rfl rfl
theorem d_M_first_22 : vm_D q_M_first.2.1 22 3 25 (.invokevirtual 180) := vm_dD b_M_first_0 13 rfl rfl
theorem d_M_first_25 : vm_B q_M_first.2.1 25 28 30 (fun o => .ifCond .eq o) := ⟨5, vm_db b_M_first_0 (i := 14) rfl, rfl, by decide⟩
theorem d_M_first_30 : vm_D q_M_first.2.1 30 1 31 (.aload_n 0) := vm_dD b_M_first_0 17 rfl rfl
theorem d_M_first_31 : vm_D q_M_first.2.1 31 3 34 (.invokevirtual 290) := vm_dD b_M_first_0 18 rfl rfl
theorem d_M_first_34 : vm_D q_M_first.2.1 34 1 35 (.aload_n 0) := vm_dD b_M_first_0 19 rfl rfl
theorem d_M_first_35 : vm_D q_M_first.2.1 35 1 36 (.iconst 0) := vm_dD b_M_first_0 20 rfl rfl
theorem d_M_first_36 : vm_D q_M_first.2.1 36 1 37 (.iload_n 1) := vm_dD b_M_first_0 21 rfl rfl
theorem d_M_first_37 : vm_D q_M_first.2.1 37 1 38 (.iconst 0) := vm_dD b_M_first_0 22 rfl rfl
theorem d_M_first_38 : vm_D q_M_first.2.1 38 3 41 (.invokevirtual 268) := vm_dD b_M_first_0 23 rfl rfl
theorem d_M_first_41 : vm_D q_M_first.2.1 41 1 42 (.istore_n 2) := vm_dD b_M_first_0 24 rfl rfl
theorem d_M_first_42 : vm_D q_M_first.2.1 42 1 43 (.aload_n 0) := vm_dD b_M_first_0 25 rfl rfl
theorem d_M_first_43 : vm_D q_M_first.2.1 43 3 46 (.getfield 265) := vm_dD b_M_first_0 26 rfl rfl
theorem d_M_first_46 : vm_B q_M_first.2.1 46 49 52 (fun o => .ifCond .eq o) := ⟨6, vm_db b_M_first_0 (i := 27) rfl, rfl, by decide⟩
theorem d_M_first_52 : vm_D q_M_first.2.1 52 1 53 (.aload_n 0) := vm_dD b_M_first_0 30 rfl rfl
theorem d_M_first_53 : vm_D q_M_first.2.1 53 3 56 (.getfield 271) := vm_dD b_M_first_0 31 rfl rfl
theorem d_M_first_56 : vm_B q_M_first.2.1 56 59 61 (fun o => .ifCond .ne o) := ⟨5, vm_db b_M_first_0 (i := 32) rfl, rfl, by decide⟩
theorem d_M_first_61 : vm_D q_M_first.2.1 61 1 62 (.aload_n 0) := vm_dD b_M_first_0 35 rfl rfl
theorem d_M_first_62 : vm_D q_M_first.2.1 62 1 63 (.iload_n 1) := vm_dD b_M_first_0 36 rfl rfl
theorem d_M_first_63 : vm_D q_M_first.2.1 63 3 66 (.invokevirtual 293) := vm_dD b_M_first_0 37 rfl rfl
theorem d_M_first_66 : vm_D q_M_first.2.1 66 1 67 (.aload_n 0) := vm_dD b_M_first_0 38 rfl rfl
theorem d_M_first_67 : vm_D q_M_first.2.1 67 3 70 (.getfield 262) := vm_dD b_M_first_0 39 rfl rfl
theorem d_M_first_70 : vm_D q_M_first.2.1 70 1 71 (.ireturn) := vm_dD b_M_first_0 40 rfl rfl
theorem d_M_first_59 : vm_D q_M_first.2.1 59 1 60 (.iconst (-1)) := vm_dD b_M_first_0 33 rfl rfl
theorem d_M_first_60 : vm_D q_M_first.2.1 60 1 61 (.ireturn) := vm_dD b_M_first_0 34 rfl rfl
theorem d_M_first_49 : vm_D q_M_first.2.1 49 2 51 (.bipush (-2)) := vm_dD b_M_first_0 28 rfl rfl
theorem d_M_first_51 : vm_D q_M_first.2.1 51 1 52 (.ireturn) := vm_dD b_M_first_0 29 rfl rfl
theorem d_M_first_28 : vm_D q_M_first.2.1 28 1 29 (.iconst 0) := vm_dD b_M_first_0 15 rfl rfl
theorem d_M_first_29 : vm_D q_M_first.2.1 29 1 30 (.ireturn) := vm_dD b_M_first_0 16 rfl rfl
theorem d_M_first_20 : vm_D q_M_first.2.1 20 1 21 (.iconst 0) := vm_dD b_M_first_0 11 rfl rfl
theorem d_M_first_16 : vm_D q_M_first.2.1 16 1 17 (.iconst 1) := vm_dD b_M_first_0 9 rfl rfl
theorem d_M_first_17 : ∃ off : Int, decode q_M_first.2.1 17 = .ok (.goto off, 3) ∧ ((17 : Nat) : Int) + off = ((21 : Nat) : Int) := ⟨4, vm_db b_M_first_0 (i := 10) rfl, by decide⟩
def q_M_next : vm_Y := ("RepeatFreeModel", cX11_next, 5, false, [])
def t_M_next_0 : List (Nat × Instr × Nat) := [(0, .aload_n 0, 1), (1, .iconst 0, 1), (2, .putfield 3, 3), (5, .aload_n 0, 1), (6, .aload_n 0, 1), (7, .getfield 184, 3), (10, .bipush 40, 2), (12, .if_icmp .le 7, 3), (15, .iconst 1, 1), (16, .goto 4, 3), (19, .iconst 0, 1), (20, .iconst 1, 1), (21, .invokevirtual 180, 3), (24, .ifCond .eq 5, 3), (27, .iconst 0, 1), (28, .ireturn, 1), (29, .aload_n 0, 1), (30, .invokevirtual 290, 3), (33, .aload_n 0, 1), (34, .invokevirtual 296, 3), (37, .aload_n 0, 1), (38, .aload_n 0, 1), (39, .getfield 83, 3), (42, .aload_n 0, 1), (43, .getfield 184, 3), (46, .invokevirtual 232, 3), (49, .istore_n 1, 1), (50, .aload_n 0, 1), (51, .getfield 184, 3), (54, .iconst 1, 1), (55, .isub, 1), (56, .istore_n 2, 1), (57, .iload_n 2, 1), (58, .ifCond .lt 139, 3), (61, .aload_n 0, 1), (62, .invokevirtual 296, 3), (65, .aload_n 0, 1), (66, .getfield 83, 3), (69, .iload_n 2, 1), (70, .iaload, 1), (71, .iconst 1, 1), (72, .iadd, 1), (73, .istore_n 3, 1), (74, .iload_n 3, 1), (75, .aload_n 0, 1), (76, .getfield 77, 3), (79, .iconst 0, 1), (80, .iaload, 1), (81, .if_icmp .ge 110, 3), (84, .iload_n 2, 1), (85, .iload_n 1, 1), (86, .if_icmp .gt 105, 3), (89, .aload_n 0, 1), (90, .getfield 262, 3), (93, .sipush 5000, 3), (96, .if_icmp .ne 6, 3), (99, .bipush (-2), 2), (101, .ireturn, 1), (102, .aload_n 0, 1), (103, .dup, 1)]
theorem b_M_next_0 : (t_M_next_0.all fun q => decide (decode q_M_next.2.1 q.1 = .ok (q.2.1, q.2.2))) = true := by decide +kernel
def t_M_next_1 : List (Nat × Instr × Nat) := [(104, .getfield 262, 3), (107, .iconst 1, 1), (108, .iadd, 1), (109, .putfield 262, 3), (112, .aload_n 0, 1), (113, .getfield 98, 3), (116, .iload_n 2, 1), (117, .iload_n 3, 1), (118, .iastore, 1), (119, .aload_n 0, 1), (120, .aload_n 0, 1), (121, .getfield 98, 3), (124, .iload_n 2, 1), (125, .iconst 1, 1), (126, .iadd, 1), (127, .invokevirtual 229, 3), (130, .ifCond .eq 18, 3), (133, .aload_n 0, 1), (134, .iload_n 2, 1), (135, .iconst 1, 1), (136, .iadd, 1), (137, .aload_n 0, 1), (138, .getfield 184, 3), (141, .iconst 0, 1), (142, .invokevirtual 268, 3), (145, .ifCond .eq 7, 3), (148, .iconst 1, 1), (149, .goto 4, 3), (152, .iconst 0, 1), (153, .istore 4, 2), (155, .aload_n 0, 1), (156, .getfield 265, 3), (159, .ifCond .eq 6, 3), (162, .bipush (-2), 2), (164, .ireturn, 1), (165, .aload_n 0, 1), (166, .getfield 271, 3), (169, .ifCond .ne 6, 3), (172, .goto 13, 3), (175, .aload_n 0, 1), (176, .aload_n 0, 1), (177, .getfield 184, 3), (180, .invokevirtual 293, 3), (183, .iload_n 2, 1), (184, .ireturn, 1), (185, .iinc 3 1, 3), (188, .goto (-114), 3), (191, .iinc 2 (-1), 3), (194, .goto (-137), 3), (197, .iconst (-1), 1), (198, .ireturn, 1)]
theorem b_M_next_1 : (t_M_next_1.all fun q => decide (decode q_M_next.2.1 q.1 = .ok (q.2.1, q.2.2))) = true := by decide +kernel
theorem d_M_next_0 : vm_D q_M_next.2.1 0 1 1 (.aload_n 0) := vm_dD b_M_next_0 0 rfl rfl
theorem d_M_next_1 : vm_D q_M_next.2.1 1 1 2 (.iconst 0) := vm_dD b_M_next_0 1 rfl rfl
theorem d_M_next_2 : vm_D q_M_next.2.1 2 3 5 (.putfield 3) := vm_dD b_M_next_0 2 rfl rfl
theorem d_M_next_5 : vm_D q_M_next.2.1 5 1 6 (.aload_n 0) := vm_dD b_M_next_0 3 rfl rfl
theorem d_M_next_6 : vm_D q_M_next.2.1 6 1 7 (.aload_n 0) := vm_dD b_M_next_0 4 rfl rfl
theorem d_M_next_7 : vm_D q_M_next.2.1 7 3 10 (.getfield 184) := vm_dD b_M_next_0 5 rfl rfl
theorem d_M_next_10 : vm_D q_M_next.2.1 10 2 12 (.bipush 40) := vm_dD b_M_next_0 6 rfl rfl
theorem d_M_next_12 : vm_B q_M_next.2.1 12 15 19 (fun o => .if_icmp .le o) := ⟨7, vm_db b_M_next_0 (i := 7) rfl, rfl, by decide⟩
theorem d_M_next_20 : vm_D q_M_next.2.1 20 1 21 (.iconst 1) := vm_dD b_M_next_0 11 rfl rfl
theorem d_M_next_21 : vm_D q_M_next.2.1 21 3 24 (.invokevirtual 180) := vm_dD b_M_next_0 12 rfl rfl
theorem d_M_next_24 : vm_B q_M_next.2.1 24 27 29 (fun o => .ifCond .eq o) := ⟨5, vm_db b_M_next_0 (i := 13) rfl, rfl, by decide⟩
theorem d_M_next_29 : vm_D q_M_next.2.1 29 1 30 (.aload_n 0) := vm_dD b_M_next_0 16 rfl rfl
theorem d_M_next_30 : vm_D q_M_next.2.1 30 3 33 (.invokevirtual 290) := vm_dD b_M_next_0 17 rfl rfl
theorem d_M_next_33 : vm_D q_M_next.2.1 33 1 34 (.aload_n 0) := vm_dD b_M_next_0 18 rfl rfl
theorem d_M_next_34 : vm_D q_M_next.2.1 34 3 37 (.invokevirtual 296) := vm_dD b_M_next_0 19 rfl rfl
theorem d_M_next_37 : vm_D q_M_next.2.1 37 1 38 (.aload_n 0) := vm_dD b_M_next_0 20 rfl rfl
theorem d_M_next_38 : vm_D q_M_next.2.1 38 1 39 (.aload_n 0) := vm_dD b_M_next_0 21 rfl rfl
theorem d_M_next_39 : vm_D q_M_next.2.1 39 3 42 (.getfield 83) := vm_dD b_M_next_0 22 rfl rfl
theorem d_M_next_42 : vm_D q_M_next.2.1 42 1 43 (.aload_n 0) := vm_dD b_M_next_0 23 rfl rfl
theorem d_M_next_43 : vm_D q_M_next.2.1 43 3 46 (.getfield 184) := vm_dD b_M_next_0 24 rfl rfl
theorem d_M_next_46 : vm_D q_M_next.2.1 46 3 49 (.invokevirtual 232) := vm_dD b_M_next_0 25 rfl rfl
theorem d_M_next_49 : vm_D q_M_next.2.1 49 1 50 (.istore_n 1) := vm_dD b_M_next_0 26 rfl rfl
theorem d_M_next_50 : vm_D q_M_next.2.1 50 1 51 (.aload_n 0) := vm_dD b_M_next_0 27 rfl rfl
theorem d_M_next_51 : vm_D q_M_next.2.1 51 3 54 (.getfield 184) := vm_dD b_M_next_0 28 rfl rfl
theorem d_M_next_54 : vm_D q_M_next.2.1 54 1 55 (.iconst 1) := vm_dD b_M_next_0 29 rfl rfl
theorem d_M_next_55 : vm_D q_M_next.2.1 55 1 56 (.isub) := vm_dD b_M_next_0 30 rfl rfl
theorem d_M_next_56 : vm_D q_M_next.2.1 56 1 57 (.istore_n 2) := vm_dD b_M_next_0 31 rfl rfl
theorem d_M_next_57 : vm_D q_M_next.2.1 57 1 58 (.iload_n 2) := vm_dD b_M_next_0 32 rfl rfl
theorem d_M_next_58 : vm_B q_M_next.2.1 58 61 197 (fun o => .ifCond .lt o) := ⟨139, vm_db b_M_next_0 (i := 33) rfl, rfl, by decide⟩
theorem d_M_next_61 : vm_D q_M_next.2.1 61 1 62 (.aload_n 0) := vm_dD b_M_next_0 34 rfl rfl
theorem d_M_next_62 : vm_D q_M_next.2.1 62 3 65 (.invokevirtual 296) := vm_dD b_M_next_0 35 rfl rfl
theorem d_M_next_65 : vm_D q_M_next.2.1 65 1 66 (.aload_n 0) := vm_dD b_M_next_0 36 rfl rfl
theorem d_M_next_66 : vm_D q_M_next.2.1 66 3 69 (.getfield 83) := vm_dD b_M_next_0 37 rfl rfl
theorem d_M_next_69 : vm_D q_M_next.2.1 69 1 70 (.iload_n 2) := vm_dD b_M_next_0 38 rfl rfl
theorem d_M_next_70 : vm_D q_M_next.2.1 70 1 71 (.iaload) := vm_dD b_M_next_0 39 rfl rfl
theorem d_M_next_71 : vm_D q_M_next.2.1 71 1 72 (.iconst 1) := vm_dD b_M_next_0 40 rfl rfl
theorem d_M_next_72 : vm_D q_M_next.2.1 72 1 73 (.iadd) := vm_dD b_M_next_0 41 rfl rfl
theorem d_M_next_73 : vm_D q_M_next.2.1 73 1 74 (.istore_n 3) := vm_dD b_M_next_0 42 rfl rfl
theorem d_M_next_74 : vm_D q_M_next.2.1 74 1 75 (.iload_n 3) := vm_dD b_M_next_0 43 rfl rfl
theorem d_M_next_75 : vm_D q_M_next.2.1 75 1 76 (.aload_n 0) := vm_dD b_M_next_0 44 rfl rfl
theorem d_M_next_76 : vm_D q_M_next.2.1 76 3 79 (.getfield 77) := vm_dD b_M_next_0 45 rfl rfl
theorem d_M_next_79 : vm_D q_M_next.2.1 79 1 80 (.iconst 0) := vm_dD b_M_next_0 46 rfl rfl
theorem d_M_next_80 : vm_D q_M_next.2.1 80 1 81 (.iaload) := vm_dD b_M_next_0 47 rfl rfl
theorem d_M_next_81 : vm_B q_M_next.2.1 81 84 191 (fun o => .if_icmp .ge o) := ⟨110, vm_db b_M_next_0 (i := 48) rfl, rfl, by decide⟩
theorem d_M_next_84 : vm_D q_M_next.2.1 84 1 85 (.iload_n 2) := vm_dD b_M_next_0 49 rfl rfl
theorem d_M_next_85 : vm_D q_M_next.2.1 85 1 86 (.iload_n 1) := vm_dD b_M_next_0 50 rfl rfl
theorem d_M_next_86 : vm_B q_M_next.2.1 86 89 191 (fun o => .if_icmp .gt o) := ⟨105, vm_db b_M_next_0 (i := 51) rfl, rfl, by decide⟩
theorem d_M_next_89 : vm_D q_M_next.2.1 89 1 90 (.aload_n 0) := vm_dD b_M_next_0 52 rfl rfl
theorem d_M_next_90 : vm_D q_M_next.2.1 90 3 93 (.getfield 262) := vm_dD b_M_next_0 53 rfl rfl
theorem d_M_next_93 : vm_D q_M_next.2.1 93 3 96 (.sipush 5000) := vm_dD b_M_next_0 54 rfl rfl
theorem d_M_next_96 : vm_B q_M_next.2.1 96 99 102 (fun o => .if_icmp .ne o) := ⟨6, vm_db b_M_next_0 (i := 55) rfl, rfl, by decide⟩
theorem d_M_next_102 : vm_D q_M_next.2.1 102 1 103 (.aload_n 0) := vm_dD b_M_next_0 58 rfl rfl
theorem d_M_next_103 : vm_D q_M_next.2.1 103 1 104 (.dup) := vm_dD b_M_next_0 59 rfl rfl
theorem d_M_next_104 : vm_D q_M_next.2.1 104 3 107 (.getfield 262) := vm_dD b_M_next_1 0 rfl rfl
theorem d_M_next_107 : vm_D q_M_next.2.1 107 1 108 (.iconst 1) := vm_dD b_M_next_1 1 rfl rfl
theorem d_M_next_108 : vm_D q_M_next.2.1 108 1 109 (.iadd) := vm_dD b_M_next_1 2 rfl rfl
theorem d_M_next_109 : vm_D q_M_next.2.1 109 3 112 (.putfield 262) := vm_dD b_M_next_1 3 rfl rfl
theorem d_M_next_112 : vm_D q_M_next.2.1 112 1 113 (.aload_n 0) := vm_dD b_M_next_1 4 rfl rfl
theorem d_M_next_113 : vm_D q_M_next.2.1 113 3 116 (.getfield 98) := vm_dD b_M_next_1 5 rfl rfl
theorem d_M_next_116 : vm_D q_M_next.2.1 116 1 117 (.iload_n 2) := vm_dD b_M_next_1 6 rfl rfl
theorem d_M_next_117 : vm_D q_M_next.2.1 117 1 118 (.iload_n 3) := vm_dD b_M_next_1 7 rfl rfl
theorem d_M_next_118 : vm_D q_M_next.2.1 118 1 119 (.iastore) := vm_dD b_M_next_1 8 rfl rfl
theorem d_M_next_119 : vm_D q_M_next.2.1 119 1 120 (.aload_n 0) := vm_dD b_M_next_1 9 rfl rfl
theorem d_M_next_120 : vm_D q_M_next.2.1 120 1 121 (.aload_n 0) := vm_dD b_M_next_1 10 rfl rfl
theorem d_M_next_121 : vm_D q_M_next.2.1 121 3 124 (.getfield 98) := vm_dD b_M_next_1 11 rfl rfl
theorem d_M_next_124 : vm_D q_M_next.2.1 124 1 125 (.iload_n 2) := vm_dD b_M_next_1 12 rfl rfl
theorem d_M_next_125 : vm_D q_M_next.2.1 125 1 126 (.iconst 1) := vm_dD b_M_next_1 13 rfl rfl
theorem d_M_next_126 : vm_D q_M_next.2.1 126 1 127 (.iadd) := vm_dD b_M_next_1 14 rfl rfl
theorem d_M_next_127 : vm_D q_M_next.2.1 127 3 130 (.invokevirtual 229) := vm_dD b_M_next_1 15 rfl rfl
theorem d_M_next_130 : vm_B q_M_next.2.1 130 133 148 (fun o => .ifCond .eq o) := ⟨18, vm_db b_M_next_1 (i := 16) rfl, rfl, by decide⟩
theorem d_M_next_153 : vm_D q_M_next.2.1 153 2 155 (.istore 4) := vm_dD b_M_next_1 29 rfl rfl
theorem d_M_next_155 : vm_D q_M_next.2.1 155 1 156 (.aload_n 0) := vm_dD b_M_next_1 30 rfl rfl
theorem d_M_next_156 : vm_D q_M_next.2.1 156 3 159 (.getfield 265) := vm_dD b_M_next_1 31 rfl rfl
theorem d_M_next_159 : vm_B q_M_next.2.1 159 162 165 (fun o => .ifCond .eq o) := ⟨6, vm_db b_M_next_1 (i := 32) rfl, rfl, by decide⟩
theorem d_M_next_165 : vm_D q_M_next.2.1 165 1 166 (.aload_n 0) := vm_dD b_M_next_1 35 rfl rfl
theorem d_M_next_166 : vm_D q_M_next.2.1 166 3 169 (.getfield 271) := vm_dD b_M_next_1 36 rfl rfl
theorem d_M_next_169 : vm_B q_M_next.2.1 169 172 175 (fun o => .ifCond .ne o) := ⟨6, vm_db b_M_next_1 (i := 37) rfl, rfl, by decide⟩
theorem d_M_next_175 : vm_D q_M_next.2.1 175 1 176 (.aload_n 0) := vm_dD b_M_next_1 39 rfl rfl
theorem d_M_next_176 : vm_D q_M_next.2.1 176 1 177 (.aload_n 0) := vm_dD b_M_next_1 40 rfl rfl
theorem d_M_next_177 : vm_D q_M_next.2.1 177 3 180 (.getfield 184) := vm_dD b_M_next_1 41 rfl rfl
theorem d_M_next_180 : vm_D q_M_next.2.1 180 3 183 (.invokevirtual 293) := vm_dD b_M_next_1 42 rfl rfl
theorem d_M_next_183 : vm_D q_M_next.2.1 183 1 184 (.iload_n 2) := vm_dD b_M_next_1 43 rfl rfl
theorem d_M_next_184 : vm_D q_M_next.2.1 184 1 185 (.ireturn) := vm_dD b_M_next_1 44 rfl rfl
theorem d_M_next_172 : ∃ off : Int, decode q_M_next.2.1 172 = .ok (.goto off, 3) ∧ ((172 : Nat) : Int) + off = ((185 : Nat) : Int) := ⟨13, vm_db b_M_next_1 (i := 38) rfl, by decide⟩
theorem d_M_next_185 : vm_D q_M_next.2.1 185 3 188 (.iinc 3 1) := vm_dD b_M_next_1 45 rfl rfl
theorem d_M_next_188 : ∃ off : Int, decode q_M_next.2.1 188 = .ok (.goto off, 3) ∧ ((188 : Nat) : Int) + off = ((74 : Nat) : Int) := ⟨-114, vm_db b_M_next_1 (i := 46) rfl, by decide⟩
theorem d_M_next_162 : vm_D q_M_next.2.1 162 2 164 (.bipush (-2)) := vm_dD b_M_next_1 33 rfl rfl
theorem d_M_next_164 : vm_D q_M_next.2.1 164 1 165 (.ireturn) := vm_dD b_M_next_1 34 rfl rfl
theorem d_M_next_148 : vm_D q_M_next.2.1 148 1 149 (.iconst 1) := vm_dD b_M_next_1 26 rfl rfl
theorem d_M_next_149 : ∃ off : Int, decode q_M_next.2.1 149 = .ok (.goto off, 3) ∧ ((149 : Nat) : Int) + off = ((153 : Nat) : Int) := ⟨4, vm_db b_M_next_1 (i := 27) rfl, by decide⟩
theorem d_M_next_133 : vm_D q_M_next.2.1 133 1 134 (.aload_n 0) := vm_dD b_M_next_1 17 rfl rfl
theorem d_M_next_134 : vm_D q_M_next.2.1 134 1 135 (.iload_n 2) := vm_dD b_M_next_1 18 rfl rfl
theorem d_M_next_135 : vm_D q_M_next.2.1 135 1 136 (.iconst 1) := vm_dD b_M_next_1 19 rfl rfl
theorem d_M_next_136 : vm_D q_M_next.2.1 136 1 137 (.iadd) := vm_dD b_M_next_1 20 rfl rfl
theorem d_M_next_137 : vm_D q_M_next.2.1 137 1 138 (.aload_n 0) := vm_dD b_M_next_1 21 rfl rfl
theorem d_M_next_138 : vm_D q_M_next.2.1 138 3 141 (.getfield 184) := vm_dD b_M_next_1 22 rfl rfl
theorem d_M_next_141 : vm_D q_M_next.2.1 141 1 142 (.iconst 0) := vm_dD b_M_next_1 23 rfl rfl
theorem d_M_next_142 : vm_D q_M_next.2.1 142 3 145 (.invokevirtual 268) := vm_dD b_M_next_1 24 rfl rfl
theorem d_M_next_145 : vm_B q_M_next.2.1 145 148 152 (fun o => .ifCond .eq o) := ⟨7, vm_db b_M_next_1 (i := 25) rfl, rfl, by decide⟩
theorem d_M_next_152 : vm_D q_M_next.2.1 152 1 153 (.iconst 0) := vm_dD b_M_next_1 28 rfl rfl
theorem d_M_next_99 : vm_D q_M_next.2.1 99 2 101 (.bipush (-2)) := vm_dD b_M_next_0 56 rfl rfl
theorem d_M_next_101 : vm_D q_M_next.2.1 101 1 102 (.ireturn) := vm_dD b_M_next_0 57 rfl rfl
theorem d_M_next_191 : vm_D q_M_next.2.1 191 3 194 (.iinc 2 (-1)) := vm_dD b_M_next_1 47 rfl rfl
theorem d_M_next_194 : ∃ off : Int, decode q_M_next.2.1 194 = .ok (.goto off, 3) ∧ ((194 : Nat) : Int) + off = ((57 : Nat) : Int) := ⟨-137, vm_db b_M_next_1 (i := 48) rfl, by decide⟩
theorem d_M_next_197 : vm_D q_M_next.2.1 197 1 198 (.iconst (-1)) := vm_dD b_M_next_1 49 rfl rfl
theorem d_M_next_198 : vm_D q_M_next.2.1 198 1 199 (.ireturn) := vm_dD b_M_next_1 50 rfl rfl
theorem d_M_next_27 : vm_D q_M_next.2.1 27 1 28 (.iconst 0) := vm_dD b_M_next_0 14 rfl rfl
theorem d_M_next_28 : vm_D q_M_next.2.1 28 1 29 (.ireturn) := vm_dD b_M_next_0 15 rfl rfl
theorem d_M_next_19 : vm_D q_M_next.2.1 19 1 20 (.iconst 0) := vm_dD b_M_next_0 10 rfl rfl
theorem d_M_next_15 : vm_D q_M_next.2.1 15 1 16 (.iconst 1) := vm_dD b_M_next_0 8 rfl rfl
theorem d_M_next_16 : ∃ off : Int, decode q_M_next.2.1 16 = .ok (.goto off, 3) ∧ ((16 : Nat) : Int) + off = ((20 : Nat) : Int) := ⟨4, vm_db b_M_next_0 (i := 9) rfl, by decide⟩
def q_M_countBy : vm_Y := ("RepeatFreeModel", cX11_countBy, 4, false, [])
def t_M_countBy_0 : List (Nat × Instr × Nat) := [(0, .aload_n 0, 1), (1, .invokevirtual 290, 3), (4, .aload_n 0, 1), (5, .iconst 0, 1), (6, .iload_n 1, 1), (7, .iload_n 2, 1), (8, .invokevirtual 268, 3), (11, .istore_n 3, 1), (12, .aload_n 0, 1), (13, .getfield 265, 3), (16, .ifCond .eq 8, 3), (19, .bipush (-2), 2), (21, .goto 7, 3), (24, .aload_n 0, 1), (25, .getfield 274, 3), (28, .ireturn, 1)]
theorem b_M_countBy_0 : (t_M_countBy_0.all fun q => decide (decode q_M_countBy.2.1 q.1 = .ok (q.2.1, q.2.2))) = true := by decide +kernel
theorem d_M_countBy_0 : vm_D q_M_countBy.2.1 0 1 1 (.aload_n 0) := vm_dD b_M_countBy_0 0 rfl rfl
theorem d_M_countBy_1 : vm_D q_M_countBy.2.1 1 3 4 (.invokevirtual 290) := vm_dD b_M_countBy_0 1 rfl rfl
theorem d_M_countBy_4 : vm_D q_M_countBy.2.1 4 1 5 (.aload_n 0) := vm_dD b_M_countBy_0 2 rfl rfl
theorem d_M_countBy_5 : vm_D q_M_countBy.2.1 5 1 6 (.iconst 0) := vm_dD b_M_countBy_0 3 rfl rfl
theorem d_M_countBy_6 : vm_D q_M_countBy.2.1 6 1 7 (.iload_n 1) := vm_dD b_M_countBy_0 4 rfl rfl
theorem d_M_countBy_7 : vm_D q_M_countBy.2.1 7 1 8 (.iload_n 2) := vm_dD b_M_countBy_0 5 rfl rfl
theorem d_M_countBy_8 : vm_D q_M_countBy.2.1 8 3 11 (.invokevirtual 268) := vm_dD b_M_countBy_0 6 rfl rfl
theorem d_M_countBy_11 : vm_D q_M_countBy.2.1 11 1 12 (.istore_n 3) := vm_dD b_M_countBy_0 7 rfl rfl
theorem d_M_countBy_12 : vm_D q_M_countBy.2.1 12 1 13 (.aload_n 0) := vm_dD b_M_countBy_0 8 rfl rfl
theorem d_M_countBy_13 : vm_D q_M_countBy.2.1 13 3 16 (.getfield 265) := vm_dD b_M_countBy_0 9 rfl rfl
theorem d_M_countBy_16 : vm_B q_M_countBy.2.1 16 19 24 (fun o => .ifCond .eq o) := ⟨8, vm_db b_M_countBy_0 (i := 10) rfl, rfl, by decide⟩
theorem d_M_countBy_24 : vm_D q_M_countBy.2.1 24 1 25 (.aload_n 0) := vm_dD b_M_countBy_0 13 rfl rfl
theorem d_M_countBy_25 : vm_D q_M_countBy.2.1 25 3 28 (.getfield 274) := vm_dD b_M_countBy_0 14 rfl rfl
theorem d_M_countBy_28 : vm_D q_M_countBy.2.1 28 1 29 (.ireturn) := vm_dD b_M_countBy_0 15 rfl rfl
theorem d_M_countBy_19 : vm_D q_M_countBy.2.1 19 2 21 (.bipush (-2)) := vm_dD b_M_countBy_0 11 rfl rfl
theorem d_M_countBy_21 : ∃ off : Int, decode q_M_countBy.2.1 21 = .ok (.goto off, 3) ∧ ((21 : Nat) : Int) + off = ((28 : Nat) : Int) := ⟨7, vm_db b_M_countBy_0 (i := 12) rfl, by decide⟩
def q_M_many : vm_Y := ("RepeatFreeModel", cX11_many, 2, false, [])
def t_M_many_0 : List (Nat × Instr × Nat) := [(0, .aload_n 0, 1), (1, .iconst 0, 1), (2, .putfield 3, 3), (5, .aload_n 0, 1), (6, .iload_n 1, 1), (7, .iconst 0, 1), (8, .bipush 40, 2), (10, .invokestatic 65, 3), (13, .ifCond .ne 7, 3), (16, .iconst 1, 1), (17, .goto 4, 3), (20, .iconst 0, 1), (21, .iconst 1, 1), (22, .invokevirtual 180, 3), (25, .ifCond .eq 5, 3), (28, .iconst 0, 1), (29, .ireturn, 1), (30, .aload_n 0, 1), (31, .iload_n 1, 1), (32, .iconst 1, 1), (33, .invokevirtual 299, 3), (36, .ireturn, 1)]
theorem b_M_many_0 : (t_M_many_0.all fun q => decide (decode q_M_many.2.1 q.1 = .ok (q.2.1, q.2.2))) = true := by decide +kernel
theorem d_M_many_0 : vm_D q_M_many.2.1 0 1 1 (.aload_n 0) := vm_dD b_M_many_0 0 rfl rfl
theorem d_M_many_1 : vm_D q_M_many.2.1 1 1 2 (.iconst 0) := vm_dD b_M_many_0 1 rfl rfl
theorem d_M_many_2 : vm_D q_M_many.2.1 2 3 5 (.putfield 3) := vm_dD b_M_many_0 2 rfl rfl
theorem d_M_many_5 : vm_D q_M_many.2.1 5 1 6 (.aload_n 0) := vm_dD b_M_many_0 3 rfl rfl
theorem d_M_many_6 : vm_D q_M_many.2.1 6 1 7 (.iload_n 1) := vm_dD b_M_many_0 4 rfl rfl
theorem d_M_many_7 : vm_D q_M_many.2.1 7 1 8 (.iconst 0) := vm_dD b_M_many_0 5 rfl rfl
theorem d_M_many_8 : vm_D q_M_many.2.1 8 2 10 (.bipush 40) := vm_dD b_M_many_0 6 rfl rfl
theorem d_M_many_10 : vm_D q_M_many.2.1 10 3 13 (.invokestatic 65) := vm_dD b_M_many_0 7 rfl rfl
theorem d_M_many_13 : vm_B q_M_many.2.1 13 16 20 (fun o => .ifCond .ne o) := ⟨7, vm_db b_M_many_0 (i := 8) rfl, rfl, by decide⟩
theorem d_M_many_21 : vm_D q_M_many.2.1 21 1 22 (.iconst 1) := vm_dD b_M_many_0 12 rfl rfl
theorem d_M_many_22 : vm_D q_M_many.2.1 22 3 25 (.invokevirtual 180) := vm_dD b_M_many_0 13 rfl rfl
theorem d_M_many_25 : vm_B q_M_many.2.1 25 28 30 (fun o => .ifCond .eq o) := ⟨5, vm_db b_M_many_0 (i := 14) rfl, rfl, by decide⟩
theorem d_M_many_30 : vm_D q_M_many.2.1 30 1 31 (.aload_n 0) := vm_dD b_M_many_0 17 rfl rfl
theorem d_M_many_31 : vm_D q_M_many.2.1 31 1 32 (.iload_n 1) := vm_dD b_M_many_0 18 rfl rfl
theorem d_M_many_32 : vm_D q_M_many.2.1 32 1 33 (.iconst 1) := vm_dD b_M_many_0 19 rfl rfl
theorem d_M_many_33 : vm_D q_M_many.2.1 33 3 36 (.invokevirtual 299) := vm_dD b_M_many_0 20 rfl rfl
theorem d_M_many_36 : vm_D q_M_many.2.1 36 1 37 (.ireturn) := vm_dD b_M_many_0 21 rfl rfl
theorem d_M_many_28 : vm_D q_M_many.2.1 28 1 29 (.iconst 0) := vm_dD b_M_many_0 15 rfl rfl
theorem d_M_many_29 : vm_D q_M_many.2.1 29 1 30 (.ireturn) := vm_dD b_M_many_0 16 rfl rfl
theorem d_M_many_20 : vm_D q_M_many.2.1 20 1 21 (.iconst 0) := vm_dD b_M_many_0 11 rfl rfl
theorem d_M_many_16 : vm_D q_M_many.2.1 16 1 17 (.iconst 1) := vm_dD b_M_many_0 9 rfl rfl
theorem d_M_many_17 : ∃ off : Int, decode q_M_many.2.1 17 = .ok (.goto off, 3) ∧ ((17 : Nat) : Int) + off = ((21 : Nat) : Int) := ⟨4, vm_db b_M_many_0 (i := 10) rfl, by decide⟩
def q_M_growth : vm_Y := ("RepeatFreeModel", cX11_growth, 4, false, [])
def t_M_growth_0 : List (Nat × Instr × Nat) := [(0, .aload_n 0, 1), (1, .iconst 0, 1), (2, .putfield 3, 3), (5, .aload_n 0, 1), (6, .iload_n 1, 1), (7, .iconst 0, 1), (8, .bipush 39, 2), (10, .invokestatic 65, 3), (13, .ifCond .ne 7, 3), (16, .iconst 1, 1), (17, .goto 4, 3), (20, .iconst 0, 1), (21, .iconst 1, 1), (22, .invokevirtual 180, 3), (25, .ifCond .eq 5, 3), (28, .iconst 0, 1), (29, .ireturn, 1), (30, .aload_n 0, 1), (31, .iload_n 1, 1), (32, .iconst 1, 1), (33, .invokevirtual 299, 3), (36, .istore_n 2, 1), (37, .iload_n 2, 1), (38, .bipush (-2), 2), (40, .if_icmp .eq 7, 3), (43, .iload_n 2, 1), (44, .ifCond .ne 16, 3), (47, .iload_n 2, 1), (48, .bipush (-2), 2), (50, .if_icmp .ne 8, 3), (53, .bipush (-2), 2), (55, .goto 4, 3), (58, .iconst (-1), 1), (59, .ireturn, 1), (60, .aload_n 0, 1), (61, .iload_n 1, 1), (62, .iconst 1, 1), (63, .iadd, 1), (64, .iconst 1, 1), (65, .invokevirtual 299, 3), (68, .istore_n 3, 1), (69, .iload_n 3, 1), (70, .bipush (-2), 2), (72, .if_icmp .ne 8, 3), (75, .bipush (-2), 2), (77, .goto 10, 3), (80, .sipush 1000, 3), (83, .iload_n 3, 1), (84, .imul, 1), (85, .iload_n 2, 1), (86, .idiv, 1), (87, .ireturn, 1)]
theorem b_M_growth_0 : (t_M_growth_0.all fun q => decide (decode q_M_growth.2.1 q.1 = .ok (q.2.1, q.2.2))) = true := by decide +kernel
theorem d_M_growth_0 : vm_D q_M_growth.2.1 0 1 1 (.aload_n 0) := vm_dD b_M_growth_0 0 rfl rfl
theorem d_M_growth_1 : vm_D q_M_growth.2.1 1 1 2 (.iconst 0) := vm_dD b_M_growth_0 1 rfl rfl
theorem d_M_growth_2 : vm_D q_M_growth.2.1 2 3 5 (.putfield 3) := vm_dD b_M_growth_0 2 rfl rfl
theorem d_M_growth_5 : vm_D q_M_growth.2.1 5 1 6 (.aload_n 0) := vm_dD b_M_growth_0 3 rfl rfl
theorem d_M_growth_6 : vm_D q_M_growth.2.1 6 1 7 (.iload_n 1) := vm_dD b_M_growth_0 4 rfl rfl
theorem d_M_growth_7 : vm_D q_M_growth.2.1 7 1 8 (.iconst 0) := vm_dD b_M_growth_0 5 rfl rfl
theorem d_M_growth_8 : vm_D q_M_growth.2.1 8 2 10 (.bipush 39) := vm_dD b_M_growth_0 6 rfl rfl
theorem d_M_growth_10 : vm_D q_M_growth.2.1 10 3 13 (.invokestatic 65) := vm_dD b_M_growth_0 7 rfl rfl
theorem d_M_growth_13 : vm_B q_M_growth.2.1 13 16 20 (fun o => .ifCond .ne o) := ⟨7, vm_db b_M_growth_0 (i := 8) rfl, rfl, by decide⟩
theorem d_M_growth_21 : vm_D q_M_growth.2.1 21 1 22 (.iconst 1) := vm_dD b_M_growth_0 12 rfl rfl
theorem d_M_growth_22 : vm_D q_M_growth.2.1 22 3 25 (.invokevirtual 180) := vm_dD b_M_growth_0 13 rfl rfl
theorem d_M_growth_25 : vm_B q_M_growth.2.1 25 28 30 (fun o => .ifCond .eq o) := ⟨5, vm_db b_M_growth_0 (i := 14) rfl, rfl, by decide⟩
theorem d_M_growth_30 : vm_D q_M_growth.2.1 30 1 31 (.aload_n 0) := vm_dD b_M_growth_0 17 rfl rfl
theorem d_M_growth_31 : vm_D q_M_growth.2.1 31 1 32 (.iload_n 1) := vm_dD b_M_growth_0 18 rfl rfl
theorem d_M_growth_32 : vm_D q_M_growth.2.1 32 1 33 (.iconst 1) := vm_dD b_M_growth_0 19 rfl rfl
theorem d_M_growth_33 : vm_D q_M_growth.2.1 33 3 36 (.invokevirtual 299) := vm_dD b_M_growth_0 20 rfl rfl
theorem d_M_growth_36 : vm_D q_M_growth.2.1 36 1 37 (.istore_n 2) := vm_dD b_M_growth_0 21 rfl rfl
theorem d_M_growth_37 : vm_D q_M_growth.2.1 37 1 38 (.iload_n 2) := vm_dD b_M_growth_0 22 rfl rfl
theorem d_M_growth_38 : vm_D q_M_growth.2.1 38 2 40 (.bipush (-2)) := vm_dD b_M_growth_0 23 rfl rfl
theorem d_M_growth_40 : vm_B q_M_growth.2.1 40 43 47 (fun o => .if_icmp .eq o) := ⟨7, vm_db b_M_growth_0 (i := 24) rfl, rfl, by decide⟩
theorem d_M_growth_47 : vm_D q_M_growth.2.1 47 1 48 (.iload_n 2) := vm_dD b_M_growth_0 27 rfl rfl
theorem d_M_growth_48 : vm_D q_M_growth.2.1 48 2 50 (.bipush (-2)) := vm_dD b_M_growth_0 28 rfl rfl
theorem d_M_growth_50 : vm_B q_M_growth.2.1 50 53 58 (fun o => .if_icmp .ne o) := ⟨8, vm_db b_M_growth_0 (i := 29) rfl, rfl, by decide⟩
theorem d_M_growth_58 : vm_D q_M_growth.2.1 58 1 59 (.iconst (-1)) := vm_dD b_M_growth_0 32 rfl rfl
theorem d_M_growth_59 : vm_D q_M_growth.2.1 59 1 60 (.ireturn) := vm_dD b_M_growth_0 33 rfl rfl
theorem d_M_growth_53 : vm_D q_M_growth.2.1 53 2 55 (.bipush (-2)) := vm_dD b_M_growth_0 30 rfl rfl
theorem d_M_growth_55 : ∃ off : Int, decode q_M_growth.2.1 55 = .ok (.goto off, 3) ∧ ((55 : Nat) : Int) + off = ((59 : Nat) : Int) := ⟨4, vm_db b_M_growth_0 (i := 31) rfl, by decide⟩
theorem d_M_growth_43 : vm_D q_M_growth.2.1 43 1 44 (.iload_n 2) := vm_dD b_M_growth_0 25 rfl rfl
theorem d_M_growth_44 : vm_B q_M_growth.2.1 44 47 60 (fun o => .ifCond .ne o) := ⟨16, vm_db b_M_growth_0 (i := 26) rfl, rfl, by decide⟩
theorem d_M_growth_60 : vm_D q_M_growth.2.1 60 1 61 (.aload_n 0) := vm_dD b_M_growth_0 34 rfl rfl
theorem d_M_growth_61 : vm_D q_M_growth.2.1 61 1 62 (.iload_n 1) := vm_dD b_M_growth_0 35 rfl rfl
theorem d_M_growth_62 : vm_D q_M_growth.2.1 62 1 63 (.iconst 1) := vm_dD b_M_growth_0 36 rfl rfl
theorem d_M_growth_63 : vm_D q_M_growth.2.1 63 1 64 (.iadd) := vm_dD b_M_growth_0 37 rfl rfl
theorem d_M_growth_64 : vm_D q_M_growth.2.1 64 1 65 (.iconst 1) := vm_dD b_M_growth_0 38 rfl rfl
theorem d_M_growth_65 : vm_D q_M_growth.2.1 65 3 68 (.invokevirtual 299) := vm_dD b_M_growth_0 39 rfl rfl
theorem d_M_growth_68 : vm_D q_M_growth.2.1 68 1 69 (.istore_n 3) := vm_dD b_M_growth_0 40 rfl rfl
theorem d_M_growth_69 : vm_D q_M_growth.2.1 69 1 70 (.iload_n 3) := vm_dD b_M_growth_0 41 rfl rfl
theorem d_M_growth_70 : vm_D q_M_growth.2.1 70 2 72 (.bipush (-2)) := vm_dD b_M_growth_0 42 rfl rfl
theorem d_M_growth_72 : vm_B q_M_growth.2.1 72 75 80 (fun o => .if_icmp .ne o) := ⟨8, vm_db b_M_growth_0 (i := 43) rfl, rfl, by decide⟩
theorem d_M_growth_80 : vm_D q_M_growth.2.1 80 3 83 (.sipush 1000) := vm_dD b_M_growth_0 46 rfl rfl
theorem d_M_growth_83 : vm_D q_M_growth.2.1 83 1 84 (.iload_n 3) := vm_dD b_M_growth_0 47 rfl rfl
theorem d_M_growth_84 : vm_D q_M_growth.2.1 84 1 85 (.imul) := vm_dD b_M_growth_0 48 rfl rfl
theorem d_M_growth_85 : vm_D q_M_growth.2.1 85 1 86 (.iload_n 2) := vm_dD b_M_growth_0 49 rfl rfl
theorem d_M_growth_86 : vm_D q_M_growth.2.1 86 1 87 (.idiv) := vm_dD b_M_growth_0 50 rfl rfl
theorem d_M_growth_87 : vm_D q_M_growth.2.1 87 1 88 (.ireturn) := vm_dD b_M_growth_0 51 rfl rfl
theorem d_M_growth_75 : vm_D q_M_growth.2.1 75 2 77 (.bipush (-2)) := vm_dD b_M_growth_0 44 rfl rfl
theorem d_M_growth_77 : ∃ off : Int, decode q_M_growth.2.1 77 = .ok (.goto off, 3) ∧ ((77 : Nat) : Int) + off = ((87 : Nat) : Int) := ⟨10, vm_db b_M_growth_0 (i := 45) rfl, by decide⟩
theorem d_M_growth_28 : vm_D q_M_growth.2.1 28 1 29 (.iconst 0) := vm_dD b_M_growth_0 15 rfl rfl
theorem d_M_growth_29 : vm_D q_M_growth.2.1 29 1 30 (.ireturn) := vm_dD b_M_growth_0 16 rfl rfl
theorem d_M_growth_20 : vm_D q_M_growth.2.1 20 1 21 (.iconst 0) := vm_dD b_M_growth_0 11 rfl rfl
theorem d_M_growth_16 : vm_D q_M_growth.2.1 16 1 17 (.iconst 1) := vm_dD b_M_growth_0 9 rfl rfl
theorem d_M_growth_17 : ∃ off : Int, decode q_M_growth.2.1 17 = .ok (.goto off, 3) ∧ ((17 : Nat) : Int) + off = ((21 : Nat) : Int) := ⟨4, vm_db b_M_growth_0 (i := 10) rfl, by decide⟩
def q_M_longest : vm_Y := ("RepeatFreeModel", cX11_longest, 3, false, [])
def t_M_longest_0 : List (Nat × Instr × Nat) := [(0, .aload_n 0, 1), (1, .iconst 0, 1), (2, .putfield 3, 3), (5, .iconst 1, 1), (6, .istore_n 1, 1), (7, .iload_n 1, 1), (8, .bipush 40, 2), (10, .if_icmp .gt 42, 3), (13, .aload_n 0, 1), (14, .invokevirtual 290, 3), (17, .aload_n 0, 1), (18, .iconst 0, 1), (19, .iload_n 1, 1), (20, .iconst 0, 1), (21, .invokevirtual 268, 3), (24, .istore_n 2, 1), (25, .aload_n 0, 1), (26, .getfield 265, 3), (29, .ifCond .eq 6, 3), (32, .bipush (-2), 2), (34, .ireturn, 1), (35, .aload_n 0, 1), (36, .getfield 271, 3), (39, .ifCond .ne 7, 3), (42, .iload_n 1, 1), (43, .iconst 1, 1), (44, .isub, 1), (45, .ireturn, 1), (46, .iinc 1 1, 3), (49, .goto (-42), 3), (52, .bipush 40, 2), (54, .ireturn, 1)]
theorem b_M_longest_0 : (t_M_longest_0.all fun q => decide (decode q_M_longest.2.1 q.1 = .ok (q.2.1, q.2.2))) = true := by decide +kernel
theorem d_M_longest_0 : vm_D q_M_longest.2.1 0 1 1 (.aload_n 0) := vm_dD b_M_longest_0 0 rfl rfl
theorem d_M_longest_1 : vm_D q_M_longest.2.1 1 1 2 (.iconst 0) := vm_dD b_M_longest_0 1 rfl rfl
theorem d_M_longest_2 : vm_D q_M_longest.2.1 2 3 5 (.putfield 3) := vm_dD b_M_longest_0 2 rfl rfl
theorem d_M_longest_5 : vm_D q_M_longest.2.1 5 1 6 (.iconst 1) := vm_dD b_M_longest_0 3 rfl rfl
theorem d_M_longest_6 : vm_D q_M_longest.2.1 6 1 7 (.istore_n 1) := vm_dD b_M_longest_0 4 rfl rfl
theorem d_M_longest_7 : vm_D q_M_longest.2.1 7 1 8 (.iload_n 1) := vm_dD b_M_longest_0 5 rfl rfl
theorem d_M_longest_8 : vm_D q_M_longest.2.1 8 2 10 (.bipush 40) := vm_dD b_M_longest_0 6 rfl rfl
theorem d_M_longest_10 : vm_B q_M_longest.2.1 10 13 52 (fun o => .if_icmp .gt o) := ⟨42, vm_db b_M_longest_0 (i := 7) rfl, rfl, by decide⟩
theorem d_M_longest_13 : vm_D q_M_longest.2.1 13 1 14 (.aload_n 0) := vm_dD b_M_longest_0 8 rfl rfl
theorem d_M_longest_14 : vm_D q_M_longest.2.1 14 3 17 (.invokevirtual 290) := vm_dD b_M_longest_0 9 rfl rfl
theorem d_M_longest_17 : vm_D q_M_longest.2.1 17 1 18 (.aload_n 0) := vm_dD b_M_longest_0 10 rfl rfl
theorem d_M_longest_18 : vm_D q_M_longest.2.1 18 1 19 (.iconst 0) := vm_dD b_M_longest_0 11 rfl rfl
theorem d_M_longest_19 : vm_D q_M_longest.2.1 19 1 20 (.iload_n 1) := vm_dD b_M_longest_0 12 rfl rfl
theorem d_M_longest_20 : vm_D q_M_longest.2.1 20 1 21 (.iconst 0) := vm_dD b_M_longest_0 13 rfl rfl
theorem d_M_longest_21 : vm_D q_M_longest.2.1 21 3 24 (.invokevirtual 268) := vm_dD b_M_longest_0 14 rfl rfl
theorem d_M_longest_24 : vm_D q_M_longest.2.1 24 1 25 (.istore_n 2) := vm_dD b_M_longest_0 15 rfl rfl
theorem d_M_longest_25 : vm_D q_M_longest.2.1 25 1 26 (.aload_n 0) := vm_dD b_M_longest_0 16 rfl rfl
theorem d_M_longest_26 : vm_D q_M_longest.2.1 26 3 29 (.getfield 265) := vm_dD b_M_longest_0 17 rfl rfl
theorem d_M_longest_29 : vm_B q_M_longest.2.1 29 32 35 (fun o => .ifCond .eq o) := ⟨6, vm_db b_M_longest_0 (i := 18) rfl, rfl, by decide⟩
theorem d_M_longest_35 : vm_D q_M_longest.2.1 35 1 36 (.aload_n 0) := vm_dD b_M_longest_0 21 rfl rfl
theorem d_M_longest_36 : vm_D q_M_longest.2.1 36 3 39 (.getfield 271) := vm_dD b_M_longest_0 22 rfl rfl
theorem d_M_longest_39 : vm_B q_M_longest.2.1 39 42 46 (fun o => .ifCond .ne o) := ⟨7, vm_db b_M_longest_0 (i := 23) rfl, rfl, by decide⟩
theorem d_M_longest_46 : vm_D q_M_longest.2.1 46 3 49 (.iinc 1 1) := vm_dD b_M_longest_0 28 rfl rfl
theorem d_M_longest_49 : ∃ off : Int, decode q_M_longest.2.1 49 = .ok (.goto off, 3) ∧ ((49 : Nat) : Int) + off = ((7 : Nat) : Int) := ⟨-42, vm_db b_M_longest_0 (i := 29) rfl, by decide⟩
theorem d_M_longest_42 : vm_D q_M_longest.2.1 42 1 43 (.iload_n 1) := vm_dD b_M_longest_0 24 rfl rfl
theorem d_M_longest_43 : vm_D q_M_longest.2.1 43 1 44 (.iconst 1) := vm_dD b_M_longest_0 25 rfl rfl
theorem d_M_longest_44 : vm_D q_M_longest.2.1 44 1 45 (.isub) := vm_dD b_M_longest_0 26 rfl rfl
theorem d_M_longest_45 : vm_D q_M_longest.2.1 45 1 46 (.ireturn) := vm_dD b_M_longest_0 27 rfl rfl
theorem d_M_longest_32 : vm_D q_M_longest.2.1 32 2 34 (.bipush (-2)) := vm_dD b_M_longest_0 19 rfl rfl
theorem d_M_longest_34 : vm_D q_M_longest.2.1 34 1 35 (.ireturn) := vm_dD b_M_longest_0 20 rfl rfl
theorem d_M_longest_52 : vm_D q_M_longest.2.1 52 2 54 (.bipush 40) := vm_dD b_M_longest_0 30 rfl rfl
theorem d_M_longest_54 : vm_D q_M_longest.2.1 54 1 55 (.ireturn) := vm_dD b_M_longest_0 31 rfl rfl
def q_M_further : vm_Y := ("RepeatFreeModel", cX11_further, 4, false, [])
def t_M_further_0 : List (Nat × Instr × Nat) := [(0, .aload_n 0, 1), (1, .iconst 0, 1), (2, .putfield 3, 3), (5, .aload_n 0, 1), (6, .invokevirtual 236, 3), (9, .ifCond .ne 5, 3), (12, .iconst 0, 1), (13, .ireturn, 1), (14, .bipush 20, 2), (16, .bipush 64, 2), (18, .aload_n 0, 1), (19, .getfield 184, 3), (22, .isub, 1), (23, .invokestatic 302, 3), (26, .istore_n 1, 1), (27, .iconst 1, 1), (28, .istore_n 2, 1), (29, .iload_n 2, 1), (30, .iload_n 1, 1), (31, .if_icmp .gt 54, 3), (34, .aload_n 0, 1), (35, .invokevirtual 290, 3), (38, .aload_n 0, 1), (39, .invokevirtual 296, 3), (42, .aload_n 0, 1), (43, .aload_n 0, 1), (44, .getfield 184, 3), (47, .aload_n 0, 1), (48, .getfield 184, 3), (51, .iload_n 2, 1), (52, .iadd, 1), (53, .iconst 0, 1), (54, .invokevirtual 268, 3), (57, .istore_n 3, 1), (58, .aload_n 0, 1), (59, .getfield 265, 3), (62, .ifCond .eq 6, 3), (65, .bipush (-2), 2), (67, .ireturn, 1), (68, .aload_n 0, 1), (69, .getfield 271, 3), (72, .ifCond .ne 7, 3), (75, .iload_n 2, 1), (76, .iconst 1, 1), (77, .isub, 1), (78, .ireturn, 1), (79, .iinc 2 1, 3), (82, .goto (-53), 3), (85, .iload_n 1, 1), (86, .ireturn, 1)]
theorem b_M_further_0 : (t_M_further_0.all fun q => decide (decode q_M_further.2.1 q.1 = .ok (q.2.1, q.2.2))) = true := by decide +kernel
theorem d_M_further_0 : vm_D q_M_further.2.1 0 1 1 (.aload_n 0) := vm_dD b_M_further_0 0 rfl rfl
theorem d_M_further_1 : vm_D q_M_further.2.1 1 1 2 (.iconst 0) := vm_dD b_M_further_0 1 rfl rfl
theorem d_M_further_2 : vm_D q_M_further.2.1 2 3 5 (.putfield 3) := vm_dD b_M_further_0 2 rfl rfl
theorem d_M_further_5 : vm_D q_M_further.2.1 5 1 6 (.aload_n 0) := vm_dD b_M_further_0 3 rfl rfl
theorem d_M_further_6 : vm_D q_M_further.2.1 6 3 9 (.invokevirtual 236) := vm_dD b_M_further_0 4 rfl rfl
theorem d_M_further_9 : vm_B q_M_further.2.1 9 12 14 (fun o => .ifCond .ne o) := ⟨5, vm_db b_M_further_0 (i := 5) rfl, rfl, by decide⟩
theorem d_M_further_14 : vm_D q_M_further.2.1 14 2 16 (.bipush 20) := vm_dD b_M_further_0 8 rfl rfl
theorem d_M_further_16 : vm_D q_M_further.2.1 16 2 18 (.bipush 64) := vm_dD b_M_further_0 9 rfl rfl
theorem d_M_further_18 : vm_D q_M_further.2.1 18 1 19 (.aload_n 0) := vm_dD b_M_further_0 10 rfl rfl
theorem d_M_further_19 : vm_D q_M_further.2.1 19 3 22 (.getfield 184) := vm_dD b_M_further_0 11 rfl rfl
theorem d_M_further_22 : vm_D q_M_further.2.1 22 1 23 (.isub) := vm_dD b_M_further_0 12 rfl rfl
theorem d_M_further_23 : vm_D q_M_further.2.1 23 3 26 (.invokestatic 302) := vm_dD b_M_further_0 13 rfl rfl
theorem d_M_further_26 : vm_D q_M_further.2.1 26 1 27 (.istore_n 1) := vm_dD b_M_further_0 14 rfl rfl
theorem d_M_further_27 : vm_D q_M_further.2.1 27 1 28 (.iconst 1) := vm_dD b_M_further_0 15 rfl rfl
theorem d_M_further_28 : vm_D q_M_further.2.1 28 1 29 (.istore_n 2) := vm_dD b_M_further_0 16 rfl rfl
theorem d_M_further_29 : vm_D q_M_further.2.1 29 1 30 (.iload_n 2) := vm_dD b_M_further_0 17 rfl rfl
theorem d_M_further_30 : vm_D q_M_further.2.1 30 1 31 (.iload_n 1) := vm_dD b_M_further_0 18 rfl rfl
theorem d_M_further_31 : vm_B q_M_further.2.1 31 34 85 (fun o => .if_icmp .gt o) := ⟨54, vm_db b_M_further_0 (i := 19) rfl, rfl, by decide⟩
theorem d_M_further_34 : vm_D q_M_further.2.1 34 1 35 (.aload_n 0) := vm_dD b_M_further_0 20 rfl rfl
theorem d_M_further_35 : vm_D q_M_further.2.1 35 3 38 (.invokevirtual 290) := vm_dD b_M_further_0 21 rfl rfl
theorem d_M_further_38 : vm_D q_M_further.2.1 38 1 39 (.aload_n 0) := vm_dD b_M_further_0 22 rfl rfl
theorem d_M_further_39 : vm_D q_M_further.2.1 39 3 42 (.invokevirtual 296) := vm_dD b_M_further_0 23 rfl rfl
theorem d_M_further_42 : vm_D q_M_further.2.1 42 1 43 (.aload_n 0) := vm_dD b_M_further_0 24 rfl rfl
theorem d_M_further_43 : vm_D q_M_further.2.1 43 1 44 (.aload_n 0) := vm_dD b_M_further_0 25 rfl rfl
theorem d_M_further_44 : vm_D q_M_further.2.1 44 3 47 (.getfield 184) := vm_dD b_M_further_0 26 rfl rfl
theorem d_M_further_47 : vm_D q_M_further.2.1 47 1 48 (.aload_n 0) := vm_dD b_M_further_0 27 rfl rfl
theorem d_M_further_48 : vm_D q_M_further.2.1 48 3 51 (.getfield 184) := vm_dD b_M_further_0 28 rfl rfl
theorem d_M_further_51 : vm_D q_M_further.2.1 51 1 52 (.iload_n 2) := vm_dD b_M_further_0 29 rfl rfl
theorem d_M_further_52 : vm_D q_M_further.2.1 52 1 53 (.iadd) := vm_dD b_M_further_0 30 rfl rfl
theorem d_M_further_53 : vm_D q_M_further.2.1 53 1 54 (.iconst 0) := vm_dD b_M_further_0 31 rfl rfl
theorem d_M_further_54 : vm_D q_M_further.2.1 54 3 57 (.invokevirtual 268) := vm_dD b_M_further_0 32 rfl rfl
theorem d_M_further_57 : vm_D q_M_further.2.1 57 1 58 (.istore_n 3) := vm_dD b_M_further_0 33 rfl rfl
theorem d_M_further_58 : vm_D q_M_further.2.1 58 1 59 (.aload_n 0) := vm_dD b_M_further_0 34 rfl rfl
theorem d_M_further_59 : vm_D q_M_further.2.1 59 3 62 (.getfield 265) := vm_dD b_M_further_0 35 rfl rfl
theorem d_M_further_62 : vm_B q_M_further.2.1 62 65 68 (fun o => .ifCond .eq o) := ⟨6, vm_db b_M_further_0 (i := 36) rfl, rfl, by decide⟩
theorem d_M_further_68 : vm_D q_M_further.2.1 68 1 69 (.aload_n 0) := vm_dD b_M_further_0 39 rfl rfl
theorem d_M_further_69 : vm_D q_M_further.2.1 69 3 72 (.getfield 271) := vm_dD b_M_further_0 40 rfl rfl
theorem d_M_further_72 : vm_B q_M_further.2.1 72 75 79 (fun o => .ifCond .ne o) := ⟨7, vm_db b_M_further_0 (i := 41) rfl, rfl, by decide⟩
theorem d_M_further_79 : vm_D q_M_further.2.1 79 3 82 (.iinc 2 1) := vm_dD b_M_further_0 46 rfl rfl
theorem d_M_further_82 : ∃ off : Int, decode q_M_further.2.1 82 = .ok (.goto off, 3) ∧ ((82 : Nat) : Int) + off = ((29 : Nat) : Int) := ⟨-53, vm_db b_M_further_0 (i := 47) rfl, by decide⟩
theorem d_M_further_75 : vm_D q_M_further.2.1 75 1 76 (.iload_n 2) := vm_dD b_M_further_0 42 rfl rfl
theorem d_M_further_76 : vm_D q_M_further.2.1 76 1 77 (.iconst 1) := vm_dD b_M_further_0 43 rfl rfl
theorem d_M_further_77 : vm_D q_M_further.2.1 77 1 78 (.isub) := vm_dD b_M_further_0 44 rfl rfl
theorem d_M_further_78 : vm_D q_M_further.2.1 78 1 79 (.ireturn) := vm_dD b_M_further_0 45 rfl rfl
theorem d_M_further_65 : vm_D q_M_further.2.1 65 2 67 (.bipush (-2)) := vm_dD b_M_further_0 37 rfl rfl
theorem d_M_further_67 : vm_D q_M_further.2.1 67 1 68 (.ireturn) := vm_dD b_M_further_0 38 rfl rfl
theorem d_M_further_85 : vm_D q_M_further.2.1 85 1 86 (.iload_n 1) := vm_dD b_M_further_0 48 rfl rfl
theorem d_M_further_86 : vm_D q_M_further.2.1 86 1 87 (.ireturn) := vm_dD b_M_further_0 49 rfl rfl
theorem d_M_further_12 : vm_D q_M_further.2.1 12 1 13 (.iconst 0) := vm_dD b_M_further_0 6 rfl rfl
theorem d_M_further_13 : vm_D q_M_further.2.1 13 1 14 (.ireturn) := vm_dD b_M_further_0 7 rfl rfl
def q_M_stuck : vm_Y := ("RepeatFreeModel", cX11_stuck, 2, false, [])
def t_M_stuck_0 : List (Nat × Instr × Nat) := [(0, .aload_n 0, 1), (1, .iconst 0, 1), (2, .putfield 3, 3), (5, .aload_n 0, 1), (6, .iload_n 1, 1), (7, .iconst 0, 1), (8, .bipush 40, 2), (10, .invokestatic 65, 3), (13, .ifCond .ne 7, 3), (16, .iconst 1, 1), (17, .goto 4, 3), (20, .iconst 0, 1), (21, .iconst 1, 1), (22, .invokevirtual 180, 3), (25, .ifCond .eq 5, 3), (28, .iconst 0, 1), (29, .ireturn, 1), (30, .aload_n 0, 1), (31, .iload_n 1, 1), (32, .iconst 2, 1), (33, .invokevirtual 299, 3), (36, .ireturn, 1)]
theorem b_M_stuck_0 : (t_M_stuck_0.all fun q => decide (decode q_M_stuck.2.1 q.1 = .ok (q.2.1, q.2.2))) = true := by decide +kernel
theorem d_M_stuck_0 : vm_D q_M_stuck.2.1 0 1 1 (.aload_n 0) := vm_dD b_M_stuck_0 0 rfl rfl
theorem d_M_stuck_1 : vm_D q_M_stuck.2.1 1 1 2 (.iconst 0) := vm_dD b_M_stuck_0 1 rfl rfl
theorem d_M_stuck_2 : vm_D q_M_stuck.2.1 2 3 5 (.putfield 3) := vm_dD b_M_stuck_0 2 rfl rfl
theorem d_M_stuck_5 : vm_D q_M_stuck.2.1 5 1 6 (.aload_n 0) := vm_dD b_M_stuck_0 3 rfl rfl
theorem d_M_stuck_6 : vm_D q_M_stuck.2.1 6 1 7 (.iload_n 1) := vm_dD b_M_stuck_0 4 rfl rfl
theorem d_M_stuck_7 : vm_D q_M_stuck.2.1 7 1 8 (.iconst 0) := vm_dD b_M_stuck_0 5 rfl rfl
theorem d_M_stuck_8 : vm_D q_M_stuck.2.1 8 2 10 (.bipush 40) := vm_dD b_M_stuck_0 6 rfl rfl
theorem d_M_stuck_10 : vm_D q_M_stuck.2.1 10 3 13 (.invokestatic 65) := vm_dD b_M_stuck_0 7 rfl rfl
theorem d_M_stuck_13 : vm_B q_M_stuck.2.1 13 16 20 (fun o => .ifCond .ne o) := ⟨7, vm_db b_M_stuck_0 (i := 8) rfl, rfl, by decide⟩
theorem d_M_stuck_21 : vm_D q_M_stuck.2.1 21 1 22 (.iconst 1) := vm_dD b_M_stuck_0 12 rfl rfl
theorem d_M_stuck_22 : vm_D q_M_stuck.2.1 22 3 25 (.invokevirtual 180) := vm_dD b_M_stuck_0 13 rfl rfl
theorem d_M_stuck_25 : vm_B q_M_stuck.2.1 25 28 30 (fun o => .ifCond .eq o) := ⟨5, vm_db b_M_stuck_0 (i := 14) rfl, rfl, by decide⟩
theorem d_M_stuck_30 : vm_D q_M_stuck.2.1 30 1 31 (.aload_n 0) := vm_dD b_M_stuck_0 17 rfl rfl
theorem d_M_stuck_31 : vm_D q_M_stuck.2.1 31 1 32 (.iload_n 1) := vm_dD b_M_stuck_0 18 rfl rfl
theorem d_M_stuck_32 : vm_D q_M_stuck.2.1 32 1 33 (.iconst 2) := vm_dD b_M_stuck_0 19 rfl rfl
theorem d_M_stuck_33 : vm_D q_M_stuck.2.1 33 3 36 (.invokevirtual 299) := vm_dD b_M_stuck_0 20 rfl rfl
theorem d_M_stuck_36 : vm_D q_M_stuck.2.1 36 1 37 (.ireturn) := vm_dD b_M_stuck_0 21 rfl rfl
theorem d_M_stuck_28 : vm_D q_M_stuck.2.1 28 1 29 (.iconst 0) := vm_dD b_M_stuck_0 15 rfl rfl
theorem d_M_stuck_29 : vm_D q_M_stuck.2.1 29 1 30 (.ireturn) := vm_dD b_M_stuck_0 16 rfl rfl
theorem d_M_stuck_20 : vm_D q_M_stuck.2.1 20 1 21 (.iconst 0) := vm_dD b_M_stuck_0 11 rfl rfl
theorem d_M_stuck_16 : vm_D q_M_stuck.2.1 16 1 17 (.iconst 1) := vm_dD b_M_stuck_0 9 rfl rfl
theorem d_M_stuck_17 : ∃ off : Int, decode q_M_stuck.2.1 17 = .ok (.goto off, 3) ∧ ((17 : Nat) : Int) + off = ((21 : Nat) : Int) := ⟨4, vm_db b_M_stuck_0 (i := 10) rfl, by decide⟩
def q_M_rank : vm_Y := ("RepeatFreeModel", cX11_rank, 1, false, [])
def t_M_rank_0 : List (Nat × Instr × Nat) := [(0, .aload_n 0, 1), (1, .iconst 0, 1), (2, .putfield 3, 3), (5, .aload_n 0, 1), (6, .aload_n 0, 1), (7, .getfield 184, 3), (10, .bipush 40, 2), (12, .if_icmp .le 7, 3), (15, .iconst 1, 1), (16, .goto 4, 3), (19, .iconst 0, 1), (20, .iconst 1, 1), (21, .invokevirtual 180, 3), (24, .ifCond .eq 5, 3), (27, .iconst 0, 1), (28, .ireturn, 1), (29, .aload_n 0, 1), (30, .aload_n 0, 1), (31, .getfield 184, 3), (34, .iconst 3, 1), (35, .invokevirtual 299, 3), (38, .ireturn, 1)]
theorem b_M_rank_0 : (t_M_rank_0.all fun q => decide (decode q_M_rank.2.1 q.1 = .ok (q.2.1, q.2.2))) = true := by decide +kernel
theorem d_M_rank_0 : vm_D q_M_rank.2.1 0 1 1 (.aload_n 0) := vm_dD b_M_rank_0 0 rfl rfl
theorem d_M_rank_1 : vm_D q_M_rank.2.1 1 1 2 (.iconst 0) := vm_dD b_M_rank_0 1 rfl rfl
theorem d_M_rank_2 : vm_D q_M_rank.2.1 2 3 5 (.putfield 3) := vm_dD b_M_rank_0 2 rfl rfl
theorem d_M_rank_5 : vm_D q_M_rank.2.1 5 1 6 (.aload_n 0) := vm_dD b_M_rank_0 3 rfl rfl
theorem d_M_rank_6 : vm_D q_M_rank.2.1 6 1 7 (.aload_n 0) := vm_dD b_M_rank_0 4 rfl rfl
theorem d_M_rank_7 : vm_D q_M_rank.2.1 7 3 10 (.getfield 184) := vm_dD b_M_rank_0 5 rfl rfl
theorem d_M_rank_10 : vm_D q_M_rank.2.1 10 2 12 (.bipush 40) := vm_dD b_M_rank_0 6 rfl rfl
theorem d_M_rank_12 : vm_B q_M_rank.2.1 12 15 19 (fun o => .if_icmp .le o) := ⟨7, vm_db b_M_rank_0 (i := 7) rfl, rfl, by decide⟩
theorem d_M_rank_20 : vm_D q_M_rank.2.1 20 1 21 (.iconst 1) := vm_dD b_M_rank_0 11 rfl rfl
theorem d_M_rank_21 : vm_D q_M_rank.2.1 21 3 24 (.invokevirtual 180) := vm_dD b_M_rank_0 12 rfl rfl
theorem d_M_rank_24 : vm_B q_M_rank.2.1 24 27 29 (fun o => .ifCond .eq o) := ⟨5, vm_db b_M_rank_0 (i := 13) rfl, rfl, by decide⟩
theorem d_M_rank_29 : vm_D q_M_rank.2.1 29 1 30 (.aload_n 0) := vm_dD b_M_rank_0 16 rfl rfl
theorem d_M_rank_30 : vm_D q_M_rank.2.1 30 1 31 (.aload_n 0) := vm_dD b_M_rank_0 17 rfl rfl
theorem d_M_rank_31 : vm_D q_M_rank.2.1 31 3 34 (.getfield 184) := vm_dD b_M_rank_0 18 rfl rfl
theorem d_M_rank_34 : vm_D q_M_rank.2.1 34 1 35 (.iconst 3) := vm_dD b_M_rank_0 19 rfl rfl
theorem d_M_rank_35 : vm_D q_M_rank.2.1 35 3 38 (.invokevirtual 299) := vm_dD b_M_rank_0 20 rfl rfl
theorem d_M_rank_38 : vm_D q_M_rank.2.1 38 1 39 (.ireturn) := vm_dD b_M_rank_0 21 rfl rfl
theorem d_M_rank_27 : vm_D q_M_rank.2.1 27 1 28 (.iconst 0) := vm_dD b_M_rank_0 14 rfl rfl
theorem d_M_rank_28 : vm_D q_M_rank.2.1 28 1 29 (.ireturn) := vm_dD b_M_rank_0 15 rfl rfl
theorem d_M_rank_19 : vm_D q_M_rank.2.1 19 1 20 (.iconst 0) := vm_dD b_M_rank_0 10 rfl rfl
theorem d_M_rank_15 : vm_D q_M_rank.2.1 15 1 16 (.iconst 1) := vm_dD b_M_rank_0 8 rfl rfl
theorem d_M_rank_16 : ∃ off : Int, decode q_M_rank.2.1 16 = .ok (.goto off, 3) ∧ ((16 : Nat) : Int) + off = ((20 : Nat) : Int) := ⟨4, vm_db b_M_rank_0 (i := 9) rfl, by decide⟩
def q_M_nth : vm_Y := ("RepeatFreeModel", cX11_nth, 4, false, [])
def t_M_nth_0 : List (Nat × Instr × Nat) := [(0, .aload_n 0, 1), (1, .iconst 0, 1), (2, .putfield 3, 3), (5, .aload_n 0, 1), (6, .iload_n 1, 1), (7, .iconst 1, 1), (8, .bipush 40, 2), (10, .invokestatic 65, 3), (13, .ifCond .eq 7, 3), (16, .iload_n 2, 1), (17, .ifCond .ge 7, 3), (20, .iconst 1, 1), (21, .goto 4, 3), (24, .iconst 0, 1), (25, .iconst 1, 1), (26, .invokevirtual 180, 3), (29, .ifCond .eq 5, 3), (32, .iconst 0, 1), (33, .ireturn, 1), (34, .aload_n 0, 1), (35, .invokevirtual 290, 3), (38, .aload_n 0, 1), (39, .iload_n 2, 1), (40, .putfield 284, 3), (43, .aload_n 0, 1), (44, .iconst 0, 1), (45, .iload_n 1, 1), (46, .iconst 4, 1), (47, .invokevirtual 268, 3), (50, .istore_n 3, 1), (51, .aload_n 0, 1), (52, .getfield 265, 3), (55, .ifCond .eq 6, 3), (58, .bipush (-2), 2), (60, .ireturn, 1), (61, .aload_n 0, 1), (62, .getfield 271, 3), (65, .ifCond .ne 5, 3), (68, .iconst (-1), 1), (69, .ireturn, 1), (70, .aload_n 0, 1), (71, .iload_n 1, 1), (72, .invokevirtual 293, 3), (75, .aload_n 0, 1), (76, .getfield 262, 3), (79, .ireturn, 1)]
theorem b_M_nth_0 : (t_M_nth_0.all fun q => decide (decode q_M_nth.2.1 q.1 = .ok (q.2.1, q.2.2))) = true := by decide +kernel
theorem d_M_nth_0 : vm_D q_M_nth.2.1 0 1 1 (.aload_n 0) := vm_dD b_M_nth_0 0 rfl rfl
theorem d_M_nth_1 : vm_D q_M_nth.2.1 1 1 2 (.iconst 0) := vm_dD b_M_nth_0 1 rfl rfl
theorem d_M_nth_2 : vm_D q_M_nth.2.1 2 3 5 (.putfield 3) := vm_dD b_M_nth_0 2 rfl rfl
theorem d_M_nth_5 : vm_D q_M_nth.2.1 5 1 6 (.aload_n 0) := vm_dD b_M_nth_0 3 rfl rfl
theorem d_M_nth_6 : vm_D q_M_nth.2.1 6 1 7 (.iload_n 1) := vm_dD b_M_nth_0 4 rfl rfl
theorem d_M_nth_7 : vm_D q_M_nth.2.1 7 1 8 (.iconst 1) := vm_dD b_M_nth_0 5 rfl rfl
theorem d_M_nth_8 : vm_D q_M_nth.2.1 8 2 10 (.bipush 40) := vm_dD b_M_nth_0 6 rfl rfl
theorem d_M_nth_10 : vm_D q_M_nth.2.1 10 3 13 (.invokestatic 65) := vm_dD b_M_nth_0 7 rfl rfl
theorem d_M_nth_13 : vm_B q_M_nth.2.1 13 16 20 (fun o => .ifCond .eq o) := ⟨7, vm_db b_M_nth_0 (i := 8) rfl, rfl, by decide⟩
theorem d_M_nth_25 : vm_D q_M_nth.2.1 25 1 26 (.iconst 1) := vm_dD b_M_nth_0 14 rfl rfl
theorem d_M_nth_26 : vm_D q_M_nth.2.1 26 3 29 (.invokevirtual 180) := vm_dD b_M_nth_0 15 rfl rfl
theorem d_M_nth_29 : vm_B q_M_nth.2.1 29 32 34 (fun o => .ifCond .eq o) := ⟨5, vm_db b_M_nth_0 (i := 16) rfl, rfl, by decide⟩
theorem d_M_nth_34 : vm_D q_M_nth.2.1 34 1 35 (.aload_n 0) := vm_dD b_M_nth_0 19 rfl rfl
theorem d_M_nth_35 : vm_D q_M_nth.2.1 35 3 38 (.invokevirtual 290) := vm_dD b_M_nth_0 20 rfl rfl
theorem d_M_nth_38 : vm_D q_M_nth.2.1 38 1 39 (.aload_n 0) := vm_dD b_M_nth_0 21 rfl rfl
theorem d_M_nth_39 : vm_D q_M_nth.2.1 39 1 40 (.iload_n 2) := vm_dD b_M_nth_0 22 rfl rfl
theorem d_M_nth_40 : vm_D q_M_nth.2.1 40 3 43 (.putfield 284) := vm_dD b_M_nth_0 23 rfl rfl
theorem d_M_nth_43 : vm_D q_M_nth.2.1 43 1 44 (.aload_n 0) := vm_dD b_M_nth_0 24 rfl rfl
theorem d_M_nth_44 : vm_D q_M_nth.2.1 44 1 45 (.iconst 0) := vm_dD b_M_nth_0 25 rfl rfl
theorem d_M_nth_45 : vm_D q_M_nth.2.1 45 1 46 (.iload_n 1) := vm_dD b_M_nth_0 26 rfl rfl
theorem d_M_nth_46 : vm_D q_M_nth.2.1 46 1 47 (.iconst 4) := vm_dD b_M_nth_0 27 rfl rfl
theorem d_M_nth_47 : vm_D q_M_nth.2.1 47 3 50 (.invokevirtual 268) := vm_dD b_M_nth_0 28 rfl rfl
theorem d_M_nth_50 : vm_D q_M_nth.2.1 50 1 51 (.istore_n 3) := vm_dD b_M_nth_0 29 rfl rfl
theorem d_M_nth_51 : vm_D q_M_nth.2.1 51 1 52 (.aload_n 0) := vm_dD b_M_nth_0 30 rfl rfl
theorem d_M_nth_52 : vm_D q_M_nth.2.1 52 3 55 (.getfield 265) := vm_dD b_M_nth_0 31 rfl rfl
theorem d_M_nth_55 : vm_B q_M_nth.2.1 55 58 61 (fun o => .ifCond .eq o) := ⟨6, vm_db b_M_nth_0 (i := 32) rfl, rfl, by decide⟩
theorem d_M_nth_61 : vm_D q_M_nth.2.1 61 1 62 (.aload_n 0) := vm_dD b_M_nth_0 35 rfl rfl
theorem d_M_nth_62 : vm_D q_M_nth.2.1 62 3 65 (.getfield 271) := vm_dD b_M_nth_0 36 rfl rfl
theorem d_M_nth_65 : vm_B q_M_nth.2.1 65 68 70 (fun o => .ifCond .ne o) := ⟨5, vm_db b_M_nth_0 (i := 37) rfl, rfl, by decide⟩
theorem d_M_nth_70 : vm_D q_M_nth.2.1 70 1 71 (.aload_n 0) := vm_dD b_M_nth_0 40 rfl rfl
theorem d_M_nth_71 : vm_D q_M_nth.2.1 71 1 72 (.iload_n 1) := vm_dD b_M_nth_0 41 rfl rfl
theorem d_M_nth_72 : vm_D q_M_nth.2.1 72 3 75 (.invokevirtual 293) := vm_dD b_M_nth_0 42 rfl rfl
theorem d_M_nth_75 : vm_D q_M_nth.2.1 75 1 76 (.aload_n 0) := vm_dD b_M_nth_0 43 rfl rfl
theorem d_M_nth_76 : vm_D q_M_nth.2.1 76 3 79 (.getfield 262) := vm_dD b_M_nth_0 44 rfl rfl
theorem d_M_nth_79 : vm_D q_M_nth.2.1 79 1 80 (.ireturn) := vm_dD b_M_nth_0 45 rfl rfl
theorem d_M_nth_68 : vm_D q_M_nth.2.1 68 1 69 (.iconst (-1)) := vm_dD b_M_nth_0 38 rfl rfl
theorem d_M_nth_69 : vm_D q_M_nth.2.1 69 1 70 (.ireturn) := vm_dD b_M_nth_0 39 rfl rfl
theorem d_M_nth_58 : vm_D q_M_nth.2.1 58 2 60 (.bipush (-2)) := vm_dD b_M_nth_0 33 rfl rfl
theorem d_M_nth_60 : vm_D q_M_nth.2.1 60 1 61 (.ireturn) := vm_dD b_M_nth_0 34 rfl rfl
theorem d_M_nth_32 : vm_D q_M_nth.2.1 32 1 33 (.iconst 0) := vm_dD b_M_nth_0 17 rfl rfl
theorem d_M_nth_33 : vm_D q_M_nth.2.1 33 1 34 (.ireturn) := vm_dD b_M_nth_0 18 rfl rfl
theorem d_M_nth_20 : vm_D q_M_nth.2.1 20 1 21 (.iconst 1) := vm_dD b_M_nth_0 11 rfl rfl
theorem d_M_nth_21 : ∃ off : Int, decode q_M_nth.2.1 21 = .ok (.goto off, 3) ∧ ((21 : Nat) : Int) + off = ((25 : Nat) : Int) := ⟨4, vm_db b_M_nth_0 (i := 12) rfl, by decide⟩
theorem d_M_nth_16 : vm_D q_M_nth.2.1 16 1 17 (.iload_n 2) := vm_dD b_M_nth_0 9 rfl rfl
theorem d_M_nth_17 : vm_B q_M_nth.2.1 17 20 24 (fun o => .ifCond .ge o) := ⟨7, vm_db b_M_nth_0 (i := 10) rfl, rfl, by decide⟩
theorem d_M_nth_24 : vm_D q_M_nth.2.1 24 1 25 (.iconst 0) := vm_dD b_M_nth_0 13 rfl rfl
def q_M_noMap : vm_Y := ("RepeatFreeModel", cX11_noMap, 2, false, [])
def t_M_noMap_0 : List (Nat × Instr × Nat) := [(0, .aload_n 0, 1), (1, .iload_n 1, 1), (2, .iconst 0, 1), (3, .aload_n 0, 1), (4, .getfield 77, 3), (7, .iconst 4, 1), (8, .iaload, 1), (9, .iconst 1, 1), (10, .isub, 1), (11, .invokestatic 65, 3), (14, .ifCond .ne 7, 3), (17, .iconst 1, 1), (18, .goto 4, 3), (21, .iconst 0, 1), (22, .iconst 1, 1), (23, .invokevirtual 180, 3), (26, .ireturn, 1)]
theorem b_M_noMap_0 : (t_M_noMap_0.all fun q => decide (decode q_M_noMap.2.1 q.1 = .ok (q.2.1, q.2.2))) = true := by decide +kernel
theorem d_M_noMap_0 : vm_D q_M_noMap.2.1 0 1 1 (.aload_n 0) := vm_dD b_M_noMap_0 0 rfl rfl
theorem d_M_noMap_1 : vm_D q_M_noMap.2.1 1 1 2 (.iload_n 1) := vm_dD b_M_noMap_0 1 rfl rfl
theorem d_M_noMap_2 : vm_D q_M_noMap.2.1 2 1 3 (.iconst 0) := vm_dD b_M_noMap_0 2 rfl rfl
theorem d_M_noMap_3 : vm_D q_M_noMap.2.1 3 1 4 (.aload_n 0) := vm_dD b_M_noMap_0 3 rfl rfl
theorem d_M_noMap_4 : vm_D q_M_noMap.2.1 4 3 7 (.getfield 77) := vm_dD b_M_noMap_0 4 rfl rfl
theorem d_M_noMap_7 : vm_D q_M_noMap.2.1 7 1 8 (.iconst 4) := vm_dD b_M_noMap_0 5 rfl rfl
theorem d_M_noMap_8 : vm_D q_M_noMap.2.1 8 1 9 (.iaload) := vm_dD b_M_noMap_0 6 rfl rfl
theorem d_M_noMap_9 : vm_D q_M_noMap.2.1 9 1 10 (.iconst 1) := vm_dD b_M_noMap_0 7 rfl rfl
theorem d_M_noMap_10 : vm_D q_M_noMap.2.1 10 1 11 (.isub) := vm_dD b_M_noMap_0 8 rfl rfl
theorem d_M_noMap_11 : vm_D q_M_noMap.2.1 11 3 14 (.invokestatic 65) := vm_dD b_M_noMap_0 9 rfl rfl
theorem d_M_noMap_14 : vm_B q_M_noMap.2.1 14 17 21 (fun o => .ifCond .ne o) := ⟨7, vm_db b_M_noMap_0 (i := 10) rfl, rfl, by decide⟩
theorem d_M_noMap_22 : vm_D q_M_noMap.2.1 22 1 23 (.iconst 1) := vm_dD b_M_noMap_0 14 rfl rfl
theorem d_M_noMap_23 : vm_D q_M_noMap.2.1 23 3 26 (.invokevirtual 180) := vm_dD b_M_noMap_0 15 rfl rfl
theorem d_M_noMap_26 : vm_D q_M_noMap.2.1 26 1 27 (.ireturn) := vm_dD b_M_noMap_0 16 rfl rfl
theorem d_M_noMap_21 : vm_D q_M_noMap.2.1 21 1 22 (.iconst 0) := vm_dD b_M_noMap_0 13 rfl rfl
theorem d_M_noMap_17 : vm_D q_M_noMap.2.1 17 1 18 (.iconst 1) := vm_dD b_M_noMap_0 11 rfl rfl
theorem d_M_noMap_18 : ∃ off : Int, decode q_M_noMap.2.1 18 = .ok (.goto off, 3) ∧ ((18 : Nat) : Int) + off = ((22 : Nat) : Int) := ⟨4, vm_db b_M_noMap_0 (i := 12) rfl, by decide⟩
def q_M_image : vm_Y := ("RepeatFreeModel", cX11_image, 4, false, [])
def t_M_image_0 : List (Nat × Instr × Nat) := [(0, .aload_n 0, 1), (1, .iconst 0, 1), (2, .putfield 3, 3), (5, .aload_n 0, 1), (6, .iload_n 1, 1), (7, .invokevirtual 319, 3), (10, .ifCond .eq 5, 3), (13, .iconst 0, 1), (14, .ireturn, 1), (15, .aload_n 0, 1), (16, .aload_n 0, 1), (17, .getfield 83, 3), (20, .aload_n 0, 1), (21, .getfield 184, 3), (24, .iload_n 1, 1), (25, .invokevirtual 315, 3), (28, .istore_n 2, 1), (29, .aload_n 0, 1), (30, .iload_n 2, 1), (31, .bipush 64, 2), (33, .if_icmp .le 7, 3), (36, .iconst 1, 1), (37, .goto 4, 3), (40, .iconst 0, 1), (41, .iconst 2, 1), (42, .invokevirtual 180, 3), (45, .ifCond .eq 5, 3), (48, .iconst 0, 1), (49, .ireturn, 1), (50, .iconst 0, 1), (51, .istore_n 3, 1), (52, .iload_n 3, 1), (53, .iload_n 2, 1), (54, .if_icmp .ge 21, 3), (57, .aload_n 0, 1), (58, .getfield 86, 3), (61, .iload_n 3, 1), (62, .aload_n 0, 1), (63, .getfield 101, 3), (66, .iload_n 3, 1), (67, .iaload, 1), (68, .iastore, 1), (69, .iinc 3 1, 3), (72, .goto (-20), 3), (75, .aload_n 0, 1), (76, .iload_n 2, 1), (77, .invokevirtual 193, 3), (80, .aload_n 0, 1), (81, .getfield 184, 3), (84, .ireturn, 1)]
theorem b_M_image_0 : (t_M_image_0.all fun q => decide (decode q_M_image.2.1 q.1 = .ok (q.2.1, q.2.2))) = true := by decide +kernel
theorem d_M_image_0 : vm_D q_M_image.2.1 0 1 1 (.aload_n 0) := vm_dD b_M_image_0 0 rfl rfl
theorem d_M_image_1 : vm_D q_M_image.2.1 1 1 2 (.iconst 0) := vm_dD b_M_image_0 1 rfl rfl
theorem d_M_image_2 : vm_D q_M_image.2.1 2 3 5 (.putfield 3) := vm_dD b_M_image_0 2 rfl rfl
theorem d_M_image_5 : vm_D q_M_image.2.1 5 1 6 (.aload_n 0) := vm_dD b_M_image_0 3 rfl rfl
theorem d_M_image_6 : vm_D q_M_image.2.1 6 1 7 (.iload_n 1) := vm_dD b_M_image_0 4 rfl rfl
theorem d_M_image_7 : vm_D q_M_image.2.1 7 3 10 (.invokevirtual 319) := vm_dD b_M_image_0 5 rfl rfl
theorem d_M_image_10 : vm_B q_M_image.2.1 10 13 15 (fun o => .ifCond .eq o) := ⟨5, vm_db b_M_image_0 (i := 6) rfl, rfl, by decide⟩
theorem d_M_image_15 : vm_D q_M_image.2.1 15 1 16 (.aload_n 0) := vm_dD b_M_image_0 9 rfl rfl
theorem d_M_image_16 : vm_D q_M_image.2.1 16 1 17 (.aload_n 0) := vm_dD b_M_image_0 10 rfl rfl
theorem d_M_image_17 : vm_D q_M_image.2.1 17 3 20 (.getfield 83) := vm_dD b_M_image_0 11 rfl rfl
theorem d_M_image_20 : vm_D q_M_image.2.1 20 1 21 (.aload_n 0) := vm_dD b_M_image_0 12 rfl rfl
theorem d_M_image_21 : vm_D q_M_image.2.1 21 3 24 (.getfield 184) := vm_dD b_M_image_0 13 rfl rfl
theorem d_M_image_24 : vm_D q_M_image.2.1 24 1 25 (.iload_n 1) := vm_dD b_M_image_0 14 rfl rfl
theorem d_M_image_25 : vm_D q_M_image.2.1 25 3 28 (.invokevirtual 315) := vm_dD b_M_image_0 15 rfl rfl
theorem d_M_image_28 : vm_D q_M_image.2.1 28 1 29 (.istore_n 2) := vm_dD b_M_image_0 16 rfl rfl
theorem d_M_image_29 : vm_D q_M_image.2.1 29 1 30 (.aload_n 0) := vm_dD b_M_image_0 17 rfl rfl
theorem d_M_image_30 : vm_D q_M_image.2.1 30 1 31 (.iload_n 2) := vm_dD b_M_image_0 18 rfl rfl
theorem d_M_image_31 : vm_D q_M_image.2.1 31 2 33 (.bipush 64) := vm_dD b_M_image_0 19 rfl rfl
theorem d_M_image_33 : vm_B q_M_image.2.1 33 36 40 (fun o => .if_icmp .le o) := ⟨7, vm_db b_M_image_0 (i := 20) rfl, rfl, by decide⟩
theorem d_M_image_41 : vm_D q_M_image.2.1 41 1 42 (.iconst 2) := vm_dD b_M_image_0 24 rfl rfl
theorem d_M_image_42 : vm_D q_M_image.2.1 42 3 45 (.invokevirtual 180) := vm_dD b_M_image_0 25 rfl rfl
theorem d_M_image_45 : vm_B q_M_image.2.1 45 48 50 (fun o => .ifCond .eq o) := ⟨5, vm_db b_M_image_0 (i := 26) rfl, rfl, by decide⟩
theorem d_M_image_50 : vm_D q_M_image.2.1 50 1 51 (.iconst 0) := vm_dD b_M_image_0 29 rfl rfl
theorem d_M_image_51 : vm_D q_M_image.2.1 51 1 52 (.istore_n 3) := vm_dD b_M_image_0 30 rfl rfl
theorem d_M_image_52 : vm_D q_M_image.2.1 52 1 53 (.iload_n 3) := vm_dD b_M_image_0 31 rfl rfl
theorem d_M_image_53 : vm_D q_M_image.2.1 53 1 54 (.iload_n 2) := vm_dD b_M_image_0 32 rfl rfl
theorem d_M_image_54 : vm_B q_M_image.2.1 54 57 75 (fun o => .if_icmp .ge o) := ⟨21, vm_db b_M_image_0 (i := 33) rfl, rfl, by decide⟩
theorem d_M_image_57 : vm_D q_M_image.2.1 57 1 58 (.aload_n 0) := vm_dD b_M_image_0 34 rfl rfl
theorem d_M_image_58 : vm_D q_M_image.2.1 58 3 61 (.getfield 86) := vm_dD b_M_image_0 35 rfl rfl
theorem d_M_image_61 : vm_D q_M_image.2.1 61 1 62 (.iload_n 3) := vm_dD b_M_image_0 36 rfl rfl
theorem d_M_image_62 : vm_D q_M_image.2.1 62 1 63 (.aload_n 0) := vm_dD b_M_image_0 37 rfl rfl
theorem d_M_image_63 : vm_D q_M_image.2.1 63 3 66 (.getfield 101) := vm_dD b_M_image_0 38 rfl rfl
theorem d_M_image_66 : vm_D q_M_image.2.1 66 1 67 (.iload_n 3) := vm_dD b_M_image_0 39 rfl rfl
theorem d_M_image_67 : vm_D q_M_image.2.1 67 1 68 (.iaload) := vm_dD b_M_image_0 40 rfl rfl
theorem d_M_image_68 : vm_D q_M_image.2.1 68 1 69 (.iastore) := vm_dD b_M_image_0 41 rfl rfl
theorem d_M_image_69 : vm_D q_M_image.2.1 69 3 72 (.iinc 3 1) := vm_dD b_M_image_0 42 rfl rfl
theorem d_M_image_72 : ∃ off : Int, decode q_M_image.2.1 72 = .ok (.goto off, 3) ∧ ((72 : Nat) : Int) + off = ((52 : Nat) : Int) := ⟨-20, vm_db b_M_image_0 (i := 43) rfl, by decide⟩
theorem d_M_image_75 : vm_D q_M_image.2.1 75 1 76 (.aload_n 0) := vm_dD b_M_image_0 44 rfl rfl
theorem d_M_image_76 : vm_D q_M_image.2.1 76 1 77 (.iload_n 2) := vm_dD b_M_image_0 45 rfl rfl
theorem d_M_image_77 : vm_D q_M_image.2.1 77 3 80 (.invokevirtual 193) := vm_dD b_M_image_0 46 rfl rfl
theorem d_M_image_80 : vm_D q_M_image.2.1 80 1 81 (.aload_n 0) := vm_dD b_M_image_0 47 rfl rfl
theorem d_M_image_81 : vm_D q_M_image.2.1 81 3 84 (.getfield 184) := vm_dD b_M_image_0 48 rfl rfl
theorem d_M_image_84 : vm_D q_M_image.2.1 84 1 85 (.ireturn) := vm_dD b_M_image_0 49 rfl rfl
theorem d_M_image_48 : vm_D q_M_image.2.1 48 1 49 (.iconst 0) := vm_dD b_M_image_0 27 rfl rfl
theorem d_M_image_49 : vm_D q_M_image.2.1 49 1 50 (.ireturn) := vm_dD b_M_image_0 28 rfl rfl
theorem d_M_image_40 : vm_D q_M_image.2.1 40 1 41 (.iconst 0) := vm_dD b_M_image_0 23 rfl rfl
theorem d_M_image_36 : vm_D q_M_image.2.1 36 1 37 (.iconst 1) := vm_dD b_M_image_0 21 rfl rfl
theorem d_M_image_37 : ∃ off : Int, decode q_M_image.2.1 37 = .ok (.goto off, 3) ∧ ((37 : Nat) : Int) + off = ((41 : Nat) : Int) := ⟨4, vm_db b_M_image_0 (i := 22) rfl, by decide⟩
theorem d_M_image_13 : vm_D q_M_image.2.1 13 1 14 (.iconst 0) := vm_dD b_M_image_0 7 rfl rfl
theorem d_M_image_14 : vm_D q_M_image.2.1 14 1 15 (.ireturn) := vm_dD b_M_image_0 8 rfl rfl
def q_M_imaged : vm_Y := ("RepeatFreeModel", cX11_imaged, 4, false, [])
def t_M_imaged_0 : List (Nat × Instr × Nat) := [(0, .aload_n 0, 1), (1, .iconst 0, 1), (2, .putfield 3, 3), (5, .aload_n 0, 1), (6, .iload_n 1, 1), (7, .invokevirtual 319, 3), (10, .ifCond .ne 12, 3), (13, .aload_n 0, 1), (14, .iload_n 2, 1), (15, .iconst 2, 1), (16, .invokevirtual 196, 3), (19, .ifCond .eq 5, 3), (22, .iconst 0, 1), (23, .ireturn, 1), (24, .iload_n 3, 1), (25, .iconst (-1), 1), (26, .if_icmp .ne 12, 3), (29, .aload_n 0, 1), (30, .iload_n 1, 1), (31, .iload_n 2, 1), (32, .invokevirtual 305, 3), (35, .goto 30, 3), (38, .iload_n 3, 1), (39, .iconst 0, 1), (40, .aload_n 0, 1), (41, .iload_n 1, 1), (42, .iload_n 2, 1), (43, .invokevirtual 305, 3), (46, .iconst 1, 1), (47, .isub, 1), (48, .invokestatic 65, 3), (51, .ifCond .eq 13, 3), (54, .aload_n 0, 1), (55, .iload_n 1, 1), (56, .iload_n 2, 1), (57, .iload_n 3, 1), (58, .invokevirtual 308, 3), (61, .goto 4, 3), (64, .iconst (-1), 1), (65, .ireturn, 1)]
theorem b_M_imaged_0 : (t_M_imaged_0.all fun q => decide (decode q_M_imaged.2.1 q.1 = .ok (q.2.1, q.2.2))) = true := by decide +kernel
theorem d_M_imaged_0 : vm_D q_M_imaged.2.1 0 1 1 (.aload_n 0) := vm_dD b_M_imaged_0 0 rfl rfl
theorem d_M_imaged_1 : vm_D q_M_imaged.2.1 1 1 2 (.iconst 0) := vm_dD b_M_imaged_0 1 rfl rfl
theorem d_M_imaged_2 : vm_D q_M_imaged.2.1 2 3 5 (.putfield 3) := vm_dD b_M_imaged_0 2 rfl rfl
theorem d_M_imaged_5 : vm_D q_M_imaged.2.1 5 1 6 (.aload_n 0) := vm_dD b_M_imaged_0 3 rfl rfl
theorem d_M_imaged_6 : vm_D q_M_imaged.2.1 6 1 7 (.iload_n 1) := vm_dD b_M_imaged_0 4 rfl rfl
theorem d_M_imaged_7 : vm_D q_M_imaged.2.1 7 3 10 (.invokevirtual 319) := vm_dD b_M_imaged_0 5 rfl rfl
theorem d_M_imaged_10 : vm_B q_M_imaged.2.1 10 13 22 (fun o => .ifCond .ne o) := ⟨12, vm_db b_M_imaged_0 (i := 6) rfl, rfl, by decide⟩
theorem d_M_imaged_22 : vm_D q_M_imaged.2.1 22 1 23 (.iconst 0) := vm_dD b_M_imaged_0 12 rfl rfl
theorem d_M_imaged_23 : vm_D q_M_imaged.2.1 23 1 24 (.ireturn) := vm_dD b_M_imaged_0 13 rfl rfl
theorem d_M_imaged_13 : vm_D q_M_imaged.2.1 13 1 14 (.aload_n 0) := vm_dD b_M_imaged_0 7 rfl rfl
theorem d_M_imaged_14 : vm_D q_M_imaged.2.1 14 1 15 (.iload_n 2) := vm_dD b_M_imaged_0 8 rfl rfl
theorem d_M_imaged_15 : vm_D q_M_imaged.2.1 15 1 16 (.iconst 2) := vm_dD b_M_imaged_0 9 rfl rfl
theorem d_M_imaged_16 : vm_D q_M_imaged.2.1 16 3 19 (.invokevirtual 196) := vm_dD b_M_imaged_0 10 rfl rfl
theorem d_M_imaged_19 : vm_B q_M_imaged.2.1 19 22 24 (fun o => .ifCond .eq o) := ⟨5, vm_db b_M_imaged_0 (i := 11) rfl, rfl, by decide⟩
theorem d_M_imaged_24 : vm_D q_M_imaged.2.1 24 1 25 (.iload_n 3) := vm_dD b_M_imaged_0 14 rfl rfl
theorem d_M_imaged_25 : vm_D q_M_imaged.2.1 25 1 26 (.iconst (-1)) := vm_dD b_M_imaged_0 15 rfl rfl
theorem d_M_imaged_26 : vm_B q_M_imaged.2.1 26 29 38 (fun o => .if_icmp .ne o) := ⟨12, vm_db b_M_imaged_0 (i := 16) rfl, rfl, by decide⟩
theorem d_M_imaged_38 : vm_D q_M_imaged.2.1 38 1 39 (.iload_n 3) := vm_dD b_M_imaged_0 22 rfl rfl
theorem d_M_imaged_39 : vm_D q_M_imaged.2.1 39 1 40 (.iconst 0) := vm_dD b_M_imaged_0 23 rfl rfl
theorem d_M_imaged_40 : vm_D q_M_imaged.2.1 40 1 41 (.aload_n 0) := vm_dD b_M_imaged_0 24 rfl rfl
theorem d_M_imaged_41 : vm_D q_M_imaged.2.1 41 1 42 (.iload_n 1) := vm_dD b_M_imaged_0 25 rfl rfl
theorem d_M_imaged_42 : vm_D q_M_imaged.2.1 42 1 43 (.iload_n 2) := vm_dD b_M_imaged_0 26 rfl rfl
theorem d_M_imaged_43 : vm_D q_M_imaged.2.1 43 3 46 (.invokevirtual 305) := vm_dD b_M_imaged_0 27 rfl rfl
theorem d_M_imaged_46 : vm_D q_M_imaged.2.1 46 1 47 (.iconst 1) := vm_dD b_M_imaged_0 28 rfl rfl
theorem d_M_imaged_47 : vm_D q_M_imaged.2.1 47 1 48 (.isub) := vm_dD b_M_imaged_0 29 rfl rfl
theorem d_M_imaged_48 : vm_D q_M_imaged.2.1 48 3 51 (.invokestatic 65) := vm_dD b_M_imaged_0 30 rfl rfl
theorem d_M_imaged_51 : vm_B q_M_imaged.2.1 51 54 64 (fun o => .ifCond .eq o) := ⟨13, vm_db b_M_imaged_0 (i := 31) rfl, rfl, by decide⟩
theorem d_M_imaged_64 : vm_D q_M_imaged.2.1 64 1 65 (.iconst (-1)) := vm_dD b_M_imaged_0 38 rfl rfl
theorem d_M_imaged_65 : vm_D q_M_imaged.2.1 65 1 66 (.ireturn) := vm_dD b_M_imaged_0 39 rfl rfl
theorem d_M_imaged_54 : vm_D q_M_imaged.2.1 54 1 55 (.aload_n 0) := vm_dD b_M_imaged_0 32 rfl rfl
theorem d_M_imaged_55 : vm_D q_M_imaged.2.1 55 1 56 (.iload_n 1) := vm_dD b_M_imaged_0 33 rfl rfl
theorem d_M_imaged_56 : vm_D q_M_imaged.2.1 56 1 57 (.iload_n 2) := vm_dD b_M_imaged_0 34 rfl rfl
theorem d_M_imaged_57 : vm_D q_M_imaged.2.1 57 1 58 (.iload_n 3) := vm_dD b_M_imaged_0 35 rfl rfl
theorem d_M_imaged_58 : vm_D q_M_imaged.2.1 58 3 61 (.invokevirtual 308) := vm_dD b_M_imaged_0 36 rfl rfl
theorem d_M_imaged_61 : ∃ off : Int, decode q_M_imaged.2.1 61 = .ok (.goto off, 3) ∧ ((61 : Nat) : Int) + off = ((65 : Nat) : Int) := ⟨4, vm_db b_M_imaged_0 (i := 37) rfl, by decide⟩
theorem d_M_imaged_29 : vm_D q_M_imaged.2.1 29 1 30 (.aload_n 0) := vm_dD b_M_imaged_0 17 rfl rfl
theorem d_M_imaged_30 : vm_D q_M_imaged.2.1 30 1 31 (.iload_n 1) := vm_dD b_M_imaged_0 18 rfl rfl
theorem d_M_imaged_31 : vm_D q_M_imaged.2.1 31 1 32 (.iload_n 2) := vm_dD b_M_imaged_0 19 rfl rfl
theorem d_M_imaged_32 : vm_D q_M_imaged.2.1 32 3 35 (.invokevirtual 305) := vm_dD b_M_imaged_0 20 rfl rfl
theorem d_M_imaged_35 : ∃ off : Int, decode q_M_imaged.2.1 35 = .ok (.goto off, 3) ∧ ((35 : Nat) : Int) + off = ((65 : Nat) : Int) := ⟨30, vm_db b_M_imaged_0 (i := 21) rfl, by decide⟩
def q_M_at : vm_Y := ("RepeatFreeModel", cX11_at, 3, false, [])
def t_M_at_0 : List (Nat × Instr × Nat) := [(0, .iconst 4, 1), (1, .iconst 4, 1), (2, .iload_n 0, 1), (3, .imul, 1), (4, .iload_n 1, 1), (5, .iadd, 1), (6, .imul, 1), (7, .iload_n 2, 1), (8, .iadd, 1), (9, .ireturn, 1)]
theorem b_M_at_0 : (t_M_at_0.all fun q => decide (decode q_M_at.2.1 q.1 = .ok (q.2.1, q.2.2))) = true := by decide +kernel
theorem d_M_at_0 : vm_D q_M_at.2.1 0 1 1 (.iconst 4) := vm_dD b_M_at_0 0 rfl rfl
theorem d_M_at_1 : vm_D q_M_at.2.1 1 1 2 (.iconst 4) := vm_dD b_M_at_0 1 rfl rfl
theorem d_M_at_2 : vm_D q_M_at.2.1 2 1 3 (.iload_n 0) := vm_dD b_M_at_0 2 rfl rfl
theorem d_M_at_3 : vm_D q_M_at.2.1 3 1 4 (.imul) := vm_dD b_M_at_0 3 rfl rfl
theorem d_M_at_4 : vm_D q_M_at.2.1 4 1 5 (.iload_n 1) := vm_dD b_M_at_0 4 rfl rfl
theorem d_M_at_5 : vm_D q_M_at.2.1 5 1 6 (.iadd) := vm_dD b_M_at_0 5 rfl rfl
theorem d_M_at_6 : vm_D q_M_at.2.1 6 1 7 (.imul) := vm_dD b_M_at_0 6 rfl rfl
theorem d_M_at_7 : vm_D q_M_at.2.1 7 1 8 (.iload_n 2) := vm_dD b_M_at_0 7 rfl rfl
theorem d_M_at_8 : vm_D q_M_at.2.1 8 1 9 (.iadd) := vm_dD b_M_at_0 8 rfl rfl
theorem d_M_at_9 : vm_D q_M_at.2.1 9 1 10 (.ireturn) := vm_dD b_M_at_0 9 rfl rfl
def q_M_laysCounts : vm_Y := ("RepeatFreeModel", cX11_laysCounts, 7, false, [])
def t_M_laysCounts_0 : List (Nat × Instr × Nat) := [(0, .iconst 0, 1), (1, .istore_n 3, 1), (2, .iload_n 3, 1), (3, .iconst 4, 1), (4, .if_icmp .ge 47, 3), (7, .iconst 0, 1), (8, .istore 4, 2), (10, .iload 4, 2), (12, .iconst 4, 1), (13, .if_icmp .ge 32, 3), (16, .aload_n 0, 1), (17, .getfield 104, 3), (20, .iconst 0, 1), (21, .iload_n 3, 1), (22, .iload 4, 2), (24, .invokestatic 322, 3), (27, .iload_n 3, 1), (28, .iload 4, 2), (30, .if_icmp .ne 7, 3), (33, .lconst 1, 1), (34, .goto 4, 3), (37, .lconst 0, 1), (38, .lastore, 1), (39, .iinc 4 1, 3), (42, .goto (-32), 3), (45, .iinc 3 1, 3), (48, .goto (-46), 3), (51, .iconst 1, 1), (52, .istore_n 3, 1), (53, .iload_n 3, 1), (54, .iload_n 2, 1), (55, .if_icmp .gt 117, 3), (58, .iconst 0, 1), (59, .istore 4, 2), (61, .iload 4, 2), (63, .aload_n 0, 1), (64, .getfield 77, 3), (67, .iconst 0, 1), (68, .iaload, 1), (69, .if_icmp .ge 97, 3), (72, .iconst 0, 1), (73, .istore 5, 2), (75, .iload 5, 2), (77, .iconst 4, 1), (78, .if_icmp .ge 82, 3), (81, .aload_n 0, 1), (82, .getfield 104, 3), (85, .iload_n 3, 1), (86, .iload 4, 2), (88, .iload 5, 2), (90, .invokestatic 322, 3), (93, .lconst 0, 1), (94, .lastore, 1), (95, .iconst 0, 1), (96, .istore 6, 2), (98, .iload 6, 2), (100, .aload_n 0, 1), (101, .iload_n 1, 1), (102, .iload 4, 2), (104, .invokevirtual 305, 3)]
theorem b_M_laysCounts_0 : (t_M_laysCounts_0.all fun q => decide (decode q_M_laysCounts.2.1 q.1 = .ok (q.2.1, q.2.2))) = true := by decide +kernel
def t_M_laysCounts_1 : List (Nat × Instr × Nat) := [(107, .if_icmp .ge 47, 3), (110, .aload_n 0, 1), (111, .getfield 104, 3), (114, .iload_n 3, 1), (115, .iload 4, 2), (117, .iload 5, 2), (119, .invokestatic 322, 3), (122, .dup2, 1), (123, .laload, 1), (124, .aload_n 0, 1), (125, .getfield 104, 3), (128, .iload_n 3, 1), (129, .iconst 1, 1), (130, .isub, 1), (131, .aload_n 0, 1), (132, .iload_n 1, 1), (133, .iload 4, 2), (135, .iload 6, 2), (137, .invokevirtual 308, 3), (140, .iload 5, 2), (142, .invokestatic 322, 3), (145, .laload, 1), (146, .ladd, 1), (147, .lastore, 1), (148, .iinc 6 1, 3), (151, .goto (-53), 3), (154, .iinc 5 1, 3), (157, .goto (-82), 3), (160, .iinc 4 1, 3), (163, .goto (-102), 3), (166, .iinc 3 1, 3), (169, .goto (-116), 3), (172, .return_, 1)]
theorem b_M_laysCounts_1 : (t_M_laysCounts_1.all fun q => decide (decode q_M_laysCounts.2.1 q.1 = .ok (q.2.1, q.2.2))) = true := by decide +kernel
theorem d_M_laysCounts_0 : vm_D q_M_laysCounts.2.1 0 1 1 (.iconst 0) := vm_dD b_M_laysCounts_0 0 rfl rfl
theorem d_M_laysCounts_1 : vm_D q_M_laysCounts.2.1 1 1 2 (.istore_n 3) := vm_dD b_M_laysCounts_0 1 rfl rfl
theorem d_M_laysCounts_2 : vm_D q_M_laysCounts.2.1 2 1 3 (.iload_n 3) := vm_dD b_M_laysCounts_0 2 rfl rfl
theorem d_M_laysCounts_3 : vm_D q_M_laysCounts.2.1 3 1 4 (.iconst 4) := vm_dD b_M_laysCounts_0 3 rfl rfl
theorem d_M_laysCounts_4 : vm_B q_M_laysCounts.2.1 4 7 51 (fun o => .if_icmp .ge o) := ⟨47, vm_db b_M_laysCounts_0 (i := 4) rfl, rfl, by decide⟩
theorem d_M_laysCounts_7 : vm_D q_M_laysCounts.2.1 7 1 8 (.iconst 0) := vm_dD b_M_laysCounts_0 5 rfl rfl
theorem d_M_laysCounts_8 : vm_D q_M_laysCounts.2.1 8 2 10 (.istore 4) := vm_dD b_M_laysCounts_0 6 rfl rfl
theorem d_M_laysCounts_10 : vm_D q_M_laysCounts.2.1 10 2 12 (.iload 4) := vm_dD b_M_laysCounts_0 7 rfl rfl
theorem d_M_laysCounts_12 : vm_D q_M_laysCounts.2.1 12 1 13 (.iconst 4) := vm_dD b_M_laysCounts_0 8 rfl rfl
theorem d_M_laysCounts_13 : vm_B q_M_laysCounts.2.1 13 16 45 (fun o => .if_icmp .ge o) := ⟨32, vm_db b_M_laysCounts_0 (i := 9) rfl, rfl, by decide⟩
theorem d_M_laysCounts_16 : vm_D q_M_laysCounts.2.1 16 1 17 (.aload_n 0) := vm_dD b_M_laysCounts_0 10 rfl rfl
theorem d_M_laysCounts_17 : vm_D q_M_laysCounts.2.1 17 3 20 (.getfield 104) := vm_dD b_M_laysCounts_0 11 rfl rfl
theorem d_M_laysCounts_20 : vm_D q_M_laysCounts.2.1 20 1 21 (.iconst 0) := vm_dD b_M_laysCounts_0 12 rfl rfl
theorem d_M_laysCounts_21 : vm_D q_M_laysCounts.2.1 21 1 22 (.iload_n 3) := vm_dD b_M_laysCounts_0 13 rfl rfl
theorem d_M_laysCounts_22 : vm_D q_M_laysCounts.2.1 22 2 24 (.iload 4) := vm_dD b_M_laysCounts_0 14 rfl rfl
theorem d_M_laysCounts_24 : vm_D q_M_laysCounts.2.1 24 3 27 (.invokestatic 322) := vm_dD b_M_laysCounts_0 15 rfl rfl
theorem d_M_laysCounts_27 : vm_D q_M_laysCounts.2.1 27 1 28 (.iload_n 3) := vm_dD b_M_laysCounts_0 16 rfl rfl
theorem d_M_laysCounts_28 : vm_D q_M_laysCounts.2.1 28 2 30 (.iload 4) := vm_dD b_M_laysCounts_0 17 rfl rfl
theorem d_M_laysCounts_30 : vm_B q_M_laysCounts.2.1 30 33 37 (fun o => .if_icmp .ne o) := ⟨7, vm_db b_M_laysCounts_0 (i := 18) rfl, rfl, by decide⟩
theorem d_M_laysCounts_38 : vm_D q_M_laysCounts.2.1 38 1 39 (.lastore) := vm_dD b_M_laysCounts_0 22 rfl rfl
theorem d_M_laysCounts_39 : vm_D q_M_laysCounts.2.1 39 3 42 (.iinc 4 1) := vm_dD b_M_laysCounts_0 23 rfl rfl
theorem d_M_laysCounts_42 : ∃ off : Int, decode q_M_laysCounts.2.1 42 = .ok (.goto off, 3) ∧ ((42 : Nat) : Int) + off = ((10 : Nat) : Int) := ⟨-32, vm_db b_M_laysCounts_0 (i := 24) rfl, by decide⟩
theorem d_M_laysCounts_37 : vm_D q_M_laysCounts.2.1 37 1 38 (.lconst 0) := vm_dD b_M_laysCounts_0 21 rfl rfl
theorem d_M_laysCounts_33 : vm_D q_M_laysCounts.2.1 33 1 34 (.lconst 1) := vm_dD b_M_laysCounts_0 19 rfl rfl
theorem d_M_laysCounts_34 : ∃ off : Int, decode q_M_laysCounts.2.1 34 = .ok (.goto off, 3) ∧ ((34 : Nat) : Int) + off = ((38 : Nat) : Int) := ⟨4, vm_db b_M_laysCounts_0 (i := 20) rfl, by decide⟩
theorem d_M_laysCounts_45 : vm_D q_M_laysCounts.2.1 45 3 48 (.iinc 3 1) := vm_dD b_M_laysCounts_0 25 rfl rfl
theorem d_M_laysCounts_48 : ∃ off : Int, decode q_M_laysCounts.2.1 48 = .ok (.goto off, 3) ∧ ((48 : Nat) : Int) + off = ((2 : Nat) : Int) := ⟨-46, vm_db b_M_laysCounts_0 (i := 26) rfl, by decide⟩
theorem d_M_laysCounts_51 : vm_D q_M_laysCounts.2.1 51 1 52 (.iconst 1) := vm_dD b_M_laysCounts_0 27 rfl rfl
theorem d_M_laysCounts_52 : vm_D q_M_laysCounts.2.1 52 1 53 (.istore_n 3) := vm_dD b_M_laysCounts_0 28 rfl rfl
theorem d_M_laysCounts_53 : vm_D q_M_laysCounts.2.1 53 1 54 (.iload_n 3) := vm_dD b_M_laysCounts_0 29 rfl rfl
theorem d_M_laysCounts_54 : vm_D q_M_laysCounts.2.1 54 1 55 (.iload_n 2) := vm_dD b_M_laysCounts_0 30 rfl rfl
theorem d_M_laysCounts_55 : vm_B q_M_laysCounts.2.1 55 58 172 (fun o => .if_icmp .gt o) := ⟨117, vm_db b_M_laysCounts_0 (i := 31) rfl, rfl, by decide⟩
theorem d_M_laysCounts_58 : vm_D q_M_laysCounts.2.1 58 1 59 (.iconst 0) := vm_dD b_M_laysCounts_0 32 rfl rfl
theorem d_M_laysCounts_59 : vm_D q_M_laysCounts.2.1 59 2 61 (.istore 4) := vm_dD b_M_laysCounts_0 33 rfl rfl
theorem d_M_laysCounts_61 : vm_D q_M_laysCounts.2.1 61 2 63 (.iload 4) := vm_dD b_M_laysCounts_0 34 rfl rfl
theorem d_M_laysCounts_63 : vm_D q_M_laysCounts.2.1 63 1 64 (.aload_n 0) := vm_dD b_M_laysCounts_0 35 rfl rfl
theorem d_M_laysCounts_64 : vm_D q_M_laysCounts.2.1 64 3 67 (.getfield 77) := vm_dD b_M_laysCounts_0 36 rfl rfl
theorem d_M_laysCounts_67 : vm_D q_M_laysCounts.2.1 67 1 68 (.iconst 0) := vm_dD b_M_laysCounts_0 37 rfl rfl
theorem d_M_laysCounts_68 : vm_D q_M_laysCounts.2.1 68 1 69 (.iaload) := vm_dD b_M_laysCounts_0 38 rfl rfl
theorem d_M_laysCounts_69 : vm_B q_M_laysCounts.2.1 69 72 166 (fun o => .if_icmp .ge o) := ⟨97, vm_db b_M_laysCounts_0 (i := 39) rfl, rfl, by decide⟩
theorem d_M_laysCounts_72 : vm_D q_M_laysCounts.2.1 72 1 73 (.iconst 0) := vm_dD b_M_laysCounts_0 40 rfl rfl
theorem d_M_laysCounts_73 : vm_D q_M_laysCounts.2.1 73 2 75 (.istore 5) := vm_dD b_M_laysCounts_0 41 rfl rfl
theorem d_M_laysCounts_75 : vm_D q_M_laysCounts.2.1 75 2 77 (.iload 5) := vm_dD b_M_laysCounts_0 42 rfl rfl
theorem d_M_laysCounts_77 : vm_D q_M_laysCounts.2.1 77 1 78 (.iconst 4) := vm_dD b_M_laysCounts_0 43 rfl rfl
theorem d_M_laysCounts_78 : vm_B q_M_laysCounts.2.1 78 81 160 (fun o => .if_icmp .ge o) := ⟨82, vm_db b_M_laysCounts_0 (i := 44) rfl, rfl, by decide⟩
theorem d_M_laysCounts_81 : vm_D q_M_laysCounts.2.1 81 1 82 (.aload_n 0) := vm_dD b_M_laysCounts_0 45 rfl rfl
theorem d_M_laysCounts_82 : vm_D q_M_laysCounts.2.1 82 3 85 (.getfield 104) := vm_dD b_M_laysCounts_0 46 rfl rfl
theorem d_M_laysCounts_85 : vm_D q_M_laysCounts.2.1 85 1 86 (.iload_n 3) := vm_dD b_M_laysCounts_0 47 rfl rfl
theorem d_M_laysCounts_86 : vm_D q_M_laysCounts.2.1 86 2 88 (.iload 4) := vm_dD b_M_laysCounts_0 48 rfl rfl
theorem d_M_laysCounts_88 : vm_D q_M_laysCounts.2.1 88 2 90 (.iload 5) := vm_dD b_M_laysCounts_0 49 rfl rfl
theorem d_M_laysCounts_90 : vm_D q_M_laysCounts.2.1 90 3 93 (.invokestatic 322) := vm_dD b_M_laysCounts_0 50 rfl rfl
theorem d_M_laysCounts_93 : vm_D q_M_laysCounts.2.1 93 1 94 (.lconst 0) := vm_dD b_M_laysCounts_0 51 rfl rfl
theorem d_M_laysCounts_94 : vm_D q_M_laysCounts.2.1 94 1 95 (.lastore) := vm_dD b_M_laysCounts_0 52 rfl rfl
theorem d_M_laysCounts_95 : vm_D q_M_laysCounts.2.1 95 1 96 (.iconst 0) := vm_dD b_M_laysCounts_0 53 rfl rfl
theorem d_M_laysCounts_96 : vm_D q_M_laysCounts.2.1 96 2 98 (.istore 6) := vm_dD b_M_laysCounts_0 54 rfl rfl
theorem d_M_laysCounts_98 : vm_D q_M_laysCounts.2.1 98 2 100 (.iload 6) := vm_dD b_M_laysCounts_0 55 rfl rfl
theorem d_M_laysCounts_100 : vm_D q_M_laysCounts.2.1 100 1 101 (.aload_n 0) := vm_dD b_M_laysCounts_0 56 rfl rfl
theorem d_M_laysCounts_101 : vm_D q_M_laysCounts.2.1 101 1 102 (.iload_n 1) := vm_dD b_M_laysCounts_0 57 rfl rfl
theorem d_M_laysCounts_102 : vm_D q_M_laysCounts.2.1 102 2 104 (.iload 4) := vm_dD b_M_laysCounts_0 58 rfl rfl
theorem d_M_laysCounts_104 : vm_D q_M_laysCounts.2.1 104 3 107 (.invokevirtual 305) := vm_dD b_M_laysCounts_0 59 rfl rfl
theorem d_M_laysCounts_107 : vm_B q_M_laysCounts.2.1 107 110 154 (fun o => .if_icmp .ge o) := ⟨47, vm_db b_M_laysCounts_1 (i := 0) rfl, rfl, by decide⟩
theorem d_M_laysCounts_110 : vm_D q_M_laysCounts.2.1 110 1 111 (.aload_n 0) := vm_dD b_M_laysCounts_1 1 rfl rfl
theorem d_M_laysCounts_111 : vm_D q_M_laysCounts.2.1 111 3 114 (.getfield 104) := vm_dD b_M_laysCounts_1 2 rfl rfl
theorem d_M_laysCounts_114 : vm_D q_M_laysCounts.2.1 114 1 115 (.iload_n 3) := vm_dD b_M_laysCounts_1 3 rfl rfl
theorem d_M_laysCounts_115 : vm_D q_M_laysCounts.2.1 115 2 117 (.iload 4) := vm_dD b_M_laysCounts_1 4 rfl rfl
theorem d_M_laysCounts_117 : vm_D q_M_laysCounts.2.1 117 2 119 (.iload 5) := vm_dD b_M_laysCounts_1 5 rfl rfl
theorem d_M_laysCounts_119 : vm_D q_M_laysCounts.2.1 119 3 122 (.invokestatic 322) := vm_dD b_M_laysCounts_1 6 rfl rfl
theorem d_M_laysCounts_122 : vm_D q_M_laysCounts.2.1 122 1 123 (.dup2) := vm_dD b_M_laysCounts_1 7 rfl rfl
theorem d_M_laysCounts_123 : vm_D q_M_laysCounts.2.1 123 1 124 (.laload) := vm_dD b_M_laysCounts_1 8 rfl rfl
theorem d_M_laysCounts_124 : vm_D q_M_laysCounts.2.1 124 1 125 (.aload_n 0) := vm_dD b_M_laysCounts_1 9 rfl rfl
theorem d_M_laysCounts_125 : vm_D q_M_laysCounts.2.1 125 3 128 (.getfield 104) := vm_dD b_M_laysCounts_1 10 rfl rfl
theorem d_M_laysCounts_128 : vm_D q_M_laysCounts.2.1 128 1 129 (.iload_n 3) := vm_dD b_M_laysCounts_1 11 rfl rfl
theorem d_M_laysCounts_129 : vm_D q_M_laysCounts.2.1 129 1 130 (.iconst 1) := vm_dD b_M_laysCounts_1 12 rfl rfl
theorem d_M_laysCounts_130 : vm_D q_M_laysCounts.2.1 130 1 131 (.isub) := vm_dD b_M_laysCounts_1 13 rfl rfl
theorem d_M_laysCounts_131 : vm_D q_M_laysCounts.2.1 131 1 132 (.aload_n 0) := vm_dD b_M_laysCounts_1 14 rfl rfl
theorem d_M_laysCounts_132 : vm_D q_M_laysCounts.2.1 132 1 133 (.iload_n 1) := vm_dD b_M_laysCounts_1 15 rfl rfl
theorem d_M_laysCounts_133 : vm_D q_M_laysCounts.2.1 133 2 135 (.iload 4) := vm_dD b_M_laysCounts_1 16 rfl rfl
theorem d_M_laysCounts_135 : vm_D q_M_laysCounts.2.1 135 2 137 (.iload 6) := vm_dD b_M_laysCounts_1 17 rfl rfl
theorem d_M_laysCounts_137 : vm_D q_M_laysCounts.2.1 137 3 140 (.invokevirtual 308) := vm_dD b_M_laysCounts_1 18 rfl rfl
theorem d_M_laysCounts_140 : vm_D q_M_laysCounts.2.1 140 2 142 (.iload 5) := vm_dD b_M_laysCounts_1 19 rfl rfl
theorem d_M_laysCounts_142 : vm_D q_M_laysCounts.2.1 142 3 145 (.invokestatic 322) := vm_dD b_M_laysCounts_1 20 rfl rfl
theorem d_M_laysCounts_145 : vm_D q_M_laysCounts.2.1 145 1 146 (.laload) := vm_dD b_M_laysCounts_1 21 rfl rfl
theorem d_M_laysCounts_146 : vm_D q_M_laysCounts.2.1 146 1 147 (.ladd) := vm_dD b_M_laysCounts_1 22 rfl rfl
theorem d_M_laysCounts_147 : vm_D q_M_laysCounts.2.1 147 1 148 (.lastore) := vm_dD b_M_laysCounts_1 23 rfl rfl
theorem d_M_laysCounts_148 : vm_D q_M_laysCounts.2.1 148 3 151 (.iinc 6 1) := vm_dD b_M_laysCounts_1 24 rfl rfl
theorem d_M_laysCounts_151 : ∃ off : Int, decode q_M_laysCounts.2.1 151 = .ok (.goto off, 3) ∧ ((151 : Nat) : Int) + off = ((98 : Nat) : Int) := ⟨-53, vm_db b_M_laysCounts_1 (i := 25) rfl, by decide⟩
theorem d_M_laysCounts_154 : vm_D q_M_laysCounts.2.1 154 3 157 (.iinc 5 1) := vm_dD b_M_laysCounts_1 26 rfl rfl
theorem d_M_laysCounts_157 : ∃ off : Int, decode q_M_laysCounts.2.1 157 = .ok (.goto off, 3) ∧ ((157 : Nat) : Int) + off = ((75 : Nat) : Int) := ⟨-82, vm_db b_M_laysCounts_1 (i := 27) rfl, by decide⟩
theorem d_M_laysCounts_160 : vm_D q_M_laysCounts.2.1 160 3 163 (.iinc 4 1) := vm_dD b_M_laysCounts_1 28 rfl rfl
theorem d_M_laysCounts_163 : ∃ off : Int, decode q_M_laysCounts.2.1 163 = .ok (.goto off, 3) ∧ ((163 : Nat) : Int) + off = ((61 : Nat) : Int) := ⟨-102, vm_db b_M_laysCounts_1 (i := 29) rfl, by decide⟩
theorem d_M_laysCounts_166 : vm_D q_M_laysCounts.2.1 166 3 169 (.iinc 3 1) := vm_dD b_M_laysCounts_1 30 rfl rfl
theorem d_M_laysCounts_169 : ∃ off : Int, decode q_M_laysCounts.2.1 169 = .ok (.goto off, 3) ∧ ((169 : Nat) : Int) + off = ((53 : Nat) : Int) := ⟨-116, vm_db b_M_laysCounts_1 (i := 31) rfl, by decide⟩
theorem d_M_laysCounts_172 : vm_D q_M_laysCounts.2.1 172 1 173 (.return_) := vm_dD b_M_laysCounts_1 32 rfl rfl
def q_M_lengthOf : vm_Y := ("RepeatFreeModel", cX11_lengthOf, 6, false, [])
def t_M_lengthOf_0 : List (Nat × Instr × Nat) := [(0, .lconst 0, 1), (1, .lstore_n 3, 1), (2, .iconst 0, 1), (3, .istore 5, 2), (5, .iload 5, 2), (7, .iconst 4, 1), (8, .if_icmp .ge 24, 3), (11, .lload_n 3, 1), (12, .aload_n 0, 1), (13, .getfield 104, 3), (16, .iload_n 1, 1), (17, .iload_n 2, 1), (18, .iload 5, 2), (20, .invokestatic 322, 3), (23, .laload, 1), (24, .ladd, 1), (25, .lstore_n 3, 1), (26, .iinc 5 1, 3), (29, .goto (-24), 3), (32, .lload_n 3, 1), (33, .lreturn, 1)]
theorem b_M_lengthOf_0 : (t_M_lengthOf_0.all fun q => decide (decode q_M_lengthOf.2.1 q.1 = .ok (q.2.1, q.2.2))) = true := by decide +kernel
theorem d_M_lengthOf_0 : vm_D q_M_lengthOf.2.1 0 1 1 (.lconst 0) := vm_dD b_M_lengthOf_0 0 rfl rfl
theorem d_M_lengthOf_1 : vm_D q_M_lengthOf.2.1 1 1 2 (.lstore_n 3) := vm_dD b_M_lengthOf_0 1 rfl rfl
theorem d_M_lengthOf_2 : vm_D q_M_lengthOf.2.1 2 1 3 (.iconst 0) := vm_dD b_M_lengthOf_0 2 rfl rfl
theorem d_M_lengthOf_3 : vm_D q_M_lengthOf.2.1 3 2 5 (.istore 5) := vm_dD b_M_lengthOf_0 3 rfl rfl
theorem d_M_lengthOf_5 : vm_D q_M_lengthOf.2.1 5 2 7 (.iload 5) := vm_dD b_M_lengthOf_0 4 rfl rfl
theorem d_M_lengthOf_7 : vm_D q_M_lengthOf.2.1 7 1 8 (.iconst 4) := vm_dD b_M_lengthOf_0 5 rfl rfl
theorem d_M_lengthOf_8 : vm_B q_M_lengthOf.2.1 8 11 32 (fun o => .if_icmp .ge o) := ⟨24, vm_db b_M_lengthOf_0 (i := 6) rfl, rfl, by decide⟩
theorem d_M_lengthOf_11 : vm_D q_M_lengthOf.2.1 11 1 12 (.lload_n 3) := vm_dD b_M_lengthOf_0 7 rfl rfl
theorem d_M_lengthOf_12 : vm_D q_M_lengthOf.2.1 12 1 13 (.aload_n 0) := vm_dD b_M_lengthOf_0 8 rfl rfl
theorem d_M_lengthOf_13 : vm_D q_M_lengthOf.2.1 13 3 16 (.getfield 104) := vm_dD b_M_lengthOf_0 9 rfl rfl
theorem d_M_lengthOf_16 : vm_D q_M_lengthOf.2.1 16 1 17 (.iload_n 1) := vm_dD b_M_lengthOf_0 10 rfl rfl
theorem d_M_lengthOf_17 : vm_D q_M_lengthOf.2.1 17 1 18 (.iload_n 2) := vm_dD b_M_lengthOf_0 11 rfl rfl
theorem d_M_lengthOf_18 : vm_D q_M_lengthOf.2.1 18 2 20 (.iload 5) := vm_dD b_M_lengthOf_0 12 rfl rfl
theorem d_M_lengthOf_20 : vm_D q_M_lengthOf.2.1 20 3 23 (.invokestatic 322) := vm_dD b_M_lengthOf_0 13 rfl rfl
theorem d_M_lengthOf_23 : vm_D q_M_lengthOf.2.1 23 1 24 (.laload) := vm_dD b_M_lengthOf_0 14 rfl rfl
theorem d_M_lengthOf_24 : vm_D q_M_lengthOf.2.1 24 1 25 (.ladd) := vm_dD b_M_lengthOf_0 15 rfl rfl
theorem d_M_lengthOf_25 : vm_D q_M_lengthOf.2.1 25 1 26 (.lstore_n 3) := vm_dD b_M_lengthOf_0 16 rfl rfl
theorem d_M_lengthOf_26 : vm_D q_M_lengthOf.2.1 26 3 29 (.iinc 5 1) := vm_dD b_M_lengthOf_0 17 rfl rfl
theorem d_M_lengthOf_29 : ∃ off : Int, decode q_M_lengthOf.2.1 29 = .ok (.goto off, 3) ∧ ((29 : Nat) : Int) + off = ((5 : Nat) : Int) := ⟨-24, vm_db b_M_lengthOf_0 (i := 18) rfl, by decide⟩
theorem d_M_lengthOf_32 : vm_D q_M_lengthOf.2.1 32 1 33 (.lload_n 3) := vm_dD b_M_lengthOf_0 19 rfl rfl
theorem d_M_lengthOf_33 : vm_D q_M_lengthOf.2.1 33 1 34 (.lreturn) := vm_dD b_M_lengthOf_0 20 rfl rfl
def q_M_noPower : vm_Y := ("RepeatFreeModel", cX11_noPower, 4, false, [])
def t_M_noPower_0 : List (Nat × Instr × Nat) := [(0, .aload_n 0, 1), (1, .iload_n 1, 1), (2, .invokevirtual 319, 3), (5, .ifCond .ne 35, 3), (8, .aload_n 0, 1), (9, .iload_n 2, 1), (10, .iconst 2, 1), (11, .invokevirtual 196, 3), (14, .ifCond .ne 26, 3), (17, .aload_n 0, 1), (18, .iload_n 3, 1), (19, .iconst 0, 1), (20, .bipush 12, 2), (22, .invokestatic 65, 3), (25, .ifCond .ne 7, 3), (28, .iconst 1, 1), (29, .goto 4, 3), (32, .iconst 0, 1), (33, .iconst 2, 1), (34, .invokevirtual 180, 3), (37, .ifCond .eq 7, 3), (40, .iconst 1, 1), (41, .goto 4, 3), (44, .iconst 0, 1), (45, .ireturn, 1)]
theorem b_M_noPower_0 : (t_M_noPower_0.all fun q => decide (decode q_M_noPower.2.1 q.1 = .ok (q.2.1, q.2.2))) = true := by decide +kernel
theorem d_M_noPower_0 : vm_D q_M_noPower.2.1 0 1 1 (.aload_n 0) := vm_dD b_M_noPower_0 0 rfl rfl
theorem d_M_noPower_1 : vm_D q_M_noPower.2.1 1 1 2 (.iload_n 1) := vm_dD b_M_noPower_0 1 rfl rfl
theorem d_M_noPower_2 : vm_D q_M_noPower.2.1 2 3 5 (.invokevirtual 319) := vm_dD b_M_noPower_0 2 rfl rfl
theorem d_M_noPower_5 : vm_B q_M_noPower.2.1 5 8 40 (fun o => .ifCond .ne o) := ⟨35, vm_db b_M_noPower_0 (i := 3) rfl, rfl, by decide⟩
theorem d_M_noPower_40 : vm_D q_M_noPower.2.1 40 1 41 (.iconst 1) := vm_dD b_M_noPower_0 21 rfl rfl
theorem d_M_noPower_41 : ∃ off : Int, decode q_M_noPower.2.1 41 = .ok (.goto off, 3) ∧ ((41 : Nat) : Int) + off = ((45 : Nat) : Int) := ⟨4, vm_db b_M_noPower_0 (i := 22) rfl, by decide⟩
theorem d_M_noPower_45 : vm_D q_M_noPower.2.1 45 1 46 (.ireturn) := vm_dD b_M_noPower_0 24 rfl rfl
theorem d_M_noPower_8 : vm_D q_M_noPower.2.1 8 1 9 (.aload_n 0) := vm_dD b_M_noPower_0 4 rfl rfl
theorem d_M_noPower_9 : vm_D q_M_noPower.2.1 9 1 10 (.iload_n 2) := vm_dD b_M_noPower_0 5 rfl rfl
theorem d_M_noPower_10 : vm_D q_M_noPower.2.1 10 1 11 (.iconst 2) := vm_dD b_M_noPower_0 6 rfl rfl
theorem d_M_noPower_11 : vm_D q_M_noPower.2.1 11 3 14 (.invokevirtual 196) := vm_dD b_M_noPower_0 7 rfl rfl
theorem d_M_noPower_14 : vm_B q_M_noPower.2.1 14 17 40 (fun o => .ifCond .ne o) := ⟨26, vm_db b_M_noPower_0 (i := 8) rfl, rfl, by decide⟩
theorem d_M_noPower_17 : vm_D q_M_noPower.2.1 17 1 18 (.aload_n 0) := vm_dD b_M_noPower_0 9 rfl rfl
theorem d_M_noPower_18 : vm_D q_M_noPower.2.1 18 1 19 (.iload_n 3) := vm_dD b_M_noPower_0 10 rfl rfl
theorem d_M_noPower_19 : vm_D q_M_noPower.2.1 19 1 20 (.iconst 0) := vm_dD b_M_noPower_0 11 rfl rfl
theorem d_M_noPower_20 : vm_D q_M_noPower.2.1 20 2 22 (.bipush 12) := vm_dD b_M_noPower_0 12 rfl rfl
theorem d_M_noPower_22 : vm_D q_M_noPower.2.1 22 3 25 (.invokestatic 65) := vm_dD b_M_noPower_0 13 rfl rfl
theorem d_M_noPower_25 : vm_B q_M_noPower.2.1 25 28 32 (fun o => .ifCond .ne o) := ⟨7, vm_db b_M_noPower_0 (i := 14) rfl, rfl, by decide⟩
theorem d_M_noPower_33 : vm_D q_M_noPower.2.1 33 1 34 (.iconst 2) := vm_dD b_M_noPower_0 18 rfl rfl
theorem d_M_noPower_34 : vm_D q_M_noPower.2.1 34 3 37 (.invokevirtual 180) := vm_dD b_M_noPower_0 19 rfl rfl
theorem d_M_noPower_37 : vm_B q_M_noPower.2.1 37 40 44 (fun o => .ifCond .eq o) := ⟨7, vm_db b_M_noPower_0 (i := 20) rfl, rfl, by decide⟩
theorem d_M_noPower_44 : vm_D q_M_noPower.2.1 44 1 45 (.iconst 0) := vm_dD b_M_noPower_0 23 rfl rfl
theorem d_M_noPower_32 : vm_D q_M_noPower.2.1 32 1 33 (.iconst 0) := vm_dD b_M_noPower_0 17 rfl rfl
theorem d_M_noPower_28 : vm_D q_M_noPower.2.1 28 1 29 (.iconst 1) := vm_dD b_M_noPower_0 15 rfl rfl
theorem d_M_noPower_29 : ∃ off : Int, decode q_M_noPower.2.1 29 = .ok (.goto off, 3) ∧ ((29 : Nat) : Int) + off = ((33 : Nat) : Int) := ⟨4, vm_db b_M_noPower_0 (i := 16) rfl, by decide⟩
def q_M_length : vm_Y := ("RepeatFreeModel", cX11_length, 4, false, [])
def t_M_length_0 : List (Nat × Instr × Nat) := [(0, .aload_n 0, 1), (1, .iconst 0, 1), (2, .putfield 3, 3), (5, .aload_n 0, 1), (6, .iload_n 1, 1), (7, .iload_n 2, 1), (8, .iload_n 3, 1), (9, .invokevirtual 325, 3), (12, .ifCond .eq 5, 3), (15, .lconst 0, 1), (16, .lreturn, 1), (17, .aload_n 0, 1), (18, .iload_n 1, 1), (19, .iload_n 3, 1), (20, .invokevirtual 328, 3), (23, .aload_n 0, 1), (24, .iload_n 3, 1), (25, .iload_n 2, 1), (26, .invokevirtual 332, 3), (29, .lreturn, 1)]
theorem b_M_length_0 : (t_M_length_0.all fun q => decide (decode q_M_length.2.1 q.1 = .ok (q.2.1, q.2.2))) = true := by decide +kernel
theorem d_M_length_0 : vm_D q_M_length.2.1 0 1 1 (.aload_n 0) := vm_dD b_M_length_0 0 rfl rfl
theorem d_M_length_1 : vm_D q_M_length.2.1 1 1 2 (.iconst 0) := vm_dD b_M_length_0 1 rfl rfl
theorem d_M_length_2 : vm_D q_M_length.2.1 2 3 5 (.putfield 3) := vm_dD b_M_length_0 2 rfl rfl
theorem d_M_length_5 : vm_D q_M_length.2.1 5 1 6 (.aload_n 0) := vm_dD b_M_length_0 3 rfl rfl
theorem d_M_length_6 : vm_D q_M_length.2.1 6 1 7 (.iload_n 1) := vm_dD b_M_length_0 4 rfl rfl
theorem d_M_length_7 : vm_D q_M_length.2.1 7 1 8 (.iload_n 2) := vm_dD b_M_length_0 5 rfl rfl
theorem d_M_length_8 : vm_D q_M_length.2.1 8 1 9 (.iload_n 3) := vm_dD b_M_length_0 6 rfl rfl
theorem d_M_length_9 : vm_D q_M_length.2.1 9 3 12 (.invokevirtual 325) := vm_dD b_M_length_0 7 rfl rfl
theorem d_M_length_12 : vm_B q_M_length.2.1 12 15 17 (fun o => .ifCond .eq o) := ⟨5, vm_db b_M_length_0 (i := 8) rfl, rfl, by decide⟩
theorem d_M_length_17 : vm_D q_M_length.2.1 17 1 18 (.aload_n 0) := vm_dD b_M_length_0 11 rfl rfl
theorem d_M_length_18 : vm_D q_M_length.2.1 18 1 19 (.iload_n 1) := vm_dD b_M_length_0 12 rfl rfl
theorem d_M_length_19 : vm_D q_M_length.2.1 19 1 20 (.iload_n 3) := vm_dD b_M_length_0 13 rfl rfl
theorem d_M_length_20 : vm_D q_M_length.2.1 20 3 23 (.invokevirtual 328) := vm_dD b_M_length_0 14 rfl rfl
theorem d_M_length_23 : vm_D q_M_length.2.1 23 1 24 (.aload_n 0) := vm_dD b_M_length_0 15 rfl rfl
theorem d_M_length_24 : vm_D q_M_length.2.1 24 1 25 (.iload_n 3) := vm_dD b_M_length_0 16 rfl rfl
theorem d_M_length_25 : vm_D q_M_length.2.1 25 1 26 (.iload_n 2) := vm_dD b_M_length_0 17 rfl rfl
theorem d_M_length_26 : vm_D q_M_length.2.1 26 3 29 (.invokevirtual 332) := vm_dD b_M_length_0 18 rfl rfl
theorem d_M_length_29 : vm_D q_M_length.2.1 29 1 30 (.lreturn) := vm_dD b_M_length_0 19 rfl rfl
theorem d_M_length_15 : vm_D q_M_length.2.1 15 1 16 (.lconst 0) := vm_dD b_M_length_0 9 rfl rfl
theorem d_M_length_16 : vm_D q_M_length.2.1 16 1 17 (.lreturn) := vm_dD b_M_length_0 10 rfl rfl
def q_M_placed : vm_Y := ("RepeatFreeModel", cX11_placed, 11, false, [])
def t_M_placed_0 : List (Nat × Instr × Nat) := [(0, .iload_n 2, 1), (1, .istore 6, 2), (3, .lload 4, 2), (5, .lstore 7, 2), (7, .iload_n 3, 1), (8, .istore 9, 2), (10, .iload 9, 2), (12, .ifCond .le 74, 3), (15, .iconst 0, 1), (16, .istore 10, 2), (18, .lload 7, 2), (20, .aload_n 0, 1), (21, .iload 9, 2), (23, .iconst 1, 1), (24, .isub, 1), (25, .aload_n 0, 1), (26, .iload_n 1, 1), (27, .iload 6, 2), (29, .iload 10, 2), (31, .invokevirtual 308, 3), (34, .invokevirtual 332, 3), (37, .lcmp, 1), (38, .ifCond .lt 31, 3), (41, .lload 7, 2), (43, .aload_n 0, 1), (44, .iload 9, 2), (46, .iconst 1, 1), (47, .isub, 1), (48, .aload_n 0, 1), (49, .iload_n 1, 1), (50, .iload 6, 2), (52, .iload 10, 2), (54, .invokevirtual 308, 3), (57, .invokevirtual 332, 3), (60, .lsub, 1), (61, .lstore 7, 2), (63, .iinc 10 1, 3), (66, .goto (-48), 3), (69, .aload_n 0, 1), (70, .iload_n 1, 1), (71, .iload 6, 2), (73, .iload 10, 2), (75, .invokevirtual 308, 3), (78, .istore 6, 2), (80, .iinc 9 (-1), 3), (83, .goto (-73), 3), (86, .iload 6, 2), (88, .ireturn, 1)]
theorem b_M_placed_0 : (t_M_placed_0.all fun q => decide (decode q_M_placed.2.1 q.1 = .ok (q.2.1, q.2.2))) = true := by decide +kernel
theorem d_M_placed_0 : vm_D q_M_placed.2.1 0 1 1 (.iload_n 2) := vm_dD b_M_placed_0 0 rfl rfl
theorem d_M_placed_1 : vm_D q_M_placed.2.1 1 2 3 (.istore 6) := vm_dD b_M_placed_0 1 rfl rfl
theorem d_M_placed_3 : vm_D q_M_placed.2.1 3 2 5 (.lload 4) := vm_dD b_M_placed_0 2 rfl rfl
theorem d_M_placed_5 : vm_D q_M_placed.2.1 5 2 7 (.lstore 7) := vm_dD b_M_placed_0 3 rfl rfl
theorem d_M_placed_7 : vm_D q_M_placed.2.1 7 1 8 (.iload_n 3) := vm_dD b_M_placed_0 4 rfl rfl
theorem d_M_placed_8 : vm_D q_M_placed.2.1 8 2 10 (.istore 9) := vm_dD b_M_placed_0 5 rfl rfl
theorem d_M_placed_10 : vm_D q_M_placed.2.1 10 2 12 (.iload 9) := vm_dD b_M_placed_0 6 rfl rfl
theorem d_M_placed_12 : vm_B q_M_placed.2.1 12 15 86 (fun o => .ifCond .le o) := ⟨74, vm_db b_M_placed_0 (i := 7) rfl, rfl, by decide⟩
theorem d_M_placed_15 : vm_D q_M_placed.2.1 15 1 16 (.iconst 0) := vm_dD b_M_placed_0 8 rfl rfl
theorem d_M_placed_16 : vm_D q_M_placed.2.1 16 2 18 (.istore 10) := vm_dD b_M_placed_0 9 rfl rfl
theorem d_M_placed_18 : vm_D q_M_placed.2.1 18 2 20 (.lload 7) := vm_dD b_M_placed_0 10 rfl rfl
theorem d_M_placed_20 : vm_D q_M_placed.2.1 20 1 21 (.aload_n 0) := vm_dD b_M_placed_0 11 rfl rfl
theorem d_M_placed_21 : vm_D q_M_placed.2.1 21 2 23 (.iload 9) := vm_dD b_M_placed_0 12 rfl rfl
theorem d_M_placed_23 : vm_D q_M_placed.2.1 23 1 24 (.iconst 1) := vm_dD b_M_placed_0 13 rfl rfl
theorem d_M_placed_24 : vm_D q_M_placed.2.1 24 1 25 (.isub) := vm_dD b_M_placed_0 14 rfl rfl
theorem d_M_placed_25 : vm_D q_M_placed.2.1 25 1 26 (.aload_n 0) := vm_dD b_M_placed_0 15 rfl rfl
theorem d_M_placed_26 : vm_D q_M_placed.2.1 26 1 27 (.iload_n 1) := vm_dD b_M_placed_0 16 rfl rfl
theorem d_M_placed_27 : vm_D q_M_placed.2.1 27 2 29 (.iload 6) := vm_dD b_M_placed_0 17 rfl rfl
theorem d_M_placed_29 : vm_D q_M_placed.2.1 29 2 31 (.iload 10) := vm_dD b_M_placed_0 18 rfl rfl
theorem d_M_placed_31 : vm_D q_M_placed.2.1 31 3 34 (.invokevirtual 308) := vm_dD b_M_placed_0 19 rfl rfl
theorem d_M_placed_34 : vm_D q_M_placed.2.1 34 3 37 (.invokevirtual 332) := vm_dD b_M_placed_0 20 rfl rfl
theorem d_M_placed_37 : vm_D q_M_placed.2.1 37 1 38 (.lcmp) := vm_dD b_M_placed_0 21 rfl rfl
theorem d_M_placed_38 : vm_B q_M_placed.2.1 38 41 69 (fun o => .ifCond .lt o) := ⟨31, vm_db b_M_placed_0 (i := 22) rfl, rfl, by decide⟩
theorem d_M_placed_41 : vm_D q_M_placed.2.1 41 2 43 (.lload 7) := vm_dD b_M_placed_0 23 rfl rfl
theorem d_M_placed_43 : vm_D q_M_placed.2.1 43 1 44 (.aload_n 0) := vm_dD b_M_placed_0 24 rfl rfl
theorem d_M_placed_44 : vm_D q_M_placed.2.1 44 2 46 (.iload 9) := vm_dD b_M_placed_0 25 rfl rfl
theorem d_M_placed_46 : vm_D q_M_placed.2.1 46 1 47 (.iconst 1) := vm_dD b_M_placed_0 26 rfl rfl
theorem d_M_placed_47 : vm_D q_M_placed.2.1 47 1 48 (.isub) := vm_dD b_M_placed_0 27 rfl rfl
theorem d_M_placed_48 : vm_D q_M_placed.2.1 48 1 49 (.aload_n 0) := vm_dD b_M_placed_0 28 rfl rfl
theorem d_M_placed_49 : vm_D q_M_placed.2.1 49 1 50 (.iload_n 1) := vm_dD b_M_placed_0 29 rfl rfl
theorem d_M_placed_50 : vm_D q_M_placed.2.1 50 2 52 (.iload 6) := vm_dD b_M_placed_0 30 rfl rfl
theorem d_M_placed_52 : vm_D q_M_placed.2.1 52 2 54 (.iload 10) := vm_dD b_M_placed_0 31 rfl rfl
theorem d_M_placed_54 : vm_D q_M_placed.2.1 54 3 57 (.invokevirtual 308) := vm_dD b_M_placed_0 32 rfl rfl
theorem d_M_placed_57 : vm_D q_M_placed.2.1 57 3 60 (.invokevirtual 332) := vm_dD b_M_placed_0 33 rfl rfl
theorem d_M_placed_60 : vm_D q_M_placed.2.1 60 1 61 (.lsub) := vm_dD b_M_placed_0 34 rfl rfl
theorem d_M_placed_61 : vm_D q_M_placed.2.1 61 2 63 (.lstore 7) := vm_dD b_M_placed_0 35 rfl rfl
theorem d_M_placed_63 : vm_D q_M_placed.2.1 63 3 66 (.iinc 10 1) := vm_dD b_M_placed_0 36 rfl rfl
theorem d_M_placed_66 : ∃ off : Int, decode q_M_placed.2.1 66 = .ok (.goto off, 3) ∧ ((66 : Nat) : Int) + off = ((18 : Nat) : Int) := ⟨-48, vm_db b_M_placed_0 (i := 37) rfl, by decide⟩
theorem d_M_placed_69 : vm_D q_M_placed.2.1 69 1 70 (.aload_n 0) := vm_dD b_M_placed_0 38 rfl rfl
theorem d_M_placed_70 : vm_D q_M_placed.2.1 70 1 71 (.iload_n 1) := vm_dD b_M_placed_0 39 rfl rfl
theorem d_M_placed_71 : vm_D q_M_placed.2.1 71 2 73 (.iload 6) := vm_dD b_M_placed_0 40 rfl rfl
theorem d_M_placed_73 : vm_D q_M_placed.2.1 73 2 75 (.iload 10) := vm_dD b_M_placed_0 41 rfl rfl
theorem d_M_placed_75 : vm_D q_M_placed.2.1 75 3 78 (.invokevirtual 308) := vm_dD b_M_placed_0 42 rfl rfl
theorem d_M_placed_78 : vm_D q_M_placed.2.1 78 2 80 (.istore 6) := vm_dD b_M_placed_0 43 rfl rfl
theorem d_M_placed_80 : vm_D q_M_placed.2.1 80 3 83 (.iinc 9 (-1)) := vm_dD b_M_placed_0 44 rfl rfl
theorem d_M_placed_83 : ∃ off : Int, decode q_M_placed.2.1 83 = .ok (.goto off, 3) ∧ ((83 : Nat) : Int) + off = ((10 : Nat) : Int) := ⟨-73, vm_db b_M_placed_0 (i := 45) rfl, by decide⟩
theorem d_M_placed_86 : vm_D q_M_placed.2.1 86 2 88 (.iload 6) := vm_dD b_M_placed_0 46 rfl rfl
theorem d_M_placed_88 : vm_D q_M_placed.2.1 88 1 89 (.ireturn) := vm_dD b_M_placed_0 47 rfl rfl
def q_M_power : vm_Y := ("RepeatFreeModel", cX11_power, 6, false, [])
def t_M_power_0 : List (Nat × Instr × Nat) := [(0, .aload_n 0, 1), (1, .iconst 0, 1), (2, .putfield 3, 3), (5, .aload_n 0, 1), (6, .iload_n 1, 1), (7, .iload_n 2, 1), (8, .iload_n 3, 1), (9, .invokevirtual 325, 3), (12, .ifCond .eq 5, 3), (15, .iconst 0, 1), (16, .ireturn, 1), (17, .aload_n 0, 1), (18, .iload_n 1, 1), (19, .iload_n 3, 1), (20, .invokevirtual 328, 3), (23, .lload 4, 2), (25, .lconst 0, 1), (26, .lcmp, 1), (27, .ifCond .lt 15, 3), (30, .lload 4, 2), (32, .aload_n 0, 1), (33, .iload_n 3, 1), (34, .iload_n 2, 1), (35, .invokevirtual 332, 3), (38, .lcmp, 1), (39, .ifCond .lt 5, 3), (42, .iconst (-1), 1), (43, .ireturn, 1), (44, .aload_n 0, 1), (45, .iload_n 1, 1), (46, .iload_n 2, 1), (47, .iload_n 3, 1), (48, .lload 4, 2), (50, .invokevirtual 336, 3), (53, .ireturn, 1)]
theorem b_M_power_0 : (t_M_power_0.all fun q => decide (decode q_M_power.2.1 q.1 = .ok (q.2.1, q.2.2))) = true := by decide +kernel
theorem d_M_power_0 : vm_D q_M_power.2.1 0 1 1 (.aload_n 0) := vm_dD b_M_power_0 0 rfl rfl
theorem d_M_power_1 : vm_D q_M_power.2.1 1 1 2 (.iconst 0) := vm_dD b_M_power_0 1 rfl rfl
theorem d_M_power_2 : vm_D q_M_power.2.1 2 3 5 (.putfield 3) := vm_dD b_M_power_0 2 rfl rfl
theorem d_M_power_5 : vm_D q_M_power.2.1 5 1 6 (.aload_n 0) := vm_dD b_M_power_0 3 rfl rfl
theorem d_M_power_6 : vm_D q_M_power.2.1 6 1 7 (.iload_n 1) := vm_dD b_M_power_0 4 rfl rfl
theorem d_M_power_7 : vm_D q_M_power.2.1 7 1 8 (.iload_n 2) := vm_dD b_M_power_0 5 rfl rfl
theorem d_M_power_8 : vm_D q_M_power.2.1 8 1 9 (.iload_n 3) := vm_dD b_M_power_0 6 rfl rfl
theorem d_M_power_9 : vm_D q_M_power.2.1 9 3 12 (.invokevirtual 325) := vm_dD b_M_power_0 7 rfl rfl
theorem d_M_power_12 : vm_B q_M_power.2.1 12 15 17 (fun o => .ifCond .eq o) := ⟨5, vm_db b_M_power_0 (i := 8) rfl, rfl, by decide⟩
theorem d_M_power_17 : vm_D q_M_power.2.1 17 1 18 (.aload_n 0) := vm_dD b_M_power_0 11 rfl rfl
theorem d_M_power_18 : vm_D q_M_power.2.1 18 1 19 (.iload_n 1) := vm_dD b_M_power_0 12 rfl rfl
theorem d_M_power_19 : vm_D q_M_power.2.1 19 1 20 (.iload_n 3) := vm_dD b_M_power_0 13 rfl rfl
theorem d_M_power_20 : vm_D q_M_power.2.1 20 3 23 (.invokevirtual 328) := vm_dD b_M_power_0 14 rfl rfl
theorem d_M_power_23 : vm_D q_M_power.2.1 23 2 25 (.lload 4) := vm_dD b_M_power_0 15 rfl rfl
theorem d_M_power_25 : vm_D q_M_power.2.1 25 1 26 (.lconst 0) := vm_dD b_M_power_0 16 rfl rfl
theorem d_M_power_26 : vm_D q_M_power.2.1 26 1 27 (.lcmp) := vm_dD b_M_power_0 17 rfl rfl
theorem d_M_power_27 : vm_B q_M_power.2.1 27 30 42 (fun o => .ifCond .lt o) := ⟨15, vm_db b_M_power_0 (i := 18) rfl, rfl, by decide⟩
theorem d_M_power_42 : vm_D q_M_power.2.1 42 1 43 (.iconst (-1)) := vm_dD b_M_power_0 26 rfl rfl
theorem d_M_power_43 : vm_D q_M_power.2.1 43 1 44 (.ireturn) := vm_dD b_M_power_0 27 rfl rfl
theorem d_M_power_30 : vm_D q_M_power.2.1 30 2 32 (.lload 4) := vm_dD b_M_power_0 19 rfl rfl
theorem d_M_power_32 : vm_D q_M_power.2.1 32 1 33 (.aload_n 0) := vm_dD b_M_power_0 20 rfl rfl
theorem d_M_power_33 : vm_D q_M_power.2.1 33 1 34 (.iload_n 3) := vm_dD b_M_power_0 21 rfl rfl
theorem d_M_power_34 : vm_D q_M_power.2.1 34 1 35 (.iload_n 2) := vm_dD b_M_power_0 22 rfl rfl
theorem d_M_power_35 : vm_D q_M_power.2.1 35 3 38 (.invokevirtual 332) := vm_dD b_M_power_0 23 rfl rfl
theorem d_M_power_38 : vm_D q_M_power.2.1 38 1 39 (.lcmp) := vm_dD b_M_power_0 24 rfl rfl
theorem d_M_power_39 : vm_B q_M_power.2.1 39 42 44 (fun o => .ifCond .lt o) := ⟨5, vm_db b_M_power_0 (i := 25) rfl, rfl, by decide⟩
theorem d_M_power_44 : vm_D q_M_power.2.1 44 1 45 (.aload_n 0) := vm_dD b_M_power_0 28 rfl rfl
theorem d_M_power_45 : vm_D q_M_power.2.1 45 1 46 (.iload_n 1) := vm_dD b_M_power_0 29 rfl rfl
theorem d_M_power_46 : vm_D q_M_power.2.1 46 1 47 (.iload_n 2) := vm_dD b_M_power_0 30 rfl rfl
theorem d_M_power_47 : vm_D q_M_power.2.1 47 1 48 (.iload_n 3) := vm_dD b_M_power_0 31 rfl rfl
theorem d_M_power_48 : vm_D q_M_power.2.1 48 2 50 (.lload 4) := vm_dD b_M_power_0 32 rfl rfl
theorem d_M_power_50 : vm_D q_M_power.2.1 50 3 53 (.invokevirtual 336) := vm_dD b_M_power_0 33 rfl rfl
theorem d_M_power_53 : vm_D q_M_power.2.1 53 1 54 (.ireturn) := vm_dD b_M_power_0 34 rfl rfl
theorem d_M_power_15 : vm_D q_M_power.2.1 15 1 16 (.iconst 0) := vm_dD b_M_power_0 9 rfl rfl
theorem d_M_power_16 : vm_D q_M_power.2.1 16 1 17 (.ireturn) := vm_dD b_M_power_0 10 rfl rfl
def q_M_often : vm_Y := ("RepeatFreeModel", cX11_often, 5, false, [])
def t_M_often_0 : List (Nat × Instr × Nat) := [(0, .aload_n 0, 1), (1, .iconst 0, 1), (2, .putfield 3, 3), (5, .aload_n 0, 1), (6, .iload_n 1, 1), (7, .iload_n 2, 1), (8, .iload_n 3, 1), (9, .invokevirtual 325, 3), (12, .ifCond .ne 13, 3), (15, .aload_n 0, 1), (16, .iload 4, 2), (18, .iconst 2, 1), (19, .invokevirtual 196, 3), (22, .ifCond .eq 5, 3), (25, .lconst 0, 1), (26, .lreturn, 1), (27, .aload_n 0, 1), (28, .iload_n 1, 1), (29, .iload_n 3, 1), (30, .invokevirtual 328, 3), (33, .aload_n 0, 1), (34, .getfield 104, 3), (37, .iload_n 3, 1), (38, .iload_n 2, 1), (39, .iload 4, 2), (41, .invokestatic 322, 3), (44, .laload, 1), (45, .lreturn, 1)]
theorem b_M_often_0 : (t_M_often_0.all fun q => decide (decode q_M_often.2.1 q.1 = .ok (q.2.1, q.2.2))) = true := by decide +kernel
theorem d_M_often_0 : vm_D q_M_often.2.1 0 1 1 (.aload_n 0) := vm_dD b_M_often_0 0 rfl rfl
theorem d_M_often_1 : vm_D q_M_often.2.1 1 1 2 (.iconst 0) := vm_dD b_M_often_0 1 rfl rfl
theorem d_M_often_2 : vm_D q_M_often.2.1 2 3 5 (.putfield 3) := vm_dD b_M_often_0 2 rfl rfl
theorem d_M_often_5 : vm_D q_M_often.2.1 5 1 6 (.aload_n 0) := vm_dD b_M_often_0 3 rfl rfl
theorem d_M_often_6 : vm_D q_M_often.2.1 6 1 7 (.iload_n 1) := vm_dD b_M_often_0 4 rfl rfl
theorem d_M_often_7 : vm_D q_M_often.2.1 7 1 8 (.iload_n 2) := vm_dD b_M_often_0 5 rfl rfl
theorem d_M_often_8 : vm_D q_M_often.2.1 8 1 9 (.iload_n 3) := vm_dD b_M_often_0 6 rfl rfl
theorem d_M_often_9 : vm_D q_M_often.2.1 9 3 12 (.invokevirtual 325) := vm_dD b_M_often_0 7 rfl rfl
theorem d_M_often_12 : vm_B q_M_often.2.1 12 15 25 (fun o => .ifCond .ne o) := ⟨13, vm_db b_M_often_0 (i := 8) rfl, rfl, by decide⟩
theorem d_M_often_25 : vm_D q_M_often.2.1 25 1 26 (.lconst 0) := vm_dD b_M_often_0 14 rfl rfl
theorem d_M_often_26 : vm_D q_M_often.2.1 26 1 27 (.lreturn) := vm_dD b_M_often_0 15 rfl rfl
theorem d_M_often_15 : vm_D q_M_often.2.1 15 1 16 (.aload_n 0) := vm_dD b_M_often_0 9 rfl rfl
theorem d_M_often_16 : vm_D q_M_often.2.1 16 2 18 (.iload 4) := vm_dD b_M_often_0 10 rfl rfl
theorem d_M_often_18 : vm_D q_M_often.2.1 18 1 19 (.iconst 2) := vm_dD b_M_often_0 11 rfl rfl
theorem d_M_often_19 : vm_D q_M_often.2.1 19 3 22 (.invokevirtual 196) := vm_dD b_M_often_0 12 rfl rfl
theorem d_M_often_22 : vm_B q_M_often.2.1 22 25 27 (fun o => .ifCond .eq o) := ⟨5, vm_db b_M_often_0 (i := 13) rfl, rfl, by decide⟩
theorem d_M_often_27 : vm_D q_M_often.2.1 27 1 28 (.aload_n 0) := vm_dD b_M_often_0 16 rfl rfl
theorem d_M_often_28 : vm_D q_M_often.2.1 28 1 29 (.iload_n 1) := vm_dD b_M_often_0 17 rfl rfl
theorem d_M_often_29 : vm_D q_M_often.2.1 29 1 30 (.iload_n 3) := vm_dD b_M_often_0 18 rfl rfl
theorem d_M_often_30 : vm_D q_M_often.2.1 30 3 33 (.invokevirtual 328) := vm_dD b_M_often_0 19 rfl rfl
theorem d_M_often_33 : vm_D q_M_often.2.1 33 1 34 (.aload_n 0) := vm_dD b_M_often_0 20 rfl rfl
theorem d_M_often_34 : vm_D q_M_often.2.1 34 3 37 (.getfield 104) := vm_dD b_M_often_0 21 rfl rfl
theorem d_M_often_37 : vm_D q_M_often.2.1 37 1 38 (.iload_n 3) := vm_dD b_M_often_0 22 rfl rfl
theorem d_M_often_38 : vm_D q_M_often.2.1 38 1 39 (.iload_n 2) := vm_dD b_M_often_0 23 rfl rfl
theorem d_M_often_39 : vm_D q_M_often.2.1 39 2 41 (.iload 4) := vm_dD b_M_often_0 24 rfl rfl
theorem d_M_often_41 : vm_D q_M_often.2.1 41 3 44 (.invokestatic 322) := vm_dD b_M_often_0 25 rfl rfl
theorem d_M_often_44 : vm_D q_M_often.2.1 44 1 45 (.laload) := vm_dD b_M_often_0 26 rfl rfl
theorem d_M_often_45 : vm_D q_M_often.2.1 45 1 46 (.lreturn) := vm_dD b_M_often_0 27 rfl rfl
def q_M_laysBreak : vm_Y := ("RepeatFreeModel", cX11_laysBreak, 5, false, [])
def t_M_laysBreak_0 : List (Nat × Instr × Nat) := [(0, .aload_n 0, 1), (1, .invokevirtual 290, 3), (4, .aload_n 0, 1), (5, .iload_n 1, 1), (6, .putfield 312, 3), (9, .aload_n 0, 1), (10, .iconst 0, 1), (11, .putfield 284, 3), (14, .iconst 1, 1), (15, .istore_n 3, 1), (16, .iload_n 3, 1), (17, .iload_n 2, 1), (18, .if_icmp .gt 37, 3), (21, .aload_n 0, 1), (22, .getfield 265, 3), (25, .ifCond .ne 30, 3), (28, .aload_n 0, 1), (29, .getfield 271, 3), (32, .ifCond .ne 23, 3), (35, .aload_n 0, 1), (36, .iconst 0, 1), (37, .iload_n 3, 1), (38, .iconst 5, 1), (39, .invokevirtual 268, 3), (42, .istore 4, 2), (44, .aload_n 0, 1), (45, .iload_n 3, 1), (46, .putfield 284, 3), (49, .iinc 3 1, 3), (52, .goto (-36), 3), (55, .return_, 1)]
theorem b_M_laysBreak_0 : (t_M_laysBreak_0.all fun q => decide (decode q_M_laysBreak.2.1 q.1 = .ok (q.2.1, q.2.2))) = true := by decide +kernel
theorem d_M_laysBreak_0 : vm_D q_M_laysBreak.2.1 0 1 1 (.aload_n 0) := vm_dD b_M_laysBreak_0 0 rfl rfl
theorem d_M_laysBreak_1 : vm_D q_M_laysBreak.2.1 1 3 4 (.invokevirtual 290) := vm_dD b_M_laysBreak_0 1 rfl rfl
theorem d_M_laysBreak_4 : vm_D q_M_laysBreak.2.1 4 1 5 (.aload_n 0) := vm_dD b_M_laysBreak_0 2 rfl rfl
theorem d_M_laysBreak_5 : vm_D q_M_laysBreak.2.1 5 1 6 (.iload_n 1) := vm_dD b_M_laysBreak_0 3 rfl rfl
theorem d_M_laysBreak_6 : vm_D q_M_laysBreak.2.1 6 3 9 (.putfield 312) := vm_dD b_M_laysBreak_0 4 rfl rfl
theorem d_M_laysBreak_9 : vm_D q_M_laysBreak.2.1 9 1 10 (.aload_n 0) := vm_dD b_M_laysBreak_0 5 rfl rfl
theorem d_M_laysBreak_10 : vm_D q_M_laysBreak.2.1 10 1 11 (.iconst 0) := vm_dD b_M_laysBreak_0 6 rfl rfl
theorem d_M_laysBreak_11 : vm_D q_M_laysBreak.2.1 11 3 14 (.putfield 284) := vm_dD b_M_laysBreak_0 7 rfl rfl
theorem d_M_laysBreak_14 : vm_D q_M_laysBreak.2.1 14 1 15 (.iconst 1) := vm_dD b_M_laysBreak_0 8 rfl rfl
theorem d_M_laysBreak_15 : vm_D q_M_laysBreak.2.1 15 1 16 (.istore_n 3) := vm_dD b_M_laysBreak_0 9 rfl rfl
theorem d_M_laysBreak_16 : vm_D q_M_laysBreak.2.1 16 1 17 (.iload_n 3) := vm_dD b_M_laysBreak_0 10 rfl rfl
theorem d_M_laysBreak_17 : vm_D q_M_laysBreak.2.1 17 1 18 (.iload_n 2) := vm_dD b_M_laysBreak_0 11 rfl rfl
theorem d_M_laysBreak_18 : vm_B q_M_laysBreak.2.1 18 21 55 (fun o => .if_icmp .gt o) := ⟨37, vm_db b_M_laysBreak_0 (i := 12) rfl, rfl, by decide⟩
theorem d_M_laysBreak_21 : vm_D q_M_laysBreak.2.1 21 1 22 (.aload_n 0) := vm_dD b_M_laysBreak_0 13 rfl rfl
theorem d_M_laysBreak_22 : vm_D q_M_laysBreak.2.1 22 3 25 (.getfield 265) := vm_dD b_M_laysBreak_0 14 rfl rfl
theorem d_M_laysBreak_25 : vm_B q_M_laysBreak.2.1 25 28 55 (fun o => .ifCond .ne o) := ⟨30, vm_db b_M_laysBreak_0 (i := 15) rfl, rfl, by decide⟩
theorem d_M_laysBreak_28 : vm_D q_M_laysBreak.2.1 28 1 29 (.aload_n 0) := vm_dD b_M_laysBreak_0 16 rfl rfl
theorem d_M_laysBreak_29 : vm_D q_M_laysBreak.2.1 29 3 32 (.getfield 271) := vm_dD b_M_laysBreak_0 17 rfl rfl
theorem d_M_laysBreak_32 : vm_B q_M_laysBreak.2.1 32 35 55 (fun o => .ifCond .ne o) := ⟨23, vm_db b_M_laysBreak_0 (i := 18) rfl, rfl, by decide⟩
theorem d_M_laysBreak_35 : vm_D q_M_laysBreak.2.1 35 1 36 (.aload_n 0) := vm_dD b_M_laysBreak_0 19 rfl rfl
theorem d_M_laysBreak_36 : vm_D q_M_laysBreak.2.1 36 1 37 (.iconst 0) := vm_dD b_M_laysBreak_0 20 rfl rfl
theorem d_M_laysBreak_37 : vm_D q_M_laysBreak.2.1 37 1 38 (.iload_n 3) := vm_dD b_M_laysBreak_0 21 rfl rfl
theorem d_M_laysBreak_38 : vm_D q_M_laysBreak.2.1 38 1 39 (.iconst 5) := vm_dD b_M_laysBreak_0 22 rfl rfl
theorem d_M_laysBreak_39 : vm_D q_M_laysBreak.2.1 39 3 42 (.invokevirtual 268) := vm_dD b_M_laysBreak_0 23 rfl rfl
theorem d_M_laysBreak_42 : vm_D q_M_laysBreak.2.1 42 2 44 (.istore 4) := vm_dD b_M_laysBreak_0 24 rfl rfl
theorem d_M_laysBreak_44 : vm_D q_M_laysBreak.2.1 44 1 45 (.aload_n 0) := vm_dD b_M_laysBreak_0 25 rfl rfl
theorem d_M_laysBreak_45 : vm_D q_M_laysBreak.2.1 45 1 46 (.iload_n 3) := vm_dD b_M_laysBreak_0 26 rfl rfl
theorem d_M_laysBreak_46 : vm_D q_M_laysBreak.2.1 46 3 49 (.putfield 284) := vm_dD b_M_laysBreak_0 27 rfl rfl
theorem d_M_laysBreak_49 : vm_D q_M_laysBreak.2.1 49 3 52 (.iinc 3 1) := vm_dD b_M_laysBreak_0 28 rfl rfl
theorem d_M_laysBreak_52 : ∃ off : Int, decode q_M_laysBreak.2.1 52 = .ok (.goto off, 3) ∧ ((52 : Nat) : Int) + off = ((16 : Nat) : Int) := ⟨-36, vm_db b_M_laysBreak_0 (i := 29) rfl, by decide⟩
theorem d_M_laysBreak_55 : vm_D q_M_laysBreak.2.1 55 1 56 (.return_) := vm_dD b_M_laysBreak_0 30 rfl rfl
def q_M_keeps : vm_Y := ("RepeatFreeModel", cX11_keeps, 3, false, [])
def t_M_keeps_0 : List (Nat × Instr × Nat) := [(0, .aload_n 0, 1), (1, .iconst 0, 1), (2, .putfield 3, 3), (5, .aload_n 0, 1), (6, .iload_n 1, 1), (7, .invokevirtual 319, 3), (10, .ifCond .ne 26, 3), (13, .aload_n 0, 1), (14, .iload_n 2, 1), (15, .iconst 1, 1), (16, .bipush 6, 2), (18, .invokestatic 65, 3), (21, .ifCond .ne 7, 3), (24, .iconst 1, 1), (25, .goto 4, 3), (28, .iconst 0, 1), (29, .iconst 2, 1), (30, .invokevirtual 180, 3), (33, .ifCond .eq 5, 3), (36, .iconst 0, 1), (37, .ireturn, 1), (38, .aload_n 0, 1), (39, .iload_n 1, 1), (40, .iload_n 2, 1), (41, .invokevirtual 340, 3), (44, .aload_n 0, 1), (45, .getfield 265, 3), (48, .ifCond .eq 8, 3), (51, .bipush (-2), 2), (53, .goto 15, 3), (56, .aload_n 0, 1), (57, .getfield 271, 3), (60, .ifCond .eq 7, 3), (63, .iconst 0, 1), (64, .goto 4, 3), (67, .iconst 1, 1), (68, .ireturn, 1)]
theorem b_M_keeps_0 : (t_M_keeps_0.all fun q => decide (decode q_M_keeps.2.1 q.1 = .ok (q.2.1, q.2.2))) = true := by decide +kernel
theorem d_M_keeps_0 : vm_D q_M_keeps.2.1 0 1 1 (.aload_n 0) := vm_dD b_M_keeps_0 0 rfl rfl
theorem d_M_keeps_1 : vm_D q_M_keeps.2.1 1 1 2 (.iconst 0) := vm_dD b_M_keeps_0 1 rfl rfl
theorem d_M_keeps_2 : vm_D q_M_keeps.2.1 2 3 5 (.putfield 3) := vm_dD b_M_keeps_0 2 rfl rfl
theorem d_M_keeps_5 : vm_D q_M_keeps.2.1 5 1 6 (.aload_n 0) := vm_dD b_M_keeps_0 3 rfl rfl
theorem d_M_keeps_6 : vm_D q_M_keeps.2.1 6 1 7 (.iload_n 1) := vm_dD b_M_keeps_0 4 rfl rfl
theorem d_M_keeps_7 : vm_D q_M_keeps.2.1 7 3 10 (.invokevirtual 319) := vm_dD b_M_keeps_0 5 rfl rfl
theorem d_M_keeps_10 : vm_B q_M_keeps.2.1 10 13 36 (fun o => .ifCond .ne o) := ⟨26, vm_db b_M_keeps_0 (i := 6) rfl, rfl, by decide⟩
theorem d_M_keeps_36 : vm_D q_M_keeps.2.1 36 1 37 (.iconst 0) := vm_dD b_M_keeps_0 19 rfl rfl
theorem d_M_keeps_37 : vm_D q_M_keeps.2.1 37 1 38 (.ireturn) := vm_dD b_M_keeps_0 20 rfl rfl
theorem d_M_keeps_13 : vm_D q_M_keeps.2.1 13 1 14 (.aload_n 0) := vm_dD b_M_keeps_0 7 rfl rfl
theorem d_M_keeps_14 : vm_D q_M_keeps.2.1 14 1 15 (.iload_n 2) := vm_dD b_M_keeps_0 8 rfl rfl
theorem d_M_keeps_15 : vm_D q_M_keeps.2.1 15 1 16 (.iconst 1) := vm_dD b_M_keeps_0 9 rfl rfl
theorem d_M_keeps_16 : vm_D q_M_keeps.2.1 16 2 18 (.bipush 6) := vm_dD b_M_keeps_0 10 rfl rfl
theorem d_M_keeps_18 : vm_D q_M_keeps.2.1 18 3 21 (.invokestatic 65) := vm_dD b_M_keeps_0 11 rfl rfl
theorem d_M_keeps_21 : vm_B q_M_keeps.2.1 21 24 28 (fun o => .ifCond .ne o) := ⟨7, vm_db b_M_keeps_0 (i := 12) rfl, rfl, by decide⟩
theorem d_M_keeps_29 : vm_D q_M_keeps.2.1 29 1 30 (.iconst 2) := vm_dD b_M_keeps_0 16 rfl rfl
theorem d_M_keeps_30 : vm_D q_M_keeps.2.1 30 3 33 (.invokevirtual 180) := vm_dD b_M_keeps_0 17 rfl rfl
theorem d_M_keeps_33 : vm_B q_M_keeps.2.1 33 36 38 (fun o => .ifCond .eq o) := ⟨5, vm_db b_M_keeps_0 (i := 18) rfl, rfl, by decide⟩
theorem d_M_keeps_38 : vm_D q_M_keeps.2.1 38 1 39 (.aload_n 0) := vm_dD b_M_keeps_0 21 rfl rfl
theorem d_M_keeps_39 : vm_D q_M_keeps.2.1 39 1 40 (.iload_n 1) := vm_dD b_M_keeps_0 22 rfl rfl
theorem d_M_keeps_40 : vm_D q_M_keeps.2.1 40 1 41 (.iload_n 2) := vm_dD b_M_keeps_0 23 rfl rfl
theorem d_M_keeps_41 : vm_D q_M_keeps.2.1 41 3 44 (.invokevirtual 340) := vm_dD b_M_keeps_0 24 rfl rfl
theorem d_M_keeps_44 : vm_D q_M_keeps.2.1 44 1 45 (.aload_n 0) := vm_dD b_M_keeps_0 25 rfl rfl
theorem d_M_keeps_45 : vm_D q_M_keeps.2.1 45 3 48 (.getfield 265) := vm_dD b_M_keeps_0 26 rfl rfl
theorem d_M_keeps_48 : vm_B q_M_keeps.2.1 48 51 56 (fun o => .ifCond .eq o) := ⟨8, vm_db b_M_keeps_0 (i := 27) rfl, rfl, by decide⟩
theorem d_M_keeps_56 : vm_D q_M_keeps.2.1 56 1 57 (.aload_n 0) := vm_dD b_M_keeps_0 30 rfl rfl
theorem d_M_keeps_57 : vm_D q_M_keeps.2.1 57 3 60 (.getfield 271) := vm_dD b_M_keeps_0 31 rfl rfl
theorem d_M_keeps_60 : vm_B q_M_keeps.2.1 60 63 67 (fun o => .ifCond .eq o) := ⟨7, vm_db b_M_keeps_0 (i := 32) rfl, rfl, by decide⟩
theorem d_M_keeps_67 : vm_D q_M_keeps.2.1 67 1 68 (.iconst 1) := vm_dD b_M_keeps_0 35 rfl rfl
theorem d_M_keeps_68 : vm_D q_M_keeps.2.1 68 1 69 (.ireturn) := vm_dD b_M_keeps_0 36 rfl rfl
theorem d_M_keeps_63 : vm_D q_M_keeps.2.1 63 1 64 (.iconst 0) := vm_dD b_M_keeps_0 33 rfl rfl
theorem d_M_keeps_64 : ∃ off : Int, decode q_M_keeps.2.1 64 = .ok (.goto off, 3) ∧ ((64 : Nat) : Int) + off = ((68 : Nat) : Int) := ⟨4, vm_db b_M_keeps_0 (i := 34) rfl, by decide⟩
theorem d_M_keeps_51 : vm_D q_M_keeps.2.1 51 2 53 (.bipush (-2)) := vm_dD b_M_keeps_0 28 rfl rfl
theorem d_M_keeps_53 : ∃ off : Int, decode q_M_keeps.2.1 53 = .ok (.goto off, 3) ∧ ((53 : Nat) : Int) + off = ((68 : Nat) : Int) := ⟨15, vm_db b_M_keeps_0 (i := 29) rfl, by decide⟩
theorem d_M_keeps_28 : vm_D q_M_keeps.2.1 28 1 29 (.iconst 0) := vm_dD b_M_keeps_0 15 rfl rfl
theorem d_M_keeps_24 : vm_D q_M_keeps.2.1 24 1 25 (.iconst 1) := vm_dD b_M_keeps_0 13 rfl rfl
theorem d_M_keeps_25 : ∃ off : Int, decode q_M_keeps.2.1 25 = .ok (.goto off, 3) ∧ ((25 : Nat) : Int) + off = ((29 : Nat) : Int) := ⟨4, vm_db b_M_keeps_0 (i := 14) rfl, by decide⟩
def q_M_breaks : vm_Y := ("RepeatFreeModel", cX11_breaks, 5, false, [])
def t_M_breaks_0 : List (Nat × Instr × Nat) := [(0, .aload_n 0, 1), (1, .iconst 0, 1), (2, .putfield 3, 3), (5, .aload_n 0, 1), (6, .iload_n 1, 1), (7, .invokevirtual 319, 3), (10, .ifCond .ne 26, 3), (13, .aload_n 0, 1), (14, .iload_n 2, 1), (15, .iconst 1, 1), (16, .bipush 6, 2), (18, .invokestatic 65, 3), (21, .ifCond .ne 7, 3), (24, .iconst 1, 1), (25, .goto 4, 3), (28, .iconst 0, 1), (29, .iconst 2, 1), (30, .invokevirtual 180, 3), (33, .ifCond .eq 5, 3), (36, .iconst 0, 1), (37, .ireturn, 1), (38, .aload_n 0, 1), (39, .iload_n 1, 1), (40, .iload_n 2, 1), (41, .invokevirtual 340, 3), (44, .aload_n 0, 1), (45, .getfield 265, 3), (48, .ifCond .ne 10, 3), (51, .aload_n 0, 1), (52, .getfield 271, 3), (55, .ifCond .ne 17, 3), (58, .aload_n 0, 1), (59, .getfield 265, 3), (62, .ifCond .eq 8, 3), (65, .bipush (-2), 2), (67, .goto 4, 3), (70, .iconst (-1), 1), (71, .ireturn, 1), (72, .iconst 0, 1), (73, .istore_n 3, 1), (74, .iconst 0, 1), (75, .istore 4, 2), (77, .iload 4, 2), (79, .aload_n 0, 1), (80, .getfield 284, 3), (83, .if_icmp .ge 24, 3), (86, .bipush 10, 2), (88, .iload_n 3, 1), (89, .imul, 1), (90, .aload_n 0, 1), (91, .getfield 98, 3), (94, .iload 4, 2), (96, .iaload, 1), (97, .iadd, 1), (98, .iconst 1, 1), (99, .iadd, 1), (100, .istore_n 3, 1), (101, .iinc 4 1, 3), (104, .goto (-27), 3), (107, .iload_n 3, 1)]
theorem b_M_breaks_0 : (t_M_breaks_0.all fun q => decide (decode q_M_breaks.2.1 q.1 = .ok (q.2.1, q.2.2))) = true := by decide +kernel
def t_M_breaks_1 : List (Nat × Instr × Nat) := [(108, .ireturn, 1)]
theorem b_M_breaks_1 : (t_M_breaks_1.all fun q => decide (decode q_M_breaks.2.1 q.1 = .ok (q.2.1, q.2.2))) = true := by decide +kernel
theorem d_M_breaks_0 : vm_D q_M_breaks.2.1 0 1 1 (.aload_n 0) := vm_dD b_M_breaks_0 0 rfl rfl
theorem d_M_breaks_1 : vm_D q_M_breaks.2.1 1 1 2 (.iconst 0) := vm_dD b_M_breaks_0 1 rfl rfl
theorem d_M_breaks_2 : vm_D q_M_breaks.2.1 2 3 5 (.putfield 3) := vm_dD b_M_breaks_0 2 rfl rfl
theorem d_M_breaks_5 : vm_D q_M_breaks.2.1 5 1 6 (.aload_n 0) := vm_dD b_M_breaks_0 3 rfl rfl
theorem d_M_breaks_6 : vm_D q_M_breaks.2.1 6 1 7 (.iload_n 1) := vm_dD b_M_breaks_0 4 rfl rfl
theorem d_M_breaks_7 : vm_D q_M_breaks.2.1 7 3 10 (.invokevirtual 319) := vm_dD b_M_breaks_0 5 rfl rfl
theorem d_M_breaks_10 : vm_B q_M_breaks.2.1 10 13 36 (fun o => .ifCond .ne o) := ⟨26, vm_db b_M_breaks_0 (i := 6) rfl, rfl, by decide⟩
theorem d_M_breaks_36 : vm_D q_M_breaks.2.1 36 1 37 (.iconst 0) := vm_dD b_M_breaks_0 19 rfl rfl
theorem d_M_breaks_37 : vm_D q_M_breaks.2.1 37 1 38 (.ireturn) := vm_dD b_M_breaks_0 20 rfl rfl
theorem d_M_breaks_13 : vm_D q_M_breaks.2.1 13 1 14 (.aload_n 0) := vm_dD b_M_breaks_0 7 rfl rfl
theorem d_M_breaks_14 : vm_D q_M_breaks.2.1 14 1 15 (.iload_n 2) := vm_dD b_M_breaks_0 8 rfl rfl
theorem d_M_breaks_15 : vm_D q_M_breaks.2.1 15 1 16 (.iconst 1) := vm_dD b_M_breaks_0 9 rfl rfl
theorem d_M_breaks_16 : vm_D q_M_breaks.2.1 16 2 18 (.bipush 6) := vm_dD b_M_breaks_0 10 rfl rfl
theorem d_M_breaks_18 : vm_D q_M_breaks.2.1 18 3 21 (.invokestatic 65) := vm_dD b_M_breaks_0 11 rfl rfl
theorem d_M_breaks_21 : vm_B q_M_breaks.2.1 21 24 28 (fun o => .ifCond .ne o) := ⟨7, vm_db b_M_breaks_0 (i := 12) rfl, rfl, by decide⟩
theorem d_M_breaks_29 : vm_D q_M_breaks.2.1 29 1 30 (.iconst 2) := vm_dD b_M_breaks_0 16 rfl rfl
theorem d_M_breaks_30 : vm_D q_M_breaks.2.1 30 3 33 (.invokevirtual 180) := vm_dD b_M_breaks_0 17 rfl rfl
theorem d_M_breaks_33 : vm_B q_M_breaks.2.1 33 36 38 (fun o => .ifCond .eq o) := ⟨5, vm_db b_M_breaks_0 (i := 18) rfl, rfl, by decide⟩
theorem d_M_breaks_38 : vm_D q_M_breaks.2.1 38 1 39 (.aload_n 0) := vm_dD b_M_breaks_0 21 rfl rfl
theorem d_M_breaks_39 : vm_D q_M_breaks.2.1 39 1 40 (.iload_n 1) := vm_dD b_M_breaks_0 22 rfl rfl
theorem d_M_breaks_40 : vm_D q_M_breaks.2.1 40 1 41 (.iload_n 2) := vm_dD b_M_breaks_0 23 rfl rfl
theorem d_M_breaks_41 : vm_D q_M_breaks.2.1 41 3 44 (.invokevirtual 340) := vm_dD b_M_breaks_0 24 rfl rfl
theorem d_M_breaks_44 : vm_D q_M_breaks.2.1 44 1 45 (.aload_n 0) := vm_dD b_M_breaks_0 25 rfl rfl
theorem d_M_breaks_45 : vm_D q_M_breaks.2.1 45 3 48 (.getfield 265) := vm_dD b_M_breaks_0 26 rfl rfl
theorem d_M_breaks_48 : vm_B q_M_breaks.2.1 48 51 58 (fun o => .ifCond .ne o) := ⟨10, vm_db b_M_breaks_0 (i := 27) rfl, rfl, by decide⟩
theorem d_M_breaks_58 : vm_D q_M_breaks.2.1 58 1 59 (.aload_n 0) := vm_dD b_M_breaks_0 31 rfl rfl
theorem d_M_breaks_59 : vm_D q_M_breaks.2.1 59 3 62 (.getfield 265) := vm_dD b_M_breaks_0 32 rfl rfl
theorem d_M_breaks_62 : vm_B q_M_breaks.2.1 62 65 70 (fun o => .ifCond .eq o) := ⟨8, vm_db b_M_breaks_0 (i := 33) rfl, rfl, by decide⟩
theorem d_M_breaks_70 : vm_D q_M_breaks.2.1 70 1 71 (.iconst (-1)) := vm_dD b_M_breaks_0 36 rfl rfl
theorem d_M_breaks_71 : vm_D q_M_breaks.2.1 71 1 72 (.ireturn) := vm_dD b_M_breaks_0 37 rfl rfl
theorem d_M_breaks_65 : vm_D q_M_breaks.2.1 65 2 67 (.bipush (-2)) := vm_dD b_M_breaks_0 34 rfl rfl
theorem d_M_breaks_67 : ∃ off : Int, decode q_M_breaks.2.1 67 = .ok (.goto off, 3) ∧ ((67 : Nat) : Int) + off = ((71 : Nat) : Int) := ⟨4, vm_db b_M_breaks_0 (i := 35) rfl, by decide⟩
theorem d_M_breaks_51 : vm_D q_M_breaks.2.1 51 1 52 (.aload_n 0) := vm_dD b_M_breaks_0 28 rfl rfl
theorem d_M_breaks_52 : vm_D q_M_breaks.2.1 52 3 55 (.getfield 271) := vm_dD b_M_breaks_0 29 rfl rfl
theorem d_M_breaks_55 : vm_B q_M_breaks.2.1 55 58 72 (fun o => .ifCond .ne o) := ⟨17, vm_db b_M_breaks_0 (i := 30) rfl, rfl, by decide⟩
theorem d_M_breaks_72 : vm_D q_M_breaks.2.1 72 1 73 (.iconst 0) := vm_dD b_M_breaks_0 38 rfl rfl
theorem d_M_breaks_73 : vm_D q_M_breaks.2.1 73 1 74 (.istore_n 3) := vm_dD b_M_breaks_0 39 rfl rfl
theorem d_M_breaks_74 : vm_D q_M_breaks.2.1 74 1 75 (.iconst 0) := vm_dD b_M_breaks_0 40 rfl rfl
theorem d_M_breaks_75 : vm_D q_M_breaks.2.1 75 2 77 (.istore 4) := vm_dD b_M_breaks_0 41 rfl rfl
theorem d_M_breaks_77 : vm_D q_M_breaks.2.1 77 2 79 (.iload 4) := vm_dD b_M_breaks_0 42 rfl rfl
theorem d_M_breaks_79 : vm_D q_M_breaks.2.1 79 1 80 (.aload_n 0) := vm_dD b_M_breaks_0 43 rfl rfl
theorem d_M_breaks_80 : vm_D q_M_breaks.2.1 80 3 83 (.getfield 284) := vm_dD b_M_breaks_0 44 rfl rfl
theorem d_M_breaks_83 : vm_B q_M_breaks.2.1 83 86 107 (fun o => .if_icmp .ge o) := ⟨24, vm_db b_M_breaks_0 (i := 45) rfl, rfl, by decide⟩
theorem d_M_breaks_86 : vm_D q_M_breaks.2.1 86 2 88 (.bipush 10) := vm_dD b_M_breaks_0 46 rfl rfl
theorem d_M_breaks_88 : vm_D q_M_breaks.2.1 88 1 89 (.iload_n 3) := vm_dD b_M_breaks_0 47 rfl rfl
theorem d_M_breaks_89 : vm_D q_M_breaks.2.1 89 1 90 (.imul) := vm_dD b_M_breaks_0 48 rfl rfl
theorem d_M_breaks_90 : vm_D q_M_breaks.2.1 90 1 91 (.aload_n 0) := vm_dD b_M_breaks_0 49 rfl rfl
theorem d_M_breaks_91 : vm_D q_M_breaks.2.1 91 3 94 (.getfield 98) := vm_dD b_M_breaks_0 50 rfl rfl
theorem d_M_breaks_94 : vm_D q_M_breaks.2.1 94 2 96 (.iload 4) := vm_dD b_M_breaks_0 51 rfl rfl
theorem d_M_breaks_96 : vm_D q_M_breaks.2.1 96 1 97 (.iaload) := vm_dD b_M_breaks_0 52 rfl rfl
theorem d_M_breaks_97 : vm_D q_M_breaks.2.1 97 1 98 (.iadd) := vm_dD b_M_breaks_0 53 rfl rfl
theorem d_M_breaks_98 : vm_D q_M_breaks.2.1 98 1 99 (.iconst 1) := vm_dD b_M_breaks_0 54 rfl rfl
theorem d_M_breaks_99 : vm_D q_M_breaks.2.1 99 1 100 (.iadd) := vm_dD b_M_breaks_0 55 rfl rfl
theorem d_M_breaks_100 : vm_D q_M_breaks.2.1 100 1 101 (.istore_n 3) := vm_dD b_M_breaks_0 56 rfl rfl
theorem d_M_breaks_101 : vm_D q_M_breaks.2.1 101 3 104 (.iinc 4 1) := vm_dD b_M_breaks_0 57 rfl rfl
theorem d_M_breaks_104 : ∃ off : Int, decode q_M_breaks.2.1 104 = .ok (.goto off, 3) ∧ ((104 : Nat) : Int) + off = ((77 : Nat) : Int) := ⟨-27, vm_db b_M_breaks_0 (i := 58) rfl, by decide⟩
theorem d_M_breaks_107 : vm_D q_M_breaks.2.1 107 1 108 (.iload_n 3) := vm_dD b_M_breaks_0 59 rfl rfl
theorem d_M_breaks_108 : vm_D q_M_breaks.2.1 108 1 109 (.ireturn) := vm_dD b_M_breaks_1 0 rfl rfl
theorem d_M_breaks_28 : vm_D q_M_breaks.2.1 28 1 29 (.iconst 0) := vm_dD b_M_breaks_0 15 rfl rfl
theorem d_M_breaks_24 : vm_D q_M_breaks.2.1 24 1 25 (.iconst 1) := vm_dD b_M_breaks_0 13 rfl rfl
theorem d_M_breaks_25 : ∃ off : Int, decode q_M_breaks.2.1 25 = .ok (.goto off, 3) ∧ ((25 : Nat) : Int) + off = ((29 : Nat) : Int) := ⟨4, vm_db b_M_breaks_0 (i := 14) rfl, by decide⟩
def q_M_doesGrow : vm_Y := ("RepeatFreeModel", cX11_doesGrow, 3, false, [])
def t_M_doesGrow_0 : List (Nat × Instr × Nat) := [(0, .aload_n 0, 1), (1, .iload_n 1, 1), (2, .iload_n 2, 1), (3, .invokevirtual 305, 3), (6, .iconst 1, 1), (7, .if_icmp .le 18, 3), (10, .aload_n 0, 1), (11, .iload_n 1, 1), (12, .iload_n 2, 1), (13, .iconst 0, 1), (14, .invokevirtual 308, 3), (17, .iload_n 2, 1), (18, .if_icmp .ne 7, 3), (21, .iconst 1, 1), (22, .goto 4, 3), (25, .iconst 0, 1), (26, .ireturn, 1)]
theorem b_M_doesGrow_0 : (t_M_doesGrow_0.all fun q => decide (decode q_M_doesGrow.2.1 q.1 = .ok (q.2.1, q.2.2))) = true := by decide +kernel
theorem d_M_doesGrow_0 : vm_D q_M_doesGrow.2.1 0 1 1 (.aload_n 0) := vm_dD b_M_doesGrow_0 0 rfl rfl
theorem d_M_doesGrow_1 : vm_D q_M_doesGrow.2.1 1 1 2 (.iload_n 1) := vm_dD b_M_doesGrow_0 1 rfl rfl
theorem d_M_doesGrow_2 : vm_D q_M_doesGrow.2.1 2 1 3 (.iload_n 2) := vm_dD b_M_doesGrow_0 2 rfl rfl
theorem d_M_doesGrow_3 : vm_D q_M_doesGrow.2.1 3 3 6 (.invokevirtual 305) := vm_dD b_M_doesGrow_0 3 rfl rfl
theorem d_M_doesGrow_6 : vm_D q_M_doesGrow.2.1 6 1 7 (.iconst 1) := vm_dD b_M_doesGrow_0 4 rfl rfl
theorem d_M_doesGrow_7 : vm_B q_M_doesGrow.2.1 7 10 25 (fun o => .if_icmp .le o) := ⟨18, vm_db b_M_doesGrow_0 (i := 5) rfl, rfl, by decide⟩
theorem d_M_doesGrow_25 : vm_D q_M_doesGrow.2.1 25 1 26 (.iconst 0) := vm_dD b_M_doesGrow_0 15 rfl rfl
theorem d_M_doesGrow_26 : vm_D q_M_doesGrow.2.1 26 1 27 (.ireturn) := vm_dD b_M_doesGrow_0 16 rfl rfl
theorem d_M_doesGrow_10 : vm_D q_M_doesGrow.2.1 10 1 11 (.aload_n 0) := vm_dD b_M_doesGrow_0 6 rfl rfl
theorem d_M_doesGrow_11 : vm_D q_M_doesGrow.2.1 11 1 12 (.iload_n 1) := vm_dD b_M_doesGrow_0 7 rfl rfl
theorem d_M_doesGrow_12 : vm_D q_M_doesGrow.2.1 12 1 13 (.iload_n 2) := vm_dD b_M_doesGrow_0 8 rfl rfl
theorem d_M_doesGrow_13 : vm_D q_M_doesGrow.2.1 13 1 14 (.iconst 0) := vm_dD b_M_doesGrow_0 9 rfl rfl
theorem d_M_doesGrow_14 : vm_D q_M_doesGrow.2.1 14 3 17 (.invokevirtual 308) := vm_dD b_M_doesGrow_0 10 rfl rfl
theorem d_M_doesGrow_17 : vm_D q_M_doesGrow.2.1 17 1 18 (.iload_n 2) := vm_dD b_M_doesGrow_0 11 rfl rfl
theorem d_M_doesGrow_18 : vm_B q_M_doesGrow.2.1 18 21 25 (fun o => .if_icmp .ne o) := ⟨7, vm_db b_M_doesGrow_0 (i := 12) rfl, rfl, by decide⟩
theorem d_M_doesGrow_21 : vm_D q_M_doesGrow.2.1 21 1 22 (.iconst 1) := vm_dD b_M_doesGrow_0 13 rfl rfl
theorem d_M_doesGrow_22 : ∃ off : Int, decode q_M_doesGrow.2.1 22 = .ok (.goto off, 3) ∧ ((22 : Nat) : Int) + off = ((26 : Nat) : Int) := ⟨4, vm_db b_M_doesGrow_0 (i := 14) rfl, by decide⟩
def q_M_grows : vm_Y := ("RepeatFreeModel", cX11_grows, 4, false, [])
def t_M_grows_0 : List (Nat × Instr × Nat) := [(0, .aload_n 0, 1), (1, .iconst 0, 1), (2, .putfield 3, 3), (5, .aload_n 0, 1), (6, .iload_n 1, 1), (7, .invokevirtual 319, 3), (10, .ifCond .eq 5, 3), (13, .iconst 0, 1), (14, .ireturn, 1), (15, .iconst 0, 1), (16, .istore_n 2, 1), (17, .iconst 0, 1), (18, .istore_n 3, 1), (19, .iload_n 3, 1), (20, .aload_n 0, 1), (21, .getfield 77, 3), (24, .iconst 0, 1), (25, .iaload, 1), (26, .if_icmp .ge 28, 3), (29, .iload_n 2, 1), (30, .aload_n 0, 1), (31, .iload_n 1, 1), (32, .iload_n 3, 1), (33, .invokevirtual 343, 3), (36, .ifCond .eq 9, 3), (39, .iconst 1, 1), (40, .iload_n 3, 1), (41, .ishl, 1), (42, .goto 4, 3), (45, .iconst 0, 1), (46, .ior, 1), (47, .istore_n 2, 1), (48, .iinc 3 1, 3), (51, .goto (-32), 3), (54, .iload_n 2, 1), (55, .ireturn, 1)]
theorem b_M_grows_0 : (t_M_grows_0.all fun q => decide (decode q_M_grows.2.1 q.1 = .ok (q.2.1, q.2.2))) = true := by decide +kernel
theorem d_M_grows_0 : vm_D q_M_grows.2.1 0 1 1 (.aload_n 0) := vm_dD b_M_grows_0 0 rfl rfl
theorem d_M_grows_1 : vm_D q_M_grows.2.1 1 1 2 (.iconst 0) := vm_dD b_M_grows_0 1 rfl rfl
theorem d_M_grows_2 : vm_D q_M_grows.2.1 2 3 5 (.putfield 3) := vm_dD b_M_grows_0 2 rfl rfl
theorem d_M_grows_5 : vm_D q_M_grows.2.1 5 1 6 (.aload_n 0) := vm_dD b_M_grows_0 3 rfl rfl
theorem d_M_grows_6 : vm_D q_M_grows.2.1 6 1 7 (.iload_n 1) := vm_dD b_M_grows_0 4 rfl rfl
theorem d_M_grows_7 : vm_D q_M_grows.2.1 7 3 10 (.invokevirtual 319) := vm_dD b_M_grows_0 5 rfl rfl
theorem d_M_grows_10 : vm_B q_M_grows.2.1 10 13 15 (fun o => .ifCond .eq o) := ⟨5, vm_db b_M_grows_0 (i := 6) rfl, rfl, by decide⟩
theorem d_M_grows_15 : vm_D q_M_grows.2.1 15 1 16 (.iconst 0) := vm_dD b_M_grows_0 9 rfl rfl
theorem d_M_grows_16 : vm_D q_M_grows.2.1 16 1 17 (.istore_n 2) := vm_dD b_M_grows_0 10 rfl rfl
theorem d_M_grows_17 : vm_D q_M_grows.2.1 17 1 18 (.iconst 0) := vm_dD b_M_grows_0 11 rfl rfl
theorem d_M_grows_18 : vm_D q_M_grows.2.1 18 1 19 (.istore_n 3) := vm_dD b_M_grows_0 12 rfl rfl
theorem d_M_grows_19 : vm_D q_M_grows.2.1 19 1 20 (.iload_n 3) := vm_dD b_M_grows_0 13 rfl rfl
theorem d_M_grows_20 : vm_D q_M_grows.2.1 20 1 21 (.aload_n 0) := vm_dD b_M_grows_0 14 rfl rfl
theorem d_M_grows_21 : vm_D q_M_grows.2.1 21 3 24 (.getfield 77) := vm_dD b_M_grows_0 15 rfl rfl
theorem d_M_grows_24 : vm_D q_M_grows.2.1 24 1 25 (.iconst 0) := vm_dD b_M_grows_0 16 rfl rfl
theorem d_M_grows_25 : vm_D q_M_grows.2.1 25 1 26 (.iaload) := vm_dD b_M_grows_0 17 rfl rfl
theorem d_M_grows_26 : vm_B q_M_grows.2.1 26 29 54 (fun o => .if_icmp .ge o) := ⟨28, vm_db b_M_grows_0 (i := 18) rfl, rfl, by decide⟩
theorem d_M_grows_29 : vm_D q_M_grows.2.1 29 1 30 (.iload_n 2) := vm_dD b_M_grows_0 19 rfl rfl
theorem d_M_grows_30 : vm_D q_M_grows.2.1 30 1 31 (.aload_n 0) := vm_dD b_M_grows_0 20 rfl rfl
theorem d_M_grows_31 : vm_D q_M_grows.2.1 31 1 32 (.iload_n 1) := vm_dD b_M_grows_0 21 rfl rfl
theorem d_M_grows_32 : vm_D q_M_grows.2.1 32 1 33 (.iload_n 3) := vm_dD b_M_grows_0 22 rfl rfl
theorem d_M_grows_33 : vm_D q_M_grows.2.1 33 3 36 (.invokevirtual 343) := vm_dD b_M_grows_0 23 rfl rfl
theorem d_M_grows_36 : vm_B q_M_grows.2.1 36 39 45 (fun o => .ifCond .eq o) := ⟨9, vm_db b_M_grows_0 (i := 24) rfl, rfl, by decide⟩
theorem d_M_grows_46 : vm_D q_M_grows.2.1 46 1 47 (.ior) := vm_dD b_M_grows_0 30 rfl rfl
theorem d_M_grows_47 : vm_D q_M_grows.2.1 47 1 48 (.istore_n 2) := vm_dD b_M_grows_0 31 rfl rfl
theorem d_M_grows_48 : vm_D q_M_grows.2.1 48 3 51 (.iinc 3 1) := vm_dD b_M_grows_0 32 rfl rfl
theorem d_M_grows_51 : ∃ off : Int, decode q_M_grows.2.1 51 = .ok (.goto off, 3) ∧ ((51 : Nat) : Int) + off = ((19 : Nat) : Int) := ⟨-32, vm_db b_M_grows_0 (i := 33) rfl, by decide⟩
theorem d_M_grows_45 : vm_D q_M_grows.2.1 45 1 46 (.iconst 0) := vm_dD b_M_grows_0 29 rfl rfl
theorem d_M_grows_39 : vm_D q_M_grows.2.1 39 1 40 (.iconst 1) := vm_dD b_M_grows_0 25 rfl rfl
theorem d_M_grows_40 : vm_D q_M_grows.2.1 40 1 41 (.iload_n 3) := vm_dD b_M_grows_0 26 rfl rfl
theorem d_M_grows_41 : vm_D q_M_grows.2.1 41 1 42 (.ishl) := vm_dD b_M_grows_0 27 rfl rfl
theorem d_M_grows_42 : ∃ off : Int, decode q_M_grows.2.1 42 = .ok (.goto off, 3) ∧ ((42 : Nat) : Int) + off = ((46 : Nat) : Int) := ⟨4, vm_db b_M_grows_0 (i := 28) rfl, by decide⟩
theorem d_M_grows_54 : vm_D q_M_grows.2.1 54 1 55 (.iload_n 2) := vm_dD b_M_grows_0 34 rfl rfl
theorem d_M_grows_55 : vm_D q_M_grows.2.1 55 1 56 (.ireturn) := vm_dD b_M_grows_0 35 rfl rfl
theorem d_M_grows_13 : vm_D q_M_grows.2.1 13 1 14 (.iconst 0) := vm_dD b_M_grows_0 7 rfl rfl
theorem d_M_grows_14 : vm_D q_M_grows.2.1 14 1 15 (.ireturn) := vm_dD b_M_grows_0 8 rfl rfl
def q_M_uniform : vm_Y := ("RepeatFreeModel", cX11_uniform, 3, false, [])
def t_M_uniform_0 : List (Nat × Instr × Nat) := [(0, .aload_n 0, 1), (1, .iconst 0, 1), (2, .putfield 3, 3), (5, .aload_n 0, 1), (6, .iload_n 1, 1), (7, .invokevirtual 319, 3), (10, .ifCond .eq 5, 3), (13, .iconst 0, 1), (14, .ireturn, 1), (15, .iconst 1, 1), (16, .istore_n 2, 1), (17, .iload_n 2, 1), (18, .aload_n 0, 1), (19, .getfield 77, 3), (22, .iconst 0, 1), (23, .iaload, 1), (24, .if_icmp .ge 26, 3), (27, .aload_n 0, 1), (28, .iload_n 1, 1), (29, .iload_n 2, 1), (30, .invokevirtual 305, 3), (33, .aload_n 0, 1), (34, .iload_n 1, 1), (35, .iconst 0, 1), (36, .invokevirtual 305, 3), (39, .if_icmp .eq 5, 3), (42, .iconst (-1), 1), (43, .ireturn, 1), (44, .iinc 2 1, 3), (47, .goto (-30), 3), (50, .aload_n 0, 1), (51, .iload_n 1, 1), (52, .iconst 0, 1), (53, .invokevirtual 305, 3), (56, .ireturn, 1)]
theorem b_M_uniform_0 : (t_M_uniform_0.all fun q => decide (decode q_M_uniform.2.1 q.1 = .ok (q.2.1, q.2.2))) = true := by decide +kernel
theorem d_M_uniform_0 : vm_D q_M_uniform.2.1 0 1 1 (.aload_n 0) := vm_dD b_M_uniform_0 0 rfl rfl
theorem d_M_uniform_1 : vm_D q_M_uniform.2.1 1 1 2 (.iconst 0) := vm_dD b_M_uniform_0 1 rfl rfl
theorem d_M_uniform_2 : vm_D q_M_uniform.2.1 2 3 5 (.putfield 3) := vm_dD b_M_uniform_0 2 rfl rfl
theorem d_M_uniform_5 : vm_D q_M_uniform.2.1 5 1 6 (.aload_n 0) := vm_dD b_M_uniform_0 3 rfl rfl
theorem d_M_uniform_6 : vm_D q_M_uniform.2.1 6 1 7 (.iload_n 1) := vm_dD b_M_uniform_0 4 rfl rfl
theorem d_M_uniform_7 : vm_D q_M_uniform.2.1 7 3 10 (.invokevirtual 319) := vm_dD b_M_uniform_0 5 rfl rfl
theorem d_M_uniform_10 : vm_B q_M_uniform.2.1 10 13 15 (fun o => .ifCond .eq o) := ⟨5, vm_db b_M_uniform_0 (i := 6) rfl, rfl, by decide⟩
theorem d_M_uniform_15 : vm_D q_M_uniform.2.1 15 1 16 (.iconst 1) := vm_dD b_M_uniform_0 9 rfl rfl
theorem d_M_uniform_16 : vm_D q_M_uniform.2.1 16 1 17 (.istore_n 2) := vm_dD b_M_uniform_0 10 rfl rfl
theorem d_M_uniform_17 : vm_D q_M_uniform.2.1 17 1 18 (.iload_n 2) := vm_dD b_M_uniform_0 11 rfl rfl
theorem d_M_uniform_18 : vm_D q_M_uniform.2.1 18 1 19 (.aload_n 0) := vm_dD b_M_uniform_0 12 rfl rfl
theorem d_M_uniform_19 : vm_D q_M_uniform.2.1 19 3 22 (.getfield 77) := vm_dD b_M_uniform_0 13 rfl rfl
theorem d_M_uniform_22 : vm_D q_M_uniform.2.1 22 1 23 (.iconst 0) := vm_dD b_M_uniform_0 14 rfl rfl
theorem d_M_uniform_23 : vm_D q_M_uniform.2.1 23 1 24 (.iaload) := vm_dD b_M_uniform_0 15 rfl rfl
theorem d_M_uniform_24 : vm_B q_M_uniform.2.1 24 27 50 (fun o => .if_icmp .ge o) := ⟨26, vm_db b_M_uniform_0 (i := 16) rfl, rfl, by decide⟩
theorem d_M_uniform_27 : vm_D q_M_uniform.2.1 27 1 28 (.aload_n 0) := vm_dD b_M_uniform_0 17 rfl rfl
theorem d_M_uniform_28 : vm_D q_M_uniform.2.1 28 1 29 (.iload_n 1) := vm_dD b_M_uniform_0 18 rfl rfl
theorem d_M_uniform_29 : vm_D q_M_uniform.2.1 29 1 30 (.iload_n 2) := vm_dD b_M_uniform_0 19 rfl rfl
theorem d_M_uniform_30 : vm_D q_M_uniform.2.1 30 3 33 (.invokevirtual 305) := vm_dD b_M_uniform_0 20 rfl rfl
theorem d_M_uniform_33 : vm_D q_M_uniform.2.1 33 1 34 (.aload_n 0) := vm_dD b_M_uniform_0 21 rfl rfl
theorem d_M_uniform_34 : vm_D q_M_uniform.2.1 34 1 35 (.iload_n 1) := vm_dD b_M_uniform_0 22 rfl rfl
theorem d_M_uniform_35 : vm_D q_M_uniform.2.1 35 1 36 (.iconst 0) := vm_dD b_M_uniform_0 23 rfl rfl
theorem d_M_uniform_36 : vm_D q_M_uniform.2.1 36 3 39 (.invokevirtual 305) := vm_dD b_M_uniform_0 24 rfl rfl
theorem d_M_uniform_39 : vm_B q_M_uniform.2.1 39 42 44 (fun o => .if_icmp .eq o) := ⟨5, vm_db b_M_uniform_0 (i := 25) rfl, rfl, by decide⟩
theorem d_M_uniform_44 : vm_D q_M_uniform.2.1 44 3 47 (.iinc 2 1) := vm_dD b_M_uniform_0 28 rfl rfl
theorem d_M_uniform_47 : ∃ off : Int, decode q_M_uniform.2.1 47 = .ok (.goto off, 3) ∧ ((47 : Nat) : Int) + off = ((17 : Nat) : Int) := ⟨-30, vm_db b_M_uniform_0 (i := 29) rfl, by decide⟩
theorem d_M_uniform_42 : vm_D q_M_uniform.2.1 42 1 43 (.iconst (-1)) := vm_dD b_M_uniform_0 26 rfl rfl
theorem d_M_uniform_43 : vm_D q_M_uniform.2.1 43 1 44 (.ireturn) := vm_dD b_M_uniform_0 27 rfl rfl
theorem d_M_uniform_50 : vm_D q_M_uniform.2.1 50 1 51 (.aload_n 0) := vm_dD b_M_uniform_0 30 rfl rfl
theorem d_M_uniform_51 : vm_D q_M_uniform.2.1 51 1 52 (.iload_n 1) := vm_dD b_M_uniform_0 31 rfl rfl
theorem d_M_uniform_52 : vm_D q_M_uniform.2.1 52 1 53 (.iconst 0) := vm_dD b_M_uniform_0 32 rfl rfl
theorem d_M_uniform_53 : vm_D q_M_uniform.2.1 53 3 56 (.invokevirtual 305) := vm_dD b_M_uniform_0 33 rfl rfl
theorem d_M_uniform_56 : vm_D q_M_uniform.2.1 56 1 57 (.ireturn) := vm_dD b_M_uniform_0 34 rfl rfl
theorem d_M_uniform_13 : vm_D q_M_uniform.2.1 13 1 14 (.iconst 0) := vm_dD b_M_uniform_0 7 rfl rfl
theorem d_M_uniform_14 : vm_D q_M_uniform.2.1 14 1 15 (.ireturn) := vm_dD b_M_uniform_0 8 rfl rfl
def q_M_fill : vm_Y := ("RepeatFreeModel", cX11_fill, 7, false, [])
def t_M_fill_0 : List (Nat × Instr × Nat) := [(0, .aload_n 0, 1), (1, .iconst 0, 1), (2, .putfield 3, 3), (5, .aload_n 0, 1), (6, .iload_n 1, 1), (7, .invokevirtual 319, 3), (10, .ifCond .ne 57, 3), (13, .aload_n 0, 1), (14, .iload_n 2, 1), (15, .iconst 2, 1), (16, .invokevirtual 196, 3), (19, .ifCond .ne 48, 3), (22, .aload_n 0, 1), (23, .iload_n 3, 1), (24, .iconst 1, 1), (25, .bipush 64, 2), (27, .invokestatic 65, 3), (30, .ifCond .ne 7, 3), (33, .iconst 1, 1), (34, .goto 4, 3), (37, .iconst 0, 1), (38, .iconst 2, 1), (39, .invokevirtual 180, 3), (42, .ifCond .ne 25, 3), (45, .aload_n 0, 1), (46, .aload_n 0, 1), (47, .iload_n 1, 1), (48, .iload_n 2, 1), (49, .invokevirtual 343, 3), (52, .ifCond .ne 7, 3), (55, .iconst 1, 1), (56, .goto 4, 3), (59, .iconst 0, 1), (60, .iconst 3, 1), (61, .invokevirtual 180, 3), (64, .ifCond .eq 5, 3), (67, .iconst 0, 1), (68, .ireturn, 1), (69, .aload_n 0, 1), (70, .getfield 86, 3), (73, .iconst 0, 1), (74, .iload_n 2, 1), (75, .iastore, 1), (76, .iconst 1, 1), (77, .istore 4, 2), (79, .iconst 0, 1), (80, .istore 5, 2), (82, .iload 4, 2), (84, .iload_n 3, 1), (85, .if_icmp .ge 74, 3), (88, .iload 5, 2), (90, .ifCond .ne 7, 3), (93, .iconst 1, 1), (94, .goto 4, 3), (97, .iconst 0, 1), (98, .istore 6, 2), (100, .iload 6, 2), (102, .aload_n 0, 1), (103, .iload_n 1, 1), (104, .aload_n 0, 1)]
theorem b_M_fill_0 : (t_M_fill_0.all fun q => decide (decode q_M_fill.2.1 q.1 = .ok (q.2.1, q.2.2))) = true := by decide +kernel
def t_M_fill_1 : List (Nat × Instr × Nat) := [(105, .getfield 86, 3), (108, .iload 5, 2), (110, .iaload, 1), (111, .invokevirtual 305, 3), (114, .if_icmp .ge 39, 3), (117, .iload 4, 2), (119, .iload_n 3, 1), (120, .if_icmp .ge 33, 3), (123, .aload_n 0, 1), (124, .getfield 86, 3), (127, .iload 4, 2), (129, .iinc 4 1, 3), (132, .aload_n 0, 1), (133, .iload_n 1, 1), (134, .aload_n 0, 1), (135, .getfield 86, 3), (138, .iload 5, 2), (140, .iaload, 1), (141, .iload 6, 2), (143, .invokevirtual 308, 3), (146, .iastore, 1), (147, .iinc 6 1, 3), (150, .goto (-50), 3), (153, .iinc 5 1, 3), (156, .goto (-74), 3), (159, .aload_n 0, 1), (160, .iload_n 3, 1), (161, .invokevirtual 193, 3), (164, .aload_n 0, 1), (165, .invokevirtual 239, 3), (168, .ireturn, 1)]
theorem b_M_fill_1 : (t_M_fill_1.all fun q => decide (decode q_M_fill.2.1 q.1 = .ok (q.2.1, q.2.2))) = true := by decide +kernel
theorem d_M_fill_0 : vm_D q_M_fill.2.1 0 1 1 (.aload_n 0) := vm_dD b_M_fill_0 0 rfl rfl
theorem d_M_fill_1 : vm_D q_M_fill.2.1 1 1 2 (.iconst 0) := vm_dD b_M_fill_0 1 rfl rfl
theorem d_M_fill_2 : vm_D q_M_fill.2.1 2 3 5 (.putfield 3) := vm_dD b_M_fill_0 2 rfl rfl
theorem d_M_fill_5 : vm_D q_M_fill.2.1 5 1 6 (.aload_n 0) := vm_dD b_M_fill_0 3 rfl rfl
theorem d_M_fill_6 : vm_D q_M_fill.2.1 6 1 7 (.iload_n 1) := vm_dD b_M_fill_0 4 rfl rfl
theorem d_M_fill_7 : vm_D q_M_fill.2.1 7 3 10 (.invokevirtual 319) := vm_dD b_M_fill_0 5 rfl rfl
theorem d_M_fill_10 : vm_B q_M_fill.2.1 10 13 67 (fun o => .ifCond .ne o) := ⟨57, vm_db b_M_fill_0 (i := 6) rfl, rfl, by decide⟩
theorem d_M_fill_67 : vm_D q_M_fill.2.1 67 1 68 (.iconst 0) := vm_dD b_M_fill_0 36 rfl rfl
theorem d_M_fill_68 : vm_D q_M_fill.2.1 68 1 69 (.ireturn) := vm_dD b_M_fill_0 37 rfl rfl
theorem d_M_fill_13 : vm_D q_M_fill.2.1 13 1 14 (.aload_n 0) := vm_dD b_M_fill_0 7 rfl rfl
theorem d_M_fill_14 : vm_D q_M_fill.2.1 14 1 15 (.iload_n 2) := vm_dD b_M_fill_0 8 rfl rfl
theorem d_M_fill_15 : vm_D q_M_fill.2.1 15 1 16 (.iconst 2) := vm_dD b_M_fill_0 9 rfl rfl
theorem d_M_fill_16 : vm_D q_M_fill.2.1 16 3 19 (.invokevirtual 196) := vm_dD b_M_fill_0 10 rfl rfl
theorem d_M_fill_19 : vm_B q_M_fill.2.1 19 22 67 (fun o => .ifCond .ne o) := ⟨48, vm_db b_M_fill_0 (i := 11) rfl, rfl, by decide⟩
theorem d_M_fill_22 : vm_D q_M_fill.2.1 22 1 23 (.aload_n 0) := vm_dD b_M_fill_0 12 rfl rfl
theorem d_M_fill_23 : vm_D q_M_fill.2.1 23 1 24 (.iload_n 3) := vm_dD b_M_fill_0 13 rfl rfl
theorem d_M_fill_24 : vm_D q_M_fill.2.1 24 1 25 (.iconst 1) := vm_dD b_M_fill_0 14 rfl rfl
theorem d_M_fill_25 : vm_D q_M_fill.2.1 25 2 27 (.bipush 64) := vm_dD b_M_fill_0 15 rfl rfl
theorem d_M_fill_27 : vm_D q_M_fill.2.1 27 3 30 (.invokestatic 65) := vm_dD b_M_fill_0 16 rfl rfl
theorem d_M_fill_30 : vm_B q_M_fill.2.1 30 33 37 (fun o => .ifCond .ne o) := ⟨7, vm_db b_M_fill_0 (i := 17) rfl, rfl, by decide⟩
theorem d_M_fill_38 : vm_D q_M_fill.2.1 38 1 39 (.iconst 2) := vm_dD b_M_fill_0 21 rfl rfl
theorem d_M_fill_39 : vm_D q_M_fill.2.1 39 3 42 (.invokevirtual 180) := vm_dD b_M_fill_0 22 rfl rfl
theorem d_M_fill_42 : vm_B q_M_fill.2.1 42 45 67 (fun o => .ifCond .ne o) := ⟨25, vm_db b_M_fill_0 (i := 23) rfl, rfl, by decide⟩
theorem d_M_fill_45 : vm_D q_M_fill.2.1 45 1 46 (.aload_n 0) := vm_dD b_M_fill_0 24 rfl rfl
theorem d_M_fill_46 : vm_D q_M_fill.2.1 46 1 47 (.aload_n 0) := vm_dD b_M_fill_0 25 rfl rfl
theorem d_M_fill_47 : vm_D q_M_fill.2.1 47 1 48 (.iload_n 1) := vm_dD b_M_fill_0 26 rfl rfl
theorem d_M_fill_48 : vm_D q_M_fill.2.1 48 1 49 (.iload_n 2) := vm_dD b_M_fill_0 27 rfl rfl
theorem d_M_fill_49 : vm_D q_M_fill.2.1 49 3 52 (.invokevirtual 343) := vm_dD b_M_fill_0 28 rfl rfl
theorem d_M_fill_52 : vm_B q_M_fill.2.1 52 55 59 (fun o => .ifCond .ne o) := ⟨7, vm_db b_M_fill_0 (i := 29) rfl, rfl, by decide⟩
theorem d_M_fill_60 : vm_D q_M_fill.2.1 60 1 61 (.iconst 3) := vm_dD b_M_fill_0 33 rfl rfl
theorem d_M_fill_61 : vm_D q_M_fill.2.1 61 3 64 (.invokevirtual 180) := vm_dD b_M_fill_0 34 rfl rfl
theorem d_M_fill_64 : vm_B q_M_fill.2.1 64 67 69 (fun o => .ifCond .eq o) := ⟨5, vm_db b_M_fill_0 (i := 35) rfl, rfl, by decide⟩
theorem d_M_fill_69 : vm_D q_M_fill.2.1 69 1 70 (.aload_n 0) := vm_dD b_M_fill_0 38 rfl rfl
theorem d_M_fill_70 : vm_D q_M_fill.2.1 70 3 73 (.getfield 86) := vm_dD b_M_fill_0 39 rfl rfl
theorem d_M_fill_73 : vm_D q_M_fill.2.1 73 1 74 (.iconst 0) := vm_dD b_M_fill_0 40 rfl rfl
theorem d_M_fill_74 : vm_D q_M_fill.2.1 74 1 75 (.iload_n 2) := vm_dD b_M_fill_0 41 rfl rfl
theorem d_M_fill_75 : vm_D q_M_fill.2.1 75 1 76 (.iastore) := vm_dD b_M_fill_0 42 rfl rfl
theorem d_M_fill_76 : vm_D q_M_fill.2.1 76 1 77 (.iconst 1) := vm_dD b_M_fill_0 43 rfl rfl
theorem d_M_fill_77 : vm_D q_M_fill.2.1 77 2 79 (.istore 4) := vm_dD b_M_fill_0 44 rfl rfl
theorem d_M_fill_79 : vm_D q_M_fill.2.1 79 1 80 (.iconst 0) := vm_dD b_M_fill_0 45 rfl rfl
theorem d_M_fill_80 : vm_D q_M_fill.2.1 80 2 82 (.istore 5) := vm_dD b_M_fill_0 46 rfl rfl
theorem d_M_fill_82 : vm_D q_M_fill.2.1 82 2 84 (.iload 4) := vm_dD b_M_fill_0 47 rfl rfl
theorem d_M_fill_84 : vm_D q_M_fill.2.1 84 1 85 (.iload_n 3) := vm_dD b_M_fill_0 48 rfl rfl
theorem d_M_fill_85 : vm_B q_M_fill.2.1 85 88 159 (fun o => .if_icmp .ge o) := ⟨74, vm_db b_M_fill_0 (i := 49) rfl, rfl, by decide⟩
theorem d_M_fill_88 : vm_D q_M_fill.2.1 88 2 90 (.iload 5) := vm_dD b_M_fill_0 50 rfl rfl
theorem d_M_fill_90 : vm_B q_M_fill.2.1 90 93 97 (fun o => .ifCond .ne o) := ⟨7, vm_db b_M_fill_0 (i := 51) rfl, rfl, by decide⟩
theorem d_M_fill_98 : vm_D q_M_fill.2.1 98 2 100 (.istore 6) := vm_dD b_M_fill_0 55 rfl rfl
theorem d_M_fill_100 : vm_D q_M_fill.2.1 100 2 102 (.iload 6) := vm_dD b_M_fill_0 56 rfl rfl
theorem d_M_fill_102 : vm_D q_M_fill.2.1 102 1 103 (.aload_n 0) := vm_dD b_M_fill_0 57 rfl rfl
theorem d_M_fill_103 : vm_D q_M_fill.2.1 103 1 104 (.iload_n 1) := vm_dD b_M_fill_0 58 rfl rfl
theorem d_M_fill_104 : vm_D q_M_fill.2.1 104 1 105 (.aload_n 0) := vm_dD b_M_fill_0 59 rfl rfl
theorem d_M_fill_105 : vm_D q_M_fill.2.1 105 3 108 (.getfield 86) := vm_dD b_M_fill_1 0 rfl rfl
theorem d_M_fill_108 : vm_D q_M_fill.2.1 108 2 110 (.iload 5) := vm_dD b_M_fill_1 1 rfl rfl
theorem d_M_fill_110 : vm_D q_M_fill.2.1 110 1 111 (.iaload) := vm_dD b_M_fill_1 2 rfl rfl
theorem d_M_fill_111 : vm_D q_M_fill.2.1 111 3 114 (.invokevirtual 305) := vm_dD b_M_fill_1 3 rfl rfl
theorem d_M_fill_114 : vm_B q_M_fill.2.1 114 117 153 (fun o => .if_icmp .ge o) := ⟨39, vm_db b_M_fill_1 (i := 4) rfl, rfl, by decide⟩
theorem d_M_fill_117 : vm_D q_M_fill.2.1 117 2 119 (.iload 4) := vm_dD b_M_fill_1 5 rfl rfl
theorem d_M_fill_119 : vm_D q_M_fill.2.1 119 1 120 (.iload_n 3) := vm_dD b_M_fill_1 6 rfl rfl
theorem d_M_fill_120 : vm_B q_M_fill.2.1 120 123 153 (fun o => .if_icmp .ge o) := ⟨33, vm_db b_M_fill_1 (i := 7) rfl, rfl, by decide⟩
theorem d_M_fill_123 : vm_D q_M_fill.2.1 123 1 124 (.aload_n 0) := vm_dD b_M_fill_1 8 rfl rfl
theorem d_M_fill_124 : vm_D q_M_fill.2.1 124 3 127 (.getfield 86) := vm_dD b_M_fill_1 9 rfl rfl
theorem d_M_fill_127 : vm_D q_M_fill.2.1 127 2 129 (.iload 4) := vm_dD b_M_fill_1 10 rfl rfl
theorem d_M_fill_129 : vm_D q_M_fill.2.1 129 3 132 (.iinc 4 1) := vm_dD b_M_fill_1 11 rfl rfl
theorem d_M_fill_132 : vm_D q_M_fill.2.1 132 1 133 (.aload_n 0) := vm_dD b_M_fill_1 12 rfl rfl
theorem d_M_fill_133 : vm_D q_M_fill.2.1 133 1 134 (.iload_n 1) := vm_dD b_M_fill_1 13 rfl rfl
theorem d_M_fill_134 : vm_D q_M_fill.2.1 134 1 135 (.aload_n 0) := vm_dD b_M_fill_1 14 rfl rfl
theorem d_M_fill_135 : vm_D q_M_fill.2.1 135 3 138 (.getfield 86) := vm_dD b_M_fill_1 15 rfl rfl
theorem d_M_fill_138 : vm_D q_M_fill.2.1 138 2 140 (.iload 5) := vm_dD b_M_fill_1 16 rfl rfl
theorem d_M_fill_140 : vm_D q_M_fill.2.1 140 1 141 (.iaload) := vm_dD b_M_fill_1 17 rfl rfl
theorem d_M_fill_141 : vm_D q_M_fill.2.1 141 2 143 (.iload 6) := vm_dD b_M_fill_1 18 rfl rfl
theorem d_M_fill_143 : vm_D q_M_fill.2.1 143 3 146 (.invokevirtual 308) := vm_dD b_M_fill_1 19 rfl rfl
theorem d_M_fill_146 : vm_D q_M_fill.2.1 146 1 147 (.iastore) := vm_dD b_M_fill_1 20 rfl rfl
theorem d_M_fill_147 : vm_D q_M_fill.2.1 147 3 150 (.iinc 6 1) := vm_dD b_M_fill_1 21 rfl rfl
theorem d_M_fill_150 : ∃ off : Int, decode q_M_fill.2.1 150 = .ok (.goto off, 3) ∧ ((150 : Nat) : Int) + off = ((100 : Nat) : Int) := ⟨-50, vm_db b_M_fill_1 (i := 22) rfl, by decide⟩
theorem d_M_fill_153 : vm_D q_M_fill.2.1 153 3 156 (.iinc 5 1) := vm_dD b_M_fill_1 23 rfl rfl
theorem d_M_fill_156 : ∃ off : Int, decode q_M_fill.2.1 156 = .ok (.goto off, 3) ∧ ((156 : Nat) : Int) + off = ((82 : Nat) : Int) := ⟨-74, vm_db b_M_fill_1 (i := 24) rfl, by decide⟩
theorem d_M_fill_97 : vm_D q_M_fill.2.1 97 1 98 (.iconst 0) := vm_dD b_M_fill_0 54 rfl rfl
theorem d_M_fill_93 : vm_D q_M_fill.2.1 93 1 94 (.iconst 1) := vm_dD b_M_fill_0 52 rfl rfl
theorem d_M_fill_94 : ∃ off : Int, decode q_M_fill.2.1 94 = .ok (.goto off, 3) ∧ ((94 : Nat) : Int) + off = ((98 : Nat) : Int) := ⟨4, vm_db b_M_fill_0 (i := 53) rfl, by decide⟩
theorem d_M_fill_159 : vm_D q_M_fill.2.1 159 1 160 (.aload_n 0) := vm_dD b_M_fill_1 25 rfl rfl
theorem d_M_fill_160 : vm_D q_M_fill.2.1 160 1 161 (.iload_n 3) := vm_dD b_M_fill_1 26 rfl rfl
theorem d_M_fill_161 : vm_D q_M_fill.2.1 161 3 164 (.invokevirtual 193) := vm_dD b_M_fill_1 27 rfl rfl
theorem d_M_fill_164 : vm_D q_M_fill.2.1 164 1 165 (.aload_n 0) := vm_dD b_M_fill_1 28 rfl rfl
theorem d_M_fill_165 : vm_D q_M_fill.2.1 165 3 168 (.invokevirtual 239) := vm_dD b_M_fill_1 29 rfl rfl
theorem d_M_fill_168 : vm_D q_M_fill.2.1 168 1 169 (.ireturn) := vm_dD b_M_fill_1 30 rfl rfl
theorem d_M_fill_59 : vm_D q_M_fill.2.1 59 1 60 (.iconst 0) := vm_dD b_M_fill_0 32 rfl rfl
theorem d_M_fill_55 : vm_D q_M_fill.2.1 55 1 56 (.iconst 1) := vm_dD b_M_fill_0 30 rfl rfl
theorem d_M_fill_56 : ∃ off : Int, decode q_M_fill.2.1 56 = .ok (.goto off, 3) ∧ ((56 : Nat) : Int) + off = ((60 : Nat) : Int) := ⟨4, vm_db b_M_fill_0 (i := 31) rfl, by decide⟩
theorem d_M_fill_37 : vm_D q_M_fill.2.1 37 1 38 (.iconst 0) := vm_dD b_M_fill_0 20 rfl rfl
theorem d_M_fill_33 : vm_D q_M_fill.2.1 33 1 34 (.iconst 1) := vm_dD b_M_fill_0 18 rfl rfl
theorem d_M_fill_34 : ∃ off : Int, decode q_M_fill.2.1 34 = .ok (.goto off, 3) ∧ ((34 : Nat) : Int) + off = ((38 : Nat) : Int) := ⟨4, vm_db b_M_fill_0 (i := 19) rfl, by decide⟩
def q_M_sources : vm_Y := ("RepeatFreeModel", cX11_sources, 7, false, [])
def t_M_sources_0 : List (Nat × Instr × Nat) := [(0, .aload_n 0, 1), (1, .iconst 0, 1), (2, .putfield 3, 3), (5, .aload_n 0, 1), (6, .iload_n 1, 1), (7, .invokevirtual 319, 3), (10, .ifCond .eq 5, 3), (13, .lconst 0, 1), (14, .lreturn, 1), (15, .aload_n 0, 1), (16, .getfield 108, 3), (19, .iconst 0, 1), (20, .lconst 1, 1), (21, .lastore, 1), (22, .iconst 1, 1), (23, .istore_n 2, 1), (24, .iload_n 2, 1), (25, .aload_n 0, 1), (26, .getfield 184, 3), (29, .if_icmp .gt 129, 3), (32, .aload_n 0, 1), (33, .getfield 108, 3), (36, .iload_n 2, 1), (37, .lconst 0, 1), (38, .lastore, 1), (39, .iconst 0, 1), (40, .istore_n 3, 1), (41, .iload_n 3, 1), (42, .aload_n 0, 1), (43, .getfield 77, 3), (46, .iconst 0, 1), (47, .iaload, 1), (48, .if_icmp .ge 104, 3), (51, .aload_n 0, 1), (52, .iload_n 1, 1), (53, .iload_n 3, 1), (54, .invokevirtual 305, 3), (57, .istore 4, 2), (59, .iload 4, 2), (61, .iload_n 2, 1), (62, .if_icmp .gt 7, 3), (65, .iconst 1, 1), (66, .goto 4, 3), (69, .iconst 0, 1), (70, .istore 5, 2), (72, .iconst 0, 1), (73, .istore 6, 2), (75, .iload 6, 2), (77, .iload 4, 2), (79, .if_icmp .ge 44, 3), (82, .iload 5, 2), (84, .ifCond .eq 39, 3), (87, .aload_n 0, 1), (88, .getfield 83, 3), (91, .iload_n 2, 1), (92, .iload 4, 2), (94, .isub, 1), (95, .iload 6, 2), (97, .iadd, 1), (98, .iaload, 1)]
theorem b_M_sources_0 : (t_M_sources_0.all fun q => decide (decode q_M_sources.2.1 q.1 = .ok (q.2.1, q.2.2))) = true := by decide +kernel
def t_M_sources_1 : List (Nat × Instr × Nat) := [(99, .aload_n 0, 1), (100, .iload_n 1, 1), (101, .iload_n 3, 1), (102, .iload 6, 2), (104, .invokevirtual 308, 3), (107, .if_icmp .ne 7, 3), (110, .iconst 1, 1), (111, .goto 4, 3), (114, .iconst 0, 1), (115, .istore 5, 2), (117, .iinc 6 1, 3), (120, .goto (-45), 3), (123, .iload 5, 2), (125, .ifCond .eq 21, 3), (128, .aload_n 0, 1), (129, .getfield 108, 3), (132, .iload_n 2, 1), (133, .dup2, 1), (134, .laload, 1), (135, .aload_n 0, 1), (136, .getfield 108, 3), (139, .iload_n 2, 1), (140, .iload 4, 2), (142, .isub, 1), (143, .laload, 1), (144, .ladd, 1), (145, .lastore, 1), (146, .iinc 3 1, 3), (149, .goto (-108), 3), (152, .iinc 2 1, 3), (155, .goto (-131), 3), (158, .aload_n 0, 1), (159, .getfield 108, 3), (162, .aload_n 0, 1), (163, .getfield 184, 3), (166, .laload, 1), (167, .lreturn, 1)]
theorem b_M_sources_1 : (t_M_sources_1.all fun q => decide (decode q_M_sources.2.1 q.1 = .ok (q.2.1, q.2.2))) = true := by decide +kernel
theorem d_M_sources_0 : vm_D q_M_sources.2.1 0 1 1 (.aload_n 0) := vm_dD b_M_sources_0 0 rfl rfl
theorem d_M_sources_1 : vm_D q_M_sources.2.1 1 1 2 (.iconst 0) := vm_dD b_M_sources_0 1 rfl rfl
theorem d_M_sources_2 : vm_D q_M_sources.2.1 2 3 5 (.putfield 3) := vm_dD b_M_sources_0 2 rfl rfl
theorem d_M_sources_5 : vm_D q_M_sources.2.1 5 1 6 (.aload_n 0) := vm_dD b_M_sources_0 3 rfl rfl
theorem d_M_sources_6 : vm_D q_M_sources.2.1 6 1 7 (.iload_n 1) := vm_dD b_M_sources_0 4 rfl rfl
theorem d_M_sources_7 : vm_D q_M_sources.2.1 7 3 10 (.invokevirtual 319) := vm_dD b_M_sources_0 5 rfl rfl
theorem d_M_sources_10 : vm_B q_M_sources.2.1 10 13 15 (fun o => .ifCond .eq o) := ⟨5, vm_db b_M_sources_0 (i := 6) rfl, rfl, by decide⟩
theorem d_M_sources_15 : vm_D q_M_sources.2.1 15 1 16 (.aload_n 0) := vm_dD b_M_sources_0 9 rfl rfl
theorem d_M_sources_16 : vm_D q_M_sources.2.1 16 3 19 (.getfield 108) := vm_dD b_M_sources_0 10 rfl rfl
theorem d_M_sources_19 : vm_D q_M_sources.2.1 19 1 20 (.iconst 0) := vm_dD b_M_sources_0 11 rfl rfl
theorem d_M_sources_20 : vm_D q_M_sources.2.1 20 1 21 (.lconst 1) := vm_dD b_M_sources_0 12 rfl rfl
theorem d_M_sources_21 : vm_D q_M_sources.2.1 21 1 22 (.lastore) := vm_dD b_M_sources_0 13 rfl rfl
theorem d_M_sources_22 : vm_D q_M_sources.2.1 22 1 23 (.iconst 1) := vm_dD b_M_sources_0 14 rfl rfl
theorem d_M_sources_23 : vm_D q_M_sources.2.1 23 1 24 (.istore_n 2) := vm_dD b_M_sources_0 15 rfl rfl
theorem d_M_sources_24 : vm_D q_M_sources.2.1 24 1 25 (.iload_n 2) := vm_dD b_M_sources_0 16 rfl rfl
theorem d_M_sources_25 : vm_D q_M_sources.2.1 25 1 26 (.aload_n 0) := vm_dD b_M_sources_0 17 rfl rfl
theorem d_M_sources_26 : vm_D q_M_sources.2.1 26 3 29 (.getfield 184) := vm_dD b_M_sources_0 18 rfl rfl
theorem d_M_sources_29 : vm_B q_M_sources.2.1 29 32 158 (fun o => .if_icmp .gt o) := ⟨129, vm_db b_M_sources_0 (i := 19) rfl, rfl, by decide⟩
theorem d_M_sources_32 : vm_D q_M_sources.2.1 32 1 33 (.aload_n 0) := vm_dD b_M_sources_0 20 rfl rfl
theorem d_M_sources_33 : vm_D q_M_sources.2.1 33 3 36 (.getfield 108) := vm_dD b_M_sources_0 21 rfl rfl
theorem d_M_sources_36 : vm_D q_M_sources.2.1 36 1 37 (.iload_n 2) := vm_dD b_M_sources_0 22 rfl rfl
theorem d_M_sources_37 : vm_D q_M_sources.2.1 37 1 38 (.lconst 0) := vm_dD b_M_sources_0 23 rfl rfl
theorem d_M_sources_38 : vm_D q_M_sources.2.1 38 1 39 (.lastore) := vm_dD b_M_sources_0 24 rfl rfl
theorem d_M_sources_39 : vm_D q_M_sources.2.1 39 1 40 (.iconst 0) := vm_dD b_M_sources_0 25 rfl rfl
theorem d_M_sources_40 : vm_D q_M_sources.2.1 40 1 41 (.istore_n 3) := vm_dD b_M_sources_0 26 rfl rfl
theorem d_M_sources_41 : vm_D q_M_sources.2.1 41 1 42 (.iload_n 3) := vm_dD b_M_sources_0 27 rfl rfl
theorem d_M_sources_42 : vm_D q_M_sources.2.1 42 1 43 (.aload_n 0) := vm_dD b_M_sources_0 28 rfl rfl
theorem d_M_sources_43 : vm_D q_M_sources.2.1 43 3 46 (.getfield 77) := vm_dD b_M_sources_0 29 rfl rfl
theorem d_M_sources_46 : vm_D q_M_sources.2.1 46 1 47 (.iconst 0) := vm_dD b_M_sources_0 30 rfl rfl
theorem d_M_sources_47 : vm_D q_M_sources.2.1 47 1 48 (.iaload) := vm_dD b_M_sources_0 31 rfl rfl
theorem d_M_sources_48 : vm_B q_M_sources.2.1 48 51 152 (fun o => .if_icmp .ge o) := ⟨104, vm_db b_M_sources_0 (i := 32) rfl, rfl, by decide⟩
theorem d_M_sources_51 : vm_D q_M_sources.2.1 51 1 52 (.aload_n 0) := vm_dD b_M_sources_0 33 rfl rfl
theorem d_M_sources_52 : vm_D q_M_sources.2.1 52 1 53 (.iload_n 1) := vm_dD b_M_sources_0 34 rfl rfl
theorem d_M_sources_53 : vm_D q_M_sources.2.1 53 1 54 (.iload_n 3) := vm_dD b_M_sources_0 35 rfl rfl
theorem d_M_sources_54 : vm_D q_M_sources.2.1 54 3 57 (.invokevirtual 305) := vm_dD b_M_sources_0 36 rfl rfl
theorem d_M_sources_57 : vm_D q_M_sources.2.1 57 2 59 (.istore 4) := vm_dD b_M_sources_0 37 rfl rfl
theorem d_M_sources_59 : vm_D q_M_sources.2.1 59 2 61 (.iload 4) := vm_dD b_M_sources_0 38 rfl rfl
theorem d_M_sources_61 : vm_D q_M_sources.2.1 61 1 62 (.iload_n 2) := vm_dD b_M_sources_0 39 rfl rfl
theorem d_M_sources_62 : vm_B q_M_sources.2.1 62 65 69 (fun o => .if_icmp .gt o) := ⟨7, vm_db b_M_sources_0 (i := 40) rfl, rfl, by decide⟩
theorem d_M_sources_70 : vm_D q_M_sources.2.1 70 2 72 (.istore 5) := vm_dD b_M_sources_0 44 rfl rfl
theorem d_M_sources_72 : vm_D q_M_sources.2.1 72 1 73 (.iconst 0) := vm_dD b_M_sources_0 45 rfl rfl
theorem d_M_sources_73 : vm_D q_M_sources.2.1 73 2 75 (.istore 6) := vm_dD b_M_sources_0 46 rfl rfl
theorem d_M_sources_75 : vm_D q_M_sources.2.1 75 2 77 (.iload 6) := vm_dD b_M_sources_0 47 rfl rfl
theorem d_M_sources_77 : vm_D q_M_sources.2.1 77 2 79 (.iload 4) := vm_dD b_M_sources_0 48 rfl rfl
theorem d_M_sources_79 : vm_B q_M_sources.2.1 79 82 123 (fun o => .if_icmp .ge o) := ⟨44, vm_db b_M_sources_0 (i := 49) rfl, rfl, by decide⟩
theorem d_M_sources_82 : vm_D q_M_sources.2.1 82 2 84 (.iload 5) := vm_dD b_M_sources_0 50 rfl rfl
theorem d_M_sources_84 : vm_B q_M_sources.2.1 84 87 123 (fun o => .ifCond .eq o) := ⟨39, vm_db b_M_sources_0 (i := 51) rfl, rfl, by decide⟩
theorem d_M_sources_87 : vm_D q_M_sources.2.1 87 1 88 (.aload_n 0) := vm_dD b_M_sources_0 52 rfl rfl
theorem d_M_sources_88 : vm_D q_M_sources.2.1 88 3 91 (.getfield 83) := vm_dD b_M_sources_0 53 rfl rfl
theorem d_M_sources_91 : vm_D q_M_sources.2.1 91 1 92 (.iload_n 2) := vm_dD b_M_sources_0 54 rfl rfl
theorem d_M_sources_92 : vm_D q_M_sources.2.1 92 2 94 (.iload 4) := vm_dD b_M_sources_0 55 rfl rfl
theorem d_M_sources_94 : vm_D q_M_sources.2.1 94 1 95 (.isub) := vm_dD b_M_sources_0 56 rfl rfl
theorem d_M_sources_95 : vm_D q_M_sources.2.1 95 2 97 (.iload 6) := vm_dD b_M_sources_0 57 rfl rfl
theorem d_M_sources_97 : vm_D q_M_sources.2.1 97 1 98 (.iadd) := vm_dD b_M_sources_0 58 rfl rfl
theorem d_M_sources_98 : vm_D q_M_sources.2.1 98 1 99 (.iaload) := vm_dD b_M_sources_0 59 rfl rfl
theorem d_M_sources_99 : vm_D q_M_sources.2.1 99 1 100 (.aload_n 0) := vm_dD b_M_sources_1 0 rfl rfl
theorem d_M_sources_100 : vm_D q_M_sources.2.1 100 1 101 (.iload_n 1) := vm_dD b_M_sources_1 1 rfl rfl
theorem d_M_sources_101 : vm_D q_M_sources.2.1 101 1 102 (.iload_n 3) := vm_dD b_M_sources_1 2 rfl rfl
theorem d_M_sources_102 : vm_D q_M_sources.2.1 102 2 104 (.iload 6) := vm_dD b_M_sources_1 3 rfl rfl
theorem d_M_sources_104 : vm_D q_M_sources.2.1 104 3 107 (.invokevirtual 308) := vm_dD b_M_sources_1 4 rfl rfl
theorem d_M_sources_107 : vm_B q_M_sources.2.1 107 110 114 (fun o => .if_icmp .ne o) := ⟨7, vm_db b_M_sources_1 (i := 5) rfl, rfl, by decide⟩
theorem d_M_sources_115 : vm_D q_M_sources.2.1 115 2 117 (.istore 5) := vm_dD b_M_sources_1 9 rfl rfl
theorem d_M_sources_117 : vm_D q_M_sources.2.1 117 3 120 (.iinc 6 1) := vm_dD b_M_sources_1 10 rfl rfl
theorem d_M_sources_120 : ∃ off : Int, decode q_M_sources.2.1 120 = .ok (.goto off, 3) ∧ ((120 : Nat) : Int) + off = ((75 : Nat) : Int) := ⟨-45, vm_db b_M_sources_1 (i := 11) rfl, by decide⟩
theorem d_M_sources_114 : vm_D q_M_sources.2.1 114 1 115 (.iconst 0) := vm_dD b_M_sources_1 8 rfl rfl
theorem d_M_sources_110 : vm_D q_M_sources.2.1 110 1 111 (.iconst 1) := vm_dD b_M_sources_1 6 rfl rfl
theorem d_M_sources_111 : ∃ off : Int, decode q_M_sources.2.1 111 = .ok (.goto off, 3) ∧ ((111 : Nat) : Int) + off = ((115 : Nat) : Int) := ⟨4, vm_db b_M_sources_1 (i := 7) rfl, by decide⟩
theorem d_M_sources_123 : vm_D q_M_sources.2.1 123 2 125 (.iload 5) := vm_dD b_M_sources_1 12 rfl rfl
theorem d_M_sources_125 : vm_B q_M_sources.2.1 125 128 146 (fun o => .ifCond .eq o) := ⟨21, vm_db b_M_sources_1 (i := 13) rfl, rfl, by decide⟩
theorem d_M_sources_146 : vm_D q_M_sources.2.1 146 3 149 (.iinc 3 1) := vm_dD b_M_sources_1 27 rfl rfl
theorem d_M_sources_149 : ∃ off : Int, decode q_M_sources.2.1 149 = .ok (.goto off, 3) ∧ ((149 : Nat) : Int) + off = ((41 : Nat) : Int) := ⟨-108, vm_db b_M_sources_1 (i := 28) rfl, by decide⟩
theorem d_M_sources_128 : vm_D q_M_sources.2.1 128 1 129 (.aload_n 0) := vm_dD b_M_sources_1 14 rfl rfl
theorem d_M_sources_129 : vm_D q_M_sources.2.1 129 3 132 (.getfield 108) := vm_dD b_M_sources_1 15 rfl rfl
theorem d_M_sources_132 : vm_D q_M_sources.2.1 132 1 133 (.iload_n 2) := vm_dD b_M_sources_1 16 rfl rfl
theorem d_M_sources_133 : vm_D q_M_sources.2.1 133 1 134 (.dup2) := vm_dD b_M_sources_1 17 rfl rfl
theorem d_M_sources_134 : vm_D q_M_sources.2.1 134 1 135 (.laload) := vm_dD b_M_sources_1 18 rfl rfl
theorem d_M_sources_135 : vm_D q_M_sources.2.1 135 1 136 (.aload_n 0) := vm_dD b_M_sources_1 19 rfl rfl
theorem d_M_sources_136 : vm_D q_M_sources.2.1 136 3 139 (.getfield 108) := vm_dD b_M_sources_1 20 rfl rfl
theorem d_M_sources_139 : vm_D q_M_sources.2.1 139 1 140 (.iload_n 2) := vm_dD b_M_sources_1 21 rfl rfl
theorem d_M_sources_140 : vm_D q_M_sources.2.1 140 2 142 (.iload 4) := vm_dD b_M_sources_1 22 rfl rfl
theorem d_M_sources_142 : vm_D q_M_sources.2.1 142 1 143 (.isub) := vm_dD b_M_sources_1 23 rfl rfl
theorem d_M_sources_143 : vm_D q_M_sources.2.1 143 1 144 (.laload) := vm_dD b_M_sources_1 24 rfl rfl
theorem d_M_sources_144 : vm_D q_M_sources.2.1 144 1 145 (.ladd) := vm_dD b_M_sources_1 25 rfl rfl
theorem d_M_sources_145 : vm_D q_M_sources.2.1 145 1 146 (.lastore) := vm_dD b_M_sources_1 26 rfl rfl
theorem d_M_sources_69 : vm_D q_M_sources.2.1 69 1 70 (.iconst 0) := vm_dD b_M_sources_0 43 rfl rfl
theorem d_M_sources_65 : vm_D q_M_sources.2.1 65 1 66 (.iconst 1) := vm_dD b_M_sources_0 41 rfl rfl
theorem d_M_sources_66 : ∃ off : Int, decode q_M_sources.2.1 66 = .ok (.goto off, 3) ∧ ((66 : Nat) : Int) + off = ((70 : Nat) : Int) := ⟨4, vm_db b_M_sources_0 (i := 42) rfl, by decide⟩
theorem d_M_sources_152 : vm_D q_M_sources.2.1 152 3 155 (.iinc 2 1) := vm_dD b_M_sources_1 29 rfl rfl
theorem d_M_sources_155 : ∃ off : Int, decode q_M_sources.2.1 155 = .ok (.goto off, 3) ∧ ((155 : Nat) : Int) + off = ((24 : Nat) : Int) := ⟨-131, vm_db b_M_sources_1 (i := 30) rfl, by decide⟩
theorem d_M_sources_158 : vm_D q_M_sources.2.1 158 1 159 (.aload_n 0) := vm_dD b_M_sources_1 31 rfl rfl
theorem d_M_sources_159 : vm_D q_M_sources.2.1 159 3 162 (.getfield 108) := vm_dD b_M_sources_1 32 rfl rfl
theorem d_M_sources_162 : vm_D q_M_sources.2.1 162 1 163 (.aload_n 0) := vm_dD b_M_sources_1 33 rfl rfl
theorem d_M_sources_163 : vm_D q_M_sources.2.1 163 3 166 (.getfield 184) := vm_dD b_M_sources_1 34 rfl rfl
theorem d_M_sources_166 : vm_D q_M_sources.2.1 166 1 167 (.laload) := vm_dD b_M_sources_1 35 rfl rfl
theorem d_M_sources_167 : vm_D q_M_sources.2.1 167 1 168 (.lreturn) := vm_dD b_M_sources_1 36 rfl rfl
theorem d_M_sources_13 : vm_D q_M_sources.2.1 13 1 14 (.lconst 0) := vm_dD b_M_sources_0 7 rfl rfl
theorem d_M_sources_14 : vm_D q_M_sources.2.1 14 1 15 (.lreturn) := vm_dD b_M_sources_0 8 rfl rfl
def q_M_against : vm_Y := ("RepeatFreeModel", cX11_against, 9, false, [])
def t_M_against_0 : List (Nat × Instr × Nat) := [(0, .aload_n 0, 1), (1, .iload_n 1, 1), (2, .iload_n 2, 1), (3, .invokevirtual 305, 3), (6, .iload_n 3, 1), (7, .isub, 1), (8, .istore 5, 2), (10, .iload 5, 2), (12, .aload_n 0, 1), (13, .iload_n 1, 1), (14, .iload 4, 2), (16, .invokevirtual 305, 3), (19, .invokestatic 302, 3), (22, .istore 6, 2), (24, .iconst 0, 1), (25, .istore 7, 2), (27, .iload 7, 2), (29, .iload 6, 2), (31, .if_icmp .ge 33, 3), (34, .aload_n 0, 1), (35, .iload_n 1, 1), (36, .iload_n 2, 1), (37, .iload_n 3, 1), (38, .iload 7, 2), (40, .iadd, 1), (41, .invokevirtual 308, 3), (44, .aload_n 0, 1), (45, .iload_n 1, 1), (46, .iload 4, 2), (48, .iload 7, 2), (50, .invokevirtual 308, 3), (53, .if_icmp .eq 5, 3), (56, .iconst 0, 1), (57, .ireturn, 1), (58, .iinc 7 1, 3), (61, .goto (-34), 3), (64, .iload 5, 2), (66, .aload_n 0, 1), (67, .iload_n 1, 1), (68, .iload 4, 2), (70, .invokevirtual 305, 3), (73, .if_icmp .ne 10, 3), (76, .aload_n 0, 1), (77, .iconst 1, 1), (78, .putfield 346, 3), (81, .iconst 0, 1), (82, .ireturn, 1), (83, .iload 5, 2), (85, .iload 6, 2), (87, .if_icmp .le 15, 3), (90, .bipush 6, 2), (92, .iload_n 2, 1), (93, .imul, 1), (94, .iload_n 3, 1), (95, .iadd, 1), (96, .iload 6, 2), (98, .iadd, 1), (99, .goto 11, 3), (102, .bipush 6, 2), (104, .iload 4, 2)]
theorem b_M_against_0 : (t_M_against_0.all fun q => decide (decode q_M_against.2.1 q.1 = .ok (q.2.1, q.2.2))) = true := by decide +kernel
def t_M_against_1 : List (Nat × Instr × Nat) := [(106, .imul, 1), (107, .iload 6, 2), (109, .iadd, 1), (110, .istore 7, 2), (112, .aload_n 0, 1), (113, .getfield 111, 3), (116, .iload 7, 2), (118, .baload, 1), (119, .ifCond .ne 7, 3), (122, .iconst 1, 1), (123, .goto 4, 3), (126, .iconst 0, 1), (127, .istore 8, 2), (129, .aload_n 0, 1), (130, .getfield 111, 3), (133, .iload 7, 2), (135, .iconst 1, 1), (136, .bastore, 1), (137, .iload 8, 2), (139, .ireturn, 1)]
theorem b_M_against_1 : (t_M_against_1.all fun q => decide (decode q_M_against.2.1 q.1 = .ok (q.2.1, q.2.2))) = true := by decide +kernel
theorem d_M_against_0 : vm_D q_M_against.2.1 0 1 1 (.aload_n 0) := vm_dD b_M_against_0 0 rfl rfl
theorem d_M_against_1 : vm_D q_M_against.2.1 1 1 2 (.iload_n 1) := vm_dD b_M_against_0 1 rfl rfl
theorem d_M_against_2 : vm_D q_M_against.2.1 2 1 3 (.iload_n 2) := vm_dD b_M_against_0 2 rfl rfl
theorem d_M_against_3 : vm_D q_M_against.2.1 3 3 6 (.invokevirtual 305) := vm_dD b_M_against_0 3 rfl rfl
theorem d_M_against_6 : vm_D q_M_against.2.1 6 1 7 (.iload_n 3) := vm_dD b_M_against_0 4 rfl rfl
theorem d_M_against_7 : vm_D q_M_against.2.1 7 1 8 (.isub) := vm_dD b_M_against_0 5 rfl rfl
theorem d_M_against_8 : vm_D q_M_against.2.1 8 2 10 (.istore 5) := vm_dD b_M_against_0 6 rfl rfl
theorem d_M_against_10 : vm_D q_M_against.2.1 10 2 12 (.iload 5) := vm_dD b_M_against_0 7 rfl rfl
theorem d_M_against_12 : vm_D q_M_against.2.1 12 1 13 (.aload_n 0) := vm_dD b_M_against_0 8 rfl rfl
theorem d_M_against_13 : vm_D q_M_against.2.1 13 1 14 (.iload_n 1) := vm_dD b_M_against_0 9 rfl rfl
theorem d_M_against_14 : vm_D q_M_against.2.1 14 2 16 (.iload 4) := vm_dD b_M_against_0 10 rfl rfl
theorem d_M_against_16 : vm_D q_M_against.2.1 16 3 19 (.invokevirtual 305) := vm_dD b_M_against_0 11 rfl rfl
theorem d_M_against_19 : vm_D q_M_against.2.1 19 3 22 (.invokestatic 302) := vm_dD b_M_against_0 12 rfl rfl
theorem d_M_against_22 : vm_D q_M_against.2.1 22 2 24 (.istore 6) := vm_dD b_M_against_0 13 rfl rfl
theorem d_M_against_24 : vm_D q_M_against.2.1 24 1 25 (.iconst 0) := vm_dD b_M_against_0 14 rfl rfl
theorem d_M_against_25 : vm_D q_M_against.2.1 25 2 27 (.istore 7) := vm_dD b_M_against_0 15 rfl rfl
theorem d_M_against_27 : vm_D q_M_against.2.1 27 2 29 (.iload 7) := vm_dD b_M_against_0 16 rfl rfl
theorem d_M_against_29 : vm_D q_M_against.2.1 29 2 31 (.iload 6) := vm_dD b_M_against_0 17 rfl rfl
theorem d_M_against_31 : vm_B q_M_against.2.1 31 34 64 (fun o => .if_icmp .ge o) := ⟨33, vm_db b_M_against_0 (i := 18) rfl, rfl, by decide⟩
theorem d_M_against_34 : vm_D q_M_against.2.1 34 1 35 (.aload_n 0) := vm_dD b_M_against_0 19 rfl rfl
theorem d_M_against_35 : vm_D q_M_against.2.1 35 1 36 (.iload_n 1) := vm_dD b_M_against_0 20 rfl rfl
theorem d_M_against_36 : vm_D q_M_against.2.1 36 1 37 (.iload_n 2) := vm_dD b_M_against_0 21 rfl rfl
theorem d_M_against_37 : vm_D q_M_against.2.1 37 1 38 (.iload_n 3) := vm_dD b_M_against_0 22 rfl rfl
theorem d_M_against_38 : vm_D q_M_against.2.1 38 2 40 (.iload 7) := vm_dD b_M_against_0 23 rfl rfl
theorem d_M_against_40 : vm_D q_M_against.2.1 40 1 41 (.iadd) := vm_dD b_M_against_0 24 rfl rfl
theorem d_M_against_41 : vm_D q_M_against.2.1 41 3 44 (.invokevirtual 308) := vm_dD b_M_against_0 25 rfl rfl
theorem d_M_against_44 : vm_D q_M_against.2.1 44 1 45 (.aload_n 0) := vm_dD b_M_against_0 26 rfl rfl
theorem d_M_against_45 : vm_D q_M_against.2.1 45 1 46 (.iload_n 1) := vm_dD b_M_against_0 27 rfl rfl
theorem d_M_against_46 : vm_D q_M_against.2.1 46 2 48 (.iload 4) := vm_dD b_M_against_0 28 rfl rfl
theorem d_M_against_48 : vm_D q_M_against.2.1 48 2 50 (.iload 7) := vm_dD b_M_against_0 29 rfl rfl
theorem d_M_against_50 : vm_D q_M_against.2.1 50 3 53 (.invokevirtual 308) := vm_dD b_M_against_0 30 rfl rfl
theorem d_M_against_53 : vm_B q_M_against.2.1 53 56 58 (fun o => .if_icmp .eq o) := ⟨5, vm_db b_M_against_0 (i := 31) rfl, rfl, by decide⟩
theorem d_M_against_58 : vm_D q_M_against.2.1 58 3 61 (.iinc 7 1) := vm_dD b_M_against_0 34 rfl rfl
theorem d_M_against_61 : ∃ off : Int, decode q_M_against.2.1 61 = .ok (.goto off, 3) ∧ ((61 : Nat) : Int) + off = ((27 : Nat) : Int) := ⟨-34, vm_db b_M_against_0 (i := 35) rfl, by decide⟩
theorem d_M_against_56 : vm_D q_M_against.2.1 56 1 57 (.iconst 0) := vm_dD b_M_against_0 32 rfl rfl
theorem d_M_against_57 : vm_D q_M_against.2.1 57 1 58 (.ireturn) := vm_dD b_M_against_0 33 rfl rfl
theorem d_M_against_64 : vm_D q_M_against.2.1 64 2 66 (.iload 5) := vm_dD b_M_against_0 36 rfl rfl
theorem d_M_against_66 : vm_D q_M_against.2.1 66 1 67 (.aload_n 0) := vm_dD b_M_against_0 37 rfl rfl
theorem d_M_against_67 : vm_D q_M_against.2.1 67 1 68 (.iload_n 1) := vm_dD b_M_against_0 38 rfl rfl
theorem d_M_against_68 : vm_D q_M_against.2.1 68 2 70 (.iload 4) := vm_dD b_M_against_0 39 rfl rfl
theorem d_M_against_70 : vm_D q_M_against.2.1 70 3 73 (.invokevirtual 305) := vm_dD b_M_against_0 40 rfl rfl
theorem d_M_against_73 : vm_B q_M_against.2.1 73 76 83 (fun o => .if_icmp .ne o) := ⟨10, vm_db b_M_against_0 (i := 41) rfl, rfl, by decide⟩
theorem d_M_against_83 : vm_D q_M_against.2.1 83 2 85 (.iload 5) := vm_dD b_M_against_0 47 rfl rfl
theorem d_M_against_85 : vm_D q_M_against.2.1 85 2 87 (.iload 6) := vm_dD b_M_against_0 48 rfl rfl
theorem d_M_against_87 : vm_B q_M_against.2.1 87 90 102 (fun o => .if_icmp .le o) := ⟨15, vm_db b_M_against_0 (i := 49) rfl, rfl, by decide⟩
theorem d_M_against_110 : vm_D q_M_against.2.1 110 2 112 (.istore 7) := vm_dD b_M_against_1 3 rfl rfl
theorem d_M_against_112 : vm_D q_M_against.2.1 112 1 113 (.aload_n 0) := vm_dD b_M_against_1 4 rfl rfl
theorem d_M_against_113 : vm_D q_M_against.2.1 113 3 116 (.getfield 111) := vm_dD b_M_against_1 5 rfl rfl
theorem d_M_against_116 : vm_D q_M_against.2.1 116 2 118 (.iload 7) := vm_dD b_M_against_1 6 rfl rfl
theorem d_M_against_118 : vm_D q_M_against.2.1 118 1 119 (.baload) := vm_dD b_M_against_1 7 rfl rfl
theorem d_M_against_119 : vm_B q_M_against.2.1 119 122 126 (fun o => .ifCond .ne o) := ⟨7, vm_db b_M_against_1 (i := 8) rfl, rfl, by decide⟩
theorem d_M_against_127 : vm_D q_M_against.2.1 127 2 129 (.istore 8) := vm_dD b_M_against_1 12 rfl rfl
theorem d_M_against_129 : vm_D q_M_against.2.1 129 1 130 (.aload_n 0) := vm_dD b_M_against_1 13 rfl rfl
theorem d_M_against_130 : vm_D q_M_against.2.1 130 3 133 (.getfield 111) := vm_dD b_M_against_1 14 rfl rfl
theorem d_M_against_133 : vm_D q_M_against.2.1 133 2 135 (.iload 7) := vm_dD b_M_against_1 15 rfl rfl
theorem d_M_against_135 : vm_D q_M_against.2.1 135 1 136 (.iconst 1) := vm_dD b_M_against_1 16 rfl rfl
theorem d_M_against_136 : vm_D q_M_against.2.1 136 1 137 (.bastore) := vm_dD b_M_against_1 17 rfl rfl
theorem d_M_against_137 : vm_D q_M_against.2.1 137 2 139 (.iload 8) := vm_dD b_M_against_1 18 rfl rfl
theorem d_M_against_139 : vm_D q_M_against.2.1 139 1 140 (.ireturn) := vm_dD b_M_against_1 19 rfl rfl
theorem d_M_against_126 : vm_D q_M_against.2.1 126 1 127 (.iconst 0) := vm_dD b_M_against_1 11 rfl rfl
theorem d_M_against_122 : vm_D q_M_against.2.1 122 1 123 (.iconst 1) := vm_dD b_M_against_1 9 rfl rfl
theorem d_M_against_123 : ∃ off : Int, decode q_M_against.2.1 123 = .ok (.goto off, 3) ∧ ((123 : Nat) : Int) + off = ((127 : Nat) : Int) := ⟨4, vm_db b_M_against_1 (i := 10) rfl, by decide⟩
theorem d_M_against_102 : vm_D q_M_against.2.1 102 2 104 (.bipush 6) := vm_dD b_M_against_0 58 rfl rfl
theorem d_M_against_104 : vm_D q_M_against.2.1 104 2 106 (.iload 4) := vm_dD b_M_against_0 59 rfl rfl
theorem d_M_against_106 : vm_D q_M_against.2.1 106 1 107 (.imul) := vm_dD b_M_against_1 0 rfl rfl
theorem d_M_against_107 : vm_D q_M_against.2.1 107 2 109 (.iload 6) := vm_dD b_M_against_1 1 rfl rfl
theorem d_M_against_109 : vm_D q_M_against.2.1 109 1 110 (.iadd) := vm_dD b_M_against_1 2 rfl rfl
theorem d_M_against_90 : vm_D q_M_against.2.1 90 2 92 (.bipush 6) := vm_dD b_M_against_0 50 rfl rfl
theorem d_M_against_92 : vm_D q_M_against.2.1 92 1 93 (.iload_n 2) := vm_dD b_M_against_0 51 rfl rfl
theorem d_M_against_93 : vm_D q_M_against.2.1 93 1 94 (.imul) := vm_dD b_M_against_0 52 rfl rfl
theorem d_M_against_94 : vm_D q_M_against.2.1 94 1 95 (.iload_n 3) := vm_dD b_M_against_0 53 rfl rfl
theorem d_M_against_95 : vm_D q_M_against.2.1 95 1 96 (.iadd) := vm_dD b_M_against_0 54 rfl rfl
theorem d_M_against_96 : vm_D q_M_against.2.1 96 2 98 (.iload 6) := vm_dD b_M_against_0 55 rfl rfl
theorem d_M_against_98 : vm_D q_M_against.2.1 98 1 99 (.iadd) := vm_dD b_M_against_0 56 rfl rfl
theorem d_M_against_99 : ∃ off : Int, decode q_M_against.2.1 99 = .ok (.goto off, 3) ∧ ((99 : Nat) : Int) + off = ((110 : Nat) : Int) := ⟨11, vm_db b_M_against_0 (i := 57) rfl, by decide⟩
theorem d_M_against_76 : vm_D q_M_against.2.1 76 1 77 (.aload_n 0) := vm_dD b_M_against_0 42 rfl rfl
theorem d_M_against_77 : vm_D q_M_against.2.1 77 1 78 (.iconst 1) := vm_dD b_M_against_0 43 rfl rfl
theorem d_M_against_78 : vm_D q_M_against.2.1 78 3 81 (.putfield 346) := vm_dD b_M_against_0 44 rfl rfl
theorem d_M_against_81 : vm_D q_M_against.2.1 81 1 82 (.iconst 0) := vm_dD b_M_against_0 45 rfl rfl
theorem d_M_against_82 : vm_D q_M_against.2.1 82 1 83 (.ireturn) := vm_dD b_M_against_0 46 rfl rfl
def q_M_code : vm_Y := ("RepeatFreeModel", cX11_code, 6, false, [])
def t_M_code_0 : List (Nat × Instr × Nat) := [(0, .aload_n 0, 1), (1, .iconst 0, 1), (2, .putfield 3, 3), (5, .aload_n 0, 1), (6, .iload_n 1, 1), (7, .invokevirtual 319, 3), (10, .ifCond .eq 5, 3), (13, .iconst 0, 1), (14, .ireturn, 1), (15, .aload_n 0, 1), (16, .iconst 0, 1), (17, .putfield 346, 3), (20, .iconst 0, 1), (21, .istore_n 2, 1), (22, .iload_n 2, 1), (23, .aload_n 0, 1), (24, .getfield 111, 3), (27, .arraylength, 1), (28, .if_icmp .ge 16, 3), (31, .aload_n 0, 1), (32, .getfield 111, 3), (35, .iload_n 2, 1), (36, .iconst 0, 1), (37, .bastore, 1), (38, .iinc 2 1, 3), (41, .goto (-19), 3), (44, .iconst 1, 1), (45, .istore_n 2, 1), (46, .iconst 0, 1), (47, .istore_n 3, 1), (48, .iload_n 3, 1), (49, .aload_n 0, 1), (50, .getfield 77, 3), (53, .iconst 0, 1), (54, .iaload, 1), (55, .if_icmp .ge 47, 3), (58, .iconst 0, 1), (59, .istore 4, 2), (61, .iload 4, 2), (63, .aload_n 0, 1), (64, .getfield 77, 3), (67, .iconst 0, 1), (68, .iaload, 1), (69, .if_icmp .ge 27, 3), (72, .iload_n 3, 1), (73, .iload 4, 2), (75, .if_icmp .eq 15, 3), (78, .iload_n 2, 1), (79, .aload_n 0, 1), (80, .iload_n 1, 1), (81, .iload_n 3, 1), (82, .iconst 0, 1), (83, .iload 4, 2), (85, .invokevirtual 349, 3), (88, .ior, 1), (89, .istore_n 2, 1), (90, .iinc 4 1, 3), (93, .goto (-32), 3), (96, .iinc 3 1, 3), (99, .goto (-51), 3)]
theorem b_M_code_0 : (t_M_code_0.all fun q => decide (decode q_M_code.2.1 q.1 = .ok (q.2.1, q.2.2))) = true := by decide +kernel
def t_M_code_1 : List (Nat × Instr × Nat) := [(102, .iload_n 2, 1), (103, .ifCond .eq 104, 3), (106, .aload_n 0, 1), (107, .getfield 346, 3), (110, .ifCond .ne 97, 3), (113, .iconst 0, 1), (114, .istore_n 2, 1), (115, .iconst 0, 1), (116, .istore_n 3, 1), (117, .iload_n 3, 1), (118, .aload_n 0, 1), (119, .getfield 77, 3), (122, .iconst 0, 1), (123, .iaload, 1), (124, .if_icmp .ge 80, 3), (127, .iconst 1, 1), (128, .istore 4, 2), (130, .iload 4, 2), (132, .aload_n 0, 1), (133, .iload_n 1, 1), (134, .iload_n 3, 1), (135, .invokevirtual 305, 3), (138, .if_icmp .ge 60, 3), (141, .aload_n 0, 1), (142, .getfield 111, 3), (145, .bipush 6, 2), (147, .iload_n 3, 1), (148, .imul, 1), (149, .iload 4, 2), (151, .iadd, 1), (152, .baload, 1), (153, .ifCond .ne 6, 3), (156, .goto 36, 3), (159, .iconst 0, 1), (160, .istore 5, 2), (162, .iload 5, 2), (164, .aload_n 0, 1), (165, .getfield 77, 3), (168, .iconst 0, 1), (169, .iaload, 1), (170, .if_icmp .ge 22, 3), (173, .iload_n 2, 1), (174, .aload_n 0, 1), (175, .iload_n 1, 1), (176, .iload_n 3, 1), (177, .iload 4, 2), (179, .iload 5, 2), (181, .invokevirtual 349, 3), (184, .ior, 1), (185, .istore_n 2, 1), (186, .iinc 5 1, 3), (189, .goto (-27), 3), (192, .iinc 4 1, 3), (195, .goto (-65), 3), (198, .iinc 3 1, 3), (201, .goto (-84), 3), (204, .goto (-102), 3), (207, .aload_n 0, 1), (208, .getfield 346, 3), (211, .ifCond .ne 7, 3)]
theorem b_M_code_1 : (t_M_code_1.all fun q => decide (decode q_M_code.2.1 q.1 = .ok (q.2.1, q.2.2))) = true := by decide +kernel
def t_M_code_2 : List (Nat × Instr × Nat) := [(214, .iconst 1, 1), (215, .goto 4, 3), (218, .iconst 0, 1), (219, .ireturn, 1)]
theorem b_M_code_2 : (t_M_code_2.all fun q => decide (decode q_M_code.2.1 q.1 = .ok (q.2.1, q.2.2))) = true := by decide +kernel
theorem d_M_code_0 : vm_D q_M_code.2.1 0 1 1 (.aload_n 0) := vm_dD b_M_code_0 0 rfl rfl
theorem d_M_code_1 : vm_D q_M_code.2.1 1 1 2 (.iconst 0) := vm_dD b_M_code_0 1 rfl rfl
theorem d_M_code_2 : vm_D q_M_code.2.1 2 3 5 (.putfield 3) := vm_dD b_M_code_0 2 rfl rfl
theorem d_M_code_5 : vm_D q_M_code.2.1 5 1 6 (.aload_n 0) := vm_dD b_M_code_0 3 rfl rfl
theorem d_M_code_6 : vm_D q_M_code.2.1 6 1 7 (.iload_n 1) := vm_dD b_M_code_0 4 rfl rfl
theorem d_M_code_7 : vm_D q_M_code.2.1 7 3 10 (.invokevirtual 319) := vm_dD b_M_code_0 5 rfl rfl
theorem d_M_code_10 : vm_B q_M_code.2.1 10 13 15 (fun o => .ifCond .eq o) := ⟨5, vm_db b_M_code_0 (i := 6) rfl, rfl, by decide⟩
theorem d_M_code_15 : vm_D q_M_code.2.1 15 1 16 (.aload_n 0) := vm_dD b_M_code_0 9 rfl rfl
theorem d_M_code_16 : vm_D q_M_code.2.1 16 1 17 (.iconst 0) := vm_dD b_M_code_0 10 rfl rfl
theorem d_M_code_17 : vm_D q_M_code.2.1 17 3 20 (.putfield 346) := vm_dD b_M_code_0 11 rfl rfl
theorem d_M_code_20 : vm_D q_M_code.2.1 20 1 21 (.iconst 0) := vm_dD b_M_code_0 12 rfl rfl
theorem d_M_code_21 : vm_D q_M_code.2.1 21 1 22 (.istore_n 2) := vm_dD b_M_code_0 13 rfl rfl
theorem d_M_code_22 : vm_D q_M_code.2.1 22 1 23 (.iload_n 2) := vm_dD b_M_code_0 14 rfl rfl
theorem d_M_code_23 : vm_D q_M_code.2.1 23 1 24 (.aload_n 0) := vm_dD b_M_code_0 15 rfl rfl
theorem d_M_code_24 : vm_D q_M_code.2.1 24 3 27 (.getfield 111) := vm_dD b_M_code_0 16 rfl rfl
theorem d_M_code_27 : vm_D q_M_code.2.1 27 1 28 (.arraylength) := vm_dD b_M_code_0 17 rfl rfl
theorem d_M_code_28 : vm_B q_M_code.2.1 28 31 44 (fun o => .if_icmp .ge o) := ⟨16, vm_db b_M_code_0 (i := 18) rfl, rfl, by decide⟩
theorem d_M_code_31 : vm_D q_M_code.2.1 31 1 32 (.aload_n 0) := vm_dD b_M_code_0 19 rfl rfl
theorem d_M_code_32 : vm_D q_M_code.2.1 32 3 35 (.getfield 111) := vm_dD b_M_code_0 20 rfl rfl
theorem d_M_code_35 : vm_D q_M_code.2.1 35 1 36 (.iload_n 2) := vm_dD b_M_code_0 21 rfl rfl
theorem d_M_code_36 : vm_D q_M_code.2.1 36 1 37 (.iconst 0) := vm_dD b_M_code_0 22 rfl rfl
theorem d_M_code_37 : vm_D q_M_code.2.1 37 1 38 (.bastore) := vm_dD b_M_code_0 23 rfl rfl
theorem d_M_code_38 : vm_D q_M_code.2.1 38 3 41 (.iinc 2 1) := vm_dD b_M_code_0 24 rfl rfl
theorem d_M_code_41 : ∃ off : Int, decode q_M_code.2.1 41 = .ok (.goto off, 3) ∧ ((41 : Nat) : Int) + off = ((22 : Nat) : Int) := ⟨-19, vm_db b_M_code_0 (i := 25) rfl, by decide⟩
theorem d_M_code_44 : vm_D q_M_code.2.1 44 1 45 (.iconst 1) := vm_dD b_M_code_0 26 rfl rfl
theorem d_M_code_45 : vm_D q_M_code.2.1 45 1 46 (.istore_n 2) := vm_dD b_M_code_0 27 rfl rfl
theorem d_M_code_46 : vm_D q_M_code.2.1 46 1 47 (.iconst 0) := vm_dD b_M_code_0 28 rfl rfl
theorem d_M_code_47 : vm_D q_M_code.2.1 47 1 48 (.istore_n 3) := vm_dD b_M_code_0 29 rfl rfl
theorem d_M_code_48 : vm_D q_M_code.2.1 48 1 49 (.iload_n 3) := vm_dD b_M_code_0 30 rfl rfl
theorem d_M_code_49 : vm_D q_M_code.2.1 49 1 50 (.aload_n 0) := vm_dD b_M_code_0 31 rfl rfl
theorem d_M_code_50 : vm_D q_M_code.2.1 50 3 53 (.getfield 77) := vm_dD b_M_code_0 32 rfl rfl
theorem d_M_code_53 : vm_D q_M_code.2.1 53 1 54 (.iconst 0) := vm_dD b_M_code_0 33 rfl rfl
theorem d_M_code_54 : vm_D q_M_code.2.1 54 1 55 (.iaload) := vm_dD b_M_code_0 34 rfl rfl
theorem d_M_code_55 : vm_B q_M_code.2.1 55 58 102 (fun o => .if_icmp .ge o) := ⟨47, vm_db b_M_code_0 (i := 35) rfl, rfl, by decide⟩
theorem d_M_code_58 : vm_D q_M_code.2.1 58 1 59 (.iconst 0) := vm_dD b_M_code_0 36 rfl rfl
theorem d_M_code_59 : vm_D q_M_code.2.1 59 2 61 (.istore 4) := vm_dD b_M_code_0 37 rfl rfl
theorem d_M_code_61 : vm_D q_M_code.2.1 61 2 63 (.iload 4) := vm_dD b_M_code_0 38 rfl rfl
theorem d_M_code_63 : vm_D q_M_code.2.1 63 1 64 (.aload_n 0) := vm_dD b_M_code_0 39 rfl rfl
theorem d_M_code_64 : vm_D q_M_code.2.1 64 3 67 (.getfield 77) := vm_dD b_M_code_0 40 rfl rfl
theorem d_M_code_67 : vm_D q_M_code.2.1 67 1 68 (.iconst 0) := vm_dD b_M_code_0 41 rfl rfl
theorem d_M_code_68 : vm_D q_M_code.2.1 68 1 69 (.iaload) := vm_dD b_M_code_0 42 rfl rfl
theorem d_M_code_69 : vm_B q_M_code.2.1 69 72 96 (fun o => .if_icmp .ge o) := ⟨27, vm_db b_M_code_0 (i := 43) rfl, rfl, by decide⟩
theorem d_M_code_72 : vm_D q_M_code.2.1 72 1 73 (.iload_n 3) := vm_dD b_M_code_0 44 rfl rfl
theorem d_M_code_73 : vm_D q_M_code.2.1 73 2 75 (.iload 4) := vm_dD b_M_code_0 45 rfl rfl
theorem d_M_code_75 : vm_B q_M_code.2.1 75 78 90 (fun o => .if_icmp .eq o) := ⟨15, vm_db b_M_code_0 (i := 46) rfl, rfl, by decide⟩
theorem d_M_code_90 : vm_D q_M_code.2.1 90 3 93 (.iinc 4 1) := vm_dD b_M_code_0 56 rfl rfl
theorem d_M_code_93 : ∃ off : Int, decode q_M_code.2.1 93 = .ok (.goto off, 3) ∧ ((93 : Nat) : Int) + off = ((61 : Nat) : Int) := ⟨-32, vm_db b_M_code_0 (i := 57) rfl, by decide⟩
theorem d_M_code_78 : vm_D q_M_code.2.1 78 1 79 (.iload_n 2) := vm_dD b_M_code_0 47 rfl rfl
theorem d_M_code_79 : vm_D q_M_code.2.1 79 1 80 (.aload_n 0) := vm_dD b_M_code_0 48 rfl rfl
theorem d_M_code_80 : vm_D q_M_code.2.1 80 1 81 (.iload_n 1) := vm_dD b_M_code_0 49 rfl rfl
theorem d_M_code_81 : vm_D q_M_code.2.1 81 1 82 (.iload_n 3) := vm_dD b_M_code_0 50 rfl rfl
theorem d_M_code_82 : vm_D q_M_code.2.1 82 1 83 (.iconst 0) := vm_dD b_M_code_0 51 rfl rfl
theorem d_M_code_83 : vm_D q_M_code.2.1 83 2 85 (.iload 4) := vm_dD b_M_code_0 52 rfl rfl
theorem d_M_code_85 : vm_D q_M_code.2.1 85 3 88 (.invokevirtual 349) := vm_dD b_M_code_0 53 rfl rfl
theorem d_M_code_88 : vm_D q_M_code.2.1 88 1 89 (.ior) := vm_dD b_M_code_0 54 rfl rfl
theorem d_M_code_89 : vm_D q_M_code.2.1 89 1 90 (.istore_n 2) := vm_dD b_M_code_0 55 rfl rfl
theorem d_M_code_96 : vm_D q_M_code.2.1 96 3 99 (.iinc 3 1) := vm_dD b_M_code_0 58 rfl rfl
theorem d_M_code_99 : ∃ off : Int, decode q_M_code.2.1 99 = .ok (.goto off, 3) ∧ ((99 : Nat) : Int) + off = ((48 : Nat) : Int) := ⟨-51, vm_db b_M_code_0 (i := 59) rfl, by decide⟩
theorem d_M_code_102 : vm_D q_M_code.2.1 102 1 103 (.iload_n 2) := vm_dD b_M_code_1 0 rfl rfl
theorem d_M_code_103 : vm_B q_M_code.2.1 103 106 207 (fun o => .ifCond .eq o) := ⟨104, vm_db b_M_code_1 (i := 1) rfl, rfl, by decide⟩
theorem d_M_code_106 : vm_D q_M_code.2.1 106 1 107 (.aload_n 0) := vm_dD b_M_code_1 2 rfl rfl
theorem d_M_code_107 : vm_D q_M_code.2.1 107 3 110 (.getfield 346) := vm_dD b_M_code_1 3 rfl rfl
theorem d_M_code_110 : vm_B q_M_code.2.1 110 113 207 (fun o => .ifCond .ne o) := ⟨97, vm_db b_M_code_1 (i := 4) rfl, rfl, by decide⟩
theorem d_M_code_113 : vm_D q_M_code.2.1 113 1 114 (.iconst 0) := vm_dD b_M_code_1 5 rfl rfl
theorem d_M_code_114 : vm_D q_M_code.2.1 114 1 115 (.istore_n 2) := vm_dD b_M_code_1 6 rfl rfl
theorem d_M_code_115 : vm_D q_M_code.2.1 115 1 116 (.iconst 0) := vm_dD b_M_code_1 7 rfl rfl
theorem d_M_code_116 : vm_D q_M_code.2.1 116 1 117 (.istore_n 3) := vm_dD b_M_code_1 8 rfl rfl
theorem d_M_code_117 : vm_D q_M_code.2.1 117 1 118 (.iload_n 3) := vm_dD b_M_code_1 9 rfl rfl
theorem d_M_code_118 : vm_D q_M_code.2.1 118 1 119 (.aload_n 0) := vm_dD b_M_code_1 10 rfl rfl
theorem d_M_code_119 : vm_D q_M_code.2.1 119 3 122 (.getfield 77) := vm_dD b_M_code_1 11 rfl rfl
theorem d_M_code_122 : vm_D q_M_code.2.1 122 1 123 (.iconst 0) := vm_dD b_M_code_1 12 rfl rfl
theorem d_M_code_123 : vm_D q_M_code.2.1 123 1 124 (.iaload) := vm_dD b_M_code_1 13 rfl rfl
theorem d_M_code_124 : vm_B q_M_code.2.1 124 127 204 (fun o => .if_icmp .ge o) := ⟨80, vm_db b_M_code_1 (i := 14) rfl, rfl, by decide⟩
theorem d_M_code_127 : vm_D q_M_code.2.1 127 1 128 (.iconst 1) := vm_dD b_M_code_1 15 rfl rfl
theorem d_M_code_128 : vm_D q_M_code.2.1 128 2 130 (.istore 4) := vm_dD b_M_code_1 16 rfl rfl
theorem d_M_code_130 : vm_D q_M_code.2.1 130 2 132 (.iload 4) := vm_dD b_M_code_1 17 rfl rfl
theorem d_M_code_132 : vm_D q_M_code.2.1 132 1 133 (.aload_n 0) := vm_dD b_M_code_1 18 rfl rfl
theorem d_M_code_133 : vm_D q_M_code.2.1 133 1 134 (.iload_n 1) := vm_dD b_M_code_1 19 rfl rfl
theorem d_M_code_134 : vm_D q_M_code.2.1 134 1 135 (.iload_n 3) := vm_dD b_M_code_1 20 rfl rfl
theorem d_M_code_135 : vm_D q_M_code.2.1 135 3 138 (.invokevirtual 305) := vm_dD b_M_code_1 21 rfl rfl
theorem d_M_code_138 : vm_B q_M_code.2.1 138 141 198 (fun o => .if_icmp .ge o) := ⟨60, vm_db b_M_code_1 (i := 22) rfl, rfl, by decide⟩
theorem d_M_code_141 : vm_D q_M_code.2.1 141 1 142 (.aload_n 0) := vm_dD b_M_code_1 23 rfl rfl
theorem d_M_code_142 : vm_D q_M_code.2.1 142 3 145 (.getfield 111) := vm_dD b_M_code_1 24 rfl rfl
theorem d_M_code_145 : vm_D q_M_code.2.1 145 2 147 (.bipush 6) := vm_dD b_M_code_1 25 rfl rfl
theorem d_M_code_147 : vm_D q_M_code.2.1 147 1 148 (.iload_n 3) := vm_dD b_M_code_1 26 rfl rfl
theorem d_M_code_148 : vm_D q_M_code.2.1 148 1 149 (.imul) := vm_dD b_M_code_1 27 rfl rfl
theorem d_M_code_149 : vm_D q_M_code.2.1 149 2 151 (.iload 4) := vm_dD b_M_code_1 28 rfl rfl
theorem d_M_code_151 : vm_D q_M_code.2.1 151 1 152 (.iadd) := vm_dD b_M_code_1 29 rfl rfl
theorem d_M_code_152 : vm_D q_M_code.2.1 152 1 153 (.baload) := vm_dD b_M_code_1 30 rfl rfl
theorem d_M_code_153 : vm_B q_M_code.2.1 153 156 159 (fun o => .ifCond .ne o) := ⟨6, vm_db b_M_code_1 (i := 31) rfl, rfl, by decide⟩
theorem d_M_code_192 : vm_D q_M_code.2.1 192 3 195 (.iinc 4 1) := vm_dD b_M_code_1 52 rfl rfl
theorem d_M_code_195 : ∃ off : Int, decode q_M_code.2.1 195 = .ok (.goto off, 3) ∧ ((195 : Nat) : Int) + off = ((130 : Nat) : Int) := ⟨-65, vm_db b_M_code_1 (i := 53) rfl, by decide⟩
theorem d_M_code_159 : vm_D q_M_code.2.1 159 1 160 (.iconst 0) := vm_dD b_M_code_1 33 rfl rfl
theorem d_M_code_160 : vm_D q_M_code.2.1 160 2 162 (.istore 5) := vm_dD b_M_code_1 34 rfl rfl
theorem d_M_code_162 : vm_D q_M_code.2.1 162 2 164 (.iload 5) := vm_dD b_M_code_1 35 rfl rfl
theorem d_M_code_164 : vm_D q_M_code.2.1 164 1 165 (.aload_n 0) := vm_dD b_M_code_1 36 rfl rfl
theorem d_M_code_165 : vm_D q_M_code.2.1 165 3 168 (.getfield 77) := vm_dD b_M_code_1 37 rfl rfl
theorem d_M_code_168 : vm_D q_M_code.2.1 168 1 169 (.iconst 0) := vm_dD b_M_code_1 38 rfl rfl
theorem d_M_code_169 : vm_D q_M_code.2.1 169 1 170 (.iaload) := vm_dD b_M_code_1 39 rfl rfl
theorem d_M_code_170 : vm_B q_M_code.2.1 170 173 192 (fun o => .if_icmp .ge o) := ⟨22, vm_db b_M_code_1 (i := 40) rfl, rfl, by decide⟩
theorem d_M_code_173 : vm_D q_M_code.2.1 173 1 174 (.iload_n 2) := vm_dD b_M_code_1 41 rfl rfl
theorem d_M_code_174 : vm_D q_M_code.2.1 174 1 175 (.aload_n 0) := vm_dD b_M_code_1 42 rfl rfl
theorem d_M_code_175 : vm_D q_M_code.2.1 175 1 176 (.iload_n 1) := vm_dD b_M_code_1 43 rfl rfl
theorem d_M_code_176 : vm_D q_M_code.2.1 176 1 177 (.iload_n 3) := vm_dD b_M_code_1 44 rfl rfl
theorem d_M_code_177 : vm_D q_M_code.2.1 177 2 179 (.iload 4) := vm_dD b_M_code_1 45 rfl rfl
theorem d_M_code_179 : vm_D q_M_code.2.1 179 2 181 (.iload 5) := vm_dD b_M_code_1 46 rfl rfl
theorem d_M_code_181 : vm_D q_M_code.2.1 181 3 184 (.invokevirtual 349) := vm_dD b_M_code_1 47 rfl rfl
theorem d_M_code_184 : vm_D q_M_code.2.1 184 1 185 (.ior) := vm_dD b_M_code_1 48 rfl rfl
theorem d_M_code_185 : vm_D q_M_code.2.1 185 1 186 (.istore_n 2) := vm_dD b_M_code_1 49 rfl rfl
theorem d_M_code_186 : vm_D q_M_code.2.1 186 3 189 (.iinc 5 1) := vm_dD b_M_code_1 50 rfl rfl
theorem d_M_code_189 : ∃ off : Int, decode q_M_code.2.1 189 = .ok (.goto off, 3) ∧ ((189 : Nat) : Int) + off = ((162 : Nat) : Int) := ⟨-27, vm_db b_M_code_1 (i := 51) rfl, by decide⟩
theorem d_M_code_156 : ∃ off : Int, decode q_M_code.2.1 156 = .ok (.goto off, 3) ∧ ((156 : Nat) : Int) + off = ((192 : Nat) : Int) := ⟨36, vm_db b_M_code_1 (i := 32) rfl, by decide⟩
theorem d_M_code_198 : vm_D q_M_code.2.1 198 3 201 (.iinc 3 1) := vm_dD b_M_code_1 54 rfl rfl
theorem d_M_code_201 : ∃ off : Int, decode q_M_code.2.1 201 = .ok (.goto off, 3) ∧ ((201 : Nat) : Int) + off = ((117 : Nat) : Int) := ⟨-84, vm_db b_M_code_1 (i := 55) rfl, by decide⟩
theorem d_M_code_204 : ∃ off : Int, decode q_M_code.2.1 204 = .ok (.goto off, 3) ∧ ((204 : Nat) : Int) + off = ((102 : Nat) : Int) := ⟨-102, vm_db b_M_code_1 (i := 56) rfl, by decide⟩
theorem d_M_code_207 : vm_D q_M_code.2.1 207 1 208 (.aload_n 0) := vm_dD b_M_code_1 57 rfl rfl
theorem d_M_code_208 : vm_D q_M_code.2.1 208 3 211 (.getfield 346) := vm_dD b_M_code_1 58 rfl rfl
theorem d_M_code_211 : vm_B q_M_code.2.1 211 214 218 (fun o => .ifCond .ne o) := ⟨7, vm_db b_M_code_1 (i := 59) rfl, rfl, by decide⟩
theorem d_M_code_218 : vm_D q_M_code.2.1 218 1 219 (.iconst 0) := vm_dD b_M_code_2 2 rfl rfl
theorem d_M_code_219 : vm_D q_M_code.2.1 219 1 220 (.ireturn) := vm_dD b_M_code_2 3 rfl rfl
theorem d_M_code_214 : vm_D q_M_code.2.1 214 1 215 (.iconst 1) := vm_dD b_M_code_2 0 rfl rfl
theorem d_M_code_215 : ∃ off : Int, decode q_M_code.2.1 215 = .ok (.goto off, 3) ∧ ((215 : Nat) : Int) + off = ((219 : Nat) : Int) := ⟨4, vm_db b_M_code_2 (i := 1) rfl, by decide⟩
theorem d_M_code_13 : vm_D q_M_code.2.1 13 1 14 (.iconst 0) := vm_dD b_M_code_0 7 rfl rfl
theorem d_M_code_14 : vm_D q_M_code.2.1 14 1 15 (.ireturn) := vm_dD b_M_code_0 8 rfl rfl
def q_M_noPattern : vm_Y := ("RepeatFreeModel", cX11_noPattern, 2, false, [])
def t_M_noPattern_0 : List (Nat × Instr × Nat) := [(0, .aload_n 0, 1), (1, .iload_n 1, 1), (2, .iconst 0, 1), (3, .aload_n 0, 1), (4, .getfield 77, 3), (7, .iconst 5, 1), (8, .iaload, 1), (9, .iconst 1, 1), (10, .isub, 1), (11, .invokestatic 65, 3), (14, .ifCond .ne 7, 3), (17, .iconst 1, 1), (18, .goto 4, 3), (21, .iconst 0, 1), (22, .iconst 1, 1), (23, .invokevirtual 180, 3), (26, .ireturn, 1)]
theorem b_M_noPattern_0 : (t_M_noPattern_0.all fun q => decide (decode q_M_noPattern.2.1 q.1 = .ok (q.2.1, q.2.2))) = true := by decide +kernel
theorem d_M_noPattern_0 : vm_D q_M_noPattern.2.1 0 1 1 (.aload_n 0) := vm_dD b_M_noPattern_0 0 rfl rfl
theorem d_M_noPattern_1 : vm_D q_M_noPattern.2.1 1 1 2 (.iload_n 1) := vm_dD b_M_noPattern_0 1 rfl rfl
theorem d_M_noPattern_2 : vm_D q_M_noPattern.2.1 2 1 3 (.iconst 0) := vm_dD b_M_noPattern_0 2 rfl rfl
theorem d_M_noPattern_3 : vm_D q_M_noPattern.2.1 3 1 4 (.aload_n 0) := vm_dD b_M_noPattern_0 3 rfl rfl
theorem d_M_noPattern_4 : vm_D q_M_noPattern.2.1 4 3 7 (.getfield 77) := vm_dD b_M_noPattern_0 4 rfl rfl
theorem d_M_noPattern_7 : vm_D q_M_noPattern.2.1 7 1 8 (.iconst 5) := vm_dD b_M_noPattern_0 5 rfl rfl
theorem d_M_noPattern_8 : vm_D q_M_noPattern.2.1 8 1 9 (.iaload) := vm_dD b_M_noPattern_0 6 rfl rfl
theorem d_M_noPattern_9 : vm_D q_M_noPattern.2.1 9 1 10 (.iconst 1) := vm_dD b_M_noPattern_0 7 rfl rfl
theorem d_M_noPattern_10 : vm_D q_M_noPattern.2.1 10 1 11 (.isub) := vm_dD b_M_noPattern_0 8 rfl rfl
theorem d_M_noPattern_11 : vm_D q_M_noPattern.2.1 11 3 14 (.invokestatic 65) := vm_dD b_M_noPattern_0 9 rfl rfl
theorem d_M_noPattern_14 : vm_B q_M_noPattern.2.1 14 17 21 (fun o => .ifCond .ne o) := ⟨7, vm_db b_M_noPattern_0 (i := 10) rfl, rfl, by decide⟩
theorem d_M_noPattern_22 : vm_D q_M_noPattern.2.1 22 1 23 (.iconst 1) := vm_dD b_M_noPattern_0 14 rfl rfl
theorem d_M_noPattern_23 : vm_D q_M_noPattern.2.1 23 3 26 (.invokevirtual 180) := vm_dD b_M_noPattern_0 15 rfl rfl
theorem d_M_noPattern_26 : vm_D q_M_noPattern.2.1 26 1 27 (.ireturn) := vm_dD b_M_noPattern_0 16 rfl rfl
theorem d_M_noPattern_21 : vm_D q_M_noPattern.2.1 21 1 22 (.iconst 0) := vm_dD b_M_noPattern_0 13 rfl rfl
theorem d_M_noPattern_17 : vm_D q_M_noPattern.2.1 17 1 18 (.iconst 1) := vm_dD b_M_noPattern_0 11 rfl rfl
theorem d_M_noPattern_18 : ∃ off : Int, decode q_M_noPattern.2.1 18 = .ok (.goto off, 3) ∧ ((18 : Nat) : Int) + off = ((22 : Nat) : Int) := ⟨4, vm_db b_M_noPattern_0 (i := 12) rfl, by decide⟩
def q_M_met : vm_Y := ("RepeatFreeModel", cX11_met, 5, false, [])
def t_M_met_0 : List (Nat × Instr × Nat) := [(0, .aload_n 0, 1), (1, .iconst 0, 1), (2, .putfield 3, 3), (5, .aload_n 0, 1), (6, .iload_n 1, 1), (7, .invokevirtual 353, 3), (10, .ifCond .ne 25, 3), (13, .aload_n 0, 1), (14, .iload_n 2, 1), (15, .iconst 0, 1), (16, .iconst 3, 1), (17, .invokestatic 65, 3), (20, .ifCond .ne 7, 3), (23, .iconst 1, 1), (24, .goto 4, 3), (27, .iconst 0, 1), (28, .iconst 2, 1), (29, .invokevirtual 180, 3), (32, .ifCond .eq 5, 3), (35, .iconst 0, 1), (36, .ireturn, 1), (37, .iconst 0, 1), (38, .istore_n 3, 1), (39, .iload_n 3, 1), (40, .aload_n 0, 1), (41, .getfield 184, 3), (44, .if_icmp .ge 73, 3), (47, .aload_n 0, 1), (48, .iload_n 1, 1), (49, .aload_n 0, 1), (50, .getfield 184, 3), (53, .iload_n 3, 1), (54, .isub, 1), (55, .invokevirtual 212, 3), (58, .istore 4, 2), (60, .iload 4, 2), (62, .ifCond .eq 49, 3), (65, .aload_n 0, 1), (66, .aload_n 0, 1), (67, .getfield 83, 3), (70, .iload_n 3, 1), (71, .iload_n 1, 1), (72, .invokevirtual 215, 3), (75, .ifCond .eq 20, 3), (78, .iload_n 2, 1), (79, .ifCond .ne 7, 3), (82, .iload_n 3, 1), (83, .goto 11, 3), (86, .aload_n 0, 1), (87, .getfield 92, 3), (90, .iload_n 2, 1), (91, .iconst 1, 1), (92, .isub, 1), (93, .iaload, 1), (94, .ireturn, 1), (95, .aload_n 0, 1), (96, .iload_n 1, 1), (97, .aload_n 0, 1), (98, .getfield 184, 3), (101, .iload_n 3, 1)]
theorem b_M_met_0 : (t_M_met_0.all fun q => decide (decode q_M_met.2.1 q.1 = .ok (q.2.1, q.2.2))) = true := by decide +kernel
def t_M_met_1 : List (Nat × Instr × Nat) := [(102, .isub, 1), (103, .invokevirtual 219, 3), (106, .istore 4, 2), (108, .goto (-48), 3), (111, .iinc 3 1, 3), (114, .goto (-75), 3), (117, .iconst (-1), 1), (118, .ireturn, 1)]
theorem b_M_met_1 : (t_M_met_1.all fun q => decide (decode q_M_met.2.1 q.1 = .ok (q.2.1, q.2.2))) = true := by decide +kernel
theorem d_M_met_0 : vm_D q_M_met.2.1 0 1 1 (.aload_n 0) := vm_dD b_M_met_0 0 rfl rfl
theorem d_M_met_1 : vm_D q_M_met.2.1 1 1 2 (.iconst 0) := vm_dD b_M_met_0 1 rfl rfl
theorem d_M_met_2 : vm_D q_M_met.2.1 2 3 5 (.putfield 3) := vm_dD b_M_met_0 2 rfl rfl
theorem d_M_met_5 : vm_D q_M_met.2.1 5 1 6 (.aload_n 0) := vm_dD b_M_met_0 3 rfl rfl
theorem d_M_met_6 : vm_D q_M_met.2.1 6 1 7 (.iload_n 1) := vm_dD b_M_met_0 4 rfl rfl
theorem d_M_met_7 : vm_D q_M_met.2.1 7 3 10 (.invokevirtual 353) := vm_dD b_M_met_0 5 rfl rfl
theorem d_M_met_10 : vm_B q_M_met.2.1 10 13 35 (fun o => .ifCond .ne o) := ⟨25, vm_db b_M_met_0 (i := 6) rfl, rfl, by decide⟩
theorem d_M_met_35 : vm_D q_M_met.2.1 35 1 36 (.iconst 0) := vm_dD b_M_met_0 19 rfl rfl
theorem d_M_met_36 : vm_D q_M_met.2.1 36 1 37 (.ireturn) := vm_dD b_M_met_0 20 rfl rfl
theorem d_M_met_13 : vm_D q_M_met.2.1 13 1 14 (.aload_n 0) := vm_dD b_M_met_0 7 rfl rfl
theorem d_M_met_14 : vm_D q_M_met.2.1 14 1 15 (.iload_n 2) := vm_dD b_M_met_0 8 rfl rfl
theorem d_M_met_15 : vm_D q_M_met.2.1 15 1 16 (.iconst 0) := vm_dD b_M_met_0 9 rfl rfl
theorem d_M_met_16 : vm_D q_M_met.2.1 16 1 17 (.iconst 3) := vm_dD b_M_met_0 10 rfl rfl
theorem d_M_met_17 : vm_D q_M_met.2.1 17 3 20 (.invokestatic 65) := vm_dD b_M_met_0 11 rfl rfl
theorem d_M_met_20 : vm_B q_M_met.2.1 20 23 27 (fun o => .ifCond .ne o) := ⟨7, vm_db b_M_met_0 (i := 12) rfl, rfl, by decide⟩
theorem d_M_met_28 : vm_D q_M_met.2.1 28 1 29 (.iconst 2) := vm_dD b_M_met_0 16 rfl rfl
theorem d_M_met_29 : vm_D q_M_met.2.1 29 3 32 (.invokevirtual 180) := vm_dD b_M_met_0 17 rfl rfl
theorem d_M_met_32 : vm_B q_M_met.2.1 32 35 37 (fun o => .ifCond .eq o) := ⟨5, vm_db b_M_met_0 (i := 18) rfl, rfl, by decide⟩
theorem d_M_met_37 : vm_D q_M_met.2.1 37 1 38 (.iconst 0) := vm_dD b_M_met_0 21 rfl rfl
theorem d_M_met_38 : vm_D q_M_met.2.1 38 1 39 (.istore_n 3) := vm_dD b_M_met_0 22 rfl rfl
theorem d_M_met_39 : vm_D q_M_met.2.1 39 1 40 (.iload_n 3) := vm_dD b_M_met_0 23 rfl rfl
theorem d_M_met_40 : vm_D q_M_met.2.1 40 1 41 (.aload_n 0) := vm_dD b_M_met_0 24 rfl rfl
theorem d_M_met_41 : vm_D q_M_met.2.1 41 3 44 (.getfield 184) := vm_dD b_M_met_0 25 rfl rfl
theorem d_M_met_44 : vm_B q_M_met.2.1 44 47 117 (fun o => .if_icmp .ge o) := ⟨73, vm_db b_M_met_0 (i := 26) rfl, rfl, by decide⟩
theorem d_M_met_47 : vm_D q_M_met.2.1 47 1 48 (.aload_n 0) := vm_dD b_M_met_0 27 rfl rfl
theorem d_M_met_48 : vm_D q_M_met.2.1 48 1 49 (.iload_n 1) := vm_dD b_M_met_0 28 rfl rfl
theorem d_M_met_49 : vm_D q_M_met.2.1 49 1 50 (.aload_n 0) := vm_dD b_M_met_0 29 rfl rfl
theorem d_M_met_50 : vm_D q_M_met.2.1 50 3 53 (.getfield 184) := vm_dD b_M_met_0 30 rfl rfl
theorem d_M_met_53 : vm_D q_M_met.2.1 53 1 54 (.iload_n 3) := vm_dD b_M_met_0 31 rfl rfl
theorem d_M_met_54 : vm_D q_M_met.2.1 54 1 55 (.isub) := vm_dD b_M_met_0 32 rfl rfl
theorem d_M_met_55 : vm_D q_M_met.2.1 55 3 58 (.invokevirtual 212) := vm_dD b_M_met_0 33 rfl rfl
theorem d_M_met_58 : vm_D q_M_met.2.1 58 2 60 (.istore 4) := vm_dD b_M_met_0 34 rfl rfl
theorem d_M_met_60 : vm_D q_M_met.2.1 60 2 62 (.iload 4) := vm_dD b_M_met_0 35 rfl rfl
theorem d_M_met_62 : vm_B q_M_met.2.1 62 65 111 (fun o => .ifCond .eq o) := ⟨49, vm_db b_M_met_0 (i := 36) rfl, rfl, by decide⟩
theorem d_M_met_65 : vm_D q_M_met.2.1 65 1 66 (.aload_n 0) := vm_dD b_M_met_0 37 rfl rfl
theorem d_M_met_66 : vm_D q_M_met.2.1 66 1 67 (.aload_n 0) := vm_dD b_M_met_0 38 rfl rfl
theorem d_M_met_67 : vm_D q_M_met.2.1 67 3 70 (.getfield 83) := vm_dD b_M_met_0 39 rfl rfl
theorem d_M_met_70 : vm_D q_M_met.2.1 70 1 71 (.iload_n 3) := vm_dD b_M_met_0 40 rfl rfl
theorem d_M_met_71 : vm_D q_M_met.2.1 71 1 72 (.iload_n 1) := vm_dD b_M_met_0 41 rfl rfl
theorem d_M_met_72 : vm_D q_M_met.2.1 72 3 75 (.invokevirtual 215) := vm_dD b_M_met_0 42 rfl rfl
theorem d_M_met_75 : vm_B q_M_met.2.1 75 78 95 (fun o => .ifCond .eq o) := ⟨20, vm_db b_M_met_0 (i := 43) rfl, rfl, by decide⟩
theorem d_M_met_95 : vm_D q_M_met.2.1 95 1 96 (.aload_n 0) := vm_dD b_M_met_0 55 rfl rfl
theorem d_M_met_96 : vm_D q_M_met.2.1 96 1 97 (.iload_n 1) := vm_dD b_M_met_0 56 rfl rfl
theorem d_M_met_97 : vm_D q_M_met.2.1 97 1 98 (.aload_n 0) := vm_dD b_M_met_0 57 rfl rfl
theorem d_M_met_98 : vm_D q_M_met.2.1 98 3 101 (.getfield 184) := vm_dD b_M_met_0 58 rfl rfl
theorem d_M_met_101 : vm_D q_M_met.2.1 101 1 102 (.iload_n 3) := vm_dD b_M_met_0 59 rfl rfl
theorem d_M_met_102 : vm_D q_M_met.2.1 102 1 103 (.isub) := vm_dD b_M_met_1 0 rfl rfl
theorem d_M_met_103 : vm_D q_M_met.2.1 103 3 106 (.invokevirtual 219) := vm_dD b_M_met_1 1 rfl rfl
theorem d_M_met_106 : vm_D q_M_met.2.1 106 2 108 (.istore 4) := vm_dD b_M_met_1 2 rfl rfl
theorem d_M_met_108 : ∃ off : Int, decode q_M_met.2.1 108 = .ok (.goto off, 3) ∧ ((108 : Nat) : Int) + off = ((60 : Nat) : Int) := ⟨-48, vm_db b_M_met_1 (i := 3) rfl, by decide⟩
theorem d_M_met_78 : vm_D q_M_met.2.1 78 1 79 (.iload_n 2) := vm_dD b_M_met_0 44 rfl rfl
theorem d_M_met_79 : vm_B q_M_met.2.1 79 82 86 (fun o => .ifCond .ne o) := ⟨7, vm_db b_M_met_0 (i := 45) rfl, rfl, by decide⟩
theorem d_M_met_86 : vm_D q_M_met.2.1 86 1 87 (.aload_n 0) := vm_dD b_M_met_0 48 rfl rfl
theorem d_M_met_87 : vm_D q_M_met.2.1 87 3 90 (.getfield 92) := vm_dD b_M_met_0 49 rfl rfl
theorem d_M_met_90 : vm_D q_M_met.2.1 90 1 91 (.iload_n 2) := vm_dD b_M_met_0 50 rfl rfl
theorem d_M_met_91 : vm_D q_M_met.2.1 91 1 92 (.iconst 1) := vm_dD b_M_met_0 51 rfl rfl
theorem d_M_met_92 : vm_D q_M_met.2.1 92 1 93 (.isub) := vm_dD b_M_met_0 52 rfl rfl
theorem d_M_met_93 : vm_D q_M_met.2.1 93 1 94 (.iaload) := vm_dD b_M_met_0 53 rfl rfl
theorem d_M_met_94 : vm_D q_M_met.2.1 94 1 95 (.ireturn) := vm_dD b_M_met_0 54 rfl rfl
theorem d_M_met_82 : vm_D q_M_met.2.1 82 1 83 (.iload_n 3) := vm_dD b_M_met_0 46 rfl rfl
theorem d_M_met_83 : ∃ off : Int, decode q_M_met.2.1 83 = .ok (.goto off, 3) ∧ ((83 : Nat) : Int) + off = ((94 : Nat) : Int) := ⟨11, vm_db b_M_met_0 (i := 47) rfl, by decide⟩
theorem d_M_met_111 : vm_D q_M_met.2.1 111 3 114 (.iinc 3 1) := vm_dD b_M_met_1 4 rfl rfl
theorem d_M_met_114 : ∃ off : Int, decode q_M_met.2.1 114 = .ok (.goto off, 3) ∧ ((114 : Nat) : Int) + off = ((39 : Nat) : Int) := ⟨-75, vm_db b_M_met_1 (i := 5) rfl, by decide⟩
theorem d_M_met_117 : vm_D q_M_met.2.1 117 1 118 (.iconst (-1)) := vm_dD b_M_met_1 6 rfl rfl
theorem d_M_met_118 : vm_D q_M_met.2.1 118 1 119 (.ireturn) := vm_dD b_M_met_1 7 rfl rfl
theorem d_M_met_27 : vm_D q_M_met.2.1 27 1 28 (.iconst 0) := vm_dD b_M_met_0 15 rfl rfl
theorem d_M_met_23 : vm_D q_M_met.2.1 23 1 24 (.iconst 1) := vm_dD b_M_met_0 13 rfl rfl
theorem d_M_met_24 : ∃ off : Int, decode q_M_met.2.1 24 = .ok (.goto off, 3) ∧ ((24 : Nat) : Int) + off = ((28 : Nat) : Int) := ⟨4, vm_db b_M_met_0 (i := 14) rfl, by decide⟩
def q_M_whole : vm_Y := ("RepeatFreeModel", cX11_whole, 6, false, [])
def t_M_whole_0 : List (Nat × Instr × Nat) := [(0, .aload_n 0, 1), (1, .iconst 0, 1), (2, .putfield 3, 3), (5, .aload_n 0, 1), (6, .iload_n 1, 1), (7, .invokevirtual 353, 3), (10, .ifCond .ne 25, 3), (13, .aload_n 0, 1), (14, .iload_n 3, 1), (15, .iconst 0, 1), (16, .iconst 2, 1), (17, .invokestatic 65, 3), (20, .ifCond .ne 7, 3), (23, .iconst 1, 1), (24, .goto 4, 3), (27, .iconst 0, 1), (28, .iconst 2, 1), (29, .invokevirtual 180, 3), (32, .ifCond .eq 5, 3), (35, .iconst 0, 1), (36, .ireturn, 1), (37, .iconst 0, 1), (38, .istore 4, 2), (40, .aload_n 0, 1), (41, .iload_n 1, 1), (42, .aload_n 0, 1), (43, .getfield 184, 3), (46, .invokevirtual 212, 3), (49, .istore 5, 2), (51, .iload 5, 2), (53, .ifCond .eq 58, 3), (56, .aload_n 0, 1), (57, .iload_n 1, 1), (58, .invokevirtual 208, 3), (61, .aload_n 0, 1), (62, .getfield 184, 3), (65, .if_icmp .ne 32, 3), (68, .aload_n 0, 1), (69, .aload_n 0, 1), (70, .getfield 83, 3), (73, .iconst 0, 1), (74, .iload_n 1, 1), (75, .invokevirtual 215, 3), (78, .ifCond .eq 19, 3), (81, .iload 4, 2), (83, .iload_n 2, 1), (84, .if_icmp .ne 10, 3), (87, .aload_n 0, 1), (88, .getfield 92, 3), (91, .iload_n 3, 1), (92, .iaload, 1), (93, .ireturn, 1), (94, .iinc 4 1, 3), (97, .aload_n 0, 1), (98, .iload_n 1, 1), (99, .aload_n 0, 1), (100, .getfield 184, 3), (103, .invokevirtual 219, 3), (106, .istore 5, 2), (108, .goto (-57), 3)]
theorem b_M_whole_0 : (t_M_whole_0.all fun q => decide (decode q_M_whole.2.1 q.1 = .ok (q.2.1, q.2.2))) = true := by decide +kernel
def t_M_whole_1 : List (Nat × Instr × Nat) := [(111, .iload_n 2, 1), (112, .iconst (-1), 1), (113, .if_icmp .ne 8, 3), (116, .iload 4, 2), (118, .goto 4, 3), (121, .iconst (-1), 1), (122, .ireturn, 1)]
theorem b_M_whole_1 : (t_M_whole_1.all fun q => decide (decode q_M_whole.2.1 q.1 = .ok (q.2.1, q.2.2))) = true := by decide +kernel
theorem d_M_whole_0 : vm_D q_M_whole.2.1 0 1 1 (.aload_n 0) := vm_dD b_M_whole_0 0 rfl rfl
theorem d_M_whole_1 : vm_D q_M_whole.2.1 1 1 2 (.iconst 0) := vm_dD b_M_whole_0 1 rfl rfl
theorem d_M_whole_2 : vm_D q_M_whole.2.1 2 3 5 (.putfield 3) := vm_dD b_M_whole_0 2 rfl rfl
theorem d_M_whole_5 : vm_D q_M_whole.2.1 5 1 6 (.aload_n 0) := vm_dD b_M_whole_0 3 rfl rfl
theorem d_M_whole_6 : vm_D q_M_whole.2.1 6 1 7 (.iload_n 1) := vm_dD b_M_whole_0 4 rfl rfl
theorem d_M_whole_7 : vm_D q_M_whole.2.1 7 3 10 (.invokevirtual 353) := vm_dD b_M_whole_0 5 rfl rfl
theorem d_M_whole_10 : vm_B q_M_whole.2.1 10 13 35 (fun o => .ifCond .ne o) := ⟨25, vm_db b_M_whole_0 (i := 6) rfl, rfl, by decide⟩
theorem d_M_whole_35 : vm_D q_M_whole.2.1 35 1 36 (.iconst 0) := vm_dD b_M_whole_0 19 rfl rfl
theorem d_M_whole_36 : vm_D q_M_whole.2.1 36 1 37 (.ireturn) := vm_dD b_M_whole_0 20 rfl rfl
theorem d_M_whole_13 : vm_D q_M_whole.2.1 13 1 14 (.aload_n 0) := vm_dD b_M_whole_0 7 rfl rfl
theorem d_M_whole_14 : vm_D q_M_whole.2.1 14 1 15 (.iload_n 3) := vm_dD b_M_whole_0 8 rfl rfl
theorem d_M_whole_15 : vm_D q_M_whole.2.1 15 1 16 (.iconst 0) := vm_dD b_M_whole_0 9 rfl rfl
theorem d_M_whole_16 : vm_D q_M_whole.2.1 16 1 17 (.iconst 2) := vm_dD b_M_whole_0 10 rfl rfl
theorem d_M_whole_17 : vm_D q_M_whole.2.1 17 3 20 (.invokestatic 65) := vm_dD b_M_whole_0 11 rfl rfl
theorem d_M_whole_20 : vm_B q_M_whole.2.1 20 23 27 (fun o => .ifCond .ne o) := ⟨7, vm_db b_M_whole_0 (i := 12) rfl, rfl, by decide⟩
theorem d_M_whole_28 : vm_D q_M_whole.2.1 28 1 29 (.iconst 2) := vm_dD b_M_whole_0 16 rfl rfl
theorem d_M_whole_29 : vm_D q_M_whole.2.1 29 3 32 (.invokevirtual 180) := vm_dD b_M_whole_0 17 rfl rfl
theorem d_M_whole_32 : vm_B q_M_whole.2.1 32 35 37 (fun o => .ifCond .eq o) := ⟨5, vm_db b_M_whole_0 (i := 18) rfl, rfl, by decide⟩
theorem d_M_whole_37 : vm_D q_M_whole.2.1 37 1 38 (.iconst 0) := vm_dD b_M_whole_0 21 rfl rfl
theorem d_M_whole_38 : vm_D q_M_whole.2.1 38 2 40 (.istore 4) := vm_dD b_M_whole_0 22 rfl rfl
theorem d_M_whole_40 : vm_D q_M_whole.2.1 40 1 41 (.aload_n 0) := vm_dD b_M_whole_0 23 rfl rfl
theorem d_M_whole_41 : vm_D q_M_whole.2.1 41 1 42 (.iload_n 1) := vm_dD b_M_whole_0 24 rfl rfl
theorem d_M_whole_42 : vm_D q_M_whole.2.1 42 1 43 (.aload_n 0) := vm_dD b_M_whole_0 25 rfl rfl
theorem d_M_whole_43 : vm_D q_M_whole.2.1 43 3 46 (.getfield 184) := vm_dD b_M_whole_0 26 rfl rfl
theorem d_M_whole_46 : vm_D q_M_whole.2.1 46 3 49 (.invokevirtual 212) := vm_dD b_M_whole_0 27 rfl rfl
theorem d_M_whole_49 : vm_D q_M_whole.2.1 49 2 51 (.istore 5) := vm_dD b_M_whole_0 28 rfl rfl
theorem d_M_whole_51 : vm_D q_M_whole.2.1 51 2 53 (.iload 5) := vm_dD b_M_whole_0 29 rfl rfl
theorem d_M_whole_53 : vm_B q_M_whole.2.1 53 56 111 (fun o => .ifCond .eq o) := ⟨58, vm_db b_M_whole_0 (i := 30) rfl, rfl, by decide⟩
theorem d_M_whole_56 : vm_D q_M_whole.2.1 56 1 57 (.aload_n 0) := vm_dD b_M_whole_0 31 rfl rfl
theorem d_M_whole_57 : vm_D q_M_whole.2.1 57 1 58 (.iload_n 1) := vm_dD b_M_whole_0 32 rfl rfl
theorem d_M_whole_58 : vm_D q_M_whole.2.1 58 3 61 (.invokevirtual 208) := vm_dD b_M_whole_0 33 rfl rfl
theorem d_M_whole_61 : vm_D q_M_whole.2.1 61 1 62 (.aload_n 0) := vm_dD b_M_whole_0 34 rfl rfl
theorem d_M_whole_62 : vm_D q_M_whole.2.1 62 3 65 (.getfield 184) := vm_dD b_M_whole_0 35 rfl rfl
theorem d_M_whole_65 : vm_B q_M_whole.2.1 65 68 97 (fun o => .if_icmp .ne o) := ⟨32, vm_db b_M_whole_0 (i := 36) rfl, rfl, by decide⟩
theorem d_M_whole_97 : vm_D q_M_whole.2.1 97 1 98 (.aload_n 0) := vm_dD b_M_whole_0 53 rfl rfl
theorem d_M_whole_98 : vm_D q_M_whole.2.1 98 1 99 (.iload_n 1) := vm_dD b_M_whole_0 54 rfl rfl
theorem d_M_whole_99 : vm_D q_M_whole.2.1 99 1 100 (.aload_n 0) := vm_dD b_M_whole_0 55 rfl rfl
theorem d_M_whole_100 : vm_D q_M_whole.2.1 100 3 103 (.getfield 184) := vm_dD b_M_whole_0 56 rfl rfl
theorem d_M_whole_103 : vm_D q_M_whole.2.1 103 3 106 (.invokevirtual 219) := vm_dD b_M_whole_0 57 rfl rfl
theorem d_M_whole_106 : vm_D q_M_whole.2.1 106 2 108 (.istore 5) := vm_dD b_M_whole_0 58 rfl rfl
theorem d_M_whole_108 : ∃ off : Int, decode q_M_whole.2.1 108 = .ok (.goto off, 3) ∧ ((108 : Nat) : Int) + off = ((51 : Nat) : Int) := ⟨-57, vm_db b_M_whole_0 (i := 59) rfl, by decide⟩
theorem d_M_whole_68 : vm_D q_M_whole.2.1 68 1 69 (.aload_n 0) := vm_dD b_M_whole_0 37 rfl rfl
theorem d_M_whole_69 : vm_D q_M_whole.2.1 69 1 70 (.aload_n 0) := vm_dD b_M_whole_0 38 rfl rfl
theorem d_M_whole_70 : vm_D q_M_whole.2.1 70 3 73 (.getfield 83) := vm_dD b_M_whole_0 39 rfl rfl
theorem d_M_whole_73 : vm_D q_M_whole.2.1 73 1 74 (.iconst 0) := vm_dD b_M_whole_0 40 rfl rfl
theorem d_M_whole_74 : vm_D q_M_whole.2.1 74 1 75 (.iload_n 1) := vm_dD b_M_whole_0 41 rfl rfl
theorem d_M_whole_75 : vm_D q_M_whole.2.1 75 3 78 (.invokevirtual 215) := vm_dD b_M_whole_0 42 rfl rfl
theorem d_M_whole_78 : vm_B q_M_whole.2.1 78 81 97 (fun o => .ifCond .eq o) := ⟨19, vm_db b_M_whole_0 (i := 43) rfl, rfl, by decide⟩
theorem d_M_whole_81 : vm_D q_M_whole.2.1 81 2 83 (.iload 4) := vm_dD b_M_whole_0 44 rfl rfl
theorem d_M_whole_83 : vm_D q_M_whole.2.1 83 1 84 (.iload_n 2) := vm_dD b_M_whole_0 45 rfl rfl
theorem d_M_whole_84 : vm_B q_M_whole.2.1 84 87 94 (fun o => .if_icmp .ne o) := ⟨10, vm_db b_M_whole_0 (i := 46) rfl, rfl, by decide⟩
theorem d_M_whole_94 : vm_D q_M_whole.2.1 94 3 97 (.iinc 4 1) := vm_dD b_M_whole_0 52 rfl rfl
theorem d_M_whole_87 : vm_D q_M_whole.2.1 87 1 88 (.aload_n 0) := vm_dD b_M_whole_0 47 rfl rfl
theorem d_M_whole_88 : vm_D q_M_whole.2.1 88 3 91 (.getfield 92) := vm_dD b_M_whole_0 48 rfl rfl
theorem d_M_whole_91 : vm_D q_M_whole.2.1 91 1 92 (.iload_n 3) := vm_dD b_M_whole_0 49 rfl rfl
theorem d_M_whole_92 : vm_D q_M_whole.2.1 92 1 93 (.iaload) := vm_dD b_M_whole_0 50 rfl rfl
theorem d_M_whole_93 : vm_D q_M_whole.2.1 93 1 94 (.ireturn) := vm_dD b_M_whole_0 51 rfl rfl
theorem d_M_whole_111 : vm_D q_M_whole.2.1 111 1 112 (.iload_n 2) := vm_dD b_M_whole_1 0 rfl rfl
theorem d_M_whole_112 : vm_D q_M_whole.2.1 112 1 113 (.iconst (-1)) := vm_dD b_M_whole_1 1 rfl rfl
theorem d_M_whole_113 : vm_B q_M_whole.2.1 113 116 121 (fun o => .if_icmp .ne o) := ⟨8, vm_db b_M_whole_1 (i := 2) rfl, rfl, by decide⟩
theorem d_M_whole_121 : vm_D q_M_whole.2.1 121 1 122 (.iconst (-1)) := vm_dD b_M_whole_1 5 rfl rfl
theorem d_M_whole_122 : vm_D q_M_whole.2.1 122 1 123 (.ireturn) := vm_dD b_M_whole_1 6 rfl rfl
theorem d_M_whole_116 : vm_D q_M_whole.2.1 116 2 118 (.iload 4) := vm_dD b_M_whole_1 3 rfl rfl
theorem d_M_whole_118 : ∃ off : Int, decode q_M_whole.2.1 118 = .ok (.goto off, 3) ∧ ((118 : Nat) : Int) + off = ((122 : Nat) : Int) := ⟨4, vm_db b_M_whole_1 (i := 4) rfl, by decide⟩
theorem d_M_whole_27 : vm_D q_M_whole.2.1 27 1 28 (.iconst 0) := vm_dD b_M_whole_0 15 rfl rfl
theorem d_M_whole_23 : vm_D q_M_whole.2.1 23 1 24 (.iconst 1) := vm_dD b_M_whole_0 13 rfl rfl
theorem d_M_whole_24 : ∃ off : Int, decode q_M_whole.2.1 24 = .ok (.goto off, 3) ∧ ((24 : Nat) : Int) + off = ((28 : Nat) : Int) := ⟨4, vm_db b_M_whole_0 (i := 14) rfl, by decide⟩
def q_M_lettersOf : vm_Y := ("RepeatFreeModel", cX11_lettersOf, 4, false, [])
def t_M_lettersOf_0 : List (Nat × Instr × Nat) := [(0, .iconst 0, 1), (1, .istore_n 2, 1), (2, .iconst 0, 1), (3, .istore_n 3, 1), (4, .iload_n 3, 1), (5, .iconst 3, 1), (6, .if_icmp .ge 28, 3), (9, .iload_n 2, 1), (10, .aload_n 0, 1), (11, .iload_n 1, 1), (12, .iload_n 3, 1), (13, .invokevirtual 205, 3), (16, .ifCond .eq 9, 3), (19, .iconst 1, 1), (20, .iload_n 3, 1), (21, .ishl, 1), (22, .goto 4, 3), (25, .iconst 0, 1), (26, .ior, 1), (27, .istore_n 2, 1), (28, .iinc 3 1, 3), (31, .goto (-27), 3), (34, .iload_n 2, 1), (35, .ireturn, 1)]
theorem b_M_lettersOf_0 : (t_M_lettersOf_0.all fun q => decide (decode q_M_lettersOf.2.1 q.1 = .ok (q.2.1, q.2.2))) = true := by decide +kernel
theorem d_M_lettersOf_0 : vm_D q_M_lettersOf.2.1 0 1 1 (.iconst 0) := vm_dD b_M_lettersOf_0 0 rfl rfl
theorem d_M_lettersOf_1 : vm_D q_M_lettersOf.2.1 1 1 2 (.istore_n 2) := vm_dD b_M_lettersOf_0 1 rfl rfl
theorem d_M_lettersOf_2 : vm_D q_M_lettersOf.2.1 2 1 3 (.iconst 0) := vm_dD b_M_lettersOf_0 2 rfl rfl
theorem d_M_lettersOf_3 : vm_D q_M_lettersOf.2.1 3 1 4 (.istore_n 3) := vm_dD b_M_lettersOf_0 3 rfl rfl
theorem d_M_lettersOf_4 : vm_D q_M_lettersOf.2.1 4 1 5 (.iload_n 3) := vm_dD b_M_lettersOf_0 4 rfl rfl
theorem d_M_lettersOf_5 : vm_D q_M_lettersOf.2.1 5 1 6 (.iconst 3) := vm_dD b_M_lettersOf_0 5 rfl rfl
theorem d_M_lettersOf_6 : vm_B q_M_lettersOf.2.1 6 9 34 (fun o => .if_icmp .ge o) := ⟨28, vm_db b_M_lettersOf_0 (i := 6) rfl, rfl, by decide⟩
theorem d_M_lettersOf_9 : vm_D q_M_lettersOf.2.1 9 1 10 (.iload_n 2) := vm_dD b_M_lettersOf_0 7 rfl rfl
theorem d_M_lettersOf_10 : vm_D q_M_lettersOf.2.1 10 1 11 (.aload_n 0) := vm_dD b_M_lettersOf_0 8 rfl rfl
theorem d_M_lettersOf_11 : vm_D q_M_lettersOf.2.1 11 1 12 (.iload_n 1) := vm_dD b_M_lettersOf_0 9 rfl rfl
theorem d_M_lettersOf_12 : vm_D q_M_lettersOf.2.1 12 1 13 (.iload_n 3) := vm_dD b_M_lettersOf_0 10 rfl rfl
theorem d_M_lettersOf_13 : vm_D q_M_lettersOf.2.1 13 3 16 (.invokevirtual 205) := vm_dD b_M_lettersOf_0 11 rfl rfl
theorem d_M_lettersOf_16 : vm_B q_M_lettersOf.2.1 16 19 25 (fun o => .ifCond .eq o) := ⟨9, vm_db b_M_lettersOf_0 (i := 12) rfl, rfl, by decide⟩
theorem d_M_lettersOf_26 : vm_D q_M_lettersOf.2.1 26 1 27 (.ior) := vm_dD b_M_lettersOf_0 18 rfl rfl
theorem d_M_lettersOf_27 : vm_D q_M_lettersOf.2.1 27 1 28 (.istore_n 2) := vm_dD b_M_lettersOf_0 19 rfl rfl
theorem d_M_lettersOf_28 : vm_D q_M_lettersOf.2.1 28 3 31 (.iinc 3 1) := vm_dD b_M_lettersOf_0 20 rfl rfl
theorem d_M_lettersOf_31 : ∃ off : Int, decode q_M_lettersOf.2.1 31 = .ok (.goto off, 3) ∧ ((31 : Nat) : Int) + off = ((4 : Nat) : Int) := ⟨-27, vm_db b_M_lettersOf_0 (i := 21) rfl, by decide⟩
theorem d_M_lettersOf_25 : vm_D q_M_lettersOf.2.1 25 1 26 (.iconst 0) := vm_dD b_M_lettersOf_0 17 rfl rfl
theorem d_M_lettersOf_19 : vm_D q_M_lettersOf.2.1 19 1 20 (.iconst 1) := vm_dD b_M_lettersOf_0 13 rfl rfl
theorem d_M_lettersOf_20 : vm_D q_M_lettersOf.2.1 20 1 21 (.iload_n 3) := vm_dD b_M_lettersOf_0 14 rfl rfl
theorem d_M_lettersOf_21 : vm_D q_M_lettersOf.2.1 21 1 22 (.ishl) := vm_dD b_M_lettersOf_0 15 rfl rfl
theorem d_M_lettersOf_22 : ∃ off : Int, decode q_M_lettersOf.2.1 22 = .ok (.goto off, 3) ∧ ((22 : Nat) : Int) + off = ((26 : Nat) : Int) := ⟨4, vm_db b_M_lettersOf_0 (i := 16) rfl, by decide⟩
theorem d_M_lettersOf_34 : vm_D q_M_lettersOf.2.1 34 1 35 (.iload_n 2) := vm_dD b_M_lettersOf_0 22 rfl rfl
theorem d_M_lettersOf_35 : vm_D q_M_lettersOf.2.1 35 1 36 (.ireturn) := vm_dD b_M_lettersOf_0 23 rfl rfl
def q_M_endOf : vm_Y := ("RepeatFreeModel", cX11_endOf, 3, false, [])
def t_M_endOf_0 : List (Nat × Instr × Nat) := [(0, .iload_n 1, 1), (1, .istore_n 2, 1), (2, .aload_n 0, 1), (3, .getfield 115, 3), (6, .iload_n 2, 1), (7, .iaload, 1), (8, .iload_n 2, 1), (9, .if_icmp .eq 13, 3), (12, .aload_n 0, 1), (13, .getfield 115, 3), (16, .iload_n 2, 1), (17, .iaload, 1), (18, .istore_n 2, 1), (19, .goto (-17), 3), (22, .iload_n 2, 1), (23, .ireturn, 1)]
theorem b_M_endOf_0 : (t_M_endOf_0.all fun q => decide (decode q_M_endOf.2.1 q.1 = .ok (q.2.1, q.2.2))) = true := by decide +kernel
theorem d_M_endOf_0 : vm_D q_M_endOf.2.1 0 1 1 (.iload_n 1) := vm_dD b_M_endOf_0 0 rfl rfl
theorem d_M_endOf_1 : vm_D q_M_endOf.2.1 1 1 2 (.istore_n 2) := vm_dD b_M_endOf_0 1 rfl rfl
theorem d_M_endOf_2 : vm_D q_M_endOf.2.1 2 1 3 (.aload_n 0) := vm_dD b_M_endOf_0 2 rfl rfl
theorem d_M_endOf_3 : vm_D q_M_endOf.2.1 3 3 6 (.getfield 115) := vm_dD b_M_endOf_0 3 rfl rfl
theorem d_M_endOf_6 : vm_D q_M_endOf.2.1 6 1 7 (.iload_n 2) := vm_dD b_M_endOf_0 4 rfl rfl
theorem d_M_endOf_7 : vm_D q_M_endOf.2.1 7 1 8 (.iaload) := vm_dD b_M_endOf_0 5 rfl rfl
theorem d_M_endOf_8 : vm_D q_M_endOf.2.1 8 1 9 (.iload_n 2) := vm_dD b_M_endOf_0 6 rfl rfl
theorem d_M_endOf_9 : vm_B q_M_endOf.2.1 9 12 22 (fun o => .if_icmp .eq o) := ⟨13, vm_db b_M_endOf_0 (i := 7) rfl, rfl, by decide⟩
theorem d_M_endOf_12 : vm_D q_M_endOf.2.1 12 1 13 (.aload_n 0) := vm_dD b_M_endOf_0 8 rfl rfl
theorem d_M_endOf_13 : vm_D q_M_endOf.2.1 13 3 16 (.getfield 115) := vm_dD b_M_endOf_0 9 rfl rfl
theorem d_M_endOf_16 : vm_D q_M_endOf.2.1 16 1 17 (.iload_n 2) := vm_dD b_M_endOf_0 10 rfl rfl
theorem d_M_endOf_17 : vm_D q_M_endOf.2.1 17 1 18 (.iaload) := vm_dD b_M_endOf_0 11 rfl rfl
theorem d_M_endOf_18 : vm_D q_M_endOf.2.1 18 1 19 (.istore_n 2) := vm_dD b_M_endOf_0 12 rfl rfl
theorem d_M_endOf_19 : ∃ off : Int, decode q_M_endOf.2.1 19 = .ok (.goto off, 3) ∧ ((19 : Nat) : Int) + off = ((2 : Nat) : Int) := ⟨-17, vm_db b_M_endOf_0 (i := 13) rfl, by decide⟩
theorem d_M_endOf_22 : vm_D q_M_endOf.2.1 22 1 23 (.iload_n 2) := vm_dD b_M_endOf_0 14 rfl rfl
theorem d_M_endOf_23 : vm_D q_M_endOf.2.1 23 1 24 (.ireturn) := vm_dD b_M_endOf_0 15 rfl rfl
def q_M_isLoose : vm_Y := ("RepeatFreeModel", cX11_isLoose, 7, false, [])
def t_M_isLoose_0 : List (Nat × Instr × Nat) := [(0, .iconst 0, 1), (1, .istore 4, 2), (3, .iload 4, 2), (5, .bipush 6, 2), (7, .if_icmp .ge 18, 3), (10, .aload_n 0, 1), (11, .getfield 115, 3), (14, .iload 4, 2), (16, .iload 4, 2), (18, .iastore, 1), (19, .iinc 4 1, 3), (22, .goto (-19), 3), (25, .iconst (-1), 1), (26, .istore 4, 2), (28, .iconst 0, 1), (29, .istore 5, 2), (31, .iload 5, 2), (33, .aload_n 0, 1), (34, .getfield 77, 3), (37, .sipush 166, 3), (40, .iload_n 1, 1), (41, .iadd, 1), (42, .iaload, 1), (43, .if_icmp .ge 60, 3), (46, .aload_n 0, 1), (47, .iload_n 1, 1), (48, .iload 5, 2), (50, .invokevirtual 202, 3), (53, .istore 6, 2), (55, .iload_n 2, 1), (56, .iload 6, 2), (58, .ishr, 1), (59, .iconst 1, 1), (60, .iand, 1), (61, .iconst 1, 1), (62, .if_icmp .ne 6, 3), (65, .goto 32, 3), (68, .iload 4, 2), (70, .iconst (-1), 1), (71, .if_icmp .eq 22, 3), (74, .aload_n 0, 1), (75, .getfield 115, 3), (78, .aload_n 0, 1), (79, .iload 4, 2), (81, .invokevirtual 356, 3), (84, .aload_n 0, 1), (85, .iconst 3, 1), (86, .iload 6, 2), (88, .iadd, 1), (89, .invokevirtual 356, 3), (92, .iastore, 1), (93, .iload 6, 2), (95, .istore 4, 2), (97, .iinc 5 1, 3), (100, .goto (-69), 3), (103, .iconst 0, 1), (104, .istore 5, 2), (106, .iload 5, 2), (108, .iconst 3, 1), (109, .if_icmp .ge 63, 3)]
theorem b_M_isLoose_0 : (t_M_isLoose_0.all fun q => decide (decode q_M_isLoose.2.1 q.1 = .ok (q.2.1, q.2.2))) = true := by decide +kernel
def t_M_isLoose_1 : List (Nat × Instr × Nat) := [(112, .iconst 0, 1), (113, .istore 6, 2), (115, .iload 6, 2), (117, .iconst 3, 1), (118, .if_icmp .ge 48, 3), (121, .iload_n 3, 1), (122, .iload 5, 2), (124, .ishr, 1), (125, .iconst 1, 1), (126, .iand, 1), (127, .iconst 1, 1), (128, .if_icmp .ne 32, 3), (131, .iload_n 3, 1), (132, .iload 6, 2), (134, .ishr, 1), (135, .iconst 1, 1), (136, .iand, 1), (137, .iconst 1, 1), (138, .if_icmp .ne 22, 3), (141, .aload_n 0, 1), (142, .iload 5, 2), (144, .invokevirtual 356, 3), (147, .aload_n 0, 1), (148, .iconst 3, 1), (149, .iload 6, 2), (151, .iadd, 1), (152, .invokevirtual 356, 3), (155, .if_icmp .ne 5, 3), (158, .iconst 0, 1), (159, .ireturn, 1), (160, .iinc 6 1, 3), (163, .goto (-48), 3), (166, .iinc 5 1, 3), (169, .goto (-63), 3), (172, .iconst 1, 1), (173, .ireturn, 1)]
theorem b_M_isLoose_1 : (t_M_isLoose_1.all fun q => decide (decode q_M_isLoose.2.1 q.1 = .ok (q.2.1, q.2.2))) = true := by decide +kernel
theorem d_M_isLoose_0 : vm_D q_M_isLoose.2.1 0 1 1 (.iconst 0) := vm_dD b_M_isLoose_0 0 rfl rfl
theorem d_M_isLoose_1 : vm_D q_M_isLoose.2.1 1 2 3 (.istore 4) := vm_dD b_M_isLoose_0 1 rfl rfl
theorem d_M_isLoose_3 : vm_D q_M_isLoose.2.1 3 2 5 (.iload 4) := vm_dD b_M_isLoose_0 2 rfl rfl
theorem d_M_isLoose_5 : vm_D q_M_isLoose.2.1 5 2 7 (.bipush 6) := vm_dD b_M_isLoose_0 3 rfl rfl
theorem d_M_isLoose_7 : vm_B q_M_isLoose.2.1 7 10 25 (fun o => .if_icmp .ge o) := ⟨18, vm_db b_M_isLoose_0 (i := 4) rfl, rfl, by decide⟩
theorem d_M_isLoose_10 : vm_D q_M_isLoose.2.1 10 1 11 (.aload_n 0) := vm_dD b_M_isLoose_0 5 rfl rfl
theorem d_M_isLoose_11 : vm_D q_M_isLoose.2.1 11 3 14 (.getfield 115) := vm_dD b_M_isLoose_0 6 rfl rfl
theorem d_M_isLoose_14 : vm_D q_M_isLoose.2.1 14 2 16 (.iload 4) := vm_dD b_M_isLoose_0 7 rfl rfl
theorem d_M_isLoose_16 : vm_D q_M_isLoose.2.1 16 2 18 (.iload 4) := vm_dD b_M_isLoose_0 8 rfl rfl
theorem d_M_isLoose_18 : vm_D q_M_isLoose.2.1 18 1 19 (.iastore) := vm_dD b_M_isLoose_0 9 rfl rfl
theorem d_M_isLoose_19 : vm_D q_M_isLoose.2.1 19 3 22 (.iinc 4 1) := vm_dD b_M_isLoose_0 10 rfl rfl
theorem d_M_isLoose_22 : ∃ off : Int, decode q_M_isLoose.2.1 22 = .ok (.goto off, 3) ∧ ((22 : Nat) : Int) + off = ((3 : Nat) : Int) := ⟨-19, vm_db b_M_isLoose_0 (i := 11) rfl, by decide⟩
theorem d_M_isLoose_25 : vm_D q_M_isLoose.2.1 25 1 26 (.iconst (-1)) := vm_dD b_M_isLoose_0 12 rfl rfl
theorem d_M_isLoose_26 : vm_D q_M_isLoose.2.1 26 2 28 (.istore 4) := vm_dD b_M_isLoose_0 13 rfl rfl
theorem d_M_isLoose_28 : vm_D q_M_isLoose.2.1 28 1 29 (.iconst 0) := vm_dD b_M_isLoose_0 14 rfl rfl
theorem d_M_isLoose_29 : vm_D q_M_isLoose.2.1 29 2 31 (.istore 5) := vm_dD b_M_isLoose_0 15 rfl rfl
theorem d_M_isLoose_31 : vm_D q_M_isLoose.2.1 31 2 33 (.iload 5) := vm_dD b_M_isLoose_0 16 rfl rfl
theorem d_M_isLoose_33 : vm_D q_M_isLoose.2.1 33 1 34 (.aload_n 0) := vm_dD b_M_isLoose_0 17 rfl rfl
theorem d_M_isLoose_34 : vm_D q_M_isLoose.2.1 34 3 37 (.getfield 77) := vm_dD b_M_isLoose_0 18 rfl rfl
theorem d_M_isLoose_37 : vm_D q_M_isLoose.2.1 37 3 40 (.sipush 166) := vm_dD b_M_isLoose_0 19 rfl rfl
theorem d_M_isLoose_40 : vm_D q_M_isLoose.2.1 40 1 41 (.iload_n 1) := vm_dD b_M_isLoose_0 20 rfl rfl
theorem d_M_isLoose_41 : vm_D q_M_isLoose.2.1 41 1 42 (.iadd) := vm_dD b_M_isLoose_0 21 rfl rfl
theorem d_M_isLoose_42 : vm_D q_M_isLoose.2.1 42 1 43 (.iaload) := vm_dD b_M_isLoose_0 22 rfl rfl
theorem d_M_isLoose_43 : vm_B q_M_isLoose.2.1 43 46 103 (fun o => .if_icmp .ge o) := ⟨60, vm_db b_M_isLoose_0 (i := 23) rfl, rfl, by decide⟩
theorem d_M_isLoose_46 : vm_D q_M_isLoose.2.1 46 1 47 (.aload_n 0) := vm_dD b_M_isLoose_0 24 rfl rfl
theorem d_M_isLoose_47 : vm_D q_M_isLoose.2.1 47 1 48 (.iload_n 1) := vm_dD b_M_isLoose_0 25 rfl rfl
theorem d_M_isLoose_48 : vm_D q_M_isLoose.2.1 48 2 50 (.iload 5) := vm_dD b_M_isLoose_0 26 rfl rfl
theorem d_M_isLoose_50 : vm_D q_M_isLoose.2.1 50 3 53 (.invokevirtual 202) := vm_dD b_M_isLoose_0 27 rfl rfl
theorem d_M_isLoose_53 : vm_D q_M_isLoose.2.1 53 2 55 (.istore 6) := vm_dD b_M_isLoose_0 28 rfl rfl
theorem d_M_isLoose_55 : vm_D q_M_isLoose.2.1 55 1 56 (.iload_n 2) := vm_dD b_M_isLoose_0 29 rfl rfl
theorem d_M_isLoose_56 : vm_D q_M_isLoose.2.1 56 2 58 (.iload 6) := vm_dD b_M_isLoose_0 30 rfl rfl
theorem d_M_isLoose_58 : vm_D q_M_isLoose.2.1 58 1 59 (.ishr) := vm_dD b_M_isLoose_0 31 rfl rfl
theorem d_M_isLoose_59 : vm_D q_M_isLoose.2.1 59 1 60 (.iconst 1) := vm_dD b_M_isLoose_0 32 rfl rfl
theorem d_M_isLoose_60 : vm_D q_M_isLoose.2.1 60 1 61 (.iand) := vm_dD b_M_isLoose_0 33 rfl rfl
theorem d_M_isLoose_61 : vm_D q_M_isLoose.2.1 61 1 62 (.iconst 1) := vm_dD b_M_isLoose_0 34 rfl rfl
theorem d_M_isLoose_62 : vm_B q_M_isLoose.2.1 62 65 68 (fun o => .if_icmp .ne o) := ⟨6, vm_db b_M_isLoose_0 (i := 35) rfl, rfl, by decide⟩
theorem d_M_isLoose_97 : vm_D q_M_isLoose.2.1 97 3 100 (.iinc 5 1) := vm_dD b_M_isLoose_0 53 rfl rfl
theorem d_M_isLoose_100 : ∃ off : Int, decode q_M_isLoose.2.1 100 = .ok (.goto off, 3) ∧ ((100 : Nat) : Int) + off = ((31 : Nat) : Int) := ⟨-69, vm_db b_M_isLoose_0 (i := 54) rfl, by decide⟩
theorem d_M_isLoose_68 : vm_D q_M_isLoose.2.1 68 2 70 (.iload 4) := vm_dD b_M_isLoose_0 37 rfl rfl
theorem d_M_isLoose_70 : vm_D q_M_isLoose.2.1 70 1 71 (.iconst (-1)) := vm_dD b_M_isLoose_0 38 rfl rfl
theorem d_M_isLoose_71 : vm_B q_M_isLoose.2.1 71 74 93 (fun o => .if_icmp .eq o) := ⟨22, vm_db b_M_isLoose_0 (i := 39) rfl, rfl, by decide⟩
theorem d_M_isLoose_93 : vm_D q_M_isLoose.2.1 93 2 95 (.iload 6) := vm_dD b_M_isLoose_0 51 rfl rfl
theorem d_M_isLoose_95 : vm_D q_M_isLoose.2.1 95 2 97 (.istore 4) := vm_dD b_M_isLoose_0 52 rfl rfl
theorem d_M_isLoose_74 : vm_D q_M_isLoose.2.1 74 1 75 (.aload_n 0) := vm_dD b_M_isLoose_0 40 rfl rfl
theorem d_M_isLoose_75 : vm_D q_M_isLoose.2.1 75 3 78 (.getfield 115) := vm_dD b_M_isLoose_0 41 rfl rfl
theorem d_M_isLoose_78 : vm_D q_M_isLoose.2.1 78 1 79 (.aload_n 0) := vm_dD b_M_isLoose_0 42 rfl rfl
theorem d_M_isLoose_79 : vm_D q_M_isLoose.2.1 79 2 81 (.iload 4) := vm_dD b_M_isLoose_0 43 rfl rfl
theorem d_M_isLoose_81 : vm_D q_M_isLoose.2.1 81 3 84 (.invokevirtual 356) := vm_dD b_M_isLoose_0 44 rfl rfl
theorem d_M_isLoose_84 : vm_D q_M_isLoose.2.1 84 1 85 (.aload_n 0) := vm_dD b_M_isLoose_0 45 rfl rfl
theorem d_M_isLoose_85 : vm_D q_M_isLoose.2.1 85 1 86 (.iconst 3) := vm_dD b_M_isLoose_0 46 rfl rfl
theorem d_M_isLoose_86 : vm_D q_M_isLoose.2.1 86 2 88 (.iload 6) := vm_dD b_M_isLoose_0 47 rfl rfl
theorem d_M_isLoose_88 : vm_D q_M_isLoose.2.1 88 1 89 (.iadd) := vm_dD b_M_isLoose_0 48 rfl rfl
theorem d_M_isLoose_89 : vm_D q_M_isLoose.2.1 89 3 92 (.invokevirtual 356) := vm_dD b_M_isLoose_0 49 rfl rfl
theorem d_M_isLoose_92 : vm_D q_M_isLoose.2.1 92 1 93 (.iastore) := vm_dD b_M_isLoose_0 50 rfl rfl
theorem d_M_isLoose_65 : ∃ off : Int, decode q_M_isLoose.2.1 65 = .ok (.goto off, 3) ∧ ((65 : Nat) : Int) + off = ((97 : Nat) : Int) := ⟨32, vm_db b_M_isLoose_0 (i := 36) rfl, by decide⟩
theorem d_M_isLoose_103 : vm_D q_M_isLoose.2.1 103 1 104 (.iconst 0) := vm_dD b_M_isLoose_0 55 rfl rfl
theorem d_M_isLoose_104 : vm_D q_M_isLoose.2.1 104 2 106 (.istore 5) := vm_dD b_M_isLoose_0 56 rfl rfl
theorem d_M_isLoose_106 : vm_D q_M_isLoose.2.1 106 2 108 (.iload 5) := vm_dD b_M_isLoose_0 57 rfl rfl
theorem d_M_isLoose_108 : vm_D q_M_isLoose.2.1 108 1 109 (.iconst 3) := vm_dD b_M_isLoose_0 58 rfl rfl
theorem d_M_isLoose_109 : vm_B q_M_isLoose.2.1 109 112 172 (fun o => .if_icmp .ge o) := ⟨63, vm_db b_M_isLoose_0 (i := 59) rfl, rfl, by decide⟩
theorem d_M_isLoose_112 : vm_D q_M_isLoose.2.1 112 1 113 (.iconst 0) := vm_dD b_M_isLoose_1 0 rfl rfl
theorem d_M_isLoose_113 : vm_D q_M_isLoose.2.1 113 2 115 (.istore 6) := vm_dD b_M_isLoose_1 1 rfl rfl
theorem d_M_isLoose_115 : vm_D q_M_isLoose.2.1 115 2 117 (.iload 6) := vm_dD b_M_isLoose_1 2 rfl rfl
theorem d_M_isLoose_117 : vm_D q_M_isLoose.2.1 117 1 118 (.iconst 3) := vm_dD b_M_isLoose_1 3 rfl rfl
theorem d_M_isLoose_118 : vm_B q_M_isLoose.2.1 118 121 166 (fun o => .if_icmp .ge o) := ⟨48, vm_db b_M_isLoose_1 (i := 4) rfl, rfl, by decide⟩
theorem d_M_isLoose_121 : vm_D q_M_isLoose.2.1 121 1 122 (.iload_n 3) := vm_dD b_M_isLoose_1 5 rfl rfl
theorem d_M_isLoose_122 : vm_D q_M_isLoose.2.1 122 2 124 (.iload 5) := vm_dD b_M_isLoose_1 6 rfl rfl
theorem d_M_isLoose_124 : vm_D q_M_isLoose.2.1 124 1 125 (.ishr) := vm_dD b_M_isLoose_1 7 rfl rfl
theorem d_M_isLoose_125 : vm_D q_M_isLoose.2.1 125 1 126 (.iconst 1) := vm_dD b_M_isLoose_1 8 rfl rfl
theorem d_M_isLoose_126 : vm_D q_M_isLoose.2.1 126 1 127 (.iand) := vm_dD b_M_isLoose_1 9 rfl rfl
theorem d_M_isLoose_127 : vm_D q_M_isLoose.2.1 127 1 128 (.iconst 1) := vm_dD b_M_isLoose_1 10 rfl rfl
theorem d_M_isLoose_128 : vm_B q_M_isLoose.2.1 128 131 160 (fun o => .if_icmp .ne o) := ⟨32, vm_db b_M_isLoose_1 (i := 11) rfl, rfl, by decide⟩
theorem d_M_isLoose_160 : vm_D q_M_isLoose.2.1 160 3 163 (.iinc 6 1) := vm_dD b_M_isLoose_1 30 rfl rfl
theorem d_M_isLoose_163 : ∃ off : Int, decode q_M_isLoose.2.1 163 = .ok (.goto off, 3) ∧ ((163 : Nat) : Int) + off = ((115 : Nat) : Int) := ⟨-48, vm_db b_M_isLoose_1 (i := 31) rfl, by decide⟩
theorem d_M_isLoose_131 : vm_D q_M_isLoose.2.1 131 1 132 (.iload_n 3) := vm_dD b_M_isLoose_1 12 rfl rfl
theorem d_M_isLoose_132 : vm_D q_M_isLoose.2.1 132 2 134 (.iload 6) := vm_dD b_M_isLoose_1 13 rfl rfl
theorem d_M_isLoose_134 : vm_D q_M_isLoose.2.1 134 1 135 (.ishr) := vm_dD b_M_isLoose_1 14 rfl rfl
theorem d_M_isLoose_135 : vm_D q_M_isLoose.2.1 135 1 136 (.iconst 1) := vm_dD b_M_isLoose_1 15 rfl rfl
theorem d_M_isLoose_136 : vm_D q_M_isLoose.2.1 136 1 137 (.iand) := vm_dD b_M_isLoose_1 16 rfl rfl
theorem d_M_isLoose_137 : vm_D q_M_isLoose.2.1 137 1 138 (.iconst 1) := vm_dD b_M_isLoose_1 17 rfl rfl
theorem d_M_isLoose_138 : vm_B q_M_isLoose.2.1 138 141 160 (fun o => .if_icmp .ne o) := ⟨22, vm_db b_M_isLoose_1 (i := 18) rfl, rfl, by decide⟩
theorem d_M_isLoose_141 : vm_D q_M_isLoose.2.1 141 1 142 (.aload_n 0) := vm_dD b_M_isLoose_1 19 rfl rfl
theorem d_M_isLoose_142 : vm_D q_M_isLoose.2.1 142 2 144 (.iload 5) := vm_dD b_M_isLoose_1 20 rfl rfl
theorem d_M_isLoose_144 : vm_D q_M_isLoose.2.1 144 3 147 (.invokevirtual 356) := vm_dD b_M_isLoose_1 21 rfl rfl
theorem d_M_isLoose_147 : vm_D q_M_isLoose.2.1 147 1 148 (.aload_n 0) := vm_dD b_M_isLoose_1 22 rfl rfl
theorem d_M_isLoose_148 : vm_D q_M_isLoose.2.1 148 1 149 (.iconst 3) := vm_dD b_M_isLoose_1 23 rfl rfl
theorem d_M_isLoose_149 : vm_D q_M_isLoose.2.1 149 2 151 (.iload 6) := vm_dD b_M_isLoose_1 24 rfl rfl
theorem d_M_isLoose_151 : vm_D q_M_isLoose.2.1 151 1 152 (.iadd) := vm_dD b_M_isLoose_1 25 rfl rfl
theorem d_M_isLoose_152 : vm_D q_M_isLoose.2.1 152 3 155 (.invokevirtual 356) := vm_dD b_M_isLoose_1 26 rfl rfl
theorem d_M_isLoose_155 : vm_B q_M_isLoose.2.1 155 158 160 (fun o => .if_icmp .ne o) := ⟨5, vm_db b_M_isLoose_1 (i := 27) rfl, rfl, by decide⟩
theorem d_M_isLoose_158 : vm_D q_M_isLoose.2.1 158 1 159 (.iconst 0) := vm_dD b_M_isLoose_1 28 rfl rfl
theorem d_M_isLoose_159 : vm_D q_M_isLoose.2.1 159 1 160 (.ireturn) := vm_dD b_M_isLoose_1 29 rfl rfl
theorem d_M_isLoose_166 : vm_D q_M_isLoose.2.1 166 3 169 (.iinc 5 1) := vm_dD b_M_isLoose_1 32 rfl rfl
theorem d_M_isLoose_169 : ∃ off : Int, decode q_M_isLoose.2.1 169 = .ok (.goto off, 3) ∧ ((169 : Nat) : Int) + off = ((106 : Nat) : Int) := ⟨-63, vm_db b_M_isLoose_1 (i := 33) rfl, by decide⟩
theorem d_M_isLoose_172 : vm_D q_M_isLoose.2.1 172 1 173 (.iconst 1) := vm_dD b_M_isLoose_1 34 rfl rfl
theorem d_M_isLoose_173 : vm_D q_M_isLoose.2.1 173 1 174 (.ireturn) := vm_dD b_M_isLoose_1 35 rfl rfl
def q_M_cannotBe : vm_Y := ("RepeatFreeModel", cX11_cannotBe, 6, false, [])
def t_M_cannotBe_0 : List (Nat × Instr × Nat) := [(0, .iconst 0, 1), (1, .istore_n 3, 1), (2, .iconst 0, 1), (3, .istore 4, 2), (5, .iload 4, 2), (7, .aload_n 0, 1), (8, .getfield 77, 3), (11, .sipush 166, 3), (14, .iload_n 1, 1), (15, .iadd, 1), (16, .iaload, 1), (17, .if_icmp .ge 31, 3), (20, .iload_n 3, 1), (21, .iload_n 2, 1), (22, .aload_n 0, 1), (23, .iload_n 1, 1), (24, .iload 4, 2), (26, .invokevirtual 202, 3), (29, .ishr, 1), (30, .iconst 1, 1), (31, .iand, 1), (32, .ifCond .ne 7, 3), (35, .iconst 1, 1), (36, .goto 4, 3), (39, .iconst 0, 1), (40, .iadd, 1), (41, .istore_n 3, 1), (42, .iinc 4 1, 3), (45, .goto (-40), 3), (48, .iload_n 3, 1), (49, .iconst 1, 1), (50, .if_icmp .ne 5, 3), (53, .iconst 1, 1), (54, .ireturn, 1), (55, .aload_n 0, 1), (56, .iload_n 1, 1), (57, .invokevirtual 359, 3), (60, .iload_n 2, 1), (61, .iconst (-1), 1), (62, .ixor, 1), (63, .iand, 1), (64, .istore 4, 2), (66, .iconst 1, 1), (67, .istore 5, 2), (69, .iload 5, 2), (71, .iload 4, 2), (73, .if_icmp .ge 44, 3), (76, .iload 5, 2), (78, .iload 4, 2), (80, .iconst (-1), 1), (81, .ixor, 1), (82, .iand, 1), (83, .ifCond .ne 28, 3), (86, .aload_n 0, 1), (87, .iload_n 1, 1), (88, .iload_n 2, 1), (89, .iload 5, 2), (91, .invokevirtual 362, 3), (94, .ifCond .eq 17, 3), (97, .aload_n 0, 1)]
theorem b_M_cannotBe_0 : (t_M_cannotBe_0.all fun q => decide (decode q_M_cannotBe.2.1 q.1 = .ok (q.2.1, q.2.2))) = true := by decide +kernel
def t_M_cannotBe_1 : List (Nat × Instr × Nat) := [(98, .iload_n 1, 1), (99, .iload_n 2, 1), (100, .iload 5, 2), (102, .ior, 1), (103, .invokevirtual 365, 3), (106, .ifCond .eq 5, 3), (109, .iconst 1, 1), (110, .ireturn, 1), (111, .iinc 5 1, 3), (114, .goto (-45), 3), (117, .iconst 0, 1), (118, .ireturn, 1)]
theorem b_M_cannotBe_1 : (t_M_cannotBe_1.all fun q => decide (decode q_M_cannotBe.2.1 q.1 = .ok (q.2.1, q.2.2))) = true := by decide +kernel
theorem d_M_cannotBe_0 : vm_D q_M_cannotBe.2.1 0 1 1 (.iconst 0) := vm_dD b_M_cannotBe_0 0 rfl rfl
theorem d_M_cannotBe_1 : vm_D q_M_cannotBe.2.1 1 1 2 (.istore_n 3) := vm_dD b_M_cannotBe_0 1 rfl rfl
theorem d_M_cannotBe_2 : vm_D q_M_cannotBe.2.1 2 1 3 (.iconst 0) := vm_dD b_M_cannotBe_0 2 rfl rfl
theorem d_M_cannotBe_3 : vm_D q_M_cannotBe.2.1 3 2 5 (.istore 4) := vm_dD b_M_cannotBe_0 3 rfl rfl
theorem d_M_cannotBe_5 : vm_D q_M_cannotBe.2.1 5 2 7 (.iload 4) := vm_dD b_M_cannotBe_0 4 rfl rfl
theorem d_M_cannotBe_7 : vm_D q_M_cannotBe.2.1 7 1 8 (.aload_n 0) := vm_dD b_M_cannotBe_0 5 rfl rfl
theorem d_M_cannotBe_8 : vm_D q_M_cannotBe.2.1 8 3 11 (.getfield 77) := vm_dD b_M_cannotBe_0 6 rfl rfl
theorem d_M_cannotBe_11 : vm_D q_M_cannotBe.2.1 11 3 14 (.sipush 166) := vm_dD b_M_cannotBe_0 7 rfl rfl
theorem d_M_cannotBe_14 : vm_D q_M_cannotBe.2.1 14 1 15 (.iload_n 1) := vm_dD b_M_cannotBe_0 8 rfl rfl
theorem d_M_cannotBe_15 : vm_D q_M_cannotBe.2.1 15 1 16 (.iadd) := vm_dD b_M_cannotBe_0 9 rfl rfl
theorem d_M_cannotBe_16 : vm_D q_M_cannotBe.2.1 16 1 17 (.iaload) := vm_dD b_M_cannotBe_0 10 rfl rfl
theorem d_M_cannotBe_17 : vm_B q_M_cannotBe.2.1 17 20 48 (fun o => .if_icmp .ge o) := ⟨31, vm_db b_M_cannotBe_0 (i := 11) rfl, rfl, by decide⟩
theorem d_M_cannotBe_20 : vm_D q_M_cannotBe.2.1 20 1 21 (.iload_n 3) := vm_dD b_M_cannotBe_0 12 rfl rfl
theorem d_M_cannotBe_21 : vm_D q_M_cannotBe.2.1 21 1 22 (.iload_n 2) := vm_dD b_M_cannotBe_0 13 rfl rfl
theorem d_M_cannotBe_22 : vm_D q_M_cannotBe.2.1 22 1 23 (.aload_n 0) := vm_dD b_M_cannotBe_0 14 rfl rfl
theorem d_M_cannotBe_23 : vm_D q_M_cannotBe.2.1 23 1 24 (.iload_n 1) := vm_dD b_M_cannotBe_0 15 rfl rfl
theorem d_M_cannotBe_24 : vm_D q_M_cannotBe.2.1 24 2 26 (.iload 4) := vm_dD b_M_cannotBe_0 16 rfl rfl
theorem d_M_cannotBe_26 : vm_D q_M_cannotBe.2.1 26 3 29 (.invokevirtual 202) := vm_dD b_M_cannotBe_0 17 rfl rfl
theorem d_M_cannotBe_29 : vm_D q_M_cannotBe.2.1 29 1 30 (.ishr) := vm_dD b_M_cannotBe_0 18 rfl rfl
theorem d_M_cannotBe_30 : vm_D q_M_cannotBe.2.1 30 1 31 (.iconst 1) := vm_dD b_M_cannotBe_0 19 rfl rfl
theorem d_M_cannotBe_31 : vm_D q_M_cannotBe.2.1 31 1 32 (.iand) := vm_dD b_M_cannotBe_0 20 rfl rfl
theorem d_M_cannotBe_32 : vm_B q_M_cannotBe.2.1 32 35 39 (fun o => .ifCond .ne o) := ⟨7, vm_db b_M_cannotBe_0 (i := 21) rfl, rfl, by decide⟩
theorem d_M_cannotBe_40 : vm_D q_M_cannotBe.2.1 40 1 41 (.iadd) := vm_dD b_M_cannotBe_0 25 rfl rfl
theorem d_M_cannotBe_41 : vm_D q_M_cannotBe.2.1 41 1 42 (.istore_n 3) := vm_dD b_M_cannotBe_0 26 rfl rfl
theorem d_M_cannotBe_42 : vm_D q_M_cannotBe.2.1 42 3 45 (.iinc 4 1) := vm_dD b_M_cannotBe_0 27 rfl rfl
theorem d_M_cannotBe_45 : ∃ off : Int, decode q_M_cannotBe.2.1 45 = .ok (.goto off, 3) ∧ ((45 : Nat) : Int) + off = ((5 : Nat) : Int) := ⟨-40, vm_db b_M_cannotBe_0 (i := 28) rfl, by decide⟩
theorem d_M_cannotBe_39 : vm_D q_M_cannotBe.2.1 39 1 40 (.iconst 0) := vm_dD b_M_cannotBe_0 24 rfl rfl
theorem d_M_cannotBe_35 : vm_D q_M_cannotBe.2.1 35 1 36 (.iconst 1) := vm_dD b_M_cannotBe_0 22 rfl rfl
theorem d_M_cannotBe_36 : ∃ off : Int, decode q_M_cannotBe.2.1 36 = .ok (.goto off, 3) ∧ ((36 : Nat) : Int) + off = ((40 : Nat) : Int) := ⟨4, vm_db b_M_cannotBe_0 (i := 23) rfl, by decide⟩
theorem d_M_cannotBe_48 : vm_D q_M_cannotBe.2.1 48 1 49 (.iload_n 3) := vm_dD b_M_cannotBe_0 29 rfl rfl
theorem d_M_cannotBe_49 : vm_D q_M_cannotBe.2.1 49 1 50 (.iconst 1) := vm_dD b_M_cannotBe_0 30 rfl rfl
theorem d_M_cannotBe_50 : vm_B q_M_cannotBe.2.1 50 53 55 (fun o => .if_icmp .ne o) := ⟨5, vm_db b_M_cannotBe_0 (i := 31) rfl, rfl, by decide⟩
theorem d_M_cannotBe_55 : vm_D q_M_cannotBe.2.1 55 1 56 (.aload_n 0) := vm_dD b_M_cannotBe_0 34 rfl rfl
theorem d_M_cannotBe_56 : vm_D q_M_cannotBe.2.1 56 1 57 (.iload_n 1) := vm_dD b_M_cannotBe_0 35 rfl rfl
theorem d_M_cannotBe_57 : vm_D q_M_cannotBe.2.1 57 3 60 (.invokevirtual 359) := vm_dD b_M_cannotBe_0 36 rfl rfl
theorem d_M_cannotBe_60 : vm_D q_M_cannotBe.2.1 60 1 61 (.iload_n 2) := vm_dD b_M_cannotBe_0 37 rfl rfl
theorem d_M_cannotBe_61 : vm_D q_M_cannotBe.2.1 61 1 62 (.iconst (-1)) := vm_dD b_M_cannotBe_0 38 rfl rfl
theorem d_M_cannotBe_62 : vm_D q_M_cannotBe.2.1 62 1 63 (.ixor) := vm_dD b_M_cannotBe_0 39 rfl rfl
theorem d_M_cannotBe_63 : vm_D q_M_cannotBe.2.1 63 1 64 (.iand) := vm_dD b_M_cannotBe_0 40 rfl rfl
theorem d_M_cannotBe_64 : vm_D q_M_cannotBe.2.1 64 2 66 (.istore 4) := vm_dD b_M_cannotBe_0 41 rfl rfl
theorem d_M_cannotBe_66 : vm_D q_M_cannotBe.2.1 66 1 67 (.iconst 1) := vm_dD b_M_cannotBe_0 42 rfl rfl
theorem d_M_cannotBe_67 : vm_D q_M_cannotBe.2.1 67 2 69 (.istore 5) := vm_dD b_M_cannotBe_0 43 rfl rfl
theorem d_M_cannotBe_69 : vm_D q_M_cannotBe.2.1 69 2 71 (.iload 5) := vm_dD b_M_cannotBe_0 44 rfl rfl
theorem d_M_cannotBe_71 : vm_D q_M_cannotBe.2.1 71 2 73 (.iload 4) := vm_dD b_M_cannotBe_0 45 rfl rfl
theorem d_M_cannotBe_73 : vm_B q_M_cannotBe.2.1 73 76 117 (fun o => .if_icmp .ge o) := ⟨44, vm_db b_M_cannotBe_0 (i := 46) rfl, rfl, by decide⟩
theorem d_M_cannotBe_76 : vm_D q_M_cannotBe.2.1 76 2 78 (.iload 5) := vm_dD b_M_cannotBe_0 47 rfl rfl
theorem d_M_cannotBe_78 : vm_D q_M_cannotBe.2.1 78 2 80 (.iload 4) := vm_dD b_M_cannotBe_0 48 rfl rfl
theorem d_M_cannotBe_80 : vm_D q_M_cannotBe.2.1 80 1 81 (.iconst (-1)) := vm_dD b_M_cannotBe_0 49 rfl rfl
theorem d_M_cannotBe_81 : vm_D q_M_cannotBe.2.1 81 1 82 (.ixor) := vm_dD b_M_cannotBe_0 50 rfl rfl
theorem d_M_cannotBe_82 : vm_D q_M_cannotBe.2.1 82 1 83 (.iand) := vm_dD b_M_cannotBe_0 51 rfl rfl
theorem d_M_cannotBe_83 : vm_B q_M_cannotBe.2.1 83 86 111 (fun o => .ifCond .ne o) := ⟨28, vm_db b_M_cannotBe_0 (i := 52) rfl, rfl, by decide⟩
theorem d_M_cannotBe_111 : vm_D q_M_cannotBe.2.1 111 3 114 (.iinc 5 1) := vm_dD b_M_cannotBe_1 8 rfl rfl
theorem d_M_cannotBe_114 : ∃ off : Int, decode q_M_cannotBe.2.1 114 = .ok (.goto off, 3) ∧ ((114 : Nat) : Int) + off = ((69 : Nat) : Int) := ⟨-45, vm_db b_M_cannotBe_1 (i := 9) rfl, by decide⟩
theorem d_M_cannotBe_86 : vm_D q_M_cannotBe.2.1 86 1 87 (.aload_n 0) := vm_dD b_M_cannotBe_0 53 rfl rfl
theorem d_M_cannotBe_87 : vm_D q_M_cannotBe.2.1 87 1 88 (.iload_n 1) := vm_dD b_M_cannotBe_0 54 rfl rfl
theorem d_M_cannotBe_88 : vm_D q_M_cannotBe.2.1 88 1 89 (.iload_n 2) := vm_dD b_M_cannotBe_0 55 rfl rfl
theorem d_M_cannotBe_89 : vm_D q_M_cannotBe.2.1 89 2 91 (.iload 5) := vm_dD b_M_cannotBe_0 56 rfl rfl
theorem d_M_cannotBe_91 : vm_D q_M_cannotBe.2.1 91 3 94 (.invokevirtual 362) := vm_dD b_M_cannotBe_0 57 rfl rfl
theorem d_M_cannotBe_94 : vm_B q_M_cannotBe.2.1 94 97 111 (fun o => .ifCond .eq o) := ⟨17, vm_db b_M_cannotBe_0 (i := 58) rfl, rfl, by decide⟩
theorem d_M_cannotBe_97 : vm_D q_M_cannotBe.2.1 97 1 98 (.aload_n 0) := vm_dD b_M_cannotBe_0 59 rfl rfl
theorem d_M_cannotBe_98 : vm_D q_M_cannotBe.2.1 98 1 99 (.iload_n 1) := vm_dD b_M_cannotBe_1 0 rfl rfl
theorem d_M_cannotBe_99 : vm_D q_M_cannotBe.2.1 99 1 100 (.iload_n 2) := vm_dD b_M_cannotBe_1 1 rfl rfl
theorem d_M_cannotBe_100 : vm_D q_M_cannotBe.2.1 100 2 102 (.iload 5) := vm_dD b_M_cannotBe_1 2 rfl rfl
theorem d_M_cannotBe_102 : vm_D q_M_cannotBe.2.1 102 1 103 (.ior) := vm_dD b_M_cannotBe_1 3 rfl rfl
theorem d_M_cannotBe_103 : vm_D q_M_cannotBe.2.1 103 3 106 (.invokevirtual 365) := vm_dD b_M_cannotBe_1 4 rfl rfl
theorem d_M_cannotBe_106 : vm_B q_M_cannotBe.2.1 106 109 111 (fun o => .ifCond .eq o) := ⟨5, vm_db b_M_cannotBe_1 (i := 5) rfl, rfl, by decide⟩
theorem d_M_cannotBe_109 : vm_D q_M_cannotBe.2.1 109 1 110 (.iconst 1) := vm_dD b_M_cannotBe_1 6 rfl rfl
theorem d_M_cannotBe_110 : vm_D q_M_cannotBe.2.1 110 1 111 (.ireturn) := vm_dD b_M_cannotBe_1 7 rfl rfl
theorem d_M_cannotBe_117 : vm_D q_M_cannotBe.2.1 117 1 118 (.iconst 0) := vm_dD b_M_cannotBe_1 10 rfl rfl
theorem d_M_cannotBe_118 : vm_D q_M_cannotBe.2.1 118 1 119 (.ireturn) := vm_dD b_M_cannotBe_1 11 rfl rfl
theorem d_M_cannotBe_53 : vm_D q_M_cannotBe.2.1 53 1 54 (.iconst 1) := vm_dD b_M_cannotBe_0 32 rfl rfl
theorem d_M_cannotBe_54 : vm_D q_M_cannotBe.2.1 54 1 55 (.ireturn) := vm_dD b_M_cannotBe_0 33 rfl rfl
def q_M_cannot : vm_Y := ("RepeatFreeModel", cX11_cannot, 2, false, [])
def t_M_cannot_0 : List (Nat × Instr × Nat) := [(0, .aload_n 0, 1), (1, .iconst 0, 1), (2, .putfield 3, 3), (5, .aload_n 0, 1), (6, .iload_n 1, 1), (7, .invokevirtual 353, 3), (10, .ifCond .ne 16, 3), (13, .aload_n 0, 1), (14, .iload_n 1, 1), (15, .iconst 0, 1), (16, .invokevirtual 365, 3), (19, .ifCond .eq 7, 3), (22, .iconst 1, 1), (23, .goto 4, 3), (26, .iconst 0, 1), (27, .ireturn, 1)]
theorem b_M_cannot_0 : (t_M_cannot_0.all fun q => decide (decode q_M_cannot.2.1 q.1 = .ok (q.2.1, q.2.2))) = true := by decide +kernel
theorem d_M_cannot_0 : vm_D q_M_cannot.2.1 0 1 1 (.aload_n 0) := vm_dD b_M_cannot_0 0 rfl rfl
theorem d_M_cannot_1 : vm_D q_M_cannot.2.1 1 1 2 (.iconst 0) := vm_dD b_M_cannot_0 1 rfl rfl
theorem d_M_cannot_2 : vm_D q_M_cannot.2.1 2 3 5 (.putfield 3) := vm_dD b_M_cannot_0 2 rfl rfl
theorem d_M_cannot_5 : vm_D q_M_cannot.2.1 5 1 6 (.aload_n 0) := vm_dD b_M_cannot_0 3 rfl rfl
theorem d_M_cannot_6 : vm_D q_M_cannot.2.1 6 1 7 (.iload_n 1) := vm_dD b_M_cannot_0 4 rfl rfl
theorem d_M_cannot_7 : vm_D q_M_cannot.2.1 7 3 10 (.invokevirtual 353) := vm_dD b_M_cannot_0 5 rfl rfl
theorem d_M_cannot_10 : vm_B q_M_cannot.2.1 10 13 26 (fun o => .ifCond .ne o) := ⟨16, vm_db b_M_cannot_0 (i := 6) rfl, rfl, by decide⟩
theorem d_M_cannot_26 : vm_D q_M_cannot.2.1 26 1 27 (.iconst 0) := vm_dD b_M_cannot_0 14 rfl rfl
theorem d_M_cannot_27 : vm_D q_M_cannot.2.1 27 1 28 (.ireturn) := vm_dD b_M_cannot_0 15 rfl rfl
theorem d_M_cannot_13 : vm_D q_M_cannot.2.1 13 1 14 (.aload_n 0) := vm_dD b_M_cannot_0 7 rfl rfl
theorem d_M_cannot_14 : vm_D q_M_cannot.2.1 14 1 15 (.iload_n 1) := vm_dD b_M_cannot_0 8 rfl rfl
theorem d_M_cannot_15 : vm_D q_M_cannot.2.1 15 1 16 (.iconst 0) := vm_dD b_M_cannot_0 9 rfl rfl
theorem d_M_cannot_16 : vm_D q_M_cannot.2.1 16 3 19 (.invokevirtual 365) := vm_dD b_M_cannot_0 10 rfl rfl
theorem d_M_cannot_19 : vm_B q_M_cannot.2.1 19 22 26 (fun o => .ifCond .eq o) := ⟨7, vm_db b_M_cannot_0 (i := 11) rfl, rfl, by decide⟩
theorem d_M_cannot_22 : vm_D q_M_cannot.2.1 22 1 23 (.iconst 1) := vm_dD b_M_cannot_0 12 rfl rfl
theorem d_M_cannot_23 : ∃ off : Int, decode q_M_cannot.2.1 23 = .ok (.goto off, 3) ∧ ((23 : Nat) : Int) + off = ((27 : Nat) : Int) := ⟨4, vm_db b_M_cannot_0 (i := 13) rfl, by decide⟩
def q_M_loose : vm_Y := ("RepeatFreeModel", cX11_loose, 5, false, [])
def t_M_loose_0 : List (Nat × Instr × Nat) := [(0, .aload_n 0, 1), (1, .iconst 0, 1), (2, .putfield 3, 3), (5, .aload_n 0, 1), (6, .iload_n 1, 1), (7, .invokevirtual 353, 3), (10, .ifCond .eq 5, 3), (13, .iconst 0, 1), (14, .ireturn, 1), (15, .iconst 0, 1), (16, .istore_n 3, 1), (17, .iconst 1, 1), (18, .istore 4, 2), (20, .iload 4, 2), (22, .bipush 8, 2), (24, .if_icmp .ge 47, 3), (27, .iload 4, 2), (29, .aload_n 0, 1), (30, .iload_n 1, 1), (31, .invokevirtual 359, 3), (34, .iconst (-1), 1), (35, .ixor, 1), (36, .iand, 1), (37, .ifCond .ne 28, 3), (40, .aload_n 0, 1), (41, .iload_n 1, 1), (42, .iconst 0, 1), (43, .iload 4, 2), (45, .invokevirtual 362, 3), (48, .ifCond .ne 6, 3), (51, .goto 14, 3), (54, .iload_n 3, 1), (55, .iload_n 2, 1), (56, .if_icmp .ne 6, 3), (59, .iload 4, 2), (61, .ireturn, 1), (62, .iinc 3 1, 3), (65, .iinc 4 1, 3), (68, .goto (-48), 3), (71, .iload_n 2, 1), (72, .iconst (-1), 1), (73, .if_icmp .ne 7, 3), (76, .iload_n 3, 1), (77, .goto 4, 3), (80, .iconst (-1), 1), (81, .ireturn, 1)]
theorem b_M_loose_0 : (t_M_loose_0.all fun q => decide (decode q_M_loose.2.1 q.1 = .ok (q.2.1, q.2.2))) = true := by decide +kernel
theorem d_M_loose_0 : vm_D q_M_loose.2.1 0 1 1 (.aload_n 0) := vm_dD b_M_loose_0 0 rfl rfl
theorem d_M_loose_1 : vm_D q_M_loose.2.1 1 1 2 (.iconst 0) := vm_dD b_M_loose_0 1 rfl rfl
theorem d_M_loose_2 : vm_D q_M_loose.2.1 2 3 5 (.putfield 3) := vm_dD b_M_loose_0 2 rfl rfl
theorem d_M_loose_5 : vm_D q_M_loose.2.1 5 1 6 (.aload_n 0) := vm_dD b_M_loose_0 3 rfl rfl
theorem d_M_loose_6 : vm_D q_M_loose.2.1 6 1 7 (.iload_n 1) := vm_dD b_M_loose_0 4 rfl rfl
theorem d_M_loose_7 : vm_D q_M_loose.2.1 7 3 10 (.invokevirtual 353) := vm_dD b_M_loose_0 5 rfl rfl
theorem d_M_loose_10 : vm_B q_M_loose.2.1 10 13 15 (fun o => .ifCond .eq o) := ⟨5, vm_db b_M_loose_0 (i := 6) rfl, rfl, by decide⟩
theorem d_M_loose_15 : vm_D q_M_loose.2.1 15 1 16 (.iconst 0) := vm_dD b_M_loose_0 9 rfl rfl
theorem d_M_loose_16 : vm_D q_M_loose.2.1 16 1 17 (.istore_n 3) := vm_dD b_M_loose_0 10 rfl rfl
theorem d_M_loose_17 : vm_D q_M_loose.2.1 17 1 18 (.iconst 1) := vm_dD b_M_loose_0 11 rfl rfl
theorem d_M_loose_18 : vm_D q_M_loose.2.1 18 2 20 (.istore 4) := vm_dD b_M_loose_0 12 rfl rfl
theorem d_M_loose_20 : vm_D q_M_loose.2.1 20 2 22 (.iload 4) := vm_dD b_M_loose_0 13 rfl rfl
theorem d_M_loose_22 : vm_D q_M_loose.2.1 22 2 24 (.bipush 8) := vm_dD b_M_loose_0 14 rfl rfl
theorem d_M_loose_24 : vm_B q_M_loose.2.1 24 27 71 (fun o => .if_icmp .ge o) := ⟨47, vm_db b_M_loose_0 (i := 15) rfl, rfl, by decide⟩
theorem d_M_loose_27 : vm_D q_M_loose.2.1 27 2 29 (.iload 4) := vm_dD b_M_loose_0 16 rfl rfl
theorem d_M_loose_29 : vm_D q_M_loose.2.1 29 1 30 (.aload_n 0) := vm_dD b_M_loose_0 17 rfl rfl
theorem d_M_loose_30 : vm_D q_M_loose.2.1 30 1 31 (.iload_n 1) := vm_dD b_M_loose_0 18 rfl rfl
theorem d_M_loose_31 : vm_D q_M_loose.2.1 31 3 34 (.invokevirtual 359) := vm_dD b_M_loose_0 19 rfl rfl
theorem d_M_loose_34 : vm_D q_M_loose.2.1 34 1 35 (.iconst (-1)) := vm_dD b_M_loose_0 20 rfl rfl
theorem d_M_loose_35 : vm_D q_M_loose.2.1 35 1 36 (.ixor) := vm_dD b_M_loose_0 21 rfl rfl
theorem d_M_loose_36 : vm_D q_M_loose.2.1 36 1 37 (.iand) := vm_dD b_M_loose_0 22 rfl rfl
theorem d_M_loose_37 : vm_B q_M_loose.2.1 37 40 65 (fun o => .ifCond .ne o) := ⟨28, vm_db b_M_loose_0 (i := 23) rfl, rfl, by decide⟩
theorem d_M_loose_65 : vm_D q_M_loose.2.1 65 3 68 (.iinc 4 1) := vm_dD b_M_loose_0 37 rfl rfl
theorem d_M_loose_68 : ∃ off : Int, decode q_M_loose.2.1 68 = .ok (.goto off, 3) ∧ ((68 : Nat) : Int) + off = ((20 : Nat) : Int) := ⟨-48, vm_db b_M_loose_0 (i := 38) rfl, by decide⟩
theorem d_M_loose_40 : vm_D q_M_loose.2.1 40 1 41 (.aload_n 0) := vm_dD b_M_loose_0 24 rfl rfl
theorem d_M_loose_41 : vm_D q_M_loose.2.1 41 1 42 (.iload_n 1) := vm_dD b_M_loose_0 25 rfl rfl
theorem d_M_loose_42 : vm_D q_M_loose.2.1 42 1 43 (.iconst 0) := vm_dD b_M_loose_0 26 rfl rfl
theorem d_M_loose_43 : vm_D q_M_loose.2.1 43 2 45 (.iload 4) := vm_dD b_M_loose_0 27 rfl rfl
theorem d_M_loose_45 : vm_D q_M_loose.2.1 45 3 48 (.invokevirtual 362) := vm_dD b_M_loose_0 28 rfl rfl
theorem d_M_loose_48 : vm_B q_M_loose.2.1 48 51 54 (fun o => .ifCond .ne o) := ⟨6, vm_db b_M_loose_0 (i := 29) rfl, rfl, by decide⟩
theorem d_M_loose_54 : vm_D q_M_loose.2.1 54 1 55 (.iload_n 3) := vm_dD b_M_loose_0 31 rfl rfl
theorem d_M_loose_55 : vm_D q_M_loose.2.1 55 1 56 (.iload_n 2) := vm_dD b_M_loose_0 32 rfl rfl
theorem d_M_loose_56 : vm_B q_M_loose.2.1 56 59 62 (fun o => .if_icmp .ne o) := ⟨6, vm_db b_M_loose_0 (i := 33) rfl, rfl, by decide⟩
theorem d_M_loose_62 : vm_D q_M_loose.2.1 62 3 65 (.iinc 3 1) := vm_dD b_M_loose_0 36 rfl rfl
theorem d_M_loose_59 : vm_D q_M_loose.2.1 59 2 61 (.iload 4) := vm_dD b_M_loose_0 34 rfl rfl
theorem d_M_loose_61 : vm_D q_M_loose.2.1 61 1 62 (.ireturn) := vm_dD b_M_loose_0 35 rfl rfl
theorem d_M_loose_51 : ∃ off : Int, decode q_M_loose.2.1 51 = .ok (.goto off, 3) ∧ ((51 : Nat) : Int) + off = ((65 : Nat) : Int) := ⟨14, vm_db b_M_loose_0 (i := 30) rfl, by decide⟩
theorem d_M_loose_71 : vm_D q_M_loose.2.1 71 1 72 (.iload_n 2) := vm_dD b_M_loose_0 39 rfl rfl
theorem d_M_loose_72 : vm_D q_M_loose.2.1 72 1 73 (.iconst (-1)) := vm_dD b_M_loose_0 40 rfl rfl
theorem d_M_loose_73 : vm_B q_M_loose.2.1 73 76 80 (fun o => .if_icmp .ne o) := ⟨7, vm_db b_M_loose_0 (i := 41) rfl, rfl, by decide⟩
theorem d_M_loose_80 : vm_D q_M_loose.2.1 80 1 81 (.iconst (-1)) := vm_dD b_M_loose_0 44 rfl rfl
theorem d_M_loose_81 : vm_D q_M_loose.2.1 81 1 82 (.ireturn) := vm_dD b_M_loose_0 45 rfl rfl
theorem d_M_loose_76 : vm_D q_M_loose.2.1 76 1 77 (.iload_n 3) := vm_dD b_M_loose_0 42 rfl rfl
theorem d_M_loose_77 : ∃ off : Int, decode q_M_loose.2.1 77 = .ok (.goto off, 3) ∧ ((77 : Nat) : Int) + off = ((81 : Nat) : Int) := ⟨4, vm_db b_M_loose_0 (i := 43) rfl, by decide⟩
theorem d_M_loose_13 : vm_D q_M_loose.2.1 13 1 14 (.iconst 0) := vm_dD b_M_loose_0 7 rfl rfl
theorem d_M_loose_14 : vm_D q_M_loose.2.1 14 1 15 (.ireturn) := vm_dD b_M_loose_0 8 rfl rfl
def q_M_pattern : vm_Y := ("RepeatFreeModel", cX11_pattern, 3, false, [])
def t_M_pattern_0 : List (Nat × Instr × Nat) := [(0, .aload_n 0, 1), (1, .iconst 0, 1), (2, .putfield 3, 3), (5, .aload_n 0, 1), (6, .iload_n 1, 1), (7, .invokevirtual 353, 3), (10, .ifCond .ne 25, 3), (13, .aload_n 0, 1), (14, .iload_n 2, 1), (15, .iconst 0, 1), (16, .iconst 2, 1), (17, .invokestatic 65, 3), (20, .ifCond .ne 7, 3), (23, .iconst 1, 1), (24, .goto 4, 3), (27, .iconst 0, 1), (28, .iconst 2, 1), (29, .invokevirtual 180, 3), (32, .ifCond .eq 5, 3), (35, .iconst 0, 1), (36, .ireturn, 1), (37, .iload_n 2, 1), (38, .ifCond .ne 16, 3), (41, .aload_n 0, 1), (42, .getfield 77, 3), (45, .sipush 166, 3), (48, .iload_n 1, 1), (49, .iadd, 1), (50, .iaload, 1), (51, .goto 26, 3), (54, .iload_n 2, 1), (55, .iconst 1, 1), (56, .if_icmp .ne 11, 3), (59, .aload_n 0, 1), (60, .iload_n 1, 1), (61, .invokevirtual 359, 3), (64, .goto 13, 3), (67, .aload_n 0, 1), (68, .getfield 77, 3), (71, .sipush 194, 3), (74, .iload_n 1, 1), (75, .iadd, 1), (76, .iaload, 1), (77, .ireturn, 1)]
theorem b_M_pattern_0 : (t_M_pattern_0.all fun q => decide (decode q_M_pattern.2.1 q.1 = .ok (q.2.1, q.2.2))) = true := by decide +kernel
theorem d_M_pattern_0 : vm_D q_M_pattern.2.1 0 1 1 (.aload_n 0) := vm_dD b_M_pattern_0 0 rfl rfl
theorem d_M_pattern_1 : vm_D q_M_pattern.2.1 1 1 2 (.iconst 0) := vm_dD b_M_pattern_0 1 rfl rfl
theorem d_M_pattern_2 : vm_D q_M_pattern.2.1 2 3 5 (.putfield 3) := vm_dD b_M_pattern_0 2 rfl rfl
theorem d_M_pattern_5 : vm_D q_M_pattern.2.1 5 1 6 (.aload_n 0) := vm_dD b_M_pattern_0 3 rfl rfl
theorem d_M_pattern_6 : vm_D q_M_pattern.2.1 6 1 7 (.iload_n 1) := vm_dD b_M_pattern_0 4 rfl rfl
theorem d_M_pattern_7 : vm_D q_M_pattern.2.1 7 3 10 (.invokevirtual 353) := vm_dD b_M_pattern_0 5 rfl rfl
theorem d_M_pattern_10 : vm_B q_M_pattern.2.1 10 13 35 (fun o => .ifCond .ne o) := ⟨25, vm_db b_M_pattern_0 (i := 6) rfl, rfl, by decide⟩
theorem d_M_pattern_35 : vm_D q_M_pattern.2.1 35 1 36 (.iconst 0) := vm_dD b_M_pattern_0 19 rfl rfl
theorem d_M_pattern_36 : vm_D q_M_pattern.2.1 36 1 37 (.ireturn) := vm_dD b_M_pattern_0 20 rfl rfl
theorem d_M_pattern_13 : vm_D q_M_pattern.2.1 13 1 14 (.aload_n 0) := vm_dD b_M_pattern_0 7 rfl rfl
theorem d_M_pattern_14 : vm_D q_M_pattern.2.1 14 1 15 (.iload_n 2) := vm_dD b_M_pattern_0 8 rfl rfl
theorem d_M_pattern_15 : vm_D q_M_pattern.2.1 15 1 16 (.iconst 0) := vm_dD b_M_pattern_0 9 rfl rfl
theorem d_M_pattern_16 : vm_D q_M_pattern.2.1 16 1 17 (.iconst 2) := vm_dD b_M_pattern_0 10 rfl rfl
theorem d_M_pattern_17 : vm_D q_M_pattern.2.1 17 3 20 (.invokestatic 65) := vm_dD b_M_pattern_0 11 rfl rfl
theorem d_M_pattern_20 : vm_B q_M_pattern.2.1 20 23 27 (fun o => .ifCond .ne o) := ⟨7, vm_db b_M_pattern_0 (i := 12) rfl, rfl, by decide⟩
theorem d_M_pattern_28 : vm_D q_M_pattern.2.1 28 1 29 (.iconst 2) := vm_dD b_M_pattern_0 16 rfl rfl
theorem d_M_pattern_29 : vm_D q_M_pattern.2.1 29 3 32 (.invokevirtual 180) := vm_dD b_M_pattern_0 17 rfl rfl
theorem d_M_pattern_32 : vm_B q_M_pattern.2.1 32 35 37 (fun o => .ifCond .eq o) := ⟨5, vm_db b_M_pattern_0 (i := 18) rfl, rfl, by decide⟩
theorem d_M_pattern_37 : vm_D q_M_pattern.2.1 37 1 38 (.iload_n 2) := vm_dD b_M_pattern_0 21 rfl rfl
theorem d_M_pattern_38 : vm_B q_M_pattern.2.1 38 41 54 (fun o => .ifCond .ne o) := ⟨16, vm_db b_M_pattern_0 (i := 22) rfl, rfl, by decide⟩
theorem d_M_pattern_54 : vm_D q_M_pattern.2.1 54 1 55 (.iload_n 2) := vm_dD b_M_pattern_0 30 rfl rfl
theorem d_M_pattern_55 : vm_D q_M_pattern.2.1 55 1 56 (.iconst 1) := vm_dD b_M_pattern_0 31 rfl rfl
theorem d_M_pattern_56 : vm_B q_M_pattern.2.1 56 59 67 (fun o => .if_icmp .ne o) := ⟨11, vm_db b_M_pattern_0 (i := 32) rfl, rfl, by decide⟩
theorem d_M_pattern_67 : vm_D q_M_pattern.2.1 67 1 68 (.aload_n 0) := vm_dD b_M_pattern_0 37 rfl rfl
theorem d_M_pattern_68 : vm_D q_M_pattern.2.1 68 3 71 (.getfield 77) := vm_dD b_M_pattern_0 38 rfl rfl
theorem d_M_pattern_71 : vm_D q_M_pattern.2.1 71 3 74 (.sipush 194) := vm_dD b_M_pattern_0 39 rfl rfl
theorem d_M_pattern_74 : vm_D q_M_pattern.2.1 74 1 75 (.iload_n 1) := vm_dD b_M_pattern_0 40 rfl rfl
theorem d_M_pattern_75 : vm_D q_M_pattern.2.1 75 1 76 (.iadd) := vm_dD b_M_pattern_0 41 rfl rfl
theorem d_M_pattern_76 : vm_D q_M_pattern.2.1 76 1 77 (.iaload) := vm_dD b_M_pattern_0 42 rfl rfl
theorem d_M_pattern_77 : vm_D q_M_pattern.2.1 77 1 78 (.ireturn) := vm_dD b_M_pattern_0 43 rfl rfl
theorem d_M_pattern_59 : vm_D q_M_pattern.2.1 59 1 60 (.aload_n 0) := vm_dD b_M_pattern_0 33 rfl rfl
theorem d_M_pattern_60 : vm_D q_M_pattern.2.1 60 1 61 (.iload_n 1) := vm_dD b_M_pattern_0 34 rfl rfl
theorem d_M_pattern_61 : vm_D q_M_pattern.2.1 61 3 64 (.invokevirtual 359) := vm_dD b_M_pattern_0 35 rfl rfl
theorem d_M_pattern_64 : ∃ off : Int, decode q_M_pattern.2.1 64 = .ok (.goto off, 3) ∧ ((64 : Nat) : Int) + off = ((77 : Nat) : Int) := ⟨13, vm_db b_M_pattern_0 (i := 36) rfl, by decide⟩
theorem d_M_pattern_41 : vm_D q_M_pattern.2.1 41 1 42 (.aload_n 0) := vm_dD b_M_pattern_0 23 rfl rfl
theorem d_M_pattern_42 : vm_D q_M_pattern.2.1 42 3 45 (.getfield 77) := vm_dD b_M_pattern_0 24 rfl rfl
theorem d_M_pattern_45 : vm_D q_M_pattern.2.1 45 3 48 (.sipush 166) := vm_dD b_M_pattern_0 25 rfl rfl
theorem d_M_pattern_48 : vm_D q_M_pattern.2.1 48 1 49 (.iload_n 1) := vm_dD b_M_pattern_0 26 rfl rfl
theorem d_M_pattern_49 : vm_D q_M_pattern.2.1 49 1 50 (.iadd) := vm_dD b_M_pattern_0 27 rfl rfl
theorem d_M_pattern_50 : vm_D q_M_pattern.2.1 50 1 51 (.iaload) := vm_dD b_M_pattern_0 28 rfl rfl
theorem d_M_pattern_51 : ∃ off : Int, decode q_M_pattern.2.1 51 = .ok (.goto off, 3) ∧ ((51 : Nat) : Int) + off = ((77 : Nat) : Int) := ⟨26, vm_db b_M_pattern_0 (i := 29) rfl, by decide⟩
theorem d_M_pattern_27 : vm_D q_M_pattern.2.1 27 1 28 (.iconst 0) := vm_dD b_M_pattern_0 15 rfl rfl
theorem d_M_pattern_23 : vm_D q_M_pattern.2.1 23 1 24 (.iconst 1) := vm_dD b_M_pattern_0 13 rfl rfl
theorem d_M_pattern_24 : ∃ off : Int, decode q_M_pattern.2.1 24 = .ok (.goto off, 3) ∧ ((24 : Nat) : Int) + off = ((28 : Nat) : Int) := ⟨4, vm_db b_M_pattern_0 (i := 14) rfl, by decide⟩
def q_M_limit : vm_Y := ("RepeatFreeModel", cX11_limit, 5, false, [])
def t_M_limit_0 : List (Nat × Instr × Nat) := [(0, .aload_n 0, 1), (1, .iconst 0, 1), (2, .putfield 3, 3), (5, .aload_n 0, 1), (6, .iload_n 1, 1), (7, .iconst 0, 1), (8, .iconst 2, 1), (9, .invokestatic 65, 3), (12, .ifCond .eq 23, 3), (15, .iload_n 2, 1), (16, .iconst 1, 1), (17, .bipush 99, 2), (19, .invokestatic 65, 3), (22, .ifCond .eq 13, 3), (25, .iload_n 3, 1), (26, .iconst 1, 1), (27, .bipush 9, 2), (29, .invokestatic 65, 3), (32, .ifCond .ne 7, 3), (35, .iconst 1, 1), (36, .goto 4, 3), (39, .iconst 0, 1), (40, .iconst 1, 1), (41, .invokevirtual 180, 3), (44, .ifCond .eq 5, 3), (47, .iconst 0, 1), (48, .ireturn, 1), (49, .aload_n 0, 1), (50, .getfield 77, 3), (53, .iconst 1, 1), (54, .iaload, 1), (55, .istore 4, 2), (57, .aload_n 0, 1), (58, .getfield 77, 3), (61, .iconst 1, 1), (62, .iload_n 1, 1), (63, .iastore, 1), (64, .aload_n 0, 1), (65, .getfield 77, 3), (68, .iconst 2, 1), (69, .iload_n 1, 1), (70, .ifCond .ne 7, 3), (73, .iconst 0, 1), (74, .goto 4, 3), (77, .iload_n 2, 1), (78, .iastore, 1), (79, .aload_n 0, 1), (80, .getfield 77, 3), (83, .iconst 3, 1), (84, .iload_n 1, 1), (85, .ifCond .ne 7, 3), (88, .iconst 0, 1), (89, .goto 4, 3), (92, .iload_n 3, 1), (93, .iastore, 1), (94, .iload 4, 2), (96, .ireturn, 1)]
theorem b_M_limit_0 : (t_M_limit_0.all fun q => decide (decode q_M_limit.2.1 q.1 = .ok (q.2.1, q.2.2))) = true := by decide +kernel
theorem d_M_limit_0 : vm_D q_M_limit.2.1 0 1 1 (.aload_n 0) := vm_dD b_M_limit_0 0 rfl rfl
theorem d_M_limit_1 : vm_D q_M_limit.2.1 1 1 2 (.iconst 0) := vm_dD b_M_limit_0 1 rfl rfl
theorem d_M_limit_2 : vm_D q_M_limit.2.1 2 3 5 (.putfield 3) := vm_dD b_M_limit_0 2 rfl rfl
theorem d_M_limit_5 : vm_D q_M_limit.2.1 5 1 6 (.aload_n 0) := vm_dD b_M_limit_0 3 rfl rfl
theorem d_M_limit_6 : vm_D q_M_limit.2.1 6 1 7 (.iload_n 1) := vm_dD b_M_limit_0 4 rfl rfl
theorem d_M_limit_7 : vm_D q_M_limit.2.1 7 1 8 (.iconst 0) := vm_dD b_M_limit_0 5 rfl rfl
theorem d_M_limit_8 : vm_D q_M_limit.2.1 8 1 9 (.iconst 2) := vm_dD b_M_limit_0 6 rfl rfl
theorem d_M_limit_9 : vm_D q_M_limit.2.1 9 3 12 (.invokestatic 65) := vm_dD b_M_limit_0 7 rfl rfl
theorem d_M_limit_12 : vm_B q_M_limit.2.1 12 15 35 (fun o => .ifCond .eq o) := ⟨23, vm_db b_M_limit_0 (i := 8) rfl, rfl, by decide⟩
theorem d_M_limit_40 : vm_D q_M_limit.2.1 40 1 41 (.iconst 1) := vm_dD b_M_limit_0 22 rfl rfl
theorem d_M_limit_41 : vm_D q_M_limit.2.1 41 3 44 (.invokevirtual 180) := vm_dD b_M_limit_0 23 rfl rfl
theorem d_M_limit_44 : vm_B q_M_limit.2.1 44 47 49 (fun o => .ifCond .eq o) := ⟨5, vm_db b_M_limit_0 (i := 24) rfl, rfl, by decide⟩
theorem d_M_limit_49 : vm_D q_M_limit.2.1 49 1 50 (.aload_n 0) := vm_dD b_M_limit_0 27 rfl rfl
theorem d_M_limit_50 : vm_D q_M_limit.2.1 50 3 53 (.getfield 77) := vm_dD b_M_limit_0 28 rfl rfl
theorem d_M_limit_53 : vm_D q_M_limit.2.1 53 1 54 (.iconst 1) := vm_dD b_M_limit_0 29 rfl rfl
theorem d_M_limit_54 : vm_D q_M_limit.2.1 54 1 55 (.iaload) := vm_dD b_M_limit_0 30 rfl rfl
theorem d_M_limit_55 : vm_D q_M_limit.2.1 55 2 57 (.istore 4) := vm_dD b_M_limit_0 31 rfl rfl
theorem d_M_limit_57 : vm_D q_M_limit.2.1 57 1 58 (.aload_n 0) := vm_dD b_M_limit_0 32 rfl rfl
theorem d_M_limit_58 : vm_D q_M_limit.2.1 58 3 61 (.getfield 77) := vm_dD b_M_limit_0 33 rfl rfl
theorem d_M_limit_61 : vm_D q_M_limit.2.1 61 1 62 (.iconst 1) := vm_dD b_M_limit_0 34 rfl rfl
theorem d_M_limit_62 : vm_D q_M_limit.2.1 62 1 63 (.iload_n 1) := vm_dD b_M_limit_0 35 rfl rfl
theorem d_M_limit_63 : vm_D q_M_limit.2.1 63 1 64 (.iastore) := vm_dD b_M_limit_0 36 rfl rfl
theorem d_M_limit_64 : vm_D q_M_limit.2.1 64 1 65 (.aload_n 0) := vm_dD b_M_limit_0 37 rfl rfl
theorem d_M_limit_65 : vm_D q_M_limit.2.1 65 3 68 (.getfield 77) := vm_dD b_M_limit_0 38 rfl rfl
theorem d_M_limit_68 : vm_D q_M_limit.2.1 68 1 69 (.iconst 2) := vm_dD b_M_limit_0 39 rfl rfl
theorem d_M_limit_69 : vm_D q_M_limit.2.1 69 1 70 (.iload_n 1) := vm_dD b_M_limit_0 40 rfl rfl
theorem d_M_limit_70 : vm_B q_M_limit.2.1 70 73 77 (fun o => .ifCond .ne o) := ⟨7, vm_db b_M_limit_0 (i := 41) rfl, rfl, by decide⟩
theorem d_M_limit_78 : vm_D q_M_limit.2.1 78 1 79 (.iastore) := vm_dD b_M_limit_0 45 rfl rfl
theorem d_M_limit_79 : vm_D q_M_limit.2.1 79 1 80 (.aload_n 0) := vm_dD b_M_limit_0 46 rfl rfl
theorem d_M_limit_80 : vm_D q_M_limit.2.1 80 3 83 (.getfield 77) := vm_dD b_M_limit_0 47 rfl rfl
theorem d_M_limit_83 : vm_D q_M_limit.2.1 83 1 84 (.iconst 3) := vm_dD b_M_limit_0 48 rfl rfl
theorem d_M_limit_84 : vm_D q_M_limit.2.1 84 1 85 (.iload_n 1) := vm_dD b_M_limit_0 49 rfl rfl
theorem d_M_limit_85 : vm_B q_M_limit.2.1 85 88 92 (fun o => .ifCond .ne o) := ⟨7, vm_db b_M_limit_0 (i := 50) rfl, rfl, by decide⟩
theorem d_M_limit_93 : vm_D q_M_limit.2.1 93 1 94 (.iastore) := vm_dD b_M_limit_0 54 rfl rfl
theorem d_M_limit_94 : vm_D q_M_limit.2.1 94 2 96 (.iload 4) := vm_dD b_M_limit_0 55 rfl rfl
theorem d_M_limit_96 : vm_D q_M_limit.2.1 96 1 97 (.ireturn) := vm_dD b_M_limit_0 56 rfl rfl
theorem d_M_limit_92 : vm_D q_M_limit.2.1 92 1 93 (.iload_n 3) := vm_dD b_M_limit_0 53 rfl rfl
theorem d_M_limit_88 : vm_D q_M_limit.2.1 88 1 89 (.iconst 0) := vm_dD b_M_limit_0 51 rfl rfl
theorem d_M_limit_89 : ∃ off : Int, decode q_M_limit.2.1 89 = .ok (.goto off, 3) ∧ ((89 : Nat) : Int) + off = ((93 : Nat) : Int) := ⟨4, vm_db b_M_limit_0 (i := 52) rfl, by decide⟩
theorem d_M_limit_77 : vm_D q_M_limit.2.1 77 1 78 (.iload_n 2) := vm_dD b_M_limit_0 44 rfl rfl
theorem d_M_limit_73 : vm_D q_M_limit.2.1 73 1 74 (.iconst 0) := vm_dD b_M_limit_0 42 rfl rfl
theorem d_M_limit_74 : ∃ off : Int, decode q_M_limit.2.1 74 = .ok (.goto off, 3) ∧ ((74 : Nat) : Int) + off = ((78 : Nat) : Int) := ⟨4, vm_db b_M_limit_0 (i := 43) rfl, by decide⟩
theorem d_M_limit_47 : vm_D q_M_limit.2.1 47 1 48 (.iconst 0) := vm_dD b_M_limit_0 25 rfl rfl
theorem d_M_limit_48 : vm_D q_M_limit.2.1 48 1 49 (.ireturn) := vm_dD b_M_limit_0 26 rfl rfl
theorem d_M_limit_35 : vm_D q_M_limit.2.1 35 1 36 (.iconst 1) := vm_dD b_M_limit_0 19 rfl rfl
theorem d_M_limit_36 : ∃ off : Int, decode q_M_limit.2.1 36 = .ok (.goto off, 3) ∧ ((36 : Nat) : Int) + off = ((40 : Nat) : Int) := ⟨4, vm_db b_M_limit_0 (i := 20) rfl, by decide⟩
theorem d_M_limit_15 : vm_D q_M_limit.2.1 15 1 16 (.iload_n 2) := vm_dD b_M_limit_0 9 rfl rfl
theorem d_M_limit_16 : vm_D q_M_limit.2.1 16 1 17 (.iconst 1) := vm_dD b_M_limit_0 10 rfl rfl
theorem d_M_limit_17 : vm_D q_M_limit.2.1 17 2 19 (.bipush 99) := vm_dD b_M_limit_0 11 rfl rfl
theorem d_M_limit_19 : vm_D q_M_limit.2.1 19 3 22 (.invokestatic 65) := vm_dD b_M_limit_0 12 rfl rfl
theorem d_M_limit_22 : vm_B q_M_limit.2.1 22 25 35 (fun o => .ifCond .eq o) := ⟨13, vm_db b_M_limit_0 (i := 13) rfl, rfl, by decide⟩
theorem d_M_limit_25 : vm_D q_M_limit.2.1 25 1 26 (.iload_n 3) := vm_dD b_M_limit_0 14 rfl rfl
theorem d_M_limit_26 : vm_D q_M_limit.2.1 26 1 27 (.iconst 1) := vm_dD b_M_limit_0 15 rfl rfl
theorem d_M_limit_27 : vm_D q_M_limit.2.1 27 2 29 (.bipush 9) := vm_dD b_M_limit_0 16 rfl rfl
theorem d_M_limit_29 : vm_D q_M_limit.2.1 29 3 32 (.invokestatic 65) := vm_dD b_M_limit_0 17 rfl rfl
theorem d_M_limit_32 : vm_B q_M_limit.2.1 32 35 39 (fun o => .ifCond .ne o) := ⟨7, vm_db b_M_limit_0 (i := 18) rfl, rfl, by decide⟩
theorem d_M_limit_39 : vm_D q_M_limit.2.1 39 1 40 (.iconst 0) := vm_dD b_M_limit_0 21 rfl rfl
def q_M_avoid : vm_Y := ("RepeatFreeModel", cX11_avoid, 4, false, [])
def t_M_avoid_0 : List (Nat × Instr × Nat) := [(0, .aload_n 0, 1), (1, .iconst 0, 1), (2, .putfield 3, 3), (5, .aload_n 0, 1), (6, .iload_n 1, 1), (7, .invokevirtual 353, 3), (10, .ifCond .eq 5, 3), (13, .iconst 0, 1), (14, .ireturn, 1), (15, .aload_n 0, 1), (16, .getfield 77, 3), (19, .sipush 194, 3), (22, .iload_n 1, 1), (23, .iadd, 1), (24, .iaload, 1), (25, .iconst 1, 1), (26, .if_icmp .ne 7, 3), (29, .iconst 1, 1), (30, .goto 4, 3), (33, .iconst 0, 1), (34, .istore_n 3, 1), (35, .aload_n 0, 1), (36, .getfield 77, 3), (39, .sipush 194, 3), (42, .iload_n 1, 1), (43, .iadd, 1), (44, .iload_n 2, 1), (45, .ifCond .eq 7, 3), (48, .iconst 1, 1), (49, .goto 4, 3), (52, .iconst 0, 1), (53, .iastore, 1), (54, .iload_n 3, 1), (55, .ireturn, 1)]
theorem b_M_avoid_0 : (t_M_avoid_0.all fun q => decide (decode q_M_avoid.2.1 q.1 = .ok (q.2.1, q.2.2))) = true := by decide +kernel
theorem d_M_avoid_0 : vm_D q_M_avoid.2.1 0 1 1 (.aload_n 0) := vm_dD b_M_avoid_0 0 rfl rfl
theorem d_M_avoid_1 : vm_D q_M_avoid.2.1 1 1 2 (.iconst 0) := vm_dD b_M_avoid_0 1 rfl rfl
theorem d_M_avoid_2 : vm_D q_M_avoid.2.1 2 3 5 (.putfield 3) := vm_dD b_M_avoid_0 2 rfl rfl
theorem d_M_avoid_5 : vm_D q_M_avoid.2.1 5 1 6 (.aload_n 0) := vm_dD b_M_avoid_0 3 rfl rfl
theorem d_M_avoid_6 : vm_D q_M_avoid.2.1 6 1 7 (.iload_n 1) := vm_dD b_M_avoid_0 4 rfl rfl
theorem d_M_avoid_7 : vm_D q_M_avoid.2.1 7 3 10 (.invokevirtual 353) := vm_dD b_M_avoid_0 5 rfl rfl
theorem d_M_avoid_10 : vm_B q_M_avoid.2.1 10 13 15 (fun o => .ifCond .eq o) := ⟨5, vm_db b_M_avoid_0 (i := 6) rfl, rfl, by decide⟩
theorem d_M_avoid_15 : vm_D q_M_avoid.2.1 15 1 16 (.aload_n 0) := vm_dD b_M_avoid_0 9 rfl rfl
theorem d_M_avoid_16 : vm_D q_M_avoid.2.1 16 3 19 (.getfield 77) := vm_dD b_M_avoid_0 10 rfl rfl
theorem d_M_avoid_19 : vm_D q_M_avoid.2.1 19 3 22 (.sipush 194) := vm_dD b_M_avoid_0 11 rfl rfl
theorem d_M_avoid_22 : vm_D q_M_avoid.2.1 22 1 23 (.iload_n 1) := vm_dD b_M_avoid_0 12 rfl rfl
theorem d_M_avoid_23 : vm_D q_M_avoid.2.1 23 1 24 (.iadd) := vm_dD b_M_avoid_0 13 rfl rfl
theorem d_M_avoid_24 : vm_D q_M_avoid.2.1 24 1 25 (.iaload) := vm_dD b_M_avoid_0 14 rfl rfl
theorem d_M_avoid_25 : vm_D q_M_avoid.2.1 25 1 26 (.iconst 1) := vm_dD b_M_avoid_0 15 rfl rfl
theorem d_M_avoid_26 : vm_B q_M_avoid.2.1 26 29 33 (fun o => .if_icmp .ne o) := ⟨7, vm_db b_M_avoid_0 (i := 16) rfl, rfl, by decide⟩
theorem d_M_avoid_34 : vm_D q_M_avoid.2.1 34 1 35 (.istore_n 3) := vm_dD b_M_avoid_0 20 rfl rfl
theorem d_M_avoid_35 : vm_D q_M_avoid.2.1 35 1 36 (.aload_n 0) := vm_dD b_M_avoid_0 21 rfl rfl
theorem d_M_avoid_36 : vm_D q_M_avoid.2.1 36 3 39 (.getfield 77) := vm_dD b_M_avoid_0 22 rfl rfl
theorem d_M_avoid_39 : vm_D q_M_avoid.2.1 39 3 42 (.sipush 194) := vm_dD b_M_avoid_0 23 rfl rfl
theorem d_M_avoid_42 : vm_D q_M_avoid.2.1 42 1 43 (.iload_n 1) := vm_dD b_M_avoid_0 24 rfl rfl
theorem d_M_avoid_43 : vm_D q_M_avoid.2.1 43 1 44 (.iadd) := vm_dD b_M_avoid_0 25 rfl rfl
theorem d_M_avoid_44 : vm_D q_M_avoid.2.1 44 1 45 (.iload_n 2) := vm_dD b_M_avoid_0 26 rfl rfl
theorem d_M_avoid_45 : vm_B q_M_avoid.2.1 45 48 52 (fun o => .ifCond .eq o) := ⟨7, vm_db b_M_avoid_0 (i := 27) rfl, rfl, by decide⟩
theorem d_M_avoid_53 : vm_D q_M_avoid.2.1 53 1 54 (.iastore) := vm_dD b_M_avoid_0 31 rfl rfl
theorem d_M_avoid_54 : vm_D q_M_avoid.2.1 54 1 55 (.iload_n 3) := vm_dD b_M_avoid_0 32 rfl rfl
theorem d_M_avoid_55 : vm_D q_M_avoid.2.1 55 1 56 (.ireturn) := vm_dD b_M_avoid_0 33 rfl rfl
theorem d_M_avoid_52 : vm_D q_M_avoid.2.1 52 1 53 (.iconst 0) := vm_dD b_M_avoid_0 30 rfl rfl
theorem d_M_avoid_48 : vm_D q_M_avoid.2.1 48 1 49 (.iconst 1) := vm_dD b_M_avoid_0 28 rfl rfl
theorem d_M_avoid_49 : ∃ off : Int, decode q_M_avoid.2.1 49 = .ok (.goto off, 3) ∧ ((49 : Nat) : Int) + off = ((53 : Nat) : Int) := ⟨4, vm_db b_M_avoid_0 (i := 29) rfl, by decide⟩
theorem d_M_avoid_33 : vm_D q_M_avoid.2.1 33 1 34 (.iconst 0) := vm_dD b_M_avoid_0 19 rfl rfl
theorem d_M_avoid_29 : vm_D q_M_avoid.2.1 29 1 30 (.iconst 1) := vm_dD b_M_avoid_0 17 rfl rfl
theorem d_M_avoid_30 : ∃ off : Int, decode q_M_avoid.2.1 30 = .ok (.goto off, 3) ∧ ((30 : Nat) : Int) + off = ((34 : Nat) : Int) := ⟨4, vm_db b_M_avoid_0 (i := 18) rfl, by decide⟩
theorem d_M_avoid_13 : vm_D q_M_avoid.2.1 13 1 14 (.iconst 0) := vm_dD b_M_avoid_0 7 rfl rfl
theorem d_M_avoid_14 : vm_D q_M_avoid.2.1 14 1 15 (.ireturn) := vm_dD b_M_avoid_0 8 rfl rfl
def q_M_count : vm_Y := ("RepeatFreeModel", cX11_count, 4, false, [])
def t_M_count_0 : List (Nat × Instr × Nat) := [(0, .aload_n 0, 1), (1, .iconst 0, 1), (2, .putfield 3, 3), (5, .iconst 0, 1), (6, .istore_n 2, 1), (7, .iconst 0, 1), (8, .istore_n 3, 1), (9, .iload_n 3, 1), (10, .aload_n 0, 1), (11, .getfield 77, 3), (14, .iconst 5, 1), (15, .iaload, 1), (16, .if_icmp .ge 22, 3), (19, .iload_n 2, 1), (20, .aload_n 0, 1), (21, .getfield 77, 3), (24, .sipush 194, 3), (27, .iload_n 3, 1), (28, .iadd, 1), (29, .iaload, 1), (30, .iadd, 1), (31, .istore_n 2, 1), (32, .iinc 3 1, 3), (35, .goto (-26), 3), (38, .iload_n 1, 1), (39, .tableswitch 103 0 8 #[49, 56, 63, 70, 72, 77, 82, 89, 96], 49), (88, .aload_n 0, 1), (89, .getfield 77, 3), (92, .iconst 0, 1), (93, .iaload, 1), (94, .ireturn, 1), (95, .aload_n 0, 1), (96, .getfield 77, 3), (99, .iconst 4, 1), (100, .iaload, 1), (101, .ireturn, 1), (102, .aload_n 0, 1), (103, .getfield 77, 3), (106, .iconst 5, 1), (107, .iaload, 1), (108, .ireturn, 1), (109, .iload_n 2, 1), (110, .ireturn, 1), (111, .aload_n 0, 1), (112, .getfield 184, 3), (115, .ireturn, 1), (116, .aload_n 0, 1), (117, .getfield 187, 3), (120, .ireturn, 1), (121, .aload_n 0, 1), (122, .getfield 77, 3), (125, .iconst 2, 1), (126, .iaload, 1), (127, .ireturn, 1), (128, .aload_n 0, 1), (129, .getfield 77, 3), (132, .iconst 3, 1), (133, .iaload, 1), (134, .ireturn, 1), (135, .aload_n 0, 1)]
theorem b_M_count_0 : (t_M_count_0.all fun q => decide (decode q_M_count.2.1 q.1 = .ok (q.2.1, q.2.2))) = true := by decide +kernel
def t_M_count_1 : List (Nat × Instr × Nat) := [(136, .getfield 77, 3), (139, .iconst 1, 1), (140, .iaload, 1), (141, .ireturn, 1), (142, .iconst (-1), 1), (143, .ireturn, 1)]
theorem b_M_count_1 : (t_M_count_1.all fun q => decide (decode q_M_count.2.1 q.1 = .ok (q.2.1, q.2.2))) = true := by decide +kernel
theorem d_M_count_0 : vm_D q_M_count.2.1 0 1 1 (.aload_n 0) := vm_dD b_M_count_0 0 rfl rfl
theorem d_M_count_1 : vm_D q_M_count.2.1 1 1 2 (.iconst 0) := vm_dD b_M_count_0 1 rfl rfl
theorem d_M_count_2 : vm_D q_M_count.2.1 2 3 5 (.putfield 3) := vm_dD b_M_count_0 2 rfl rfl
theorem d_M_count_5 : vm_D q_M_count.2.1 5 1 6 (.iconst 0) := vm_dD b_M_count_0 3 rfl rfl
theorem d_M_count_6 : vm_D q_M_count.2.1 6 1 7 (.istore_n 2) := vm_dD b_M_count_0 4 rfl rfl
theorem d_M_count_7 : vm_D q_M_count.2.1 7 1 8 (.iconst 0) := vm_dD b_M_count_0 5 rfl rfl
theorem d_M_count_8 : vm_D q_M_count.2.1 8 1 9 (.istore_n 3) := vm_dD b_M_count_0 6 rfl rfl
theorem d_M_count_9 : vm_D q_M_count.2.1 9 1 10 (.iload_n 3) := vm_dD b_M_count_0 7 rfl rfl
theorem d_M_count_10 : vm_D q_M_count.2.1 10 1 11 (.aload_n 0) := vm_dD b_M_count_0 8 rfl rfl
theorem d_M_count_11 : vm_D q_M_count.2.1 11 3 14 (.getfield 77) := vm_dD b_M_count_0 9 rfl rfl
theorem d_M_count_14 : vm_D q_M_count.2.1 14 1 15 (.iconst 5) := vm_dD b_M_count_0 10 rfl rfl
theorem d_M_count_15 : vm_D q_M_count.2.1 15 1 16 (.iaload) := vm_dD b_M_count_0 11 rfl rfl
theorem d_M_count_16 : vm_B q_M_count.2.1 16 19 38 (fun o => .if_icmp .ge o) := ⟨22, vm_db b_M_count_0 (i := 12) rfl, rfl, by decide⟩
theorem d_M_count_19 : vm_D q_M_count.2.1 19 1 20 (.iload_n 2) := vm_dD b_M_count_0 13 rfl rfl
theorem d_M_count_20 : vm_D q_M_count.2.1 20 1 21 (.aload_n 0) := vm_dD b_M_count_0 14 rfl rfl
theorem d_M_count_21 : vm_D q_M_count.2.1 21 3 24 (.getfield 77) := vm_dD b_M_count_0 15 rfl rfl
theorem d_M_count_24 : vm_D q_M_count.2.1 24 3 27 (.sipush 194) := vm_dD b_M_count_0 16 rfl rfl
theorem d_M_count_27 : vm_D q_M_count.2.1 27 1 28 (.iload_n 3) := vm_dD b_M_count_0 17 rfl rfl
theorem d_M_count_28 : vm_D q_M_count.2.1 28 1 29 (.iadd) := vm_dD b_M_count_0 18 rfl rfl
theorem d_M_count_29 : vm_D q_M_count.2.1 29 1 30 (.iaload) := vm_dD b_M_count_0 19 rfl rfl
theorem d_M_count_30 : vm_D q_M_count.2.1 30 1 31 (.iadd) := vm_dD b_M_count_0 20 rfl rfl
theorem d_M_count_31 : vm_D q_M_count.2.1 31 1 32 (.istore_n 2) := vm_dD b_M_count_0 21 rfl rfl
theorem d_M_count_32 : vm_D q_M_count.2.1 32 3 35 (.iinc 3 1) := vm_dD b_M_count_0 22 rfl rfl
theorem d_M_count_35 : ∃ off : Int, decode q_M_count.2.1 35 = .ok (.goto off, 3) ∧ ((35 : Nat) : Int) + off = ((9 : Nat) : Int) := ⟨-26, vm_db b_M_count_0 (i := 23) rfl, by decide⟩
theorem d_M_count_38 : vm_D q_M_count.2.1 38 1 39 (.iload_n 1) := vm_dD b_M_count_0 24 rfl rfl
theorem d_M_count_39 : decode q_M_count.2.1 39 = .ok (.tableswitch 103 0 8 #[49, 56, 63, 70, 72, 77, 82, 89, 96], 49) := vm_db b_M_count_0 (i := 25) rfl
theorem d_M_count_39_o : ∀ i, i < 9 → ∃ off : Int, (#[49, 56, 63, 70, 72, 77, 82, 89, 96] : Array Int)[i]? = some off ∧ ((39 : Nat) : Int) + off = ((([88, 95, 102, 109, 111, 116, 121, 128, 135] : List Nat).getD i 0 : Nat) : Int) := by
  intro i hi
  match i, hi with
  | 0, _ => exact ⟨_, rfl, rfl⟩
  | 1, _ => exact ⟨_, rfl, rfl⟩
  | 2, _ => exact ⟨_, rfl, rfl⟩
  | 3, _ => exact ⟨_, rfl, rfl⟩
  | 4, _ => exact ⟨_, rfl, rfl⟩
  | 5, _ => exact ⟨_, rfl, rfl⟩
  | 6, _ => exact ⟨_, rfl, rfl⟩
  | 7, _ => exact ⟨_, rfl, rfl⟩
  | 8, _ => exact ⟨_, rfl, rfl⟩
  | k + 9, hi => exact absurd hi (by omega)
theorem d_M_count_142 : vm_D q_M_count.2.1 142 1 143 (.iconst (-1)) := vm_dD b_M_count_1 4 rfl rfl
theorem d_M_count_143 : vm_D q_M_count.2.1 143 1 144 (.ireturn) := vm_dD b_M_count_1 5 rfl rfl
theorem d_M_count_88 : vm_D q_M_count.2.1 88 1 89 (.aload_n 0) := vm_dD b_M_count_0 26 rfl rfl
theorem d_M_count_89 : vm_D q_M_count.2.1 89 3 92 (.getfield 77) := vm_dD b_M_count_0 27 rfl rfl
theorem d_M_count_92 : vm_D q_M_count.2.1 92 1 93 (.iconst 0) := vm_dD b_M_count_0 28 rfl rfl
theorem d_M_count_93 : vm_D q_M_count.2.1 93 1 94 (.iaload) := vm_dD b_M_count_0 29 rfl rfl
theorem d_M_count_94 : vm_D q_M_count.2.1 94 1 95 (.ireturn) := vm_dD b_M_count_0 30 rfl rfl
theorem d_M_count_95 : vm_D q_M_count.2.1 95 1 96 (.aload_n 0) := vm_dD b_M_count_0 31 rfl rfl
theorem d_M_count_96 : vm_D q_M_count.2.1 96 3 99 (.getfield 77) := vm_dD b_M_count_0 32 rfl rfl
theorem d_M_count_99 : vm_D q_M_count.2.1 99 1 100 (.iconst 4) := vm_dD b_M_count_0 33 rfl rfl
theorem d_M_count_100 : vm_D q_M_count.2.1 100 1 101 (.iaload) := vm_dD b_M_count_0 34 rfl rfl
theorem d_M_count_101 : vm_D q_M_count.2.1 101 1 102 (.ireturn) := vm_dD b_M_count_0 35 rfl rfl
theorem d_M_count_102 : vm_D q_M_count.2.1 102 1 103 (.aload_n 0) := vm_dD b_M_count_0 36 rfl rfl
theorem d_M_count_103 : vm_D q_M_count.2.1 103 3 106 (.getfield 77) := vm_dD b_M_count_0 37 rfl rfl
theorem d_M_count_106 : vm_D q_M_count.2.1 106 1 107 (.iconst 5) := vm_dD b_M_count_0 38 rfl rfl
theorem d_M_count_107 : vm_D q_M_count.2.1 107 1 108 (.iaload) := vm_dD b_M_count_0 39 rfl rfl
theorem d_M_count_108 : vm_D q_M_count.2.1 108 1 109 (.ireturn) := vm_dD b_M_count_0 40 rfl rfl
theorem d_M_count_109 : vm_D q_M_count.2.1 109 1 110 (.iload_n 2) := vm_dD b_M_count_0 41 rfl rfl
theorem d_M_count_110 : vm_D q_M_count.2.1 110 1 111 (.ireturn) := vm_dD b_M_count_0 42 rfl rfl
theorem d_M_count_111 : vm_D q_M_count.2.1 111 1 112 (.aload_n 0) := vm_dD b_M_count_0 43 rfl rfl
theorem d_M_count_112 : vm_D q_M_count.2.1 112 3 115 (.getfield 184) := vm_dD b_M_count_0 44 rfl rfl
theorem d_M_count_115 : vm_D q_M_count.2.1 115 1 116 (.ireturn) := vm_dD b_M_count_0 45 rfl rfl
theorem d_M_count_116 : vm_D q_M_count.2.1 116 1 117 (.aload_n 0) := vm_dD b_M_count_0 46 rfl rfl
theorem d_M_count_117 : vm_D q_M_count.2.1 117 3 120 (.getfield 187) := vm_dD b_M_count_0 47 rfl rfl
theorem d_M_count_120 : vm_D q_M_count.2.1 120 1 121 (.ireturn) := vm_dD b_M_count_0 48 rfl rfl
theorem d_M_count_121 : vm_D q_M_count.2.1 121 1 122 (.aload_n 0) := vm_dD b_M_count_0 49 rfl rfl
theorem d_M_count_122 : vm_D q_M_count.2.1 122 3 125 (.getfield 77) := vm_dD b_M_count_0 50 rfl rfl
theorem d_M_count_125 : vm_D q_M_count.2.1 125 1 126 (.iconst 2) := vm_dD b_M_count_0 51 rfl rfl
theorem d_M_count_126 : vm_D q_M_count.2.1 126 1 127 (.iaload) := vm_dD b_M_count_0 52 rfl rfl
theorem d_M_count_127 : vm_D q_M_count.2.1 127 1 128 (.ireturn) := vm_dD b_M_count_0 53 rfl rfl
theorem d_M_count_128 : vm_D q_M_count.2.1 128 1 129 (.aload_n 0) := vm_dD b_M_count_0 54 rfl rfl
theorem d_M_count_129 : vm_D q_M_count.2.1 129 3 132 (.getfield 77) := vm_dD b_M_count_0 55 rfl rfl
theorem d_M_count_132 : vm_D q_M_count.2.1 132 1 133 (.iconst 3) := vm_dD b_M_count_0 56 rfl rfl
theorem d_M_count_133 : vm_D q_M_count.2.1 133 1 134 (.iaload) := vm_dD b_M_count_0 57 rfl rfl
theorem d_M_count_134 : vm_D q_M_count.2.1 134 1 135 (.ireturn) := vm_dD b_M_count_0 58 rfl rfl
theorem d_M_count_135 : vm_D q_M_count.2.1 135 1 136 (.aload_n 0) := vm_dD b_M_count_0 59 rfl rfl
theorem d_M_count_136 : vm_D q_M_count.2.1 136 3 139 (.getfield 77) := vm_dD b_M_count_1 0 rfl rfl
theorem d_M_count_139 : vm_D q_M_count.2.1 139 1 140 (.iconst 1) := vm_dD b_M_count_1 1 rfl rfl
theorem d_M_count_140 : vm_D q_M_count.2.1 140 1 141 (.iaload) := vm_dD b_M_count_1 2 rfl rfl
theorem d_M_count_141 : vm_D q_M_count.2.1 141 1 142 (.ireturn) := vm_dD b_M_count_1 3 rfl rfl
