def q_M_thrown : vm_Y := ("RepeatFreeModel", cX11_thrown, 1, false, [])
theorem d_M_thrown_0 : vm_D q_M_thrown.2.1 0 1 1 (.aload_n 0) := ⟨by decide +kernel, rfl⟩
theorem d_M_thrown_1 : vm_D q_M_thrown.2.1 1 3 4 (.getfield 3) := ⟨by decide +kernel, rfl⟩
theorem d_M_thrown_4 : vm_D q_M_thrown.2.1 4 1 5 (.ireturn) := ⟨by decide +kernel, rfl⟩
def q_M_throwsIf : vm_Y := ("RepeatFreeModel", cX11_throwsIf, 3, false, [])
theorem d_M_throwsIf_0 : vm_D q_M_throwsIf.2.1 0 1 1 (.iload_n 1) := ⟨by decide +kernel, rfl⟩
theorem d_M_throwsIf_1 : vm_B q_M_throwsIf.2.1 1 4 9 (fun o => .ifCond .eq o) := ⟨8, by decide +kernel, rfl, by decide⟩
theorem d_M_throwsIf_9 : vm_D q_M_throwsIf.2.1 9 1 10 (.iload_n 1) := ⟨by decide +kernel, rfl⟩
theorem d_M_throwsIf_10 : vm_D q_M_throwsIf.2.1 10 1 11 (.ireturn) := ⟨by decide +kernel, rfl⟩
theorem d_M_throwsIf_4 : vm_D q_M_throwsIf.2.1 4 1 5 (.aload_n 0) := ⟨by decide +kernel, rfl⟩
theorem d_M_throwsIf_5 : vm_D q_M_throwsIf.2.1 5 1 6 (.iload_n 2) := ⟨by decide +kernel, rfl⟩
theorem d_M_throwsIf_6 : vm_D q_M_throwsIf.2.1 6 3 9 (.putfield 3) := ⟨by decide +kernel, rfl⟩
def q_M_in : vm_Y := ("RepeatFreeModel", cX11_in, 3, false, [])
theorem d_M_in_0 : vm_D q_M_in.2.1 0 1 1 (.iload_n 0) := ⟨by decide +kernel, rfl⟩
theorem d_M_in_1 : vm_D q_M_in.2.1 1 1 2 (.iload_n 1) := ⟨by decide +kernel, rfl⟩
theorem d_M_in_2 : vm_B q_M_in.2.1 2 5 14 (fun o => .if_icmp .lt o) := ⟨12, by decide +kernel, rfl, by decide⟩
theorem d_M_in_14 : vm_D q_M_in.2.1 14 1 15 (.iconst 0) := ⟨by decide +kernel, rfl⟩
theorem d_M_in_15 : vm_D q_M_in.2.1 15 1 16 (.ireturn) := ⟨by decide +kernel, rfl⟩
theorem d_M_in_5 : vm_D q_M_in.2.1 5 1 6 (.iload_n 0) := ⟨by decide +kernel, rfl⟩
theorem d_M_in_6 : vm_D q_M_in.2.1 6 1 7 (.iload_n 2) := ⟨by decide +kernel, rfl⟩
theorem d_M_in_7 : vm_B q_M_in.2.1 7 10 14 (fun o => .if_icmp .gt o) := ⟨7, by decide +kernel, rfl, by decide⟩
theorem d_M_in_10 : vm_D q_M_in.2.1 10 1 11 (.iconst 1) := ⟨by decide +kernel, rfl⟩
theorem d_M_in_11 : ∃ off : Int, decode q_M_in.2.1 11 = .ok (.goto off, 3) ∧ ((11 : Nat) : Int) + off = ((15 : Nat) : Int) := ⟨4, by decide +kernel, by decide⟩
def q_M_feed : vm_Y := ("RepeatFreeModel", cX11_feed, 7, false, [])
theorem d_M_feed_0 : vm_D q_M_feed.2.1 0 1 1 (.aload_n 0) := ⟨by decide +kernel, rfl⟩
theorem d_M_feed_1 : vm_D q_M_feed.2.1 1 1 2 (.iconst 0) := ⟨by decide +kernel, rfl⟩
theorem d_M_feed_2 : vm_D q_M_feed.2.1 2 3 5 (.putfield 3) := ⟨by decide +kernel, rfl⟩
theorem d_M_feed_5 : vm_D q_M_feed.2.1 5 1 6 (.aload_n 0) := ⟨by decide +kernel, rfl⟩
theorem d_M_feed_6 : vm_D q_M_feed.2.1 6 3 9 (.getfield 7) := ⟨by decide +kernel, rfl⟩
theorem d_M_feed_9 : vm_D q_M_feed.2.1 9 2 11 (.bipush 20) := ⟨by decide +kernel, rfl⟩
theorem d_M_feed_11 : vm_D q_M_feed.2.1 11 1 12 (.iadd) := ⟨by decide +kernel, rfl⟩
theorem d_M_feed_12 : vm_D q_M_feed.2.1 12 3 15 (.sipush 400) := ⟨by decide +kernel, rfl⟩
theorem d_M_feed_15 : vm_B q_M_feed.2.1 15 18 20 (fun o => .if_icmp .le o) := ⟨5, by decide +kernel, rfl, by decide⟩
theorem d_M_feed_20 : vm_D q_M_feed.2.1 20 1 21 (.aload_n 0) := ⟨by decide +kernel, rfl⟩
theorem d_M_feed_21 : vm_D q_M_feed.2.1 21 3 24 (.getfield 10) := ⟨by decide +kernel, rfl⟩
theorem d_M_feed_24 : vm_D q_M_feed.2.1 24 1 25 (.iconst 0) := ⟨by decide +kernel, rfl⟩
theorem d_M_feed_25 : vm_D q_M_feed.2.1 25 1 26 (.iload_n 1) := ⟨by decide +kernel, rfl⟩
theorem d_M_feed_26 : vm_D q_M_feed.2.1 26 1 27 (.iastore) := ⟨by decide +kernel, rfl⟩
theorem d_M_feed_27 : vm_D q_M_feed.2.1 27 1 28 (.aload_n 0) := ⟨by decide +kernel, rfl⟩
theorem d_M_feed_28 : vm_D q_M_feed.2.1 28 3 31 (.getfield 10) := ⟨by decide +kernel, rfl⟩
theorem d_M_feed_31 : vm_D q_M_feed.2.1 31 1 32 (.iconst 1) := ⟨by decide +kernel, rfl⟩
theorem d_M_feed_32 : vm_D q_M_feed.2.1 32 1 33 (.iload_n 2) := ⟨by decide +kernel, rfl⟩
theorem d_M_feed_33 : vm_D q_M_feed.2.1 33 1 34 (.iastore) := ⟨by decide +kernel, rfl⟩
theorem d_M_feed_34 : vm_D q_M_feed.2.1 34 1 35 (.aload_n 0) := ⟨by decide +kernel, rfl⟩
theorem d_M_feed_35 : vm_D q_M_feed.2.1 35 3 38 (.getfield 10) := ⟨by decide +kernel, rfl⟩
theorem d_M_feed_38 : vm_D q_M_feed.2.1 38 1 39 (.iconst 2) := ⟨by decide +kernel, rfl⟩
theorem d_M_feed_39 : vm_D q_M_feed.2.1 39 1 40 (.iload_n 3) := ⟨by decide +kernel, rfl⟩
theorem d_M_feed_40 : vm_D q_M_feed.2.1 40 1 41 (.iastore) := ⟨by decide +kernel, rfl⟩
theorem d_M_feed_41 : vm_D q_M_feed.2.1 41 1 42 (.aload_n 0) := ⟨by decide +kernel, rfl⟩
theorem d_M_feed_42 : vm_D q_M_feed.2.1 42 3 45 (.getfield 10) := ⟨by decide +kernel, rfl⟩
theorem d_M_feed_45 : vm_D q_M_feed.2.1 45 1 46 (.iconst 3) := ⟨by decide +kernel, rfl⟩
theorem d_M_feed_46 : vm_D q_M_feed.2.1 46 2 48 (.iload 4) := ⟨by decide +kernel, rfl⟩
theorem d_M_feed_48 : vm_D q_M_feed.2.1 48 1 49 (.iastore) := ⟨by decide +kernel, rfl⟩
theorem d_M_feed_49 : vm_D q_M_feed.2.1 49 1 50 (.aload_n 0) := ⟨by decide +kernel, rfl⟩
theorem d_M_feed_50 : vm_D q_M_feed.2.1 50 3 53 (.getfield 10) := ⟨by decide +kernel, rfl⟩
theorem d_M_feed_53 : vm_D q_M_feed.2.1 53 1 54 (.iconst 4) := ⟨by decide +kernel, rfl⟩
theorem d_M_feed_54 : vm_D q_M_feed.2.1 54 2 56 (.iload 5) := ⟨by decide +kernel, rfl⟩
theorem d_M_feed_56 : vm_D q_M_feed.2.1 56 1 57 (.iastore) := ⟨by decide +kernel, rfl⟩
theorem d_M_feed_57 : vm_D q_M_feed.2.1 57 1 58 (.iconst 0) := ⟨by decide +kernel, rfl⟩
theorem d_M_feed_58 : vm_D q_M_feed.2.1 58 2 60 (.istore 6) := ⟨by decide +kernel, rfl⟩
theorem d_M_feed_60 : vm_D q_M_feed.2.1 60 2 62 (.iload 6) := ⟨by decide +kernel, rfl⟩
theorem d_M_feed_62 : vm_D q_M_feed.2.1 62 2 64 (.bipush 20) := ⟨by decide +kernel, rfl⟩
theorem d_M_feed_64 : vm_B q_M_feed.2.1 64 67 106 (fun o => .if_icmp .ge o) := ⟨42, by decide +kernel, rfl, by decide⟩
theorem d_M_feed_67 : vm_D q_M_feed.2.1 67 1 68 (.aload_n 0) := ⟨by decide +kernel, rfl⟩
theorem d_M_feed_68 : vm_D q_M_feed.2.1 68 3 71 (.getfield 14) := ⟨by decide +kernel, rfl⟩
theorem d_M_feed_71 : vm_D q_M_feed.2.1 71 1 72 (.aload_n 0) := ⟨by decide +kernel, rfl⟩
theorem d_M_feed_72 : vm_D q_M_feed.2.1 72 3 75 (.getfield 7) := ⟨by decide +kernel, rfl⟩
theorem d_M_feed_75 : vm_D q_M_feed.2.1 75 2 77 (.iload 6) := ⟨by decide +kernel, rfl⟩
theorem d_M_feed_77 : vm_D q_M_feed.2.1 77 1 78 (.iadd) := ⟨by decide +kernel, rfl⟩
theorem d_M_feed_78 : vm_D q_M_feed.2.1 78 1 79 (.aload_n 0) := ⟨by decide +kernel, rfl⟩
theorem d_M_feed_79 : vm_D q_M_feed.2.1 79 3 82 (.getfield 10) := ⟨by decide +kernel, rfl⟩
theorem d_M_feed_82 : vm_D q_M_feed.2.1 82 2 84 (.iload 6) := ⟨by decide +kernel, rfl⟩
theorem d_M_feed_84 : vm_D q_M_feed.2.1 84 1 85 (.iconst 4) := ⟨by decide +kernel, rfl⟩
theorem d_M_feed_85 : vm_D q_M_feed.2.1 85 1 86 (.idiv) := ⟨by decide +kernel, rfl⟩
theorem d_M_feed_86 : vm_D q_M_feed.2.1 86 1 87 (.iaload) := ⟨by decide +kernel, rfl⟩
theorem d_M_feed_87 : vm_D q_M_feed.2.1 87 2 89 (.bipush 24) := ⟨by decide +kernel, rfl⟩
theorem d_M_feed_89 : vm_D q_M_feed.2.1 89 2 91 (.bipush 8) := ⟨by decide +kernel, rfl⟩
theorem d_M_feed_91 : vm_D q_M_feed.2.1 91 2 93 (.iload 6) := ⟨by decide +kernel, rfl⟩
theorem d_M_feed_93 : vm_D q_M_feed.2.1 93 1 94 (.iconst 4) := ⟨by decide +kernel, rfl⟩
theorem d_M_feed_94 : vm_D q_M_feed.2.1 94 1 95 (.irem) := ⟨by decide +kernel, rfl⟩
theorem d_M_feed_95 : vm_D q_M_feed.2.1 95 1 96 (.imul) := ⟨by decide +kernel, rfl⟩
theorem d_M_feed_96 : vm_D q_M_feed.2.1 96 1 97 (.isub) := ⟨by decide +kernel, rfl⟩
theorem d_M_feed_97 : vm_D q_M_feed.2.1 97 1 98 (.ishr) := ⟨by decide +kernel, rfl⟩
theorem d_M_feed_98 : vm_D q_M_feed.2.1 98 1 99 (.i2b) := ⟨by decide +kernel, rfl⟩
theorem d_M_feed_99 : vm_D q_M_feed.2.1 99 1 100 (.bastore) := ⟨by decide +kernel, rfl⟩
theorem d_M_feed_100 : vm_D q_M_feed.2.1 100 3 103 (.iinc 6 1) := ⟨by decide +kernel, rfl⟩
theorem d_M_feed_103 : ∃ off : Int, decode q_M_feed.2.1 103 = .ok (.goto off, 3) ∧ ((103 : Nat) : Int) + off = ((60 : Nat) : Int) := ⟨-43, by decide +kernel, by decide⟩
theorem d_M_feed_106 : vm_D q_M_feed.2.1 106 1 107 (.aload_n 0) := ⟨by decide +kernel, rfl⟩
theorem d_M_feed_107 : vm_D q_M_feed.2.1 107 1 108 (.dup) := ⟨by decide +kernel, rfl⟩
theorem d_M_feed_108 : vm_D q_M_feed.2.1 108 3 111 (.getfield 7) := ⟨by decide +kernel, rfl⟩
theorem d_M_feed_111 : vm_D q_M_feed.2.1 111 2 113 (.bipush 20) := ⟨by decide +kernel, rfl⟩
theorem d_M_feed_113 : vm_D q_M_feed.2.1 113 1 114 (.iadd) := ⟨by decide +kernel, rfl⟩
theorem d_M_feed_114 : vm_D q_M_feed.2.1 114 3 117 (.putfield 7) := ⟨by decide +kernel, rfl⟩
theorem d_M_feed_117 : vm_D q_M_feed.2.1 117 1 118 (.aload_n 0) := ⟨by decide +kernel, rfl⟩
theorem d_M_feed_118 : vm_D q_M_feed.2.1 118 3 121 (.getfield 7) := ⟨by decide +kernel, rfl⟩
theorem d_M_feed_121 : vm_D q_M_feed.2.1 121 1 122 (.ireturn) := ⟨by decide +kernel, rfl⟩
theorem d_M_feed_18 : vm_D q_M_feed.2.1 18 1 19 (.iconst (-1)) := ⟨by decide +kernel, rfl⟩
theorem d_M_feed_19 : vm_D q_M_feed.2.1 19 1 20 (.ireturn) := ⟨by decide +kernel, rfl⟩
def q_M_end : vm_Y := ("RepeatFreeModel", cX11_end, 2, false, [])
theorem d_M_end_0 : vm_D q_M_end.2.1 0 1 1 (.aload_n 0) := ⟨by decide +kernel, rfl⟩
theorem d_M_end_1 : vm_D q_M_end.2.1 1 1 2 (.iconst 0) := ⟨by decide +kernel, rfl⟩
theorem d_M_end_2 : vm_D q_M_end.2.1 2 3 5 (.putfield 3) := ⟨by decide +kernel, rfl⟩
theorem d_M_end_5 : vm_D q_M_end.2.1 5 1 6 (.iload_n 1) := ⟨by decide +kernel, rfl⟩
theorem d_M_end_6 : vm_B q_M_end.2.1 6 9 17 (fun o => .ifCond .lt o) := ⟨11, by decide +kernel, rfl, by decide⟩
theorem d_M_end_17 : vm_D q_M_end.2.1 17 1 18 (.iconst 0) := ⟨by decide +kernel, rfl⟩
theorem d_M_end_18 : vm_D q_M_end.2.1 18 1 19 (.ireturn) := ⟨by decide +kernel, rfl⟩
theorem d_M_end_9 : vm_D q_M_end.2.1 9 1 10 (.iload_n 1) := ⟨by decide +kernel, rfl⟩
theorem d_M_end_10 : vm_D q_M_end.2.1 10 1 11 (.aload_n 0) := ⟨by decide +kernel, rfl⟩
theorem d_M_end_11 : vm_D q_M_end.2.1 11 3 14 (.getfield 7) := ⟨by decide +kernel, rfl⟩
theorem d_M_end_14 : vm_B q_M_end.2.1 14 17 19 (fun o => .if_icmp .le o) := ⟨5, by decide +kernel, rfl, by decide⟩
theorem d_M_end_19 : vm_D q_M_end.2.1 19 1 20 (.aload_n 0) := ⟨by decide +kernel, rfl⟩
theorem d_M_end_20 : vm_D q_M_end.2.1 20 1 21 (.iload_n 1) := ⟨by decide +kernel, rfl⟩
theorem d_M_end_21 : vm_D q_M_end.2.1 21 3 24 (.putfield 7) := ⟨by decide +kernel, rfl⟩
theorem d_M_end_24 : vm_D q_M_end.2.1 24 1 25 (.iconst 1) := ⟨by decide +kernel, rfl⟩
theorem d_M_end_25 : vm_D q_M_end.2.1 25 1 26 (.ireturn) := ⟨by decide +kernel, rfl⟩
def q_M_begins : vm_Y := ("RepeatFreeModel", cX11_begins, 1, false, [])
theorem d_M_begins_0 : vm_D q_M_begins.2.1 0 1 1 (.aload_n 0) := ⟨by decide +kernel, rfl⟩
theorem d_M_begins_1 : vm_D q_M_begins.2.1 1 1 2 (.aload_n 0) := ⟨by decide +kernel, rfl⟩
theorem d_M_begins_2 : vm_D q_M_begins.2.1 2 3 5 (.getfield 7) := ⟨by decide +kernel, rfl⟩
theorem d_M_begins_5 : vm_D q_M_begins.2.1 5 3 8 (.putfield 18) := ⟨by decide +kernel, rfl⟩
theorem d_M_begins_8 : vm_D q_M_begins.2.1 8 1 9 (.aload_n 0) := ⟨by decide +kernel, rfl⟩
theorem d_M_begins_9 : vm_D q_M_begins.2.1 9 1 10 (.iconst 0) := ⟨by decide +kernel, rfl⟩
theorem d_M_begins_10 : vm_D q_M_begins.2.1 10 3 13 (.putfield 7) := ⟨by decide +kernel, rfl⟩
theorem d_M_begins_13 : vm_D q_M_begins.2.1 13 1 14 (.aload_n 0) := ⟨by decide +kernel, rfl⟩
theorem d_M_begins_14 : vm_D q_M_begins.2.1 14 1 15 (.iconst 0) := ⟨by decide +kernel, rfl⟩
theorem d_M_begins_15 : vm_D q_M_begins.2.1 15 3 18 (.putfield 21) := ⟨by decide +kernel, rfl⟩
theorem d_M_begins_18 : vm_D q_M_begins.2.1 18 1 19 (.aload_n 0) := ⟨by decide +kernel, rfl⟩
theorem d_M_begins_19 : vm_D q_M_begins.2.1 19 1 20 (.iconst (-1)) := ⟨by decide +kernel, rfl⟩
theorem d_M_begins_20 : vm_D q_M_begins.2.1 20 3 23 (.putfield 24) := ⟨by decide +kernel, rfl⟩
theorem d_M_begins_23 : vm_D q_M_begins.2.1 23 1 24 (.return_) := ⟨by decide +kernel, rfl⟩
def q_M_hasFailed : vm_Y := ("RepeatFreeModel", cX11_hasFailed, 1, false, [])
theorem d_M_hasFailed_0 : vm_D q_M_hasFailed.2.1 0 1 1 (.aload_n 0) := ⟨by decide +kernel, rfl⟩
theorem d_M_hasFailed_1 : vm_D q_M_hasFailed.2.1 1 3 4 (.getfield 24) := ⟨by decide +kernel, rfl⟩
theorem d_M_hasFailed_4 : vm_D q_M_hasFailed.2.1 4 1 5 (.iconst (-1)) := ⟨by decide +kernel, rfl⟩
theorem d_M_hasFailed_5 : vm_B q_M_hasFailed.2.1 5 8 12 (fun o => .if_icmp .eq o) := ⟨7, by decide +kernel, rfl, by decide⟩
theorem d_M_hasFailed_12 : vm_D q_M_hasFailed.2.1 12 1 13 (.iconst 0) := ⟨by decide +kernel, rfl⟩
theorem d_M_hasFailed_13 : vm_D q_M_hasFailed.2.1 13 1 14 (.ireturn) := ⟨by decide +kernel, rfl⟩
theorem d_M_hasFailed_8 : vm_D q_M_hasFailed.2.1 8 1 9 (.iconst 1) := ⟨by decide +kernel, rfl⟩
theorem d_M_hasFailed_9 : ∃ off : Int, decode q_M_hasFailed.2.1 9 = .ok (.goto off, 3) ∧ ((9 : Nat) : Int) + off = ((13 : Nat) : Int) := ⟨4, by decide +kernel, by decide⟩
def q_M_isAt : vm_Y := ("RepeatFreeModel", cX11_isAt, 3, false, [])
theorem d_M_isAt_0 : vm_D q_M_isAt.2.1 0 1 1 (.aload_n 0) := ⟨by decide +kernel, rfl⟩
theorem d_M_isAt_1 : vm_D q_M_isAt.2.1 1 3 4 (.getfield 21) := ⟨by decide +kernel, rfl⟩
theorem d_M_isAt_4 : vm_D q_M_isAt.2.1 4 1 5 (.aload_n 0) := ⟨by decide +kernel, rfl⟩
theorem d_M_isAt_5 : vm_D q_M_isAt.2.1 5 3 8 (.getfield 18) := ⟨by decide +kernel, rfl⟩
theorem d_M_isAt_8 : vm_B q_M_isAt.2.1 8 11 41 (fun o => .if_icmp .ge o) := ⟨33, by decide +kernel, rfl, by decide⟩
theorem d_M_isAt_41 : vm_D q_M_isAt.2.1 41 1 42 (.iconst 0) := ⟨by decide +kernel, rfl⟩
theorem d_M_isAt_42 : vm_D q_M_isAt.2.1 42 1 43 (.ireturn) := ⟨by decide +kernel, rfl⟩
theorem d_M_isAt_11 : vm_D q_M_isAt.2.1 11 1 12 (.aload_n 0) := ⟨by decide +kernel, rfl⟩
theorem d_M_isAt_12 : vm_D q_M_isAt.2.1 12 3 15 (.getfield 14) := ⟨by decide +kernel, rfl⟩
theorem d_M_isAt_15 : vm_D q_M_isAt.2.1 15 1 16 (.aload_n 0) := ⟨by decide +kernel, rfl⟩
theorem d_M_isAt_16 : vm_D q_M_isAt.2.1 16 3 19 (.getfield 21) := ⟨by decide +kernel, rfl⟩
theorem d_M_isAt_19 : vm_D q_M_isAt.2.1 19 1 20 (.baload) := ⟨by decide +kernel, rfl⟩
theorem d_M_isAt_20 : vm_D q_M_isAt.2.1 20 1 21 (.iload_n 1) := ⟨by decide +kernel, rfl⟩
theorem d_M_isAt_21 : vm_B q_M_isAt.2.1 21 24 41 (fun o => .if_icmp .lt o) := ⟨20, by decide +kernel, rfl, by decide⟩
theorem d_M_isAt_24 : vm_D q_M_isAt.2.1 24 1 25 (.aload_n 0) := ⟨by decide +kernel, rfl⟩
theorem d_M_isAt_25 : vm_D q_M_isAt.2.1 25 3 28 (.getfield 14) := ⟨by decide +kernel, rfl⟩
theorem d_M_isAt_28 : vm_D q_M_isAt.2.1 28 1 29 (.aload_n 0) := ⟨by decide +kernel, rfl⟩
theorem d_M_isAt_29 : vm_D q_M_isAt.2.1 29 3 32 (.getfield 21) := ⟨by decide +kernel, rfl⟩
theorem d_M_isAt_32 : vm_D q_M_isAt.2.1 32 1 33 (.baload) := ⟨by decide +kernel, rfl⟩
theorem d_M_isAt_33 : vm_D q_M_isAt.2.1 33 1 34 (.iload_n 2) := ⟨by decide +kernel, rfl⟩
theorem d_M_isAt_34 : vm_B q_M_isAt.2.1 34 37 41 (fun o => .if_icmp .gt o) := ⟨7, by decide +kernel, rfl, by decide⟩
theorem d_M_isAt_37 : vm_D q_M_isAt.2.1 37 1 38 (.iconst 1) := ⟨by decide +kernel, rfl⟩
theorem d_M_isAt_38 : ∃ off : Int, decode q_M_isAt.2.1 38 = .ok (.goto off, 3) ∧ ((38 : Nat) : Int) + off = ((42 : Nat) : Int) := ⟨4, by decide +kernel, by decide⟩
def q_M_blanks : vm_Y := ("RepeatFreeModel", cX11_blanks, 1, false, [])
theorem d_M_blanks_0 : vm_D q_M_blanks.2.1 0 1 1 (.aload_n 0) := ⟨by decide +kernel, rfl⟩
theorem d_M_blanks_1 : vm_D q_M_blanks.2.1 1 2 3 (.bipush 9) := ⟨by decide +kernel, rfl⟩
theorem d_M_blanks_3 : vm_D q_M_blanks.2.1 3 2 5 (.bipush 10) := ⟨by decide +kernel, rfl⟩
theorem d_M_blanks_5 : vm_D q_M_blanks.2.1 5 3 8 (.invokevirtual 27) := ⟨by decide +kernel, rfl⟩
theorem d_M_blanks_8 : vm_B q_M_blanks.2.1 8 11 22 (fun o => .ifCond .ne o) := ⟨14, by decide +kernel, rfl, by decide⟩
theorem d_M_blanks_22 : vm_D q_M_blanks.2.1 22 1 23 (.aload_n 0) := ⟨by decide +kernel, rfl⟩
theorem d_M_blanks_23 : vm_D q_M_blanks.2.1 23 1 24 (.dup) := ⟨by decide +kernel, rfl⟩
theorem d_M_blanks_24 : vm_D q_M_blanks.2.1 24 3 27 (.getfield 21) := ⟨by decide +kernel, rfl⟩
theorem d_M_blanks_27 : vm_D q_M_blanks.2.1 27 1 28 (.iconst 1) := ⟨by decide +kernel, rfl⟩
theorem d_M_blanks_28 : vm_D q_M_blanks.2.1 28 1 29 (.iadd) := ⟨by decide +kernel, rfl⟩
theorem d_M_blanks_29 : vm_D q_M_blanks.2.1 29 3 32 (.putfield 21) := ⟨by decide +kernel, rfl⟩
theorem d_M_blanks_32 : ∃ off : Int, decode q_M_blanks.2.1 32 = .ok (.goto off, 3) ∧ ((32 : Nat) : Int) + off = ((0 : Nat) : Int) := ⟨-32, by decide +kernel, by decide⟩
theorem d_M_blanks_11 : vm_D q_M_blanks.2.1 11 1 12 (.aload_n 0) := ⟨by decide +kernel, rfl⟩
theorem d_M_blanks_12 : vm_D q_M_blanks.2.1 12 2 14 (.bipush 32) := ⟨by decide +kernel, rfl⟩
theorem d_M_blanks_14 : vm_D q_M_blanks.2.1 14 2 16 (.bipush 32) := ⟨by decide +kernel, rfl⟩
theorem d_M_blanks_16 : vm_D q_M_blanks.2.1 16 3 19 (.invokevirtual 27) := ⟨by decide +kernel, rfl⟩
theorem d_M_blanks_19 : vm_B q_M_blanks.2.1 19 22 35 (fun o => .ifCond .eq o) := ⟨16, by decide +kernel, rfl, by decide⟩
theorem d_M_blanks_35 : vm_D q_M_blanks.2.1 35 1 36 (.aload_n 0) := ⟨by decide +kernel, rfl⟩
theorem d_M_blanks_36 : vm_D q_M_blanks.2.1 36 1 37 (.aload_n 0) := ⟨by decide +kernel, rfl⟩
theorem d_M_blanks_37 : vm_D q_M_blanks.2.1 37 3 40 (.getfield 21) := ⟨by decide +kernel, rfl⟩
theorem d_M_blanks_40 : vm_D q_M_blanks.2.1 40 3 43 (.putfield 31) := ⟨by decide +kernel, rfl⟩
theorem d_M_blanks_43 : vm_D q_M_blanks.2.1 43 1 44 (.return_) := ⟨by decide +kernel, rfl⟩
def q_M_fails : vm_Y := ("RepeatFreeModel", cX11_fails, 1, false, [])
theorem d_M_fails_0 : vm_D q_M_fails.2.1 0 1 1 (.aload_n 0) := ⟨by decide +kernel, rfl⟩
theorem d_M_fails_1 : vm_D q_M_fails.2.1 1 3 4 (.getfield 24) := ⟨by decide +kernel, rfl⟩
theorem d_M_fails_4 : vm_D q_M_fails.2.1 4 1 5 (.iconst (-1)) := ⟨by decide +kernel, rfl⟩
theorem d_M_fails_5 : vm_B q_M_fails.2.1 5 8 16 (fun o => .if_icmp .ne o) := ⟨11, by decide +kernel, rfl, by decide⟩
theorem d_M_fails_16 : vm_D q_M_fails.2.1 16 1 17 (.return_) := ⟨by decide +kernel, rfl⟩
theorem d_M_fails_8 : vm_D q_M_fails.2.1 8 1 9 (.aload_n 0) := ⟨by decide +kernel, rfl⟩
theorem d_M_fails_9 : vm_D q_M_fails.2.1 9 1 10 (.aload_n 0) := ⟨by decide +kernel, rfl⟩
theorem d_M_fails_10 : vm_D q_M_fails.2.1 10 3 13 (.getfield 31) := ⟨by decide +kernel, rfl⟩
theorem d_M_fails_13 : vm_D q_M_fails.2.1 13 3 16 (.putfield 24) := ⟨by decide +kernel, rfl⟩
def q_M_asksSign : vm_Y := ("RepeatFreeModel", cX11_asksSign, 2, false, [])
theorem d_M_asksSign_0 : vm_D q_M_asksSign.2.1 0 1 1 (.aload_n 0) := ⟨by decide +kernel, rfl⟩
theorem d_M_asksSign_1 : vm_D q_M_asksSign.2.1 1 3 4 (.invokevirtual 34) := ⟨by decide +kernel, rfl⟩
theorem d_M_asksSign_4 : vm_D q_M_asksSign.2.1 4 1 5 (.aload_n 0) := ⟨by decide +kernel, rfl⟩
theorem d_M_asksSign_5 : vm_D q_M_asksSign.2.1 5 3 8 (.invokevirtual 38) := ⟨by decide +kernel, rfl⟩
theorem d_M_asksSign_8 : vm_B q_M_asksSign.2.1 8 11 12 (fun o => .ifCond .eq o) := ⟨4, by decide +kernel, rfl, by decide⟩
theorem d_M_asksSign_12 : vm_D q_M_asksSign.2.1 12 1 13 (.aload_n 0) := ⟨by decide +kernel, rfl⟩
theorem d_M_asksSign_13 : vm_D q_M_asksSign.2.1 13 1 14 (.iload_n 1) := ⟨by decide +kernel, rfl⟩
theorem d_M_asksSign_14 : vm_D q_M_asksSign.2.1 14 1 15 (.iload_n 1) := ⟨by decide +kernel, rfl⟩
theorem d_M_asksSign_15 : vm_D q_M_asksSign.2.1 15 3 18 (.invokevirtual 27) := ⟨by decide +kernel, rfl⟩
theorem d_M_asksSign_18 : vm_B q_M_asksSign.2.1 18 21 34 (fun o => .ifCond .eq o) := ⟨16, by decide +kernel, rfl, by decide⟩
theorem d_M_asksSign_34 : vm_D q_M_asksSign.2.1 34 1 35 (.aload_n 0) := ⟨by decide +kernel, rfl⟩
theorem d_M_asksSign_35 : vm_D q_M_asksSign.2.1 35 3 38 (.invokevirtual 42) := ⟨by decide +kernel, rfl⟩
theorem d_M_asksSign_38 : vm_D q_M_asksSign.2.1 38 1 39 (.return_) := ⟨by decide +kernel, rfl⟩
theorem d_M_asksSign_21 : vm_D q_M_asksSign.2.1 21 1 22 (.aload_n 0) := ⟨by decide +kernel, rfl⟩
theorem d_M_asksSign_22 : vm_D q_M_asksSign.2.1 22 1 23 (.dup) := ⟨by decide +kernel, rfl⟩
theorem d_M_asksSign_23 : vm_D q_M_asksSign.2.1 23 3 26 (.getfield 21) := ⟨by decide +kernel, rfl⟩
theorem d_M_asksSign_26 : vm_D q_M_asksSign.2.1 26 1 27 (.iconst 1) := ⟨by decide +kernel, rfl⟩
theorem d_M_asksSign_27 : vm_D q_M_asksSign.2.1 27 1 28 (.iadd) := ⟨by decide +kernel, rfl⟩
theorem d_M_asksSign_28 : vm_D q_M_asksSign.2.1 28 3 31 (.putfield 21) := ⟨by decide +kernel, rfl⟩
theorem d_M_asksSign_31 : ∃ off : Int, decode q_M_asksSign.2.1 31 = .ok (.goto off, 3) ∧ ((31 : Nat) : Int) + off = ((38 : Nat) : Int) := ⟨7, by decide +kernel, by decide⟩
theorem d_M_asksSign_11 : vm_D q_M_asksSign.2.1 11 1 12 (.return_) := ⟨by decide +kernel, rfl⟩
def q_M_wordMany : vm_Y := ("RepeatFreeModel", cX11_wordMany, 2, false, [])
theorem d_M_wordMany_0 : vm_D q_M_wordMany.2.1 0 1 1 (.aload_n 0) := ⟨by decide +kernel, rfl⟩
theorem d_M_wordMany_1 : vm_D q_M_wordMany.2.1 1 3 4 (.invokevirtual 34) := ⟨by decide +kernel, rfl⟩
theorem d_M_wordMany_4 : vm_D q_M_wordMany.2.1 4 1 5 (.aload_n 0) := ⟨by decide +kernel, rfl⟩
theorem d_M_wordMany_5 : vm_D q_M_wordMany.2.1 5 3 8 (.getfield 21) := ⟨by decide +kernel, rfl⟩
theorem d_M_wordMany_8 : vm_D q_M_wordMany.2.1 8 1 9 (.istore_n 1) := ⟨by decide +kernel, rfl⟩
theorem d_M_wordMany_9 : vm_D q_M_wordMany.2.1 9 1 10 (.iload_n 1) := ⟨by decide +kernel, rfl⟩
theorem d_M_wordMany_10 : vm_D q_M_wordMany.2.1 10 1 11 (.aload_n 0) := ⟨by decide +kernel, rfl⟩
theorem d_M_wordMany_11 : vm_D q_M_wordMany.2.1 11 3 14 (.getfield 18) := ⟨by decide +kernel, rfl⟩
theorem d_M_wordMany_14 : vm_B q_M_wordMany.2.1 14 17 45 (fun o => .if_icmp .ge o) := ⟨31, by decide +kernel, rfl, by decide⟩
theorem d_M_wordMany_17 : vm_D q_M_wordMany.2.1 17 1 18 (.aload_n 0) := ⟨by decide +kernel, rfl⟩
theorem d_M_wordMany_18 : vm_D q_M_wordMany.2.1 18 3 21 (.getfield 14) := ⟨by decide +kernel, rfl⟩
theorem d_M_wordMany_21 : vm_D q_M_wordMany.2.1 21 1 22 (.iload_n 1) := ⟨by decide +kernel, rfl⟩
theorem d_M_wordMany_22 : vm_D q_M_wordMany.2.1 22 1 23 (.baload) := ⟨by decide +kernel, rfl⟩
theorem d_M_wordMany_23 : vm_D q_M_wordMany.2.1 23 2 25 (.bipush 97) := ⟨by decide +kernel, rfl⟩
theorem d_M_wordMany_25 : vm_B q_M_wordMany.2.1 25 28 45 (fun o => .if_icmp .lt o) := ⟨20, by decide +kernel, rfl, by decide⟩
theorem d_M_wordMany_28 : vm_D q_M_wordMany.2.1 28 1 29 (.aload_n 0) := ⟨by decide +kernel, rfl⟩
theorem d_M_wordMany_29 : vm_D q_M_wordMany.2.1 29 3 32 (.getfield 14) := ⟨by decide +kernel, rfl⟩
theorem d_M_wordMany_32 : vm_D q_M_wordMany.2.1 32 1 33 (.iload_n 1) := ⟨by decide +kernel, rfl⟩
theorem d_M_wordMany_33 : vm_D q_M_wordMany.2.1 33 1 34 (.baload) := ⟨by decide +kernel, rfl⟩
theorem d_M_wordMany_34 : vm_D q_M_wordMany.2.1 34 2 36 (.bipush 122) := ⟨by decide +kernel, rfl⟩
theorem d_M_wordMany_36 : vm_B q_M_wordMany.2.1 36 39 45 (fun o => .if_icmp .gt o) := ⟨9, by decide +kernel, rfl, by decide⟩
theorem d_M_wordMany_39 : vm_D q_M_wordMany.2.1 39 3 42 (.iinc 1 1) := ⟨by decide +kernel, rfl⟩
theorem d_M_wordMany_42 : ∃ off : Int, decode q_M_wordMany.2.1 42 = .ok (.goto off, 3) ∧ ((42 : Nat) : Int) + off = ((9 : Nat) : Int) := ⟨-33, by decide +kernel, by decide⟩
theorem d_M_wordMany_45 : vm_D q_M_wordMany.2.1 45 1 46 (.iload_n 1) := ⟨by decide +kernel, rfl⟩
theorem d_M_wordMany_46 : vm_D q_M_wordMany.2.1 46 1 47 (.aload_n 0) := ⟨by decide +kernel, rfl⟩
theorem d_M_wordMany_47 : vm_D q_M_wordMany.2.1 47 3 50 (.getfield 21) := ⟨by decide +kernel, rfl⟩
theorem d_M_wordMany_50 : vm_D q_M_wordMany.2.1 50 1 51 (.isub) := ⟨by decide +kernel, rfl⟩
theorem d_M_wordMany_51 : vm_D q_M_wordMany.2.1 51 1 52 (.ireturn) := ⟨by decide +kernel, rfl⟩
def q_M_isWord : vm_Y := ("RepeatFreeModel", cX11_isWord, 4, false, [])
theorem d_M_isWord_0 : vm_D q_M_isWord.2.1 0 1 1 (.aload_n 0) := ⟨by decide +kernel, rfl⟩
theorem d_M_isWord_1 : vm_D q_M_isWord.2.1 1 3 4 (.invokevirtual 38) := ⟨by decide +kernel, rfl⟩
theorem d_M_isWord_4 : vm_B q_M_isWord.2.1 4 7 22 (fun o => .ifCond .ne o) := ⟨18, by decide +kernel, rfl, by decide⟩
theorem d_M_isWord_23 : vm_D q_M_isWord.2.1 23 1 24 (.istore_n 2) := ⟨by decide +kernel, rfl⟩
theorem d_M_isWord_24 : vm_D q_M_isWord.2.1 24 1 25 (.iconst 0) := ⟨by decide +kernel, rfl⟩
theorem d_M_isWord_25 : vm_D q_M_isWord.2.1 25 1 26 (.istore_n 3) := ⟨by decide +kernel, rfl⟩
theorem d_M_isWord_26 : vm_D q_M_isWord.2.1 26 1 27 (.iload_n 2) := ⟨by decide +kernel, rfl⟩
theorem d_M_isWord_27 : vm_B q_M_isWord.2.1 27 30 69 (fun o => .ifCond .eq o) := ⟨42, by decide +kernel, rfl, by decide⟩
theorem d_M_isWord_30 : vm_D q_M_isWord.2.1 30 1 31 (.iload_n 3) := ⟨by decide +kernel, rfl⟩
theorem d_M_isWord_31 : vm_D q_M_isWord.2.1 31 1 32 (.aload_n 1) := ⟨by decide +kernel, rfl⟩
theorem d_M_isWord_32 : vm_D q_M_isWord.2.1 32 3 35 (.invokevirtual 49) := ⟨by decide +kernel, rfl⟩
theorem d_M_isWord_35 : vm_B q_M_isWord.2.1 35 38 69 (fun o => .if_icmp .ge o) := ⟨34, by decide +kernel, rfl, by decide⟩
theorem d_M_isWord_38 : vm_D q_M_isWord.2.1 38 1 39 (.aload_n 0) := ⟨by decide +kernel, rfl⟩
theorem d_M_isWord_39 : vm_D q_M_isWord.2.1 39 3 42 (.getfield 14) := ⟨by decide +kernel, rfl⟩
theorem d_M_isWord_42 : vm_D q_M_isWord.2.1 42 1 43 (.aload_n 0) := ⟨by decide +kernel, rfl⟩
theorem d_M_isWord_43 : vm_D q_M_isWord.2.1 43 3 46 (.getfield 21) := ⟨by decide +kernel, rfl⟩
theorem d_M_isWord_46 : vm_D q_M_isWord.2.1 46 1 47 (.iload_n 3) := ⟨by decide +kernel, rfl⟩
theorem d_M_isWord_47 : vm_D q_M_isWord.2.1 47 1 48 (.iadd) := ⟨by decide +kernel, rfl⟩
theorem d_M_isWord_48 : vm_D q_M_isWord.2.1 48 1 49 (.baload) := ⟨by decide +kernel, rfl⟩
theorem d_M_isWord_49 : vm_D q_M_isWord.2.1 49 1 50 (.aload_n 1) := ⟨by decide +kernel, rfl⟩
theorem d_M_isWord_50 : vm_D q_M_isWord.2.1 50 1 51 (.iload_n 3) := ⟨by decide +kernel, rfl⟩
theorem d_M_isWord_51 : vm_D q_M_isWord.2.1 51 3 54 (.invokevirtual 54) := ⟨by decide +kernel, rfl⟩
theorem d_M_isWord_54 : vm_B q_M_isWord.2.1 54 57 61 (fun o => .if_icmp .ne o) := ⟨7, by decide +kernel, rfl, by decide⟩
theorem d_M_isWord_62 : vm_D q_M_isWord.2.1 62 1 63 (.istore_n 2) := ⟨by decide +kernel, rfl⟩
theorem d_M_isWord_63 : vm_D q_M_isWord.2.1 63 3 66 (.iinc 3 1) := ⟨by decide +kernel, rfl⟩
theorem d_M_isWord_66 : ∃ off : Int, decode q_M_isWord.2.1 66 = .ok (.goto off, 3) ∧ ((66 : Nat) : Int) + off = ((26 : Nat) : Int) := ⟨-40, by decide +kernel, by decide⟩
theorem d_M_isWord_61 : vm_D q_M_isWord.2.1 61 1 62 (.iconst 0) := ⟨by decide +kernel, rfl⟩
theorem d_M_isWord_57 : vm_D q_M_isWord.2.1 57 1 58 (.iconst 1) := ⟨by decide +kernel, rfl⟩
theorem d_M_isWord_58 : ∃ off : Int, decode q_M_isWord.2.1 58 = .ok (.goto off, 3) ∧ ((58 : Nat) : Int) + off = ((62 : Nat) : Int) := ⟨4, by decide +kernel, by decide⟩
theorem d_M_isWord_69 : vm_D q_M_isWord.2.1 69 1 70 (.iload_n 2) := ⟨by decide +kernel, rfl⟩
theorem d_M_isWord_70 : vm_D q_M_isWord.2.1 70 1 71 (.ireturn) := ⟨by decide +kernel, rfl⟩
theorem d_M_isWord_22 : vm_D q_M_isWord.2.1 22 1 23 (.iconst 0) := ⟨by decide +kernel, rfl⟩
theorem d_M_isWord_7 : vm_D q_M_isWord.2.1 7 1 8 (.aload_n 0) := ⟨by decide +kernel, rfl⟩
theorem d_M_isWord_8 : vm_D q_M_isWord.2.1 8 3 11 (.invokevirtual 45) := ⟨by decide +kernel, rfl⟩
theorem d_M_isWord_11 : vm_D q_M_isWord.2.1 11 1 12 (.aload_n 1) := ⟨by decide +kernel, rfl⟩
theorem d_M_isWord_12 : vm_D q_M_isWord.2.1 12 3 15 (.invokevirtual 49) := ⟨by decide +kernel, rfl⟩
theorem d_M_isWord_15 : vm_B q_M_isWord.2.1 15 18 22 (fun o => .if_icmp .ne o) := ⟨7, by decide +kernel, rfl, by decide⟩
theorem d_M_isWord_18 : vm_D q_M_isWord.2.1 18 1 19 (.iconst 1) := ⟨by decide +kernel, rfl⟩
theorem d_M_isWord_19 : ∃ off : Int, decode q_M_isWord.2.1 19 = .ok (.goto off, 3) ∧ ((19 : Nat) : Int) + off = ((23 : Nat) : Int) := ⟨4, by decide +kernel, by decide⟩
def q_M_takesWord : vm_Y := ("RepeatFreeModel", cX11_takesWord, 3, false, [])
theorem d_M_takesWord_0 : vm_D q_M_takesWord.2.1 0 1 1 (.aload_n 0) := ⟨by decide +kernel, rfl⟩
theorem d_M_takesWord_1 : vm_D q_M_takesWord.2.1 1 1 2 (.aload_n 1) := ⟨by decide +kernel, rfl⟩
theorem d_M_takesWord_2 : vm_D q_M_takesWord.2.1 2 3 5 (.invokevirtual 58) := ⟨by decide +kernel, rfl⟩
theorem d_M_takesWord_5 : vm_D q_M_takesWord.2.1 5 1 6 (.istore_n 2) := ⟨by decide +kernel, rfl⟩
theorem d_M_takesWord_6 : vm_D q_M_takesWord.2.1 6 1 7 (.iload_n 2) := ⟨by decide +kernel, rfl⟩
theorem d_M_takesWord_7 : vm_B q_M_takesWord.2.1 7 10 23 (fun o => .ifCond .eq o) := ⟨16, by decide +kernel, rfl, by decide⟩
theorem d_M_takesWord_23 : vm_D q_M_takesWord.2.1 23 1 24 (.iload_n 2) := ⟨by decide +kernel, rfl⟩
theorem d_M_takesWord_24 : vm_D q_M_takesWord.2.1 24 1 25 (.ireturn) := ⟨by decide +kernel, rfl⟩
theorem d_M_takesWord_10 : vm_D q_M_takesWord.2.1 10 1 11 (.aload_n 0) := ⟨by decide +kernel, rfl⟩
theorem d_M_takesWord_11 : vm_D q_M_takesWord.2.1 11 1 12 (.dup) := ⟨by decide +kernel, rfl⟩
theorem d_M_takesWord_12 : vm_D q_M_takesWord.2.1 12 3 15 (.getfield 21) := ⟨by decide +kernel, rfl⟩
theorem d_M_takesWord_15 : vm_D q_M_takesWord.2.1 15 1 16 (.aload_n 1) := ⟨by decide +kernel, rfl⟩
theorem d_M_takesWord_16 : vm_D q_M_takesWord.2.1 16 3 19 (.invokevirtual 49) := ⟨by decide +kernel, rfl⟩
theorem d_M_takesWord_19 : vm_D q_M_takesWord.2.1 19 1 20 (.iadd) := ⟨by decide +kernel, rfl⟩
theorem d_M_takesWord_20 : vm_D q_M_takesWord.2.1 20 3 23 (.putfield 21) := ⟨by decide +kernel, rfl⟩
def q_M_asksWord : vm_Y := ("RepeatFreeModel", cX11_asksWord, 2, false, [])
theorem d_M_asksWord_0 : vm_D q_M_asksWord.2.1 0 1 1 (.aload_n 0) := ⟨by decide +kernel, rfl⟩
theorem d_M_asksWord_1 : vm_D q_M_asksWord.2.1 1 3 4 (.invokevirtual 38) := ⟨by decide +kernel, rfl⟩
theorem d_M_asksWord_4 : vm_B q_M_asksWord.2.1 4 7 19 (fun o => .ifCond .ne o) := ⟨15, by decide +kernel, rfl, by decide⟩
theorem d_M_asksWord_19 : vm_D q_M_asksWord.2.1 19 1 20 (.return_) := ⟨by decide +kernel, rfl⟩
theorem d_M_asksWord_7 : vm_D q_M_asksWord.2.1 7 1 8 (.aload_n 0) := ⟨by decide +kernel, rfl⟩
theorem d_M_asksWord_8 : vm_D q_M_asksWord.2.1 8 1 9 (.aload_n 1) := ⟨by decide +kernel, rfl⟩
theorem d_M_asksWord_9 : vm_D q_M_asksWord.2.1 9 3 12 (.invokevirtual 62) := ⟨by decide +kernel, rfl⟩
theorem d_M_asksWord_12 : vm_B q_M_asksWord.2.1 12 15 19 (fun o => .ifCond .ne o) := ⟨7, by decide +kernel, rfl, by decide⟩
theorem d_M_asksWord_15 : vm_D q_M_asksWord.2.1 15 1 16 (.aload_n 0) := ⟨by decide +kernel, rfl⟩
theorem d_M_asksWord_16 : vm_D q_M_asksWord.2.1 16 3 19 (.invokevirtual 42) := ⟨by decide +kernel, rfl⟩
def q_M_number : vm_Y := ("RepeatFreeModel", cX11_number, 5, false, [])
theorem d_M_number_0 : vm_D q_M_number.2.1 0 1 1 (.aload_n 0) := ⟨by decide +kernel, rfl⟩
theorem d_M_number_1 : vm_D q_M_number.2.1 1 3 4 (.invokevirtual 38) := ⟨by decide +kernel, rfl⟩
theorem d_M_number_4 : vm_B q_M_number.2.1 4 7 9 (fun o => .ifCond .eq o) := ⟨5, by decide +kernel, rfl, by decide⟩
theorem d_M_number_9 : vm_D q_M_number.2.1 9 1 10 (.aload_n 0) := ⟨by decide +kernel, rfl⟩
theorem d_M_number_10 : vm_D q_M_number.2.1 10 3 13 (.invokevirtual 34) := ⟨by decide +kernel, rfl⟩
theorem d_M_number_13 : vm_D q_M_number.2.1 13 1 14 (.iconst 0) := ⟨by decide +kernel, rfl⟩
theorem d_M_number_14 : vm_D q_M_number.2.1 14 1 15 (.istore_n 3) := ⟨by decide +kernel, rfl⟩
theorem d_M_number_15 : vm_D q_M_number.2.1 15 1 16 (.aload_n 0) := ⟨by decide +kernel, rfl⟩
theorem d_M_number_16 : vm_D q_M_number.2.1 16 2 18 (.bipush 48) := ⟨by decide +kernel, rfl⟩
theorem d_M_number_18 : vm_D q_M_number.2.1 18 2 20 (.bipush 57) := ⟨by decide +kernel, rfl⟩
theorem d_M_number_20 : vm_D q_M_number.2.1 20 3 23 (.invokevirtual 27) := ⟨by decide +kernel, rfl⟩
theorem d_M_number_23 : vm_B q_M_number.2.1 23 26 70 (fun o => .ifCond .eq o) := ⟨47, by decide +kernel, rfl, by decide⟩
theorem d_M_number_26 : vm_D q_M_number.2.1 26 1 27 (.aload_n 0) := ⟨by decide +kernel, rfl⟩
theorem d_M_number_27 : vm_D q_M_number.2.1 27 3 30 (.getfield 21) := ⟨by decide +kernel, rfl⟩
theorem d_M_number_30 : vm_D q_M_number.2.1 30 1 31 (.aload_n 0) := ⟨by decide +kernel, rfl⟩
theorem d_M_number_31 : vm_D q_M_number.2.1 31 3 34 (.getfield 31) := ⟨by decide +kernel, rfl⟩
theorem d_M_number_34 : vm_D q_M_number.2.1 34 1 35 (.isub) := ⟨by decide +kernel, rfl⟩
theorem d_M_number_35 : vm_D q_M_number.2.1 35 1 36 (.iconst 2) := ⟨by decide +kernel, rfl⟩
theorem d_M_number_36 : vm_B q_M_number.2.1 36 39 57 (fun o => .if_icmp .ge o) := ⟨21, by decide +kernel, rfl, by decide⟩
theorem d_M_number_57 : vm_D q_M_number.2.1 57 1 58 (.aload_n 0) := ⟨by decide +kernel, rfl⟩
theorem d_M_number_58 : vm_D q_M_number.2.1 58 1 59 (.dup) := ⟨by decide +kernel, rfl⟩
theorem d_M_number_59 : vm_D q_M_number.2.1 59 3 62 (.getfield 21) := ⟨by decide +kernel, rfl⟩
theorem d_M_number_62 : vm_D q_M_number.2.1 62 1 63 (.iconst 1) := ⟨by decide +kernel, rfl⟩
theorem d_M_number_63 : vm_D q_M_number.2.1 63 1 64 (.iadd) := ⟨by decide +kernel, rfl⟩
theorem d_M_number_64 : vm_D q_M_number.2.1 64 3 67 (.putfield 21) := ⟨by decide +kernel, rfl⟩
theorem d_M_number_67 : ∃ off : Int, decode q_M_number.2.1 67 = .ok (.goto off, 3) ∧ ((67 : Nat) : Int) + off = ((15 : Nat) : Int) := ⟨-52, by decide +kernel, by decide⟩
theorem d_M_number_39 : vm_D q_M_number.2.1 39 2 41 (.bipush 10) := ⟨by decide +kernel, rfl⟩
theorem d_M_number_41 : vm_D q_M_number.2.1 41 1 42 (.iload_n 3) := ⟨by decide +kernel, rfl⟩
theorem d_M_number_42 : vm_D q_M_number.2.1 42 1 43 (.imul) := ⟨by decide +kernel, rfl⟩
theorem d_M_number_43 : vm_D q_M_number.2.1 43 1 44 (.aload_n 0) := ⟨by decide +kernel, rfl⟩
theorem d_M_number_44 : vm_D q_M_number.2.1 44 3 47 (.getfield 14) := ⟨by decide +kernel, rfl⟩
theorem d_M_number_47 : vm_D q_M_number.2.1 47 1 48 (.aload_n 0) := ⟨by decide +kernel, rfl⟩
theorem d_M_number_48 : vm_D q_M_number.2.1 48 3 51 (.getfield 21) := ⟨by decide +kernel, rfl⟩
theorem d_M_number_51 : vm_D q_M_number.2.1 51 1 52 (.baload) := ⟨by decide +kernel, rfl⟩
theorem d_M_number_52 : vm_D q_M_number.2.1 52 1 53 (.iadd) := ⟨by decide +kernel, rfl⟩
theorem d_M_number_53 : vm_D q_M_number.2.1 53 2 55 (.bipush 48) := ⟨by decide +kernel, rfl⟩
theorem d_M_number_55 : vm_D q_M_number.2.1 55 1 56 (.isub) := ⟨by decide +kernel, rfl⟩
theorem d_M_number_56 : vm_D q_M_number.2.1 56 1 57 (.istore_n 3) := ⟨by decide +kernel, rfl⟩
theorem d_M_number_70 : vm_D q_M_number.2.1 70 1 71 (.aload_n 0) := ⟨by decide +kernel, rfl⟩
theorem d_M_number_71 : vm_D q_M_number.2.1 71 3 74 (.getfield 21) := ⟨by decide +kernel, rfl⟩
theorem d_M_number_74 : vm_D q_M_number.2.1 74 1 75 (.aload_n 0) := ⟨by decide +kernel, rfl⟩
theorem d_M_number_75 : vm_D q_M_number.2.1 75 3 78 (.getfield 31) := ⟨by decide +kernel, rfl⟩
theorem d_M_number_78 : vm_D q_M_number.2.1 78 1 79 (.isub) := ⟨by decide +kernel, rfl⟩
theorem d_M_number_79 : vm_D q_M_number.2.1 79 2 81 (.istore 4) := ⟨by decide +kernel, rfl⟩
theorem d_M_number_81 : vm_D q_M_number.2.1 81 2 83 (.iload 4) := ⟨by decide +kernel, rfl⟩
theorem d_M_number_83 : vm_B q_M_number.2.1 83 86 101 (fun o => .ifCond .eq o) := ⟨18, by decide +kernel, rfl, by decide⟩
theorem d_M_number_101 : vm_D q_M_number.2.1 101 1 102 (.aload_n 0) := ⟨by decide +kernel, rfl⟩
theorem d_M_number_102 : vm_D q_M_number.2.1 102 3 105 (.invokevirtual 42) := ⟨by decide +kernel, rfl⟩
theorem d_M_number_105 : vm_D q_M_number.2.1 105 1 106 (.iload_n 3) := ⟨by decide +kernel, rfl⟩
theorem d_M_number_106 : vm_D q_M_number.2.1 106 1 107 (.ireturn) := ⟨by decide +kernel, rfl⟩
theorem d_M_number_86 : vm_D q_M_number.2.1 86 2 88 (.iload 4) := ⟨by decide +kernel, rfl⟩
theorem d_M_number_88 : vm_D q_M_number.2.1 88 1 89 (.iconst 2) := ⟨by decide +kernel, rfl⟩
theorem d_M_number_89 : vm_B q_M_number.2.1 89 92 101 (fun o => .if_icmp .gt o) := ⟨12, by decide +kernel, rfl, by decide⟩
theorem d_M_number_92 : vm_D q_M_number.2.1 92 1 93 (.iload_n 3) := ⟨by decide +kernel, rfl⟩
theorem d_M_number_93 : vm_D q_M_number.2.1 93 1 94 (.iload_n 1) := ⟨by decide +kernel, rfl⟩
theorem d_M_number_94 : vm_D q_M_number.2.1 94 1 95 (.iload_n 2) := ⟨by decide +kernel, rfl⟩
theorem d_M_number_95 : vm_D q_M_number.2.1 95 3 98 (.invokestatic 65) := ⟨by decide +kernel, rfl⟩
theorem d_M_number_98 : vm_B q_M_number.2.1 98 101 105 (fun o => .ifCond .ne o) := ⟨7, by decide +kernel, rfl, by decide⟩
theorem d_M_number_7 : vm_D q_M_number.2.1 7 1 8 (.iload_n 1) := ⟨by decide +kernel, rfl⟩
theorem d_M_number_8 : vm_D q_M_number.2.1 8 1 9 (.ireturn) := ⟨by decide +kernel, rfl⟩
def q_M_letters : vm_Y := ("RepeatFreeModel", cX11_letters, 8, false, [])
theorem d_M_letters_0 : vm_D q_M_letters.2.1 0 1 1 (.aload_n 0) := ⟨by decide +kernel, rfl⟩
theorem d_M_letters_1 : vm_D q_M_letters.2.1 1 3 4 (.invokevirtual 45) := ⟨by decide +kernel, rfl⟩
theorem d_M_letters_4 : vm_D q_M_letters.2.1 4 2 6 (.istore 5) := ⟨by decide +kernel, rfl⟩
theorem d_M_letters_6 : vm_D q_M_letters.2.1 6 1 7 (.aload_n 0) := ⟨by decide +kernel, rfl⟩
theorem d_M_letters_7 : vm_D q_M_letters.2.1 7 3 10 (.invokevirtual 38) := ⟨by decide +kernel, rfl⟩
theorem d_M_letters_10 : vm_B q_M_letters.2.1 10 13 15 (fun o => .ifCond .eq o) := ⟨5, by decide +kernel, rfl, by decide⟩
theorem d_M_letters_15 : vm_D q_M_letters.2.1 15 2 17 (.iload 5) := ⟨by decide +kernel, rfl⟩
theorem d_M_letters_17 : vm_D q_M_letters.2.1 17 1 18 (.iconst 1) := ⟨by decide +kernel, rfl⟩
theorem d_M_letters_18 : vm_D q_M_letters.2.1 18 2 20 (.bipush 6) := ⟨by decide +kernel, rfl⟩
theorem d_M_letters_20 : vm_D q_M_letters.2.1 20 3 23 (.invokestatic 65) := ⟨by decide +kernel, rfl⟩
theorem d_M_letters_23 : vm_D q_M_letters.2.1 23 2 25 (.istore 6) := ⟨by decide +kernel, rfl⟩
theorem d_M_letters_25 : vm_D q_M_letters.2.1 25 1 26 (.iconst 0) := ⟨by decide +kernel, rfl⟩
theorem d_M_letters_26 : vm_D q_M_letters.2.1 26 2 28 (.istore 7) := ⟨by decide +kernel, rfl⟩
theorem d_M_letters_28 : vm_D q_M_letters.2.1 28 2 30 (.iload 6) := ⟨by decide +kernel, rfl⟩
theorem d_M_letters_30 : vm_B q_M_letters.2.1 30 33 69 (fun o => .ifCond .eq o) := ⟨39, by decide +kernel, rfl, by decide⟩
theorem d_M_letters_33 : vm_D q_M_letters.2.1 33 2 35 (.iload 7) := ⟨by decide +kernel, rfl⟩
theorem d_M_letters_35 : vm_D q_M_letters.2.1 35 2 37 (.iload 5) := ⟨by decide +kernel, rfl⟩
theorem d_M_letters_37 : vm_B q_M_letters.2.1 37 40 69 (fun o => .if_icmp .ge o) := ⟨32, by decide +kernel, rfl, by decide⟩
theorem d_M_letters_40 : vm_D q_M_letters.2.1 40 1 41 (.aload_n 0) := ⟨by decide +kernel, rfl⟩
theorem d_M_letters_41 : vm_D q_M_letters.2.1 41 3 44 (.getfield 14) := ⟨by decide +kernel, rfl⟩
theorem d_M_letters_44 : vm_D q_M_letters.2.1 44 1 45 (.aload_n 0) := ⟨by decide +kernel, rfl⟩
theorem d_M_letters_45 : vm_D q_M_letters.2.1 45 3 48 (.getfield 21) := ⟨by decide +kernel, rfl⟩
theorem d_M_letters_48 : vm_D q_M_letters.2.1 48 2 50 (.iload 7) := ⟨by decide +kernel, rfl⟩
theorem d_M_letters_50 : vm_D q_M_letters.2.1 50 1 51 (.iadd) := ⟨by decide +kernel, rfl⟩
theorem d_M_letters_51 : vm_D q_M_letters.2.1 51 1 52 (.baload) := ⟨by decide +kernel, rfl⟩
theorem d_M_letters_52 : vm_D q_M_letters.2.1 52 1 53 (.iload_n 1) := ⟨by decide +kernel, rfl⟩
theorem d_M_letters_53 : vm_D q_M_letters.2.1 53 1 54 (.iload_n 1) := ⟨by decide +kernel, rfl⟩
theorem d_M_letters_54 : vm_D q_M_letters.2.1 54 1 55 (.iload_n 2) := ⟨by decide +kernel, rfl⟩
theorem d_M_letters_55 : vm_D q_M_letters.2.1 55 1 56 (.iadd) := ⟨by decide +kernel, rfl⟩
theorem d_M_letters_56 : vm_D q_M_letters.2.1 56 1 57 (.iconst 1) := ⟨by decide +kernel, rfl⟩
theorem d_M_letters_57 : vm_D q_M_letters.2.1 57 1 58 (.isub) := ⟨by decide +kernel, rfl⟩
theorem d_M_letters_58 : vm_D q_M_letters.2.1 58 3 61 (.invokestatic 65) := ⟨by decide +kernel, rfl⟩
theorem d_M_letters_61 : vm_D q_M_letters.2.1 61 2 63 (.istore 6) := ⟨by decide +kernel, rfl⟩
theorem d_M_letters_63 : vm_D q_M_letters.2.1 63 3 66 (.iinc 7 1) := ⟨by decide +kernel, rfl⟩
theorem d_M_letters_66 : ∃ off : Int, decode q_M_letters.2.1 66 = .ok (.goto off, 3) ∧ ((66 : Nat) : Int) + off = ((28 : Nat) : Int) := ⟨-38, by decide +kernel, by decide⟩
theorem d_M_letters_69 : vm_D q_M_letters.2.1 69 2 71 (.iload 6) := ⟨by decide +kernel, rfl⟩
theorem d_M_letters_71 : vm_B q_M_letters.2.1 71 74 80 (fun o => .ifCond .ne o) := ⟨9, by decide +kernel, rfl, by decide⟩
theorem d_M_letters_80 : vm_D q_M_letters.2.1 80 1 81 (.iconst 0) := ⟨by decide +kernel, rfl⟩
theorem d_M_letters_81 : vm_D q_M_letters.2.1 81 2 83 (.istore 7) := ⟨by decide +kernel, rfl⟩
theorem d_M_letters_83 : vm_D q_M_letters.2.1 83 2 85 (.iload 7) := ⟨by decide +kernel, rfl⟩
theorem d_M_letters_85 : vm_D q_M_letters.2.1 85 2 87 (.iload 5) := ⟨by decide +kernel, rfl⟩
theorem d_M_letters_87 : vm_B q_M_letters.2.1 87 90 117 (fun o => .if_icmp .ge o) := ⟨30, by decide +kernel, rfl, by decide⟩
theorem d_M_letters_90 : vm_D q_M_letters.2.1 90 1 91 (.aload_n 3) := ⟨by decide +kernel, rfl⟩
theorem d_M_letters_91 : vm_D q_M_letters.2.1 91 2 93 (.iload 4) := ⟨by decide +kernel, rfl⟩
theorem d_M_letters_93 : vm_D q_M_letters.2.1 93 2 95 (.iload 7) := ⟨by decide +kernel, rfl⟩
theorem d_M_letters_95 : vm_D q_M_letters.2.1 95 1 96 (.iadd) := ⟨by decide +kernel, rfl⟩
theorem d_M_letters_96 : vm_D q_M_letters.2.1 96 1 97 (.aload_n 0) := ⟨by decide +kernel, rfl⟩
theorem d_M_letters_97 : vm_D q_M_letters.2.1 97 3 100 (.getfield 14) := ⟨by decide +kernel, rfl⟩
theorem d_M_letters_100 : vm_D q_M_letters.2.1 100 1 101 (.aload_n 0) := ⟨by decide +kernel, rfl⟩
theorem d_M_letters_101 : vm_D q_M_letters.2.1 101 3 104 (.getfield 21) := ⟨by decide +kernel, rfl⟩
theorem d_M_letters_104 : vm_D q_M_letters.2.1 104 2 106 (.iload 7) := ⟨by decide +kernel, rfl⟩
theorem d_M_letters_106 : vm_D q_M_letters.2.1 106 1 107 (.iadd) := ⟨by decide +kernel, rfl⟩
theorem d_M_letters_107 : vm_D q_M_letters.2.1 107 1 108 (.baload) := ⟨by decide +kernel, rfl⟩
theorem d_M_letters_108 : vm_D q_M_letters.2.1 108 1 109 (.iload_n 1) := ⟨by decide +kernel, rfl⟩
theorem d_M_letters_109 : vm_D q_M_letters.2.1 109 1 110 (.isub) := ⟨by decide +kernel, rfl⟩
theorem d_M_letters_110 : vm_D q_M_letters.2.1 110 1 111 (.iastore) := ⟨by decide +kernel, rfl⟩
theorem d_M_letters_111 : vm_D q_M_letters.2.1 111 3 114 (.iinc 7 1) := ⟨by decide +kernel, rfl⟩
theorem d_M_letters_114 : ∃ off : Int, decode q_M_letters.2.1 114 = .ok (.goto off, 3) ∧ ((114 : Nat) : Int) + off = ((83 : Nat) : Int) := ⟨-31, by decide +kernel, by decide⟩
theorem d_M_letters_117 : vm_D q_M_letters.2.1 117 1 118 (.aload_n 0) := ⟨by decide +kernel, rfl⟩
theorem d_M_letters_118 : vm_D q_M_letters.2.1 118 1 119 (.dup) := ⟨by decide +kernel, rfl⟩
theorem d_M_letters_119 : vm_D q_M_letters.2.1 119 3 122 (.getfield 21) := ⟨by decide +kernel, rfl⟩
theorem d_M_letters_122 : vm_D q_M_letters.2.1 122 2 124 (.iload 5) := ⟨by decide +kernel, rfl⟩
theorem d_M_letters_124 : vm_D q_M_letters.2.1 124 1 125 (.iadd) := ⟨by decide +kernel, rfl⟩
theorem d_M_letters_125 : vm_D q_M_letters.2.1 125 3 128 (.putfield 21) := ⟨by decide +kernel, rfl⟩
theorem d_M_letters_128 : vm_D q_M_letters.2.1 128 2 130 (.iload 5) := ⟨by decide +kernel, rfl⟩
theorem d_M_letters_130 : vm_D q_M_letters.2.1 130 1 131 (.ireturn) := ⟨by decide +kernel, rfl⟩
theorem d_M_letters_74 : vm_D q_M_letters.2.1 74 1 75 (.aload_n 0) := ⟨by decide +kernel, rfl⟩
theorem d_M_letters_75 : vm_D q_M_letters.2.1 75 3 78 (.invokevirtual 42) := ⟨by decide +kernel, rfl⟩
theorem d_M_letters_78 : vm_D q_M_letters.2.1 78 1 79 (.iconst 0) := ⟨by decide +kernel, rfl⟩
theorem d_M_letters_79 : vm_D q_M_letters.2.1 79 1 80 (.ireturn) := ⟨by decide +kernel, rfl⟩
theorem d_M_letters_13 : vm_D q_M_letters.2.1 13 1 14 (.iconst 0) := ⟨by decide +kernel, rfl⟩
theorem d_M_letters_14 : vm_D q_M_letters.2.1 14 1 15 (.ireturn) := ⟨by decide +kernel, rfl⟩
def q_M_fault : vm_Y := ("RepeatFreeModel", cX11_fault, 1, false, [])
theorem d_M_fault_0 : vm_D q_M_fault.2.1 0 1 1 (.aload_n 0) := ⟨by decide +kernel, rfl⟩
theorem d_M_fault_1 : vm_D q_M_fault.2.1 1 1 2 (.iconst 0) := ⟨by decide +kernel, rfl⟩
theorem d_M_fault_2 : vm_D q_M_fault.2.1 2 3 5 (.putfield 3) := ⟨by decide +kernel, rfl⟩
theorem d_M_fault_5 : vm_D q_M_fault.2.1 5 1 6 (.aload_n 0) := ⟨by decide +kernel, rfl⟩
theorem d_M_fault_6 : vm_D q_M_fault.2.1 6 3 9 (.getfield 69) := ⟨by decide +kernel, rfl⟩
theorem d_M_fault_9 : vm_D q_M_fault.2.1 9 1 10 (.ireturn) := ⟨by decide +kernel, rfl⟩
def q_M_init : vm_Y := ("RepeatFreeModel", cX11_init, 1, true, [])
theorem d_M_init_0 : vm_D q_M_init.2.1 0 1 1 (.aload_n 0) := ⟨by decide +kernel, rfl⟩
theorem d_M_init_1 : vm_D q_M_init.2.1 1 3 4 (.invokespecial 72) := ⟨by decide +kernel, rfl⟩
theorem d_M_init_4 : vm_D q_M_init.2.1 4 1 5 (.aload_n 0) := ⟨by decide +kernel, rfl⟩
theorem d_M_init_5 : vm_D q_M_init.2.1 5 3 8 (.sipush 400) := ⟨by decide +kernel, rfl⟩
theorem d_M_init_8 : vm_D q_M_init.2.1 8 2 10 (.newarray .byte) := ⟨by decide +kernel, rfl⟩
theorem d_M_init_10 : vm_D q_M_init.2.1 10 3 13 (.putfield 14) := ⟨by decide +kernel, rfl⟩
theorem d_M_init_13 : vm_D q_M_init.2.1 13 1 14 (.aload_n 0) := ⟨by decide +kernel, rfl⟩
theorem d_M_init_14 : vm_D q_M_init.2.1 14 1 15 (.iconst 5) := ⟨by decide +kernel, rfl⟩
theorem d_M_init_15 : vm_D q_M_init.2.1 15 2 17 (.newarray .int) := ⟨by decide +kernel, rfl⟩
theorem d_M_init_17 : vm_D q_M_init.2.1 17 3 20 (.putfield 10) := ⟨by decide +kernel, rfl⟩
theorem d_M_init_20 : vm_D q_M_init.2.1 20 1 21 (.aload_n 0) := ⟨by decide +kernel, rfl⟩
theorem d_M_init_21 : vm_D q_M_init.2.1 21 1 22 (.iconst (-1)) := ⟨by decide +kernel, rfl⟩
theorem d_M_init_22 : vm_D q_M_init.2.1 22 3 25 (.putfield 69) := ⟨by decide +kernel, rfl⟩
theorem d_M_init_25 : vm_D q_M_init.2.1 25 1 26 (.aload_n 0) := ⟨by decide +kernel, rfl⟩
theorem d_M_init_26 : vm_D q_M_init.2.1 26 3 29 (.sipush 198) := ⟨by decide +kernel, rfl⟩
theorem d_M_init_29 : vm_D q_M_init.2.1 29 2 31 (.newarray .int) := ⟨by decide +kernel, rfl⟩
theorem d_M_init_31 : vm_D q_M_init.2.1 31 3 34 (.putfield 77) := ⟨by decide +kernel, rfl⟩
theorem d_M_init_34 : vm_D q_M_init.2.1 34 1 35 (.aload_n 0) := ⟨by decide +kernel, rfl⟩
theorem d_M_init_35 : vm_D q_M_init.2.1 35 3 38 (.sipush 198) := ⟨by decide +kernel, rfl⟩
theorem d_M_init_38 : vm_D q_M_init.2.1 38 2 40 (.newarray .int) := ⟨by decide +kernel, rfl⟩
theorem d_M_init_40 : vm_D q_M_init.2.1 40 3 43 (.putfield 80) := ⟨by decide +kernel, rfl⟩
theorem d_M_init_43 : vm_D q_M_init.2.1 43 1 44 (.aload_n 0) := ⟨by decide +kernel, rfl⟩
theorem d_M_init_44 : vm_D q_M_init.2.1 44 2 46 (.bipush 64) := ⟨by decide +kernel, rfl⟩
theorem d_M_init_46 : vm_D q_M_init.2.1 46 2 48 (.newarray .int) := ⟨by decide +kernel, rfl⟩
theorem d_M_init_48 : vm_D q_M_init.2.1 48 3 51 (.putfield 83) := ⟨by decide +kernel, rfl⟩
theorem d_M_init_51 : vm_D q_M_init.2.1 51 1 52 (.aload_n 0) := ⟨by decide +kernel, rfl⟩
theorem d_M_init_52 : vm_D q_M_init.2.1 52 2 54 (.bipush 64) := ⟨by decide +kernel, rfl⟩
theorem d_M_init_54 : vm_D q_M_init.2.1 54 2 56 (.newarray .int) := ⟨by decide +kernel, rfl⟩
theorem d_M_init_56 : vm_D q_M_init.2.1 56 3 59 (.putfield 86) := ⟨by decide +kernel, rfl⟩
theorem d_M_init_59 : vm_D q_M_init.2.1 59 1 60 (.aload_n 0) := ⟨by decide +kernel, rfl⟩
theorem d_M_init_60 : vm_D q_M_init.2.1 60 3 63 (.sipush 650) := ⟨by decide +kernel, rfl⟩
theorem d_M_init_63 : vm_D q_M_init.2.1 63 2 65 (.newarray .int) := ⟨by decide +kernel, rfl⟩
theorem d_M_init_65 : vm_D q_M_init.2.1 65 3 68 (.putfield 89) := ⟨by decide +kernel, rfl⟩
theorem d_M_init_68 : vm_D q_M_init.2.1 68 1 69 (.aload_n 0) := ⟨by decide +kernel, rfl⟩
theorem d_M_init_69 : vm_D q_M_init.2.1 69 1 70 (.iconst 3) := ⟨by decide +kernel, rfl⟩
theorem d_M_init_70 : vm_D q_M_init.2.1 70 2 72 (.newarray .int) := ⟨by decide +kernel, rfl⟩
theorem d_M_init_72 : vm_D q_M_init.2.1 72 3 75 (.putfield 92) := ⟨by decide +kernel, rfl⟩
theorem d_M_init_75 : vm_D q_M_init.2.1 75 1 76 (.aload_n 0) := ⟨by decide +kernel, rfl⟩
theorem d_M_init_76 : vm_D q_M_init.2.1 76 1 77 (.iconst 3) := ⟨by decide +kernel, rfl⟩
theorem d_M_init_77 : vm_D q_M_init.2.1 77 2 79 (.newarray .int) := ⟨by decide +kernel, rfl⟩
theorem d_M_init_79 : vm_D q_M_init.2.1 79 3 82 (.putfield 95) := ⟨by decide +kernel, rfl⟩
theorem d_M_init_82 : vm_D q_M_init.2.1 82 1 83 (.aload_n 0) := ⟨by decide +kernel, rfl⟩
theorem d_M_init_83 : vm_D q_M_init.2.1 83 2 85 (.bipush 72) := ⟨by decide +kernel, rfl⟩
theorem d_M_init_85 : vm_D q_M_init.2.1 85 2 87 (.newarray .int) := ⟨by decide +kernel, rfl⟩
theorem d_M_init_87 : vm_D q_M_init.2.1 87 3 90 (.putfield 98) := ⟨by decide +kernel, rfl⟩
theorem d_M_init_90 : vm_D q_M_init.2.1 90 1 91 (.aload_n 0) := ⟨by decide +kernel, rfl⟩
theorem d_M_init_91 : vm_D q_M_init.2.1 91 3 94 (.sipush 384) := ⟨by decide +kernel, rfl⟩
theorem d_M_init_94 : vm_D q_M_init.2.1 94 2 96 (.newarray .int) := ⟨by decide +kernel, rfl⟩
theorem d_M_init_96 : vm_D q_M_init.2.1 96 3 99 (.putfield 101) := ⟨by decide +kernel, rfl⟩
theorem d_M_init_99 : vm_D q_M_init.2.1 99 1 100 (.aload_n 0) := ⟨by decide +kernel, rfl⟩
theorem d_M_init_100 : vm_D q_M_init.2.1 100 3 103 (.sipush 208) := ⟨by decide +kernel, rfl⟩
theorem d_M_init_103 : vm_D q_M_init.2.1 103 2 105 (.newarray .long) := ⟨by decide +kernel, rfl⟩
theorem d_M_init_105 : vm_D q_M_init.2.1 105 3 108 (.putfield 104) := ⟨by decide +kernel, rfl⟩
theorem d_M_init_108 : vm_D q_M_init.2.1 108 1 109 (.aload_n 0) := ⟨by decide +kernel, rfl⟩
theorem d_M_init_109 : vm_D q_M_init.2.1 109 2 111 (.bipush 65) := ⟨by decide +kernel, rfl⟩
theorem d_M_init_111 : vm_D q_M_init.2.1 111 2 113 (.newarray .long) := ⟨by decide +kernel, rfl⟩
theorem d_M_init_113 : vm_D q_M_init.2.1 113 3 116 (.putfield 108) := ⟨by decide +kernel, rfl⟩
theorem d_M_init_116 : vm_D q_M_init.2.1 116 1 117 (.aload_n 0) := ⟨by decide +kernel, rfl⟩
theorem d_M_init_117 : vm_D q_M_init.2.1 117 2 119 (.bipush 24) := ⟨by decide +kernel, rfl⟩
theorem d_M_init_119 : vm_D q_M_init.2.1 119 2 121 (.newarray .boolean) := ⟨by decide +kernel, rfl⟩
theorem d_M_init_121 : vm_D q_M_init.2.1 121 3 124 (.putfield 111) := ⟨by decide +kernel, rfl⟩
theorem d_M_init_124 : vm_D q_M_init.2.1 124 1 125 (.aload_n 0) := ⟨by decide +kernel, rfl⟩
theorem d_M_init_125 : vm_D q_M_init.2.1 125 2 127 (.bipush 6) := ⟨by decide +kernel, rfl⟩
theorem d_M_init_127 : vm_D q_M_init.2.1 127 2 129 (.newarray .int) := ⟨by decide +kernel, rfl⟩
theorem d_M_init_129 : vm_D q_M_init.2.1 129 3 132 (.putfield 115) := ⟨by decide +kernel, rfl⟩
theorem d_M_init_132 : vm_D q_M_init.2.1 132 1 133 (.aload_n 0) := ⟨by decide +kernel, rfl⟩
theorem d_M_init_133 : vm_D q_M_init.2.1 133 3 136 (.getfield 77) := ⟨by decide +kernel, rfl⟩
theorem d_M_init_136 : vm_D q_M_init.2.1 136 1 137 (.iconst 0) := ⟨by decide +kernel, rfl⟩
theorem d_M_init_137 : vm_D q_M_init.2.1 137 1 138 (.iconst 2) := ⟨by decide +kernel, rfl⟩
theorem d_M_init_138 : vm_D q_M_init.2.1 138 1 139 (.iastore) := ⟨by decide +kernel, rfl⟩
theorem d_M_init_139 : vm_D q_M_init.2.1 139 1 140 (.return_) := ⟨by decide +kernel, rfl⟩
def q_M_isName : vm_Y := ("RepeatFreeModel", cX11_isName, 2, false, [])
theorem d_M_isName_0 : vm_D q_M_isName.2.1 0 1 1 (.aload_n 0) := ⟨by decide +kernel, rfl⟩
theorem d_M_isName_1 : vm_D q_M_isName.2.1 1 3 4 (.invokevirtual 45) := ⟨by decide +kernel, rfl⟩
theorem d_M_isName_4 : vm_D q_M_isName.2.1 4 1 5 (.istore_n 1) := ⟨by decide +kernel, rfl⟩
theorem d_M_isName_5 : vm_D q_M_isName.2.1 5 1 6 (.aload_n 0) := ⟨by decide +kernel, rfl⟩
theorem d_M_isName_6 : vm_D q_M_isName.2.1 6 3 9 (.invokevirtual 38) := ⟨by decide +kernel, rfl⟩
theorem d_M_isName_9 : vm_B q_M_isName.2.1 9 12 98 (fun o => .ifCond .ne o) := ⟨89, by decide +kernel, rfl, by decide⟩
theorem d_M_isName_98 : vm_D q_M_isName.2.1 98 1 99 (.iconst 0) := ⟨by decide +kernel, rfl⟩
theorem d_M_isName_99 : vm_D q_M_isName.2.1 99 1 100 (.ireturn) := ⟨by decide +kernel, rfl⟩
theorem d_M_isName_12 : vm_D q_M_isName.2.1 12 1 13 (.iload_n 1) := ⟨by decide +kernel, rfl⟩
theorem d_M_isName_13 : vm_D q_M_isName.2.1 13 1 14 (.iconst 1) := ⟨by decide +kernel, rfl⟩
theorem d_M_isName_14 : vm_D q_M_isName.2.1 14 2 16 (.bipush 6) := ⟨by decide +kernel, rfl⟩
theorem d_M_isName_16 : vm_D q_M_isName.2.1 16 3 19 (.invokestatic 65) := ⟨by decide +kernel, rfl⟩
theorem d_M_isName_19 : vm_B q_M_isName.2.1 19 22 98 (fun o => .ifCond .eq o) := ⟨79, by decide +kernel, rfl, by decide⟩
theorem d_M_isName_22 : vm_D q_M_isName.2.1 22 1 23 (.aload_n 0) := ⟨by decide +kernel, rfl⟩
theorem d_M_isName_23 : vm_D q_M_isName.2.1 23 2 25 (.ldc 118) := ⟨by decide +kernel, rfl⟩
theorem d_M_isName_25 : vm_D q_M_isName.2.1 25 3 28 (.invokevirtual 58) := ⟨by decide +kernel, rfl⟩
theorem d_M_isName_28 : vm_B q_M_isName.2.1 28 31 98 (fun o => .ifCond .ne o) := ⟨70, by decide +kernel, rfl, by decide⟩
theorem d_M_isName_31 : vm_D q_M_isName.2.1 31 1 32 (.aload_n 0) := ⟨by decide +kernel, rfl⟩
theorem d_M_isName_32 : vm_D q_M_isName.2.1 32 2 34 (.ldc 120) := ⟨by decide +kernel, rfl⟩
theorem d_M_isName_34 : vm_D q_M_isName.2.1 34 3 37 (.invokevirtual 58) := ⟨by decide +kernel, rfl⟩
theorem d_M_isName_37 : vm_B q_M_isName.2.1 37 40 98 (fun o => .ifCond .ne o) := ⟨61, by decide +kernel, rfl, by decide⟩
theorem d_M_isName_40 : vm_D q_M_isName.2.1 40 1 41 (.aload_n 0) := ⟨by decide +kernel, rfl⟩
theorem d_M_isName_41 : vm_D q_M_isName.2.1 41 2 43 (.ldc 122) := ⟨by decide +kernel, rfl⟩
theorem d_M_isName_43 : vm_D q_M_isName.2.1 43 3 46 (.invokevirtual 58) := ⟨by decide +kernel, rfl⟩
theorem d_M_isName_46 : vm_B q_M_isName.2.1 46 49 98 (fun o => .ifCond .ne o) := ⟨52, by decide +kernel, rfl, by decide⟩
theorem d_M_isName_49 : vm_D q_M_isName.2.1 49 1 50 (.aload_n 0) := ⟨by decide +kernel, rfl⟩
theorem d_M_isName_50 : vm_D q_M_isName.2.1 50 2 52 (.ldc 124) := ⟨by decide +kernel, rfl⟩
theorem d_M_isName_52 : vm_D q_M_isName.2.1 52 3 55 (.invokevirtual 58) := ⟨by decide +kernel, rfl⟩
theorem d_M_isName_55 : vm_B q_M_isName.2.1 55 58 98 (fun o => .ifCond .ne o) := ⟨43, by decide +kernel, rfl, by decide⟩
theorem d_M_isName_58 : vm_D q_M_isName.2.1 58 1 59 (.aload_n 0) := ⟨by decide +kernel, rfl⟩
theorem d_M_isName_59 : vm_D q_M_isName.2.1 59 2 61 (.ldc 126) := ⟨by decide +kernel, rfl⟩
theorem d_M_isName_61 : vm_D q_M_isName.2.1 61 3 64 (.invokevirtual 58) := ⟨by decide +kernel, rfl⟩
theorem d_M_isName_64 : vm_B q_M_isName.2.1 64 67 98 (fun o => .ifCond .ne o) := ⟨34, by decide +kernel, rfl, by decide⟩
theorem d_M_isName_67 : vm_D q_M_isName.2.1 67 1 68 (.aload_n 0) := ⟨by decide +kernel, rfl⟩
theorem d_M_isName_68 : vm_D q_M_isName.2.1 68 2 70 (.ldc 128) := ⟨by decide +kernel, rfl⟩
theorem d_M_isName_70 : vm_D q_M_isName.2.1 70 3 73 (.invokevirtual 58) := ⟨by decide +kernel, rfl⟩
theorem d_M_isName_73 : vm_B q_M_isName.2.1 73 76 98 (fun o => .ifCond .ne o) := ⟨25, by decide +kernel, rfl, by decide⟩
theorem d_M_isName_76 : vm_D q_M_isName.2.1 76 1 77 (.aload_n 0) := ⟨by decide +kernel, rfl⟩
theorem d_M_isName_77 : vm_D q_M_isName.2.1 77 2 79 (.ldc 130) := ⟨by decide +kernel, rfl⟩
theorem d_M_isName_79 : vm_D q_M_isName.2.1 79 3 82 (.invokevirtual 58) := ⟨by decide +kernel, rfl⟩
theorem d_M_isName_82 : vm_B q_M_isName.2.1 82 85 98 (fun o => .ifCond .ne o) := ⟨16, by decide +kernel, rfl, by decide⟩
theorem d_M_isName_85 : vm_D q_M_isName.2.1 85 1 86 (.aload_n 0) := ⟨by decide +kernel, rfl⟩
theorem d_M_isName_86 : vm_D q_M_isName.2.1 86 2 88 (.ldc 132) := ⟨by decide +kernel, rfl⟩
theorem d_M_isName_88 : vm_D q_M_isName.2.1 88 3 91 (.invokevirtual 58) := ⟨by decide +kernel, rfl⟩
theorem d_M_isName_91 : vm_B q_M_isName.2.1 91 94 98 (fun o => .ifCond .ne o) := ⟨7, by decide +kernel, rfl, by decide⟩
theorem d_M_isName_94 : vm_D q_M_isName.2.1 94 1 95 (.iconst 1) := ⟨by decide +kernel, rfl⟩
theorem d_M_isName_95 : ∃ off : Int, decode q_M_isName.2.1 95 = .ok (.goto off, 3) ∧ ((95 : Nat) : Int) + off = ((99 : Nat) : Int) := ⟨4, by decide +kernel, by decide⟩
def q_M_named : vm_Y := ("RepeatFreeModel", cX11_named, 7, false, [])
theorem d_M_named_0 : vm_D q_M_named.2.1 0 1 1 (.aload_n 0) := ⟨by decide +kernel, rfl⟩
theorem d_M_named_1 : vm_D q_M_named.2.1 1 3 4 (.invokevirtual 45) := ⟨by decide +kernel, rfl⟩
theorem d_M_named_4 : vm_D q_M_named.2.1 4 1 5 (.istore_n 3) := ⟨by decide +kernel, rfl⟩
theorem d_M_named_5 : vm_D q_M_named.2.1 5 1 6 (.iconst 0) := ⟨by decide +kernel, rfl⟩
theorem d_M_named_6 : vm_D q_M_named.2.1 6 2 8 (.istore 4) := ⟨by decide +kernel, rfl⟩
theorem d_M_named_8 : vm_D q_M_named.2.1 8 2 10 (.iload 4) := ⟨by decide +kernel, rfl⟩
theorem d_M_named_10 : vm_D q_M_named.2.1 10 1 11 (.iload_n 2) := ⟨by decide +kernel, rfl⟩
theorem d_M_named_11 : vm_B q_M_named.2.1 11 14 102 (fun o => .if_icmp .ge o) := ⟨91, by decide +kernel, rfl, by decide⟩
theorem d_M_named_14 : vm_D q_M_named.2.1 14 1 15 (.iconst 1) := ⟨by decide +kernel, rfl⟩
theorem d_M_named_15 : vm_D q_M_named.2.1 15 2 17 (.istore 5) := ⟨by decide +kernel, rfl⟩
theorem d_M_named_17 : vm_D q_M_named.2.1 17 1 18 (.iconst 0) := ⟨by decide +kernel, rfl⟩
theorem d_M_named_18 : vm_D q_M_named.2.1 18 2 20 (.istore 6) := ⟨by decide +kernel, rfl⟩
theorem d_M_named_20 : vm_D q_M_named.2.1 20 2 22 (.iload 6) := ⟨by decide +kernel, rfl⟩
theorem d_M_named_22 : vm_D q_M_named.2.1 22 2 24 (.bipush 6) := ⟨by decide +kernel, rfl⟩
theorem d_M_named_24 : vm_B q_M_named.2.1 24 27 88 (fun o => .if_icmp .ge o) := ⟨64, by decide +kernel, rfl, by decide⟩
theorem d_M_named_27 : vm_D q_M_named.2.1 27 2 29 (.iload 5) := ⟨by decide +kernel, rfl⟩
theorem d_M_named_29 : vm_B q_M_named.2.1 29 32 79 (fun o => .ifCond .eq o) := ⟨50, by decide +kernel, rfl, by decide⟩
theorem d_M_named_80 : vm_D q_M_named.2.1 80 2 82 (.istore 5) := ⟨by decide +kernel, rfl⟩
theorem d_M_named_82 : vm_D q_M_named.2.1 82 3 85 (.iinc 6 1) := ⟨by decide +kernel, rfl⟩
theorem d_M_named_85 : ∃ off : Int, decode q_M_named.2.1 85 = .ok (.goto off, 3) ∧ ((85 : Nat) : Int) + off = ((20 : Nat) : Int) := ⟨-65, by decide +kernel, by decide⟩
theorem d_M_named_79 : vm_D q_M_named.2.1 79 1 80 (.iconst 0) := ⟨by decide +kernel, rfl⟩
theorem d_M_named_32 : vm_D q_M_named.2.1 32 1 33 (.aload_n 0) := ⟨by decide +kernel, rfl⟩
theorem d_M_named_33 : vm_D q_M_named.2.1 33 3 36 (.getfield 80) := ⟨by decide +kernel, rfl⟩
theorem d_M_named_36 : vm_D q_M_named.2.1 36 2 38 (.bipush 6) := ⟨by decide +kernel, rfl⟩
theorem d_M_named_38 : vm_D q_M_named.2.1 38 2 40 (.bipush 6) := ⟨by decide +kernel, rfl⟩
theorem d_M_named_40 : vm_D q_M_named.2.1 40 1 41 (.iload_n 1) := ⟨by decide +kernel, rfl⟩
theorem d_M_named_41 : vm_D q_M_named.2.1 41 2 43 (.iload 4) := ⟨by decide +kernel, rfl⟩
theorem d_M_named_43 : vm_D q_M_named.2.1 43 1 44 (.iadd) := ⟨by decide +kernel, rfl⟩
theorem d_M_named_44 : vm_D q_M_named.2.1 44 1 45 (.imul) := ⟨by decide +kernel, rfl⟩
theorem d_M_named_45 : vm_D q_M_named.2.1 45 1 46 (.iadd) := ⟨by decide +kernel, rfl⟩
theorem d_M_named_46 : vm_D q_M_named.2.1 46 2 48 (.iload 6) := ⟨by decide +kernel, rfl⟩
theorem d_M_named_48 : vm_D q_M_named.2.1 48 1 49 (.iadd) := ⟨by decide +kernel, rfl⟩
theorem d_M_named_49 : vm_D q_M_named.2.1 49 1 50 (.iaload) := ⟨by decide +kernel, rfl⟩
theorem d_M_named_50 : vm_D q_M_named.2.1 50 2 52 (.iload 6) := ⟨by decide +kernel, rfl⟩
theorem d_M_named_52 : vm_D q_M_named.2.1 52 1 53 (.iload_n 3) := ⟨by decide +kernel, rfl⟩
theorem d_M_named_53 : vm_B q_M_named.2.1 53 56 71 (fun o => .if_icmp .ge o) := ⟨18, by decide +kernel, rfl, by decide⟩
theorem d_M_named_72 : vm_B q_M_named.2.1 72 75 79 (fun o => .if_icmp .ne o) := ⟨7, by decide +kernel, rfl, by decide⟩
theorem d_M_named_75 : vm_D q_M_named.2.1 75 1 76 (.iconst 1) := ⟨by decide +kernel, rfl⟩
theorem d_M_named_76 : ∃ off : Int, decode q_M_named.2.1 76 = .ok (.goto off, 3) ∧ ((76 : Nat) : Int) + off = ((80 : Nat) : Int) := ⟨4, by decide +kernel, by decide⟩
theorem d_M_named_71 : vm_D q_M_named.2.1 71 1 72 (.iconst 0) := ⟨by decide +kernel, rfl⟩
theorem d_M_named_56 : vm_D q_M_named.2.1 56 1 57 (.aload_n 0) := ⟨by decide +kernel, rfl⟩
theorem d_M_named_57 : vm_D q_M_named.2.1 57 3 60 (.getfield 14) := ⟨by decide +kernel, rfl⟩
theorem d_M_named_60 : vm_D q_M_named.2.1 60 1 61 (.aload_n 0) := ⟨by decide +kernel, rfl⟩
theorem d_M_named_61 : vm_D q_M_named.2.1 61 3 64 (.getfield 21) := ⟨by decide +kernel, rfl⟩
theorem d_M_named_64 : vm_D q_M_named.2.1 64 2 66 (.iload 6) := ⟨by decide +kernel, rfl⟩
theorem d_M_named_66 : vm_D q_M_named.2.1 66 1 67 (.iadd) := ⟨by decide +kernel, rfl⟩
theorem d_M_named_67 : vm_D q_M_named.2.1 67 1 68 (.baload) := ⟨by decide +kernel, rfl⟩
theorem d_M_named_68 : ∃ off : Int, decode q_M_named.2.1 68 = .ok (.goto off, 3) ∧ ((68 : Nat) : Int) + off = ((72 : Nat) : Int) := ⟨4, by decide +kernel, by decide⟩
theorem d_M_named_88 : vm_D q_M_named.2.1 88 2 90 (.iload 5) := ⟨by decide +kernel, rfl⟩
theorem d_M_named_90 : vm_B q_M_named.2.1 90 93 96 (fun o => .ifCond .eq o) := ⟨6, by decide +kernel, rfl, by decide⟩
theorem d_M_named_96 : vm_D q_M_named.2.1 96 3 99 (.iinc 4 1) := ⟨by decide +kernel, rfl⟩
theorem d_M_named_99 : ∃ off : Int, decode q_M_named.2.1 99 = .ok (.goto off, 3) ∧ ((99 : Nat) : Int) + off = ((8 : Nat) : Int) := ⟨-91, by decide +kernel, by decide⟩
theorem d_M_named_93 : vm_D q_M_named.2.1 93 2 95 (.iload 4) := ⟨by decide +kernel, rfl⟩
theorem d_M_named_95 : vm_D q_M_named.2.1 95 1 96 (.ireturn) := ⟨by decide +kernel, rfl⟩
theorem d_M_named_102 : vm_D q_M_named.2.1 102 1 103 (.iconst (-1)) := ⟨by decide +kernel, rfl⟩
theorem d_M_named_103 : vm_D q_M_named.2.1 103 1 104 (.ireturn) := ⟨by decide +kernel, rfl⟩
def q_M_freshName : vm_Y := ("RepeatFreeModel", cX11_freshName, 4, false, [])
theorem d_M_freshName_0 : vm_D q_M_freshName.2.1 0 1 1 (.aload_n 0) := ⟨by decide +kernel, rfl⟩
theorem d_M_freshName_1 : vm_D q_M_freshName.2.1 1 3 4 (.invokevirtual 38) := ⟨by decide +kernel, rfl⟩
theorem d_M_freshName_4 : vm_B q_M_freshName.2.1 4 7 8 (fun o => .ifCond .eq o) := ⟨4, by decide +kernel, rfl, by decide⟩
theorem d_M_freshName_8 : vm_D q_M_freshName.2.1 8 1 9 (.aload_n 0) := ⟨by decide +kernel, rfl⟩
theorem d_M_freshName_9 : vm_D q_M_freshName.2.1 9 3 12 (.invokevirtual 134) := ⟨by decide +kernel, rfl⟩
theorem d_M_freshName_12 : vm_B q_M_freshName.2.1 12 15 45 (fun o => .ifCond .eq o) := ⟨33, by decide +kernel, rfl, by decide⟩
theorem d_M_freshName_45 : vm_D q_M_freshName.2.1 45 1 46 (.aload_n 0) := ⟨by decide +kernel, rfl⟩
theorem d_M_freshName_46 : vm_D q_M_freshName.2.1 46 3 49 (.invokevirtual 42) := ⟨by decide +kernel, rfl⟩
theorem d_M_freshName_49 : vm_D q_M_freshName.2.1 49 1 50 (.return_) := ⟨by decide +kernel, rfl⟩
theorem d_M_freshName_15 : vm_D q_M_freshName.2.1 15 1 16 (.aload_n 0) := ⟨by decide +kernel, rfl⟩
theorem d_M_freshName_16 : vm_D q_M_freshName.2.1 16 1 17 (.iconst 0) := ⟨by decide +kernel, rfl⟩
theorem d_M_freshName_17 : vm_D q_M_freshName.2.1 17 1 18 (.aload_n 0) := ⟨by decide +kernel, rfl⟩
theorem d_M_freshName_18 : vm_D q_M_freshName.2.1 18 3 21 (.getfield 80) := ⟨by decide +kernel, rfl⟩
theorem d_M_freshName_21 : vm_D q_M_freshName.2.1 21 1 22 (.iconst 4) := ⟨by decide +kernel, rfl⟩
theorem d_M_freshName_22 : vm_D q_M_freshName.2.1 22 1 23 (.iaload) := ⟨by decide +kernel, rfl⟩
theorem d_M_freshName_23 : vm_D q_M_freshName.2.1 23 3 26 (.invokevirtual 137) := ⟨by decide +kernel, rfl⟩
theorem d_M_freshName_26 : vm_D q_M_freshName.2.1 26 1 27 (.iconst (-1)) := ⟨by decide +kernel, rfl⟩
theorem d_M_freshName_27 : vm_B q_M_freshName.2.1 27 30 45 (fun o => .if_icmp .ne o) := ⟨18, by decide +kernel, rfl, by decide⟩
theorem d_M_freshName_30 : vm_D q_M_freshName.2.1 30 1 31 (.aload_n 0) := ⟨by decide +kernel, rfl⟩
theorem d_M_freshName_31 : vm_D q_M_freshName.2.1 31 1 32 (.iconst 4) := ⟨by decide +kernel, rfl⟩
theorem d_M_freshName_32 : vm_D q_M_freshName.2.1 32 1 33 (.aload_n 0) := ⟨by decide +kernel, rfl⟩
theorem d_M_freshName_33 : vm_D q_M_freshName.2.1 33 3 36 (.getfield 80) := ⟨by decide +kernel, rfl⟩
theorem d_M_freshName_36 : vm_D q_M_freshName.2.1 36 1 37 (.iconst 5) := ⟨by decide +kernel, rfl⟩
theorem d_M_freshName_37 : vm_D q_M_freshName.2.1 37 1 38 (.iaload) := ⟨by decide +kernel, rfl⟩
theorem d_M_freshName_38 : vm_D q_M_freshName.2.1 38 3 41 (.invokevirtual 137) := ⟨by decide +kernel, rfl⟩
theorem d_M_freshName_41 : vm_D q_M_freshName.2.1 41 1 42 (.iconst (-1)) := ⟨by decide +kernel, rfl⟩
theorem d_M_freshName_42 : vm_B q_M_freshName.2.1 42 45 50 (fun o => .if_icmp .eq o) := ⟨8, by decide +kernel, rfl, by decide⟩
theorem d_M_freshName_50 : vm_D q_M_freshName.2.1 50 1 51 (.aload_n 0) := ⟨by decide +kernel, rfl⟩
theorem d_M_freshName_51 : vm_D q_M_freshName.2.1 51 3 54 (.invokevirtual 45) := ⟨by decide +kernel, rfl⟩
theorem d_M_freshName_54 : vm_D q_M_freshName.2.1 54 1 55 (.istore_n 2) := ⟨by decide +kernel, rfl⟩
theorem d_M_freshName_55 : vm_D q_M_freshName.2.1 55 1 56 (.iconst 0) := ⟨by decide +kernel, rfl⟩
theorem d_M_freshName_56 : vm_D q_M_freshName.2.1 56 1 57 (.istore_n 3) := ⟨by decide +kernel, rfl⟩
theorem d_M_freshName_57 : vm_D q_M_freshName.2.1 57 1 58 (.iload_n 3) := ⟨by decide +kernel, rfl⟩
theorem d_M_freshName_58 : vm_D q_M_freshName.2.1 58 2 60 (.bipush 6) := ⟨by decide +kernel, rfl⟩
theorem d_M_freshName_60 : vm_B q_M_freshName.2.1 60 63 103 (fun o => .if_icmp .ge o) := ⟨43, by decide +kernel, rfl, by decide⟩
theorem d_M_freshName_63 : vm_D q_M_freshName.2.1 63 1 64 (.aload_n 0) := ⟨by decide +kernel, rfl⟩
theorem d_M_freshName_64 : vm_D q_M_freshName.2.1 64 3 67 (.getfield 80) := ⟨by decide +kernel, rfl⟩
theorem d_M_freshName_67 : vm_D q_M_freshName.2.1 67 2 69 (.bipush 6) := ⟨by decide +kernel, rfl⟩
theorem d_M_freshName_69 : vm_D q_M_freshName.2.1 69 2 71 (.bipush 6) := ⟨by decide +kernel, rfl⟩
theorem d_M_freshName_71 : vm_D q_M_freshName.2.1 71 1 72 (.iload_n 1) := ⟨by decide +kernel, rfl⟩
theorem d_M_freshName_72 : vm_D q_M_freshName.2.1 72 1 73 (.imul) := ⟨by decide +kernel, rfl⟩
theorem d_M_freshName_73 : vm_D q_M_freshName.2.1 73 1 74 (.iadd) := ⟨by decide +kernel, rfl⟩
theorem d_M_freshName_74 : vm_D q_M_freshName.2.1 74 1 75 (.iload_n 3) := ⟨by decide +kernel, rfl⟩
theorem d_M_freshName_75 : vm_D q_M_freshName.2.1 75 1 76 (.iadd) := ⟨by decide +kernel, rfl⟩
theorem d_M_freshName_76 : vm_D q_M_freshName.2.1 76 1 77 (.iload_n 3) := ⟨by decide +kernel, rfl⟩
theorem d_M_freshName_77 : vm_D q_M_freshName.2.1 77 1 78 (.iload_n 2) := ⟨by decide +kernel, rfl⟩
theorem d_M_freshName_78 : vm_B q_M_freshName.2.1 78 81 95 (fun o => .if_icmp .ge o) := ⟨17, by decide +kernel, rfl, by decide⟩
theorem d_M_freshName_96 : vm_D q_M_freshName.2.1 96 1 97 (.iastore) := ⟨by decide +kernel, rfl⟩
theorem d_M_freshName_97 : vm_D q_M_freshName.2.1 97 3 100 (.iinc 3 1) := ⟨by decide +kernel, rfl⟩
theorem d_M_freshName_100 : ∃ off : Int, decode q_M_freshName.2.1 100 = .ok (.goto off, 3) ∧ ((100 : Nat) : Int) + off = ((57 : Nat) : Int) := ⟨-43, by decide +kernel, by decide⟩
theorem d_M_freshName_95 : vm_D q_M_freshName.2.1 95 1 96 (.iconst 0) := ⟨by decide +kernel, rfl⟩
theorem d_M_freshName_81 : vm_D q_M_freshName.2.1 81 1 82 (.aload_n 0) := ⟨by decide +kernel, rfl⟩
theorem d_M_freshName_82 : vm_D q_M_freshName.2.1 82 3 85 (.getfield 14) := ⟨by decide +kernel, rfl⟩
theorem d_M_freshName_85 : vm_D q_M_freshName.2.1 85 1 86 (.aload_n 0) := ⟨by decide +kernel, rfl⟩
theorem d_M_freshName_86 : vm_D q_M_freshName.2.1 86 3 89 (.getfield 21) := ⟨by decide +kernel, rfl⟩
theorem d_M_freshName_89 : vm_D q_M_freshName.2.1 89 1 90 (.iload_n 3) := ⟨by decide +kernel, rfl⟩
theorem d_M_freshName_90 : vm_D q_M_freshName.2.1 90 1 91 (.iadd) := ⟨by decide +kernel, rfl⟩
theorem d_M_freshName_91 : vm_D q_M_freshName.2.1 91 1 92 (.baload) := ⟨by decide +kernel, rfl⟩
theorem d_M_freshName_92 : ∃ off : Int, decode q_M_freshName.2.1 92 = .ok (.goto off, 3) ∧ ((92 : Nat) : Int) + off = ((96 : Nat) : Int) := ⟨4, by decide +kernel, by decide⟩
theorem d_M_freshName_103 : vm_D q_M_freshName.2.1 103 1 104 (.aload_n 0) := ⟨by decide +kernel, rfl⟩
theorem d_M_freshName_104 : vm_D q_M_freshName.2.1 104 1 105 (.dup) := ⟨by decide +kernel, rfl⟩
theorem d_M_freshName_105 : vm_D q_M_freshName.2.1 105 3 108 (.getfield 21) := ⟨by decide +kernel, rfl⟩
theorem d_M_freshName_108 : vm_D q_M_freshName.2.1 108 1 109 (.iload_n 2) := ⟨by decide +kernel, rfl⟩
theorem d_M_freshName_109 : vm_D q_M_freshName.2.1 109 1 110 (.iadd) := ⟨by decide +kernel, rfl⟩
theorem d_M_freshName_110 : vm_D q_M_freshName.2.1 110 3 113 (.putfield 21) := ⟨by decide +kernel, rfl⟩
theorem d_M_freshName_113 : vm_D q_M_freshName.2.1 113 1 114 (.return_) := ⟨by decide +kernel, rfl⟩
theorem d_M_freshName_7 : vm_D q_M_freshName.2.1 7 1 8 (.return_) := ⟨by decide +kernel, rfl⟩
def q_M_limitLine : vm_Y := ("RepeatFreeModel", cX11_limitLine, 2, false, [])
theorem d_M_limitLine_0 : vm_D q_M_limitLine.2.1 0 1 1 (.aload_n 0) := ⟨by decide +kernel, rfl⟩
theorem d_M_limitLine_1 : vm_D q_M_limitLine.2.1 1 3 4 (.getfield 141) := ⟨by decide +kernel, rfl⟩
theorem d_M_limitLine_4 : vm_B q_M_limitLine.2.1 4 7 12 (fun o => .ifCond .eq o) := ⟨8, by decide +kernel, rfl, by decide⟩
theorem d_M_limitLine_12 : vm_D q_M_limitLine.2.1 12 1 13 (.aload_n 0) := ⟨by decide +kernel, rfl⟩
theorem d_M_limitLine_13 : vm_D q_M_limitLine.2.1 13 1 14 (.iconst 1) := ⟨by decide +kernel, rfl⟩
theorem d_M_limitLine_14 : vm_D q_M_limitLine.2.1 14 3 17 (.putfield 141) := ⟨by decide +kernel, rfl⟩
theorem d_M_limitLine_17 : vm_D q_M_limitLine.2.1 17 1 18 (.aload_n 0) := ⟨by decide +kernel, rfl⟩
theorem d_M_limitLine_18 : vm_D q_M_limitLine.2.1 18 2 20 (.ldc 120) := ⟨by decide +kernel, rfl⟩
theorem d_M_limitLine_20 : vm_D q_M_limitLine.2.1 20 3 23 (.invokevirtual 145) := ⟨by decide +kernel, rfl⟩
theorem d_M_limitLine_23 : vm_D q_M_limitLine.2.1 23 1 24 (.aload_n 0) := ⟨by decide +kernel, rfl⟩
theorem d_M_limitLine_24 : vm_D q_M_limitLine.2.1 24 2 26 (.ldc 122) := ⟨by decide +kernel, rfl⟩
theorem d_M_limitLine_26 : vm_D q_M_limitLine.2.1 26 3 29 (.invokevirtual 62) := ⟨by decide +kernel, rfl⟩
theorem d_M_limitLine_29 : vm_D q_M_limitLine.2.1 29 1 30 (.istore_n 1) := ⟨by decide +kernel, rfl⟩
theorem d_M_limitLine_30 : vm_D q_M_limitLine.2.1 30 1 31 (.iload_n 1) := ⟨by decide +kernel, rfl⟩
theorem d_M_limitLine_31 : vm_B q_M_limitLine.2.1 31 34 40 (fun o => .ifCond .ne o) := ⟨9, by decide +kernel, rfl, by decide⟩
theorem d_M_limitLine_40 : vm_D q_M_limitLine.2.1 40 1 41 (.aload_n 0) := ⟨by decide +kernel, rfl⟩
theorem d_M_limitLine_41 : vm_D q_M_limitLine.2.1 41 3 44 (.getfield 80) := ⟨by decide +kernel, rfl⟩
theorem d_M_limitLine_44 : vm_D q_M_limitLine.2.1 44 1 45 (.iconst 1) := ⟨by decide +kernel, rfl⟩
theorem d_M_limitLine_45 : vm_D q_M_limitLine.2.1 45 1 46 (.iload_n 1) := ⟨by decide +kernel, rfl⟩
theorem d_M_limitLine_46 : vm_B q_M_limitLine.2.1 46 49 53 (fun o => .ifCond .eq o) := ⟨7, by decide +kernel, rfl, by decide⟩
theorem d_M_limitLine_54 : vm_D q_M_limitLine.2.1 54 1 55 (.iastore) := ⟨by decide +kernel, rfl⟩
theorem d_M_limitLine_55 : vm_D q_M_limitLine.2.1 55 1 56 (.aload_n 0) := ⟨by decide +kernel, rfl⟩
theorem d_M_limitLine_56 : vm_D q_M_limitLine.2.1 56 3 59 (.getfield 80) := ⟨by decide +kernel, rfl⟩
theorem d_M_limitLine_59 : vm_D q_M_limitLine.2.1 59 1 60 (.iconst 2) := ⟨by decide +kernel, rfl⟩
theorem d_M_limitLine_60 : vm_D q_M_limitLine.2.1 60 1 61 (.aload_n 0) := ⟨by decide +kernel, rfl⟩
theorem d_M_limitLine_61 : vm_D q_M_limitLine.2.1 61 1 62 (.iconst 1) := ⟨by decide +kernel, rfl⟩
theorem d_M_limitLine_62 : vm_D q_M_limitLine.2.1 62 2 64 (.bipush 99) := ⟨by decide +kernel, rfl⟩
theorem d_M_limitLine_64 : vm_D q_M_limitLine.2.1 64 3 67 (.invokevirtual 149) := ⟨by decide +kernel, rfl⟩
theorem d_M_limitLine_67 : vm_D q_M_limitLine.2.1 67 1 68 (.iastore) := ⟨by decide +kernel, rfl⟩
theorem d_M_limitLine_68 : vm_D q_M_limitLine.2.1 68 1 69 (.aload_n 0) := ⟨by decide +kernel, rfl⟩
theorem d_M_limitLine_69 : vm_D q_M_limitLine.2.1 69 2 71 (.ldc 126) := ⟨by decide +kernel, rfl⟩
theorem d_M_limitLine_71 : vm_D q_M_limitLine.2.1 71 3 74 (.invokevirtual 145) := ⟨by decide +kernel, rfl⟩
theorem d_M_limitLine_74 : vm_D q_M_limitLine.2.1 74 1 75 (.aload_n 0) := ⟨by decide +kernel, rfl⟩
theorem d_M_limitLine_75 : vm_D q_M_limitLine.2.1 75 3 78 (.getfield 80) := ⟨by decide +kernel, rfl⟩
theorem d_M_limitLine_78 : vm_D q_M_limitLine.2.1 78 1 79 (.iconst 3) := ⟨by decide +kernel, rfl⟩
theorem d_M_limitLine_79 : vm_D q_M_limitLine.2.1 79 1 80 (.aload_n 0) := ⟨by decide +kernel, rfl⟩
theorem d_M_limitLine_80 : vm_D q_M_limitLine.2.1 80 1 81 (.iconst 1) := ⟨by decide +kernel, rfl⟩
theorem d_M_limitLine_81 : vm_D q_M_limitLine.2.1 81 2 83 (.bipush 9) := ⟨by decide +kernel, rfl⟩
theorem d_M_limitLine_83 : vm_D q_M_limitLine.2.1 83 3 86 (.invokevirtual 149) := ⟨by decide +kernel, rfl⟩
theorem d_M_limitLine_86 : vm_D q_M_limitLine.2.1 86 1 87 (.iastore) := ⟨by decide +kernel, rfl⟩
theorem d_M_limitLine_87 : vm_D q_M_limitLine.2.1 87 1 88 (.return_) := ⟨by decide +kernel, rfl⟩
theorem d_M_limitLine_53 : vm_D q_M_limitLine.2.1 53 1 54 (.iconst 2) := ⟨by decide +kernel, rfl⟩
theorem d_M_limitLine_49 : vm_D q_M_limitLine.2.1 49 1 50 (.iconst 1) := ⟨by decide +kernel, rfl⟩
theorem d_M_limitLine_50 : ∃ off : Int, decode q_M_limitLine.2.1 50 = .ok (.goto off, 3) ∧ ((50 : Nat) : Int) + off = ((54 : Nat) : Int) := ⟨4, by decide +kernel, by decide⟩
theorem d_M_limitLine_34 : vm_D q_M_limitLine.2.1 34 1 35 (.aload_n 0) := ⟨by decide +kernel, rfl⟩
theorem d_M_limitLine_35 : vm_D q_M_limitLine.2.1 35 2 37 (.ldc 124) := ⟨by decide +kernel, rfl⟩
theorem d_M_limitLine_37 : vm_D q_M_limitLine.2.1 37 3 40 (.invokevirtual 145) := ⟨by decide +kernel, rfl⟩
theorem d_M_limitLine_7 : vm_D q_M_limitLine.2.1 7 1 8 (.aload_n 0) := ⟨by decide +kernel, rfl⟩
theorem d_M_limitLine_8 : vm_D q_M_limitLine.2.1 8 3 11 (.invokevirtual 42) := ⟨by decide +kernel, rfl⟩
theorem d_M_limitLine_11 : vm_D q_M_limitLine.2.1 11 1 12 (.return_) := ⟨by decide +kernel, rfl⟩
def q_M_mapLine : vm_Y := ("RepeatFreeModel", cX11_mapLine, 3, false, [])
theorem d_M_mapLine_0 : vm_D q_M_mapLine.2.1 0 1 1 (.aload_n 0) := ⟨by decide +kernel, rfl⟩
theorem d_M_mapLine_1 : vm_D q_M_mapLine.2.1 1 3 4 (.getfield 80) := ⟨by decide +kernel, rfl⟩
theorem d_M_mapLine_4 : vm_D q_M_mapLine.2.1 4 1 5 (.iconst 4) := ⟨by decide +kernel, rfl⟩
theorem d_M_mapLine_5 : vm_D q_M_mapLine.2.1 5 1 6 (.iaload) := ⟨by decide +kernel, rfl⟩
theorem d_M_mapLine_6 : vm_D q_M_mapLine.2.1 6 1 7 (.istore_n 1) := ⟨by decide +kernel, rfl⟩
theorem d_M_mapLine_7 : vm_D q_M_mapLine.2.1 7 1 8 (.iload_n 1) := ⟨by decide +kernel, rfl⟩
theorem d_M_mapLine_8 : vm_D q_M_mapLine.2.1 8 1 9 (.iconst 4) := ⟨by decide +kernel, rfl⟩
theorem d_M_mapLine_9 : vm_B q_M_mapLine.2.1 9 12 17 (fun o => .if_icmp .ne o) := ⟨8, by decide +kernel, rfl, by decide⟩
theorem d_M_mapLine_17 : vm_D q_M_mapLine.2.1 17 1 18 (.aload_n 0) := ⟨by decide +kernel, rfl⟩
theorem d_M_mapLine_18 : vm_D q_M_mapLine.2.1 18 2 20 (.ldc 128) := ⟨by decide +kernel, rfl⟩
theorem d_M_mapLine_20 : vm_D q_M_mapLine.2.1 20 3 23 (.invokevirtual 145) := ⟨by decide +kernel, rfl⟩
theorem d_M_mapLine_23 : vm_D q_M_mapLine.2.1 23 1 24 (.aload_n 0) := ⟨by decide +kernel, rfl⟩
theorem d_M_mapLine_24 : vm_D q_M_mapLine.2.1 24 1 25 (.iload_n 1) := ⟨by decide +kernel, rfl⟩
theorem d_M_mapLine_25 : vm_D q_M_mapLine.2.1 25 3 28 (.invokevirtual 152) := ⟨by decide +kernel, rfl⟩
theorem d_M_mapLine_28 : vm_D q_M_mapLine.2.1 28 1 29 (.iconst 0) := ⟨by decide +kernel, rfl⟩
theorem d_M_mapLine_29 : vm_D q_M_mapLine.2.1 29 1 30 (.istore_n 2) := ⟨by decide +kernel, rfl⟩
theorem d_M_mapLine_30 : vm_D q_M_mapLine.2.1 30 1 31 (.iload_n 2) := ⟨by decide +kernel, rfl⟩
theorem d_M_mapLine_31 : vm_D q_M_mapLine.2.1 31 1 32 (.aload_n 0) := ⟨by decide +kernel, rfl⟩
theorem d_M_mapLine_32 : vm_D q_M_mapLine.2.1 32 3 35 (.getfield 80) := ⟨by decide +kernel, rfl⟩
theorem d_M_mapLine_35 : vm_D q_M_mapLine.2.1 35 1 36 (.iconst 0) := ⟨by decide +kernel, rfl⟩
theorem d_M_mapLine_36 : vm_D q_M_mapLine.2.1 36 1 37 (.iaload) := ⟨by decide +kernel, rfl⟩
theorem d_M_mapLine_37 : vm_B q_M_mapLine.2.1 37 40 132 (fun o => .if_icmp .ge o) := ⟨95, by decide +kernel, rfl, by decide⟩
theorem d_M_mapLine_40 : vm_D q_M_mapLine.2.1 40 1 41 (.aload_n 0) := ⟨by decide +kernel, rfl⟩
theorem d_M_mapLine_41 : vm_D q_M_mapLine.2.1 41 3 44 (.invokevirtual 38) := ⟨by decide +kernel, rfl⟩
theorem d_M_mapLine_44 : vm_B q_M_mapLine.2.1 44 47 132 (fun o => .ifCond .ne o) := ⟨88, by decide +kernel, rfl, by decide⟩
theorem d_M_mapLine_47 : vm_D q_M_mapLine.2.1 47 1 48 (.aload_n 0) := ⟨by decide +kernel, rfl⟩
theorem d_M_mapLine_48 : vm_D q_M_mapLine.2.1 48 3 51 (.invokevirtual 45) := ⟨by decide +kernel, rfl⟩
theorem d_M_mapLine_51 : vm_D q_M_mapLine.2.1 51 1 52 (.iconst 1) := ⟨by decide +kernel, rfl⟩
theorem d_M_mapLine_52 : vm_B q_M_mapLine.2.1 52 55 71 (fun o => .if_icmp .ne o) := ⟨19, by decide +kernel, rfl, by decide⟩
theorem d_M_mapLine_71 : vm_D q_M_mapLine.2.1 71 1 72 (.aload_n 0) := ⟨by decide +kernel, rfl⟩
theorem d_M_mapLine_72 : vm_D q_M_mapLine.2.1 72 3 75 (.invokevirtual 42) := ⟨by decide +kernel, rfl⟩
theorem d_M_mapLine_75 : vm_D q_M_mapLine.2.1 75 1 76 (.return_) := ⟨by decide +kernel, rfl⟩
theorem d_M_mapLine_55 : vm_D q_M_mapLine.2.1 55 1 56 (.aload_n 0) := ⟨by decide +kernel, rfl⟩
theorem d_M_mapLine_56 : vm_D q_M_mapLine.2.1 56 3 59 (.getfield 14) := ⟨by decide +kernel, rfl⟩
theorem d_M_mapLine_59 : vm_D q_M_mapLine.2.1 59 1 60 (.aload_n 0) := ⟨by decide +kernel, rfl⟩
theorem d_M_mapLine_60 : vm_D q_M_mapLine.2.1 60 3 63 (.getfield 21) := ⟨by decide +kernel, rfl⟩
theorem d_M_mapLine_63 : vm_D q_M_mapLine.2.1 63 1 64 (.baload) := ⟨by decide +kernel, rfl⟩
theorem d_M_mapLine_64 : vm_D q_M_mapLine.2.1 64 2 66 (.bipush 97) := ⟨by decide +kernel, rfl⟩
theorem d_M_mapLine_66 : vm_D q_M_mapLine.2.1 66 1 67 (.iload_n 2) := ⟨by decide +kernel, rfl⟩
theorem d_M_mapLine_67 : vm_D q_M_mapLine.2.1 67 1 68 (.iadd) := ⟨by decide +kernel, rfl⟩
theorem d_M_mapLine_68 : vm_B q_M_mapLine.2.1 68 71 76 (fun o => .if_icmp .eq o) := ⟨8, by decide +kernel, rfl, by decide⟩
theorem d_M_mapLine_76 : vm_D q_M_mapLine.2.1 76 1 77 (.aload_n 0) := ⟨by decide +kernel, rfl⟩
theorem d_M_mapLine_77 : vm_D q_M_mapLine.2.1 77 1 78 (.dup) := ⟨by decide +kernel, rfl⟩
theorem d_M_mapLine_78 : vm_D q_M_mapLine.2.1 78 3 81 (.getfield 21) := ⟨by decide +kernel, rfl⟩
theorem d_M_mapLine_81 : vm_D q_M_mapLine.2.1 81 1 82 (.iconst 1) := ⟨by decide +kernel, rfl⟩
theorem d_M_mapLine_82 : vm_D q_M_mapLine.2.1 82 1 83 (.iadd) := ⟨by decide +kernel, rfl⟩
theorem d_M_mapLine_83 : vm_D q_M_mapLine.2.1 83 3 86 (.putfield 21) := ⟨by decide +kernel, rfl⟩
theorem d_M_mapLine_86 : vm_D q_M_mapLine.2.1 86 1 87 (.aload_n 0) := ⟨by decide +kernel, rfl⟩
theorem d_M_mapLine_87 : vm_D q_M_mapLine.2.1 87 3 90 (.getfield 80) := ⟨by decide +kernel, rfl⟩
theorem d_M_mapLine_90 : vm_D q_M_mapLine.2.1 90 2 92 (.bipush 54) := ⟨by decide +kernel, rfl⟩
theorem d_M_mapLine_92 : vm_D q_M_mapLine.2.1 92 1 93 (.iconst 4) := ⟨by decide +kernel, rfl⟩
theorem d_M_mapLine_93 : vm_D q_M_mapLine.2.1 93 1 94 (.iload_n 1) := ⟨by decide +kernel, rfl⟩
theorem d_M_mapLine_94 : vm_D q_M_mapLine.2.1 94 1 95 (.imul) := ⟨by decide +kernel, rfl⟩
theorem d_M_mapLine_95 : vm_D q_M_mapLine.2.1 95 1 96 (.iadd) := ⟨by decide +kernel, rfl⟩
theorem d_M_mapLine_96 : vm_D q_M_mapLine.2.1 96 1 97 (.iload_n 2) := ⟨by decide +kernel, rfl⟩
theorem d_M_mapLine_97 : vm_D q_M_mapLine.2.1 97 1 98 (.iadd) := ⟨by decide +kernel, rfl⟩
theorem d_M_mapLine_98 : vm_D q_M_mapLine.2.1 98 1 99 (.aload_n 0) := ⟨by decide +kernel, rfl⟩
theorem d_M_mapLine_99 : vm_D q_M_mapLine.2.1 99 2 101 (.bipush 97) := ⟨by decide +kernel, rfl⟩
theorem d_M_mapLine_101 : vm_D q_M_mapLine.2.1 101 1 102 (.aload_n 0) := ⟨by decide +kernel, rfl⟩
theorem d_M_mapLine_102 : vm_D q_M_mapLine.2.1 102 3 105 (.getfield 80) := ⟨by decide +kernel, rfl⟩
theorem d_M_mapLine_105 : vm_D q_M_mapLine.2.1 105 1 106 (.iconst 0) := ⟨by decide +kernel, rfl⟩
theorem d_M_mapLine_106 : vm_D q_M_mapLine.2.1 106 1 107 (.iaload) := ⟨by decide +kernel, rfl⟩
theorem d_M_mapLine_107 : vm_D q_M_mapLine.2.1 107 1 108 (.aload_n 0) := ⟨by decide +kernel, rfl⟩
theorem d_M_mapLine_108 : vm_D q_M_mapLine.2.1 108 3 111 (.getfield 80) := ⟨by decide +kernel, rfl⟩
theorem d_M_mapLine_111 : vm_D q_M_mapLine.2.1 111 2 113 (.bipush 70) := ⟨by decide +kernel, rfl⟩
theorem d_M_mapLine_113 : vm_D q_M_mapLine.2.1 113 2 115 (.bipush 6) := ⟨by decide +kernel, rfl⟩
theorem d_M_mapLine_115 : vm_D q_M_mapLine.2.1 115 1 116 (.iconst 4) := ⟨by decide +kernel, rfl⟩
theorem d_M_mapLine_116 : vm_D q_M_mapLine.2.1 116 1 117 (.iload_n 1) := ⟨by decide +kernel, rfl⟩
theorem d_M_mapLine_117 : vm_D q_M_mapLine.2.1 117 1 118 (.imul) := ⟨by decide +kernel, rfl⟩
theorem d_M_mapLine_118 : vm_D q_M_mapLine.2.1 118 1 119 (.iload_n 2) := ⟨by decide +kernel, rfl⟩
theorem d_M_mapLine_119 : vm_D q_M_mapLine.2.1 119 1 120 (.iadd) := ⟨by decide +kernel, rfl⟩
theorem d_M_mapLine_120 : vm_D q_M_mapLine.2.1 120 1 121 (.imul) := ⟨by decide +kernel, rfl⟩
theorem d_M_mapLine_121 : vm_D q_M_mapLine.2.1 121 1 122 (.iadd) := ⟨by decide +kernel, rfl⟩
theorem d_M_mapLine_122 : vm_D q_M_mapLine.2.1 122 3 125 (.invokevirtual 156) := ⟨by decide +kernel, rfl⟩
theorem d_M_mapLine_125 : vm_D q_M_mapLine.2.1 125 1 126 (.iastore) := ⟨by decide +kernel, rfl⟩
theorem d_M_mapLine_126 : vm_D q_M_mapLine.2.1 126 3 129 (.iinc 2 1) := ⟨by decide +kernel, rfl⟩
theorem d_M_mapLine_129 : ∃ off : Int, decode q_M_mapLine.2.1 129 = .ok (.goto off, 3) ∧ ((129 : Nat) : Int) + off = ((30 : Nat) : Int) := ⟨-99, by decide +kernel, by decide⟩
theorem d_M_mapLine_132 : vm_D q_M_mapLine.2.1 132 1 133 (.aload_n 0) := ⟨by decide +kernel, rfl⟩
theorem d_M_mapLine_133 : vm_D q_M_mapLine.2.1 133 3 136 (.getfield 80) := ⟨by decide +kernel, rfl⟩
theorem d_M_mapLine_136 : vm_D q_M_mapLine.2.1 136 1 137 (.iconst 4) := ⟨by decide +kernel, rfl⟩
theorem d_M_mapLine_137 : vm_D q_M_mapLine.2.1 137 1 138 (.dup2) := ⟨by decide +kernel, rfl⟩
theorem d_M_mapLine_138 : vm_D q_M_mapLine.2.1 138 1 139 (.iaload) := ⟨by decide +kernel, rfl⟩
theorem d_M_mapLine_139 : vm_D q_M_mapLine.2.1 139 1 140 (.iconst 1) := ⟨by decide +kernel, rfl⟩
theorem d_M_mapLine_140 : vm_D q_M_mapLine.2.1 140 1 141 (.iadd) := ⟨by decide +kernel, rfl⟩
theorem d_M_mapLine_141 : vm_D q_M_mapLine.2.1 141 1 142 (.iastore) := ⟨by decide +kernel, rfl⟩
theorem d_M_mapLine_142 : vm_D q_M_mapLine.2.1 142 1 143 (.return_) := ⟨by decide +kernel, rfl⟩
theorem d_M_mapLine_12 : vm_D q_M_mapLine.2.1 12 1 13 (.aload_n 0) := ⟨by decide +kernel, rfl⟩
theorem d_M_mapLine_13 : vm_D q_M_mapLine.2.1 13 3 16 (.invokevirtual 42) := ⟨by decide +kernel, rfl⟩
theorem d_M_mapLine_16 : vm_D q_M_mapLine.2.1 16 1 17 (.return_) := ⟨by decide +kernel, rfl⟩
def q_M_patternLine : vm_Y := ("RepeatFreeModel", cX11_patternLine, 2, false, [])
theorem d_M_patternLine_0 : vm_D q_M_patternLine.2.1 0 1 1 (.aload_n 0) := ⟨by decide +kernel, rfl⟩
theorem d_M_patternLine_1 : vm_D q_M_patternLine.2.1 1 3 4 (.getfield 80) := ⟨by decide +kernel, rfl⟩
theorem d_M_patternLine_4 : vm_D q_M_patternLine.2.1 4 1 5 (.iconst 5) := ⟨by decide +kernel, rfl⟩
theorem d_M_patternLine_5 : vm_D q_M_patternLine.2.1 5 1 6 (.iaload) := ⟨by decide +kernel, rfl⟩
theorem d_M_patternLine_6 : vm_D q_M_patternLine.2.1 6 1 7 (.istore_n 1) := ⟨by decide +kernel, rfl⟩
theorem d_M_patternLine_7 : vm_D q_M_patternLine.2.1 7 1 8 (.iload_n 1) := ⟨by decide +kernel, rfl⟩
theorem d_M_patternLine_8 : vm_D q_M_patternLine.2.1 8 1 9 (.iconst 4) := ⟨by decide +kernel, rfl⟩
theorem d_M_patternLine_9 : vm_B q_M_patternLine.2.1 9 12 17 (fun o => .if_icmp .ne o) := ⟨8, by decide +kernel, rfl, by decide⟩
theorem d_M_patternLine_17 : vm_D q_M_patternLine.2.1 17 1 18 (.aload_n 0) := ⟨by decide +kernel, rfl⟩
theorem d_M_patternLine_18 : vm_D q_M_patternLine.2.1 18 2 20 (.ldc 130) := ⟨by decide +kernel, rfl⟩
theorem d_M_patternLine_20 : vm_D q_M_patternLine.2.1 20 3 23 (.invokevirtual 145) := ⟨by decide +kernel, rfl⟩
theorem d_M_patternLine_23 : vm_D q_M_patternLine.2.1 23 1 24 (.aload_n 0) := ⟨by decide +kernel, rfl⟩
theorem d_M_patternLine_24 : vm_D q_M_patternLine.2.1 24 1 25 (.iconst 4) := ⟨by decide +kernel, rfl⟩
theorem d_M_patternLine_25 : vm_D q_M_patternLine.2.1 25 1 26 (.iload_n 1) := ⟨by decide +kernel, rfl⟩
theorem d_M_patternLine_26 : vm_D q_M_patternLine.2.1 26 1 27 (.iadd) := ⟨by decide +kernel, rfl⟩
theorem d_M_patternLine_27 : vm_D q_M_patternLine.2.1 27 3 30 (.invokevirtual 152) := ⟨by decide +kernel, rfl⟩
theorem d_M_patternLine_30 : vm_D q_M_patternLine.2.1 30 1 31 (.aload_n 0) := ⟨by decide +kernel, rfl⟩
theorem d_M_patternLine_31 : vm_D q_M_patternLine.2.1 31 3 34 (.getfield 80) := ⟨by decide +kernel, rfl⟩
theorem d_M_patternLine_34 : vm_D q_M_patternLine.2.1 34 3 37 (.sipush 166) := ⟨by decide +kernel, rfl⟩
theorem d_M_patternLine_37 : vm_D q_M_patternLine.2.1 37 1 38 (.iload_n 1) := ⟨by decide +kernel, rfl⟩
theorem d_M_patternLine_38 : vm_D q_M_patternLine.2.1 38 1 39 (.iadd) := ⟨by decide +kernel, rfl⟩
theorem d_M_patternLine_39 : vm_D q_M_patternLine.2.1 39 1 40 (.aload_n 0) := ⟨by decide +kernel, rfl⟩
theorem d_M_patternLine_40 : vm_D q_M_patternLine.2.1 40 2 42 (.bipush 120) := ⟨by decide +kernel, rfl⟩
theorem d_M_patternLine_42 : vm_D q_M_patternLine.2.1 42 1 43 (.iconst 3) := ⟨by decide +kernel, rfl⟩
theorem d_M_patternLine_43 : vm_D q_M_patternLine.2.1 43 1 44 (.aload_n 0) := ⟨by decide +kernel, rfl⟩
theorem d_M_patternLine_44 : vm_D q_M_patternLine.2.1 44 3 47 (.getfield 80) := ⟨by decide +kernel, rfl⟩
theorem d_M_patternLine_47 : vm_D q_M_patternLine.2.1 47 3 50 (.sipush 170) := ⟨by decide +kernel, rfl⟩
theorem d_M_patternLine_50 : vm_D q_M_patternLine.2.1 50 2 52 (.bipush 6) := ⟨by decide +kernel, rfl⟩
theorem d_M_patternLine_52 : vm_D q_M_patternLine.2.1 52 1 53 (.iload_n 1) := ⟨by decide +kernel, rfl⟩
theorem d_M_patternLine_53 : vm_D q_M_patternLine.2.1 53 1 54 (.imul) := ⟨by decide +kernel, rfl⟩
theorem d_M_patternLine_54 : vm_D q_M_patternLine.2.1 54 1 55 (.iadd) := ⟨by decide +kernel, rfl⟩
theorem d_M_patternLine_55 : vm_D q_M_patternLine.2.1 55 3 58 (.invokevirtual 156) := ⟨by decide +kernel, rfl⟩
theorem d_M_patternLine_58 : vm_D q_M_patternLine.2.1 58 1 59 (.iastore) := ⟨by decide +kernel, rfl⟩
theorem d_M_patternLine_59 : vm_D q_M_patternLine.2.1 59 1 60 (.aload_n 0) := ⟨by decide +kernel, rfl⟩
theorem d_M_patternLine_60 : vm_D q_M_patternLine.2.1 60 3 63 (.getfield 80) := ⟨by decide +kernel, rfl⟩
theorem d_M_patternLine_63 : vm_D q_M_patternLine.2.1 63 1 64 (.iconst 5) := ⟨by decide +kernel, rfl⟩
theorem d_M_patternLine_64 : vm_D q_M_patternLine.2.1 64 1 65 (.dup2) := ⟨by decide +kernel, rfl⟩
theorem d_M_patternLine_65 : vm_D q_M_patternLine.2.1 65 1 66 (.iaload) := ⟨by decide +kernel, rfl⟩
theorem d_M_patternLine_66 : vm_D q_M_patternLine.2.1 66 1 67 (.iconst 1) := ⟨by decide +kernel, rfl⟩
theorem d_M_patternLine_67 : vm_D q_M_patternLine.2.1 67 1 68 (.iadd) := ⟨by decide +kernel, rfl⟩
theorem d_M_patternLine_68 : vm_D q_M_patternLine.2.1 68 1 69 (.iastore) := ⟨by decide +kernel, rfl⟩
theorem d_M_patternLine_69 : vm_D q_M_patternLine.2.1 69 1 70 (.return_) := ⟨by decide +kernel, rfl⟩
theorem d_M_patternLine_12 : vm_D q_M_patternLine.2.1 12 1 13 (.aload_n 0) := ⟨by decide +kernel, rfl⟩
theorem d_M_patternLine_13 : vm_D q_M_patternLine.2.1 13 3 16 (.invokevirtual 42) := ⟨by decide +kernel, rfl⟩
theorem d_M_patternLine_16 : vm_D q_M_patternLine.2.1 16 1 17 (.return_) := ⟨by decide +kernel, rfl⟩
def q_M_avoidLine : vm_Y := ("RepeatFreeModel", cX11_avoidLine, 2, false, [])
theorem d_M_avoidLine_0 : vm_D q_M_avoidLine.2.1 0 1 1 (.aload_n 0) := ⟨by decide +kernel, rfl⟩
theorem d_M_avoidLine_1 : vm_D q_M_avoidLine.2.1 1 2 3 (.ldc 132) := ⟨by decide +kernel, rfl⟩
theorem d_M_avoidLine_3 : vm_D q_M_avoidLine.2.1 3 3 6 (.invokevirtual 145) := ⟨by decide +kernel, rfl⟩
theorem d_M_avoidLine_6 : vm_D q_M_avoidLine.2.1 6 1 7 (.aload_n 0) := ⟨by decide +kernel, rfl⟩
theorem d_M_avoidLine_7 : vm_D q_M_avoidLine.2.1 7 3 10 (.invokevirtual 34) := ⟨by decide +kernel, rfl⟩
theorem d_M_avoidLine_10 : vm_D q_M_avoidLine.2.1 10 1 11 (.aload_n 0) := ⟨by decide +kernel, rfl⟩
theorem d_M_avoidLine_11 : vm_D q_M_avoidLine.2.1 11 3 14 (.invokevirtual 38) := ⟨by decide +kernel, rfl⟩
theorem d_M_avoidLine_14 : vm_B q_M_avoidLine.2.1 14 17 18 (fun o => .ifCond .eq o) := ⟨4, by decide +kernel, rfl, by decide⟩
theorem d_M_avoidLine_18 : vm_D q_M_avoidLine.2.1 18 1 19 (.aload_n 0) := ⟨by decide +kernel, rfl⟩
theorem d_M_avoidLine_19 : vm_D q_M_avoidLine.2.1 19 3 22 (.invokevirtual 134) := ⟨by decide +kernel, rfl⟩
theorem d_M_avoidLine_22 : vm_B q_M_avoidLine.2.1 22 25 39 (fun o => .ifCond .eq o) := ⟨17, by decide +kernel, rfl, by decide⟩
theorem d_M_avoidLine_40 : vm_D q_M_avoidLine.2.1 40 1 41 (.istore_n 1) := ⟨by decide +kernel, rfl⟩
theorem d_M_avoidLine_41 : vm_D q_M_avoidLine.2.1 41 1 42 (.iload_n 1) := ⟨by decide +kernel, rfl⟩
theorem d_M_avoidLine_42 : vm_D q_M_avoidLine.2.1 42 1 43 (.iconst (-1)) := ⟨by decide +kernel, rfl⟩
theorem d_M_avoidLine_43 : vm_B q_M_avoidLine.2.1 43 46 60 (fun o => .if_icmp .eq o) := ⟨17, by decide +kernel, rfl, by decide⟩
theorem d_M_avoidLine_60 : vm_D q_M_avoidLine.2.1 60 1 61 (.aload_n 0) := ⟨by decide +kernel, rfl⟩
theorem d_M_avoidLine_61 : vm_D q_M_avoidLine.2.1 61 3 64 (.invokevirtual 42) := ⟨by decide +kernel, rfl⟩
theorem d_M_avoidLine_64 : vm_D q_M_avoidLine.2.1 64 1 65 (.return_) := ⟨by decide +kernel, rfl⟩
theorem d_M_avoidLine_46 : vm_D q_M_avoidLine.2.1 46 1 47 (.aload_n 0) := ⟨by decide +kernel, rfl⟩
theorem d_M_avoidLine_47 : vm_D q_M_avoidLine.2.1 47 3 50 (.getfield 80) := ⟨by decide +kernel, rfl⟩
theorem d_M_avoidLine_50 : vm_D q_M_avoidLine.2.1 50 3 53 (.sipush 194) := ⟨by decide +kernel, rfl⟩
theorem d_M_avoidLine_53 : vm_D q_M_avoidLine.2.1 53 1 54 (.iload_n 1) := ⟨by decide +kernel, rfl⟩
theorem d_M_avoidLine_54 : vm_D q_M_avoidLine.2.1 54 1 55 (.iadd) := ⟨by decide +kernel, rfl⟩
theorem d_M_avoidLine_55 : vm_D q_M_avoidLine.2.1 55 1 56 (.iaload) := ⟨by decide +kernel, rfl⟩
theorem d_M_avoidLine_56 : vm_D q_M_avoidLine.2.1 56 1 57 (.iconst 1) := ⟨by decide +kernel, rfl⟩
theorem d_M_avoidLine_57 : vm_B q_M_avoidLine.2.1 57 60 65 (fun o => .if_icmp .ne o) := ⟨8, by decide +kernel, rfl, by decide⟩
theorem d_M_avoidLine_65 : vm_D q_M_avoidLine.2.1 65 1 66 (.aload_n 0) := ⟨by decide +kernel, rfl⟩
theorem d_M_avoidLine_66 : vm_D q_M_avoidLine.2.1 66 1 67 (.dup) := ⟨by decide +kernel, rfl⟩
theorem d_M_avoidLine_67 : vm_D q_M_avoidLine.2.1 67 3 70 (.getfield 21) := ⟨by decide +kernel, rfl⟩
theorem d_M_avoidLine_70 : vm_D q_M_avoidLine.2.1 70 1 71 (.aload_n 0) := ⟨by decide +kernel, rfl⟩
theorem d_M_avoidLine_71 : vm_D q_M_avoidLine.2.1 71 3 74 (.invokevirtual 45) := ⟨by decide +kernel, rfl⟩
theorem d_M_avoidLine_74 : vm_D q_M_avoidLine.2.1 74 1 75 (.iadd) := ⟨by decide +kernel, rfl⟩
theorem d_M_avoidLine_75 : vm_D q_M_avoidLine.2.1 75 3 78 (.putfield 21) := ⟨by decide +kernel, rfl⟩
theorem d_M_avoidLine_78 : vm_D q_M_avoidLine.2.1 78 1 79 (.aload_n 0) := ⟨by decide +kernel, rfl⟩
theorem d_M_avoidLine_79 : vm_D q_M_avoidLine.2.1 79 3 82 (.getfield 80) := ⟨by decide +kernel, rfl⟩
theorem d_M_avoidLine_82 : vm_D q_M_avoidLine.2.1 82 3 85 (.sipush 194) := ⟨by decide +kernel, rfl⟩
theorem d_M_avoidLine_85 : vm_D q_M_avoidLine.2.1 85 1 86 (.iload_n 1) := ⟨by decide +kernel, rfl⟩
theorem d_M_avoidLine_86 : vm_D q_M_avoidLine.2.1 86 1 87 (.iadd) := ⟨by decide +kernel, rfl⟩
theorem d_M_avoidLine_87 : vm_D q_M_avoidLine.2.1 87 1 88 (.iconst 1) := ⟨by decide +kernel, rfl⟩
theorem d_M_avoidLine_88 : vm_D q_M_avoidLine.2.1 88 1 89 (.iastore) := ⟨by decide +kernel, rfl⟩
theorem d_M_avoidLine_89 : vm_D q_M_avoidLine.2.1 89 1 90 (.return_) := ⟨by decide +kernel, rfl⟩
theorem d_M_avoidLine_39 : vm_D q_M_avoidLine.2.1 39 1 40 (.iconst (-1)) := ⟨by decide +kernel, rfl⟩
theorem d_M_avoidLine_25 : vm_D q_M_avoidLine.2.1 25 1 26 (.aload_n 0) := ⟨by decide +kernel, rfl⟩
theorem d_M_avoidLine_26 : vm_D q_M_avoidLine.2.1 26 1 27 (.iconst 4) := ⟨by decide +kernel, rfl⟩
theorem d_M_avoidLine_27 : vm_D q_M_avoidLine.2.1 27 1 28 (.aload_n 0) := ⟨by decide +kernel, rfl⟩
theorem d_M_avoidLine_28 : vm_D q_M_avoidLine.2.1 28 3 31 (.getfield 80) := ⟨by decide +kernel, rfl⟩
theorem d_M_avoidLine_31 : vm_D q_M_avoidLine.2.1 31 1 32 (.iconst 5) := ⟨by decide +kernel, rfl⟩
theorem d_M_avoidLine_32 : vm_D q_M_avoidLine.2.1 32 1 33 (.iaload) := ⟨by decide +kernel, rfl⟩
theorem d_M_avoidLine_33 : vm_D q_M_avoidLine.2.1 33 3 36 (.invokevirtual 137) := ⟨by decide +kernel, rfl⟩
theorem d_M_avoidLine_36 : ∃ off : Int, decode q_M_avoidLine.2.1 36 = .ok (.goto off, 3) ∧ ((36 : Nat) : Int) + off = ((40 : Nat) : Int) := ⟨4, by decide +kernel, by decide⟩
theorem d_M_avoidLine_17 : vm_D q_M_avoidLine.2.1 17 1 18 (.return_) := ⟨by decide +kernel, rfl⟩
def q_M_line : vm_Y := ("RepeatFreeModel", cX11_line, 2, false, [])
theorem d_M_line_0 : vm_D q_M_line.2.1 0 1 1 (.aload_n 0) := ⟨by decide +kernel, rfl⟩
theorem d_M_line_1 : vm_D q_M_line.2.1 1 3 4 (.invokevirtual 34) := ⟨by decide +kernel, rfl⟩
theorem d_M_line_4 : vm_D q_M_line.2.1 4 1 5 (.aload_n 0) := ⟨by decide +kernel, rfl⟩
theorem d_M_line_5 : vm_D q_M_line.2.1 5 3 8 (.getfield 80) := ⟨by decide +kernel, rfl⟩
theorem d_M_line_8 : vm_D q_M_line.2.1 8 1 9 (.iconst 0) := ⟨by decide +kernel, rfl⟩
theorem d_M_line_9 : vm_D q_M_line.2.1 9 1 10 (.iaload) := ⟨by decide +kernel, rfl⟩
theorem d_M_line_10 : vm_B q_M_line.2.1 10 13 17 (fun o => .ifCond .le o) := ⟨7, by decide +kernel, rfl, by decide⟩
theorem d_M_line_18 : vm_D q_M_line.2.1 18 1 19 (.istore_n 1) := ⟨by decide +kernel, rfl⟩
theorem d_M_line_19 : vm_D q_M_line.2.1 19 1 20 (.iload_n 1) := ⟨by decide +kernel, rfl⟩
theorem d_M_line_20 : vm_B q_M_line.2.1 20 23 47 (fun o => .ifCond .ne o) := ⟨27, by decide +kernel, rfl, by decide⟩
theorem d_M_line_131 : vm_D q_M_line.2.1 131 1 132 (.aload_n 0) := ⟨by decide +kernel, rfl⟩
theorem d_M_line_132 : vm_D q_M_line.2.1 132 2 134 (.bipush 59) := ⟨by decide +kernel, rfl⟩
theorem d_M_line_134 : vm_D q_M_line.2.1 134 3 137 (.invokevirtual 171) := ⟨by decide +kernel, rfl⟩
theorem d_M_line_137 : vm_D q_M_line.2.1 137 1 138 (.return_) := ⟨by decide +kernel, rfl⟩
theorem d_M_line_47 : vm_D q_M_line.2.1 47 1 48 (.iload_n 1) := ⟨by decide +kernel, rfl⟩
theorem d_M_line_48 : vm_B q_M_line.2.1 48 51 67 (fun o => .ifCond .eq o) := ⟨19, by decide +kernel, rfl, by decide⟩
theorem d_M_line_67 : vm_D q_M_line.2.1 67 1 68 (.iload_n 1) := ⟨by decide +kernel, rfl⟩
theorem d_M_line_68 : vm_B q_M_line.2.1 68 71 87 (fun o => .ifCond .eq o) := ⟨19, by decide +kernel, rfl, by decide⟩
theorem d_M_line_87 : vm_D q_M_line.2.1 87 1 88 (.iload_n 1) := ⟨by decide +kernel, rfl⟩
theorem d_M_line_88 : vm_B q_M_line.2.1 88 91 107 (fun o => .ifCond .eq o) := ⟨19, by decide +kernel, rfl, by decide⟩
theorem d_M_line_107 : vm_D q_M_line.2.1 107 1 108 (.iload_n 1) := ⟨by decide +kernel, rfl⟩
theorem d_M_line_108 : vm_B q_M_line.2.1 108 111 127 (fun o => .ifCond .eq o) := ⟨19, by decide +kernel, rfl, by decide⟩
theorem d_M_line_127 : vm_D q_M_line.2.1 127 1 128 (.aload_n 0) := ⟨by decide +kernel, rfl⟩
theorem d_M_line_128 : vm_D q_M_line.2.1 128 3 131 (.invokevirtual 42) := ⟨by decide +kernel, rfl⟩
theorem d_M_line_111 : vm_D q_M_line.2.1 111 1 112 (.aload_n 0) := ⟨by decide +kernel, rfl⟩
theorem d_M_line_112 : vm_D q_M_line.2.1 112 2 114 (.ldc 132) := ⟨by decide +kernel, rfl⟩
theorem d_M_line_114 : vm_D q_M_line.2.1 114 3 117 (.invokevirtual 58) := ⟨by decide +kernel, rfl⟩
theorem d_M_line_117 : vm_B q_M_line.2.1 117 120 127 (fun o => .ifCond .eq o) := ⟨10, by decide +kernel, rfl, by decide⟩
theorem d_M_line_120 : vm_D q_M_line.2.1 120 1 121 (.aload_n 0) := ⟨by decide +kernel, rfl⟩
theorem d_M_line_121 : vm_D q_M_line.2.1 121 3 124 (.invokevirtual 168) := ⟨by decide +kernel, rfl⟩
theorem d_M_line_124 : ∃ off : Int, decode q_M_line.2.1 124 = .ok (.goto off, 3) ∧ ((124 : Nat) : Int) + off = ((131 : Nat) : Int) := ⟨7, by decide +kernel, by decide⟩
theorem d_M_line_91 : vm_D q_M_line.2.1 91 1 92 (.aload_n 0) := ⟨by decide +kernel, rfl⟩
theorem d_M_line_92 : vm_D q_M_line.2.1 92 2 94 (.ldc 130) := ⟨by decide +kernel, rfl⟩
theorem d_M_line_94 : vm_D q_M_line.2.1 94 3 97 (.invokevirtual 58) := ⟨by decide +kernel, rfl⟩
theorem d_M_line_97 : vm_B q_M_line.2.1 97 100 107 (fun o => .ifCond .eq o) := ⟨10, by decide +kernel, rfl, by decide⟩
theorem d_M_line_100 : vm_D q_M_line.2.1 100 1 101 (.aload_n 0) := ⟨by decide +kernel, rfl⟩
theorem d_M_line_101 : vm_D q_M_line.2.1 101 3 104 (.invokevirtual 165) := ⟨by decide +kernel, rfl⟩
theorem d_M_line_104 : ∃ off : Int, decode q_M_line.2.1 104 = .ok (.goto off, 3) ∧ ((104 : Nat) : Int) + off = ((131 : Nat) : Int) := ⟨27, by decide +kernel, by decide⟩
theorem d_M_line_71 : vm_D q_M_line.2.1 71 1 72 (.aload_n 0) := ⟨by decide +kernel, rfl⟩
theorem d_M_line_72 : vm_D q_M_line.2.1 72 2 74 (.ldc 128) := ⟨by decide +kernel, rfl⟩
theorem d_M_line_74 : vm_D q_M_line.2.1 74 3 77 (.invokevirtual 58) := ⟨by decide +kernel, rfl⟩
theorem d_M_line_77 : vm_B q_M_line.2.1 77 80 87 (fun o => .ifCond .eq o) := ⟨10, by decide +kernel, rfl, by decide⟩
theorem d_M_line_80 : vm_D q_M_line.2.1 80 1 81 (.aload_n 0) := ⟨by decide +kernel, rfl⟩
theorem d_M_line_81 : vm_D q_M_line.2.1 81 3 84 (.invokevirtual 162) := ⟨by decide +kernel, rfl⟩
theorem d_M_line_84 : ∃ off : Int, decode q_M_line.2.1 84 = .ok (.goto off, 3) ∧ ((84 : Nat) : Int) + off = ((131 : Nat) : Int) := ⟨47, by decide +kernel, by decide⟩
theorem d_M_line_51 : vm_D q_M_line.2.1 51 1 52 (.aload_n 0) := ⟨by decide +kernel, rfl⟩
theorem d_M_line_52 : vm_D q_M_line.2.1 52 2 54 (.ldc 120) := ⟨by decide +kernel, rfl⟩
theorem d_M_line_54 : vm_D q_M_line.2.1 54 3 57 (.invokevirtual 58) := ⟨by decide +kernel, rfl⟩
theorem d_M_line_57 : vm_B q_M_line.2.1 57 60 67 (fun o => .ifCond .eq o) := ⟨10, by decide +kernel, rfl, by decide⟩
theorem d_M_line_60 : vm_D q_M_line.2.1 60 1 61 (.aload_n 0) := ⟨by decide +kernel, rfl⟩
theorem d_M_line_61 : vm_D q_M_line.2.1 61 3 64 (.invokevirtual 159) := ⟨by decide +kernel, rfl⟩
theorem d_M_line_64 : ∃ off : Int, decode q_M_line.2.1 64 = .ok (.goto off, 3) ∧ ((64 : Nat) : Int) + off = ((131 : Nat) : Int) := ⟨67, by decide +kernel, by decide⟩
theorem d_M_line_23 : vm_D q_M_line.2.1 23 1 24 (.aload_n 0) := ⟨by decide +kernel, rfl⟩
theorem d_M_line_24 : vm_D q_M_line.2.1 24 2 26 (.ldc 118) := ⟨by decide +kernel, rfl⟩
theorem d_M_line_26 : vm_D q_M_line.2.1 26 3 29 (.invokevirtual 62) := ⟨by decide +kernel, rfl⟩
theorem d_M_line_29 : vm_B q_M_line.2.1 29 32 47 (fun o => .ifCond .eq o) := ⟨18, by decide +kernel, rfl, by decide⟩
theorem d_M_line_32 : vm_D q_M_line.2.1 32 1 33 (.aload_n 0) := ⟨by decide +kernel, rfl⟩
theorem d_M_line_33 : vm_D q_M_line.2.1 33 3 36 (.getfield 80) := ⟨by decide +kernel, rfl⟩
theorem d_M_line_36 : vm_D q_M_line.2.1 36 1 37 (.iconst 0) := ⟨by decide +kernel, rfl⟩
theorem d_M_line_37 : vm_D q_M_line.2.1 37 1 38 (.aload_n 0) := ⟨by decide +kernel, rfl⟩
theorem d_M_line_38 : vm_D q_M_line.2.1 38 1 39 (.iconst 2) := ⟨by decide +kernel, rfl⟩
theorem d_M_line_39 : vm_D q_M_line.2.1 39 1 40 (.iconst 4) := ⟨by decide +kernel, rfl⟩
theorem d_M_line_40 : vm_D q_M_line.2.1 40 3 43 (.invokevirtual 149) := ⟨by decide +kernel, rfl⟩
theorem d_M_line_43 : vm_D q_M_line.2.1 43 1 44 (.iastore) := ⟨by decide +kernel, rfl⟩
theorem d_M_line_44 : ∃ off : Int, decode q_M_line.2.1 44 = .ok (.goto off, 3) ∧ ((44 : Nat) : Int) + off = ((131 : Nat) : Int) := ⟨87, by decide +kernel, by decide⟩
theorem d_M_line_17 : vm_D q_M_line.2.1 17 1 18 (.iconst 0) := ⟨by decide +kernel, rfl⟩
theorem d_M_line_13 : vm_D q_M_line.2.1 13 1 14 (.iconst 1) := ⟨by decide +kernel, rfl⟩
theorem d_M_line_14 : ∃ off : Int, decode q_M_line.2.1 14 = .ok (.goto off, 3) ∧ ((14 : Nat) : Int) + off = ((18 : Nat) : Int) := ⟨4, by decide +kernel, by decide⟩
def q_M_read : vm_Y := ("RepeatFreeModel", cX11_read, 2, false, [])
theorem d_M_read_0 : vm_D q_M_read.2.1 0 1 1 (.aload_n 0) := ⟨by decide +kernel, rfl⟩
theorem d_M_read_1 : vm_D q_M_read.2.1 1 1 2 (.iconst 0) := ⟨by decide +kernel, rfl⟩
theorem d_M_read_2 : vm_D q_M_read.2.1 2 3 5 (.putfield 3) := ⟨by decide +kernel, rfl⟩
theorem d_M_read_5 : vm_D q_M_read.2.1 5 1 6 (.aload_n 0) := ⟨by decide +kernel, rfl⟩
theorem d_M_read_6 : vm_D q_M_read.2.1 6 3 9 (.invokevirtual 174) := ⟨by decide +kernel, rfl⟩
theorem d_M_read_9 : vm_D q_M_read.2.1 9 1 10 (.iconst 0) := ⟨by decide +kernel, rfl⟩
theorem d_M_read_10 : vm_D q_M_read.2.1 10 1 11 (.istore_n 1) := ⟨by decide +kernel, rfl⟩
theorem d_M_read_11 : vm_D q_M_read.2.1 11 1 12 (.iload_n 1) := ⟨by decide +kernel, rfl⟩
theorem d_M_read_12 : vm_D q_M_read.2.1 12 3 15 (.sipush 198) := ⟨by decide +kernel, rfl⟩
theorem d_M_read_15 : vm_B q_M_read.2.1 15 18 31 (fun o => .if_icmp .ge o) := ⟨16, by decide +kernel, rfl, by decide⟩
theorem d_M_read_18 : vm_D q_M_read.2.1 18 1 19 (.aload_n 0) := ⟨by decide +kernel, rfl⟩
theorem d_M_read_19 : vm_D q_M_read.2.1 19 3 22 (.getfield 80) := ⟨by decide +kernel, rfl⟩
theorem d_M_read_22 : vm_D q_M_read.2.1 22 1 23 (.iload_n 1) := ⟨by decide +kernel, rfl⟩
theorem d_M_read_23 : vm_D q_M_read.2.1 23 1 24 (.iconst 0) := ⟨by decide +kernel, rfl⟩
theorem d_M_read_24 : vm_D q_M_read.2.1 24 1 25 (.iastore) := ⟨by decide +kernel, rfl⟩
theorem d_M_read_25 : vm_D q_M_read.2.1 25 3 28 (.iinc 1 1) := ⟨by decide +kernel, rfl⟩
theorem d_M_read_28 : ∃ off : Int, decode q_M_read.2.1 28 = .ok (.goto off, 3) ∧ ((28 : Nat) : Int) + off = ((11 : Nat) : Int) := ⟨-17, by decide +kernel, by decide⟩
theorem d_M_read_31 : vm_D q_M_read.2.1 31 1 32 (.aload_n 0) := ⟨by decide +kernel, rfl⟩
theorem d_M_read_32 : vm_D q_M_read.2.1 32 1 33 (.iconst 0) := ⟨by decide +kernel, rfl⟩
theorem d_M_read_33 : vm_D q_M_read.2.1 33 3 36 (.putfield 141) := ⟨by decide +kernel, rfl⟩
theorem d_M_read_36 : vm_D q_M_read.2.1 36 1 37 (.aload_n 0) := ⟨by decide +kernel, rfl⟩
theorem d_M_read_37 : vm_D q_M_read.2.1 37 3 40 (.invokevirtual 34) := ⟨by decide +kernel, rfl⟩
theorem d_M_read_40 : vm_D q_M_read.2.1 40 1 41 (.aload_n 0) := ⟨by decide +kernel, rfl⟩
theorem d_M_read_41 : vm_D q_M_read.2.1 41 3 44 (.invokevirtual 38) := ⟨by decide +kernel, rfl⟩
theorem d_M_read_44 : vm_B q_M_read.2.1 44 47 69 (fun o => .ifCond .ne o) := ⟨25, by decide +kernel, rfl, by decide⟩
theorem d_M_read_47 : vm_D q_M_read.2.1 47 1 48 (.aload_n 0) := ⟨by decide +kernel, rfl⟩
theorem d_M_read_48 : vm_D q_M_read.2.1 48 3 51 (.getfield 21) := ⟨by decide +kernel, rfl⟩
theorem d_M_read_51 : vm_D q_M_read.2.1 51 1 52 (.aload_n 0) := ⟨by decide +kernel, rfl⟩
theorem d_M_read_52 : vm_D q_M_read.2.1 52 3 55 (.getfield 18) := ⟨by decide +kernel, rfl⟩
theorem d_M_read_55 : vm_B q_M_read.2.1 55 58 69 (fun o => .if_icmp .ge o) := ⟨14, by decide +kernel, rfl, by decide⟩
theorem d_M_read_58 : vm_D q_M_read.2.1 58 1 59 (.aload_n 0) := ⟨by decide +kernel, rfl⟩
theorem d_M_read_59 : vm_D q_M_read.2.1 59 3 62 (.invokevirtual 177) := ⟨by decide +kernel, rfl⟩
theorem d_M_read_62 : vm_D q_M_read.2.1 62 1 63 (.aload_n 0) := ⟨by decide +kernel, rfl⟩
theorem d_M_read_63 : vm_D q_M_read.2.1 63 3 66 (.invokevirtual 34) := ⟨by decide +kernel, rfl⟩
theorem d_M_read_66 : ∃ off : Int, decode q_M_read.2.1 66 = .ok (.goto off, 3) ∧ ((66 : Nat) : Int) + off = ((40 : Nat) : Int) := ⟨-26, by decide +kernel, by decide⟩
theorem d_M_read_69 : vm_D q_M_read.2.1 69 1 70 (.aload_n 0) := ⟨by decide +kernel, rfl⟩
theorem d_M_read_70 : vm_D q_M_read.2.1 70 3 73 (.invokevirtual 38) := ⟨by decide +kernel, rfl⟩
theorem d_M_read_73 : vm_B q_M_read.2.1 73 76 89 (fun o => .ifCond .ne o) := ⟨16, by decide +kernel, rfl, by decide⟩
theorem d_M_read_89 : vm_D q_M_read.2.1 89 1 90 (.aload_n 0) := ⟨by decide +kernel, rfl⟩
theorem d_M_read_90 : vm_D q_M_read.2.1 90 1 91 (.aload_n 0) := ⟨by decide +kernel, rfl⟩
theorem d_M_read_91 : vm_D q_M_read.2.1 91 3 94 (.getfield 24) := ⟨by decide +kernel, rfl⟩
theorem d_M_read_94 : vm_D q_M_read.2.1 94 3 97 (.putfield 69) := ⟨by decide +kernel, rfl⟩
theorem d_M_read_97 : vm_D q_M_read.2.1 97 1 98 (.aload_n 0) := ⟨by decide +kernel, rfl⟩
theorem d_M_read_98 : vm_D q_M_read.2.1 98 1 99 (.aload_n 0) := ⟨by decide +kernel, rfl⟩
theorem d_M_read_99 : vm_D q_M_read.2.1 99 3 102 (.invokevirtual 38) := ⟨by decide +kernel, rfl⟩
theorem d_M_read_102 : vm_D q_M_read.2.1 102 1 103 (.iconst 1) := ⟨by decide +kernel, rfl⟩
theorem d_M_read_103 : vm_D q_M_read.2.1 103 3 106 (.invokevirtual 180) := ⟨by decide +kernel, rfl⟩
theorem d_M_read_106 : vm_B q_M_read.2.1 106 109 111 (fun o => .ifCond .eq o) := ⟨5, by decide +kernel, rfl, by decide⟩
theorem d_M_read_111 : vm_D q_M_read.2.1 111 1 112 (.iconst 0) := ⟨by decide +kernel, rfl⟩
theorem d_M_read_112 : vm_D q_M_read.2.1 112 1 113 (.istore_n 1) := ⟨by decide +kernel, rfl⟩
theorem d_M_read_113 : vm_D q_M_read.2.1 113 1 114 (.iload_n 1) := ⟨by decide +kernel, rfl⟩
theorem d_M_read_114 : vm_D q_M_read.2.1 114 3 117 (.sipush 198) := ⟨by decide +kernel, rfl⟩
theorem d_M_read_117 : vm_B q_M_read.2.1 117 120 138 (fun o => .if_icmp .ge o) := ⟨21, by decide +kernel, rfl, by decide⟩
theorem d_M_read_120 : vm_D q_M_read.2.1 120 1 121 (.aload_n 0) := ⟨by decide +kernel, rfl⟩
theorem d_M_read_121 : vm_D q_M_read.2.1 121 3 124 (.getfield 77) := ⟨by decide +kernel, rfl⟩
theorem d_M_read_124 : vm_D q_M_read.2.1 124 1 125 (.iload_n 1) := ⟨by decide +kernel, rfl⟩
theorem d_M_read_125 : vm_D q_M_read.2.1 125 1 126 (.aload_n 0) := ⟨by decide +kernel, rfl⟩
theorem d_M_read_126 : vm_D q_M_read.2.1 126 3 129 (.getfield 80) := ⟨by decide +kernel, rfl⟩
theorem d_M_read_129 : vm_D q_M_read.2.1 129 1 130 (.iload_n 1) := ⟨by decide +kernel, rfl⟩
theorem d_M_read_130 : vm_D q_M_read.2.1 130 1 131 (.iaload) := ⟨by decide +kernel, rfl⟩
theorem d_M_read_131 : vm_D q_M_read.2.1 131 1 132 (.iastore) := ⟨by decide +kernel, rfl⟩
theorem d_M_read_132 : vm_D q_M_read.2.1 132 3 135 (.iinc 1 1) := ⟨by decide +kernel, rfl⟩
theorem d_M_read_135 : ∃ off : Int, decode q_M_read.2.1 135 = .ok (.goto off, 3) ∧ ((135 : Nat) : Int) + off = ((113 : Nat) : Int) := ⟨-22, by decide +kernel, by decide⟩
theorem d_M_read_138 : vm_D q_M_read.2.1 138 1 139 (.aload_n 0) := ⟨by decide +kernel, rfl⟩
theorem d_M_read_139 : vm_D q_M_read.2.1 139 1 140 (.iconst 0) := ⟨by decide +kernel, rfl⟩
theorem d_M_read_140 : vm_D q_M_read.2.1 140 3 143 (.putfield 184) := ⟨by decide +kernel, rfl⟩
theorem d_M_read_143 : vm_D q_M_read.2.1 143 1 144 (.aload_n 0) := ⟨by decide +kernel, rfl⟩
theorem d_M_read_144 : vm_D q_M_read.2.1 144 1 145 (.iconst 0) := ⟨by decide +kernel, rfl⟩
theorem d_M_read_145 : vm_D q_M_read.2.1 145 3 148 (.putfield 187) := ⟨by decide +kernel, rfl⟩
theorem d_M_read_148 : vm_D q_M_read.2.1 148 1 149 (.aload_n 0) := ⟨by decide +kernel, rfl⟩
theorem d_M_read_149 : vm_D q_M_read.2.1 149 3 152 (.getfield 77) := ⟨by decide +kernel, rfl⟩
theorem d_M_read_152 : vm_D q_M_read.2.1 152 1 153 (.iconst 0) := ⟨by decide +kernel, rfl⟩
theorem d_M_read_153 : vm_D q_M_read.2.1 153 1 154 (.iaload) := ⟨by decide +kernel, rfl⟩
theorem d_M_read_154 : vm_D q_M_read.2.1 154 1 155 (.ireturn) := ⟨by decide +kernel, rfl⟩
theorem d_M_read_109 : vm_D q_M_read.2.1 109 1 110 (.iconst 0) := ⟨by decide +kernel, rfl⟩
theorem d_M_read_110 : vm_D q_M_read.2.1 110 1 111 (.ireturn) := ⟨by decide +kernel, rfl⟩
theorem d_M_read_76 : vm_D q_M_read.2.1 76 1 77 (.aload_n 0) := ⟨by decide +kernel, rfl⟩
theorem d_M_read_77 : vm_D q_M_read.2.1 77 3 80 (.getfield 80) := ⟨by decide +kernel, rfl⟩
theorem d_M_read_80 : vm_D q_M_read.2.1 80 1 81 (.iconst 0) := ⟨by decide +kernel, rfl⟩
theorem d_M_read_81 : vm_D q_M_read.2.1 81 1 82 (.iaload) := ⟨by decide +kernel, rfl⟩
theorem d_M_read_82 : vm_B q_M_read.2.1 82 85 89 (fun o => .ifCond .ne o) := ⟨7, by decide +kernel, rfl, by decide⟩
theorem d_M_read_85 : vm_D q_M_read.2.1 85 1 86 (.aload_n 0) := ⟨by decide +kernel, rfl⟩
theorem d_M_read_86 : vm_D q_M_read.2.1 86 3 89 (.invokevirtual 42) := ⟨by decide +kernel, rfl⟩
def q_M_laysAside : vm_Y := ("RepeatFreeModel", cX11_laysAside, 3, false, [])
theorem d_M_laysAside_0 : vm_D q_M_laysAside.2.1 0 2 2 (.bipush 65) := ⟨by decide +kernel, rfl⟩
theorem d_M_laysAside_2 : vm_D q_M_laysAside.2.1 2 1 3 (.istore_n 1) := ⟨by decide +kernel, rfl⟩
theorem d_M_laysAside_3 : vm_D q_M_laysAside.2.1 3 1 4 (.aload_n 0) := ⟨by decide +kernel, rfl⟩
theorem d_M_laysAside_4 : vm_D q_M_laysAside.2.1 4 3 7 (.getfield 187) := ⟨by decide +kernel, rfl⟩
theorem d_M_laysAside_7 : vm_D q_M_laysAside.2.1 7 2 9 (.bipush 10) := ⟨by decide +kernel, rfl⟩
theorem d_M_laysAside_9 : vm_B q_M_laysAside.2.1 9 12 52 (fun o => .if_icmp .ne o) := ⟨43, by decide +kernel, rfl, by decide⟩
theorem d_M_laysAside_52 : vm_D q_M_laysAside.2.1 52 1 53 (.aload_n 0) := ⟨by decide +kernel, rfl⟩
theorem d_M_laysAside_53 : vm_D q_M_laysAside.2.1 53 3 56 (.getfield 89) := ⟨by decide +kernel, rfl⟩
theorem d_M_laysAside_56 : vm_D q_M_laysAside.2.1 56 1 57 (.iload_n 1) := ⟨by decide +kernel, rfl⟩
theorem d_M_laysAside_57 : vm_D q_M_laysAside.2.1 57 1 58 (.aload_n 0) := ⟨by decide +kernel, rfl⟩
theorem d_M_laysAside_58 : vm_D q_M_laysAside.2.1 58 3 61 (.getfield 187) := ⟨by decide +kernel, rfl⟩
theorem d_M_laysAside_61 : vm_D q_M_laysAside.2.1 61 1 62 (.imul) := ⟨by decide +kernel, rfl⟩
theorem d_M_laysAside_62 : vm_D q_M_laysAside.2.1 62 1 63 (.aload_n 0) := ⟨by decide +kernel, rfl⟩
theorem d_M_laysAside_63 : vm_D q_M_laysAside.2.1 63 3 66 (.getfield 184) := ⟨by decide +kernel, rfl⟩
theorem d_M_laysAside_66 : vm_D q_M_laysAside.2.1 66 1 67 (.iastore) := ⟨by decide +kernel, rfl⟩
theorem d_M_laysAside_67 : vm_D q_M_laysAside.2.1 67 1 68 (.iconst 0) := ⟨by decide +kernel, rfl⟩
theorem d_M_laysAside_68 : vm_D q_M_laysAside.2.1 68 1 69 (.istore_n 2) := ⟨by decide +kernel, rfl⟩
theorem d_M_laysAside_69 : vm_D q_M_laysAside.2.1 69 1 70 (.iload_n 2) := ⟨by decide +kernel, rfl⟩
theorem d_M_laysAside_70 : vm_D q_M_laysAside.2.1 70 1 71 (.aload_n 0) := ⟨by decide +kernel, rfl⟩
theorem d_M_laysAside_71 : vm_D q_M_laysAside.2.1 71 3 74 (.getfield 184) := ⟨by decide +kernel, rfl⟩
theorem d_M_laysAside_74 : vm_B q_M_laysAside.2.1 74 77 104 (fun o => .if_icmp .ge o) := ⟨30, by decide +kernel, rfl, by decide⟩
theorem d_M_laysAside_77 : vm_D q_M_laysAside.2.1 77 1 78 (.aload_n 0) := ⟨by decide +kernel, rfl⟩
theorem d_M_laysAside_78 : vm_D q_M_laysAside.2.1 78 3 81 (.getfield 89) := ⟨by decide +kernel, rfl⟩
theorem d_M_laysAside_81 : vm_D q_M_laysAside.2.1 81 1 82 (.iload_n 1) := ⟨by decide +kernel, rfl⟩
theorem d_M_laysAside_82 : vm_D q_M_laysAside.2.1 82 1 83 (.aload_n 0) := ⟨by decide +kernel, rfl⟩
theorem d_M_laysAside_83 : vm_D q_M_laysAside.2.1 83 3 86 (.getfield 187) := ⟨by decide +kernel, rfl⟩
theorem d_M_laysAside_86 : vm_D q_M_laysAside.2.1 86 1 87 (.imul) := ⟨by decide +kernel, rfl⟩
theorem d_M_laysAside_87 : vm_D q_M_laysAside.2.1 87 1 88 (.iconst 1) := ⟨by decide +kernel, rfl⟩
theorem d_M_laysAside_88 : vm_D q_M_laysAside.2.1 88 1 89 (.iadd) := ⟨by decide +kernel, rfl⟩
theorem d_M_laysAside_89 : vm_D q_M_laysAside.2.1 89 1 90 (.iload_n 2) := ⟨by decide +kernel, rfl⟩
theorem d_M_laysAside_90 : vm_D q_M_laysAside.2.1 90 1 91 (.iadd) := ⟨by decide +kernel, rfl⟩
theorem d_M_laysAside_91 : vm_D q_M_laysAside.2.1 91 1 92 (.aload_n 0) := ⟨by decide +kernel, rfl⟩
theorem d_M_laysAside_92 : vm_D q_M_laysAside.2.1 92 3 95 (.getfield 83) := ⟨by decide +kernel, rfl⟩
theorem d_M_laysAside_95 : vm_D q_M_laysAside.2.1 95 1 96 (.iload_n 2) := ⟨by decide +kernel, rfl⟩
theorem d_M_laysAside_96 : vm_D q_M_laysAside.2.1 96 1 97 (.iaload) := ⟨by decide +kernel, rfl⟩
theorem d_M_laysAside_97 : vm_D q_M_laysAside.2.1 97 1 98 (.iastore) := ⟨by decide +kernel, rfl⟩
theorem d_M_laysAside_98 : vm_D q_M_laysAside.2.1 98 3 101 (.iinc 2 1) := ⟨by decide +kernel, rfl⟩
theorem d_M_laysAside_101 : ∃ off : Int, decode q_M_laysAside.2.1 101 = .ok (.goto off, 3) ∧ ((101 : Nat) : Int) + off = ((69 : Nat) : Int) := ⟨-32, by decide +kernel, by decide⟩
theorem d_M_laysAside_104 : vm_D q_M_laysAside.2.1 104 1 105 (.aload_n 0) := ⟨by decide +kernel, rfl⟩
theorem d_M_laysAside_105 : vm_D q_M_laysAside.2.1 105 1 106 (.dup) := ⟨by decide +kernel, rfl⟩
theorem d_M_laysAside_106 : vm_D q_M_laysAside.2.1 106 3 109 (.getfield 187) := ⟨by decide +kernel, rfl⟩
theorem d_M_laysAside_109 : vm_D q_M_laysAside.2.1 109 1 110 (.iconst 1) := ⟨by decide +kernel, rfl⟩
theorem d_M_laysAside_110 : vm_D q_M_laysAside.2.1 110 1 111 (.iadd) := ⟨by decide +kernel, rfl⟩
theorem d_M_laysAside_111 : vm_D q_M_laysAside.2.1 111 3 114 (.putfield 187) := ⟨by decide +kernel, rfl⟩
theorem d_M_laysAside_114 : vm_D q_M_laysAside.2.1 114 1 115 (.return_) := ⟨by decide +kernel, rfl⟩
theorem d_M_laysAside_12 : vm_D q_M_laysAside.2.1 12 1 13 (.iload_n 1) := ⟨by decide +kernel, rfl⟩
theorem d_M_laysAside_13 : vm_D q_M_laysAside.2.1 13 1 14 (.istore_n 2) := ⟨by decide +kernel, rfl⟩
theorem d_M_laysAside_14 : vm_D q_M_laysAside.2.1 14 1 15 (.iload_n 2) := ⟨by decide +kernel, rfl⟩
theorem d_M_laysAside_15 : vm_D q_M_laysAside.2.1 15 2 17 (.bipush 10) := ⟨by decide +kernel, rfl⟩
theorem d_M_laysAside_17 : vm_D q_M_laysAside.2.1 17 1 18 (.iload_n 1) := ⟨by decide +kernel, rfl⟩
theorem d_M_laysAside_18 : vm_D q_M_laysAside.2.1 18 1 19 (.imul) := ⟨by decide +kernel, rfl⟩
theorem d_M_laysAside_19 : vm_B q_M_laysAside.2.1 19 22 42 (fun o => .if_icmp .ge o) := ⟨23, by decide +kernel, rfl, by decide⟩
theorem d_M_laysAside_22 : vm_D q_M_laysAside.2.1 22 1 23 (.aload_n 0) := ⟨by decide +kernel, rfl⟩
theorem d_M_laysAside_23 : vm_D q_M_laysAside.2.1 23 3 26 (.getfield 89) := ⟨by decide +kernel, rfl⟩
theorem d_M_laysAside_26 : vm_D q_M_laysAside.2.1 26 1 27 (.iload_n 2) := ⟨by decide +kernel, rfl⟩
theorem d_M_laysAside_27 : vm_D q_M_laysAside.2.1 27 1 28 (.iload_n 1) := ⟨by decide +kernel, rfl⟩
theorem d_M_laysAside_28 : vm_D q_M_laysAside.2.1 28 1 29 (.isub) := ⟨by decide +kernel, rfl⟩
theorem d_M_laysAside_29 : vm_D q_M_laysAside.2.1 29 1 30 (.aload_n 0) := ⟨by decide +kernel, rfl⟩
theorem d_M_laysAside_30 : vm_D q_M_laysAside.2.1 30 3 33 (.getfield 89) := ⟨by decide +kernel, rfl⟩
theorem d_M_laysAside_33 : vm_D q_M_laysAside.2.1 33 1 34 (.iload_n 2) := ⟨by decide +kernel, rfl⟩
theorem d_M_laysAside_34 : vm_D q_M_laysAside.2.1 34 1 35 (.iaload) := ⟨by decide +kernel, rfl⟩
theorem d_M_laysAside_35 : vm_D q_M_laysAside.2.1 35 1 36 (.iastore) := ⟨by decide +kernel, rfl⟩
theorem d_M_laysAside_36 : vm_D q_M_laysAside.2.1 36 3 39 (.iinc 2 1) := ⟨by decide +kernel, rfl⟩
theorem d_M_laysAside_39 : ∃ off : Int, decode q_M_laysAside.2.1 39 = .ok (.goto off, 3) ∧ ((39 : Nat) : Int) + off = ((14 : Nat) : Int) := ⟨-25, by decide +kernel, by decide⟩
theorem d_M_laysAside_42 : vm_D q_M_laysAside.2.1 42 1 43 (.aload_n 0) := ⟨by decide +kernel, rfl⟩
theorem d_M_laysAside_43 : vm_D q_M_laysAside.2.1 43 1 44 (.dup) := ⟨by decide +kernel, rfl⟩
theorem d_M_laysAside_44 : vm_D q_M_laysAside.2.1 44 3 47 (.getfield 187) := ⟨by decide +kernel, rfl⟩
theorem d_M_laysAside_47 : vm_D q_M_laysAside.2.1 47 1 48 (.iconst 1) := ⟨by decide +kernel, rfl⟩
theorem d_M_laysAside_48 : vm_D q_M_laysAside.2.1 48 1 49 (.isub) := ⟨by decide +kernel, rfl⟩
theorem d_M_laysAside_49 : vm_D q_M_laysAside.2.1 49 3 52 (.putfield 187) := ⟨by decide +kernel, rfl⟩
def q_M_becomes : vm_Y := ("RepeatFreeModel", cX11_becomes, 3, false, [])
theorem d_M_becomes_0 : vm_D q_M_becomes.2.1 0 1 1 (.aload_n 0) := ⟨by decide +kernel, rfl⟩
theorem d_M_becomes_1 : vm_D q_M_becomes.2.1 1 3 4 (.invokevirtual 190) := ⟨by decide +kernel, rfl⟩
theorem d_M_becomes_4 : vm_D q_M_becomes.2.1 4 1 5 (.aload_n 0) := ⟨by decide +kernel, rfl⟩
theorem d_M_becomes_5 : vm_D q_M_becomes.2.1 5 1 6 (.iload_n 1) := ⟨by decide +kernel, rfl⟩
theorem d_M_becomes_6 : vm_D q_M_becomes.2.1 6 3 9 (.putfield 184) := ⟨by decide +kernel, rfl⟩
theorem d_M_becomes_9 : vm_D q_M_becomes.2.1 9 1 10 (.iconst 0) := ⟨by decide +kernel, rfl⟩
theorem d_M_becomes_10 : vm_D q_M_becomes.2.1 10 1 11 (.istore_n 2) := ⟨by decide +kernel, rfl⟩
theorem d_M_becomes_11 : vm_D q_M_becomes.2.1 11 1 12 (.iload_n 2) := ⟨by decide +kernel, rfl⟩
theorem d_M_becomes_12 : vm_D q_M_becomes.2.1 12 1 13 (.iload_n 1) := ⟨by decide +kernel, rfl⟩
theorem d_M_becomes_13 : vm_B q_M_becomes.2.1 13 16 34 (fun o => .if_icmp .ge o) := ⟨21, by decide +kernel, rfl, by decide⟩
theorem d_M_becomes_16 : vm_D q_M_becomes.2.1 16 1 17 (.aload_n 0) := ⟨by decide +kernel, rfl⟩
theorem d_M_becomes_17 : vm_D q_M_becomes.2.1 17 3 20 (.getfield 83) := ⟨by decide +kernel, rfl⟩
theorem d_M_becomes_20 : vm_D q_M_becomes.2.1 20 1 21 (.iload_n 2) := ⟨by decide +kernel, rfl⟩
theorem d_M_becomes_21 : vm_D q_M_becomes.2.1 21 1 22 (.aload_n 0) := ⟨by decide +kernel, rfl⟩
theorem d_M_becomes_22 : vm_D q_M_becomes.2.1 22 3 25 (.getfield 86) := ⟨by decide +kernel, rfl⟩
theorem d_M_becomes_25 : vm_D q_M_becomes.2.1 25 1 26 (.iload_n 2) := ⟨by decide +kernel, rfl⟩
theorem d_M_becomes_26 : vm_D q_M_becomes.2.1 26 1 27 (.iaload) := ⟨by decide +kernel, rfl⟩
theorem d_M_becomes_27 : vm_D q_M_becomes.2.1 27 1 28 (.iastore) := ⟨by decide +kernel, rfl⟩
theorem d_M_becomes_28 : vm_D q_M_becomes.2.1 28 3 31 (.iinc 2 1) := ⟨by decide +kernel, rfl⟩
theorem d_M_becomes_31 : ∃ off : Int, decode q_M_becomes.2.1 31 = .ok (.goto off, 3) ∧ ((31 : Nat) : Int) + off = ((11 : Nat) : Int) := ⟨-20, by decide +kernel, by decide⟩
theorem d_M_becomes_34 : vm_D q_M_becomes.2.1 34 1 35 (.return_) := ⟨by decide +kernel, rfl⟩
def q_M_undo : vm_Y := ("RepeatFreeModel", cX11_undo, 3, false, [])
theorem d_M_undo_0 : vm_D q_M_undo.2.1 0 1 1 (.aload_n 0) := ⟨by decide +kernel, rfl⟩
theorem d_M_undo_1 : vm_D q_M_undo.2.1 1 1 2 (.iconst 0) := ⟨by decide +kernel, rfl⟩
theorem d_M_undo_2 : vm_D q_M_undo.2.1 2 3 5 (.putfield 3) := ⟨by decide +kernel, rfl⟩
theorem d_M_undo_5 : vm_D q_M_undo.2.1 5 1 6 (.aload_n 0) := ⟨by decide +kernel, rfl⟩
theorem d_M_undo_6 : vm_D q_M_undo.2.1 6 3 9 (.getfield 187) := ⟨by decide +kernel, rfl⟩
theorem d_M_undo_9 : vm_B q_M_undo.2.1 9 12 14 (fun o => .ifCond .ne o) := ⟨5, by decide +kernel, rfl, by decide⟩
theorem d_M_undo_14 : vm_D q_M_undo.2.1 14 1 15 (.aload_n 0) := ⟨by decide +kernel, rfl⟩
theorem d_M_undo_15 : vm_D q_M_undo.2.1 15 1 16 (.dup) := ⟨by decide +kernel, rfl⟩
theorem d_M_undo_16 : vm_D q_M_undo.2.1 16 3 19 (.getfield 187) := ⟨by decide +kernel, rfl⟩
theorem d_M_undo_19 : vm_D q_M_undo.2.1 19 1 20 (.iconst 1) := ⟨by decide +kernel, rfl⟩
theorem d_M_undo_20 : vm_D q_M_undo.2.1 20 1 21 (.isub) := ⟨by decide +kernel, rfl⟩
theorem d_M_undo_21 : vm_D q_M_undo.2.1 21 3 24 (.putfield 187) := ⟨by decide +kernel, rfl⟩
theorem d_M_undo_24 : vm_D q_M_undo.2.1 24 2 26 (.bipush 65) := ⟨by decide +kernel, rfl⟩
theorem d_M_undo_26 : vm_D q_M_undo.2.1 26 1 27 (.aload_n 0) := ⟨by decide +kernel, rfl⟩
theorem d_M_undo_27 : vm_D q_M_undo.2.1 27 3 30 (.getfield 187) := ⟨by decide +kernel, rfl⟩
theorem d_M_undo_30 : vm_D q_M_undo.2.1 30 1 31 (.imul) := ⟨by decide +kernel, rfl⟩
theorem d_M_undo_31 : vm_D q_M_undo.2.1 31 1 32 (.istore_n 1) := ⟨by decide +kernel, rfl⟩
theorem d_M_undo_32 : vm_D q_M_undo.2.1 32 1 33 (.aload_n 0) := ⟨by decide +kernel, rfl⟩
theorem d_M_undo_33 : vm_D q_M_undo.2.1 33 1 34 (.aload_n 0) := ⟨by decide +kernel, rfl⟩
theorem d_M_undo_34 : vm_D q_M_undo.2.1 34 3 37 (.getfield 89) := ⟨by decide +kernel, rfl⟩
theorem d_M_undo_37 : vm_D q_M_undo.2.1 37 1 38 (.iload_n 1) := ⟨by decide +kernel, rfl⟩
theorem d_M_undo_38 : vm_D q_M_undo.2.1 38 1 39 (.iaload) := ⟨by decide +kernel, rfl⟩
theorem d_M_undo_39 : vm_D q_M_undo.2.1 39 3 42 (.putfield 184) := ⟨by decide +kernel, rfl⟩
theorem d_M_undo_42 : vm_D q_M_undo.2.1 42 1 43 (.iconst 0) := ⟨by decide +kernel, rfl⟩
theorem d_M_undo_43 : vm_D q_M_undo.2.1 43 1 44 (.istore_n 2) := ⟨by decide +kernel, rfl⟩
theorem d_M_undo_44 : vm_D q_M_undo.2.1 44 1 45 (.iload_n 2) := ⟨by decide +kernel, rfl⟩
theorem d_M_undo_45 : vm_D q_M_undo.2.1 45 1 46 (.aload_n 0) := ⟨by decide +kernel, rfl⟩
theorem d_M_undo_46 : vm_D q_M_undo.2.1 46 3 49 (.getfield 184) := ⟨by decide +kernel, rfl⟩
theorem d_M_undo_49 : vm_B q_M_undo.2.1 49 52 74 (fun o => .if_icmp .ge o) := ⟨25, by decide +kernel, rfl, by decide⟩
theorem d_M_undo_52 : vm_D q_M_undo.2.1 52 1 53 (.aload_n 0) := ⟨by decide +kernel, rfl⟩
theorem d_M_undo_53 : vm_D q_M_undo.2.1 53 3 56 (.getfield 83) := ⟨by decide +kernel, rfl⟩
theorem d_M_undo_56 : vm_D q_M_undo.2.1 56 1 57 (.iload_n 2) := ⟨by decide +kernel, rfl⟩
theorem d_M_undo_57 : vm_D q_M_undo.2.1 57 1 58 (.aload_n 0) := ⟨by decide +kernel, rfl⟩
theorem d_M_undo_58 : vm_D q_M_undo.2.1 58 3 61 (.getfield 89) := ⟨by decide +kernel, rfl⟩
theorem d_M_undo_61 : vm_D q_M_undo.2.1 61 1 62 (.iload_n 1) := ⟨by decide +kernel, rfl⟩
theorem d_M_undo_62 : vm_D q_M_undo.2.1 62 1 63 (.iconst 1) := ⟨by decide +kernel, rfl⟩
theorem d_M_undo_63 : vm_D q_M_undo.2.1 63 1 64 (.iadd) := ⟨by decide +kernel, rfl⟩
theorem d_M_undo_64 : vm_D q_M_undo.2.1 64 1 65 (.iload_n 2) := ⟨by decide +kernel, rfl⟩
theorem d_M_undo_65 : vm_D q_M_undo.2.1 65 1 66 (.iadd) := ⟨by decide +kernel, rfl⟩
theorem d_M_undo_66 : vm_D q_M_undo.2.1 66 1 67 (.iaload) := ⟨by decide +kernel, rfl⟩
theorem d_M_undo_67 : vm_D q_M_undo.2.1 67 1 68 (.iastore) := ⟨by decide +kernel, rfl⟩
theorem d_M_undo_68 : vm_D q_M_undo.2.1 68 3 71 (.iinc 2 1) := ⟨by decide +kernel, rfl⟩
theorem d_M_undo_71 : ∃ off : Int, decode q_M_undo.2.1 71 = .ok (.goto off, 3) ∧ ((71 : Nat) : Int) + off = ((44 : Nat) : Int) := ⟨-27, by decide +kernel, by decide⟩
theorem d_M_undo_74 : vm_D q_M_undo.2.1 74 1 75 (.aload_n 0) := ⟨by decide +kernel, rfl⟩
theorem d_M_undo_75 : vm_D q_M_undo.2.1 75 3 78 (.getfield 187) := ⟨by decide +kernel, rfl⟩
theorem d_M_undo_78 : vm_D q_M_undo.2.1 78 1 79 (.ireturn) := ⟨by decide +kernel, rfl⟩
theorem d_M_undo_12 : vm_D q_M_undo.2.1 12 1 13 (.iconst (-1)) := ⟨by decide +kernel, rfl⟩
theorem d_M_undo_13 : vm_D q_M_undo.2.1 13 1 14 (.ireturn) := ⟨by decide +kernel, rfl⟩
def q_M_word : vm_Y := ("RepeatFreeModel", cX11_word, 2, false, [])
theorem d_M_word_0 : vm_D q_M_word.2.1 0 1 1 (.aload_n 0) := ⟨by decide +kernel, rfl⟩
theorem d_M_word_1 : vm_D q_M_word.2.1 1 1 2 (.iconst 0) := ⟨by decide +kernel, rfl⟩
theorem d_M_word_2 : vm_D q_M_word.2.1 2 3 5 (.putfield 3) := ⟨by decide +kernel, rfl⟩
theorem d_M_word_5 : vm_D q_M_word.2.1 5 1 6 (.aload_n 0) := ⟨by decide +kernel, rfl⟩
theorem d_M_word_6 : vm_D q_M_word.2.1 6 3 9 (.invokevirtual 174) := ⟨by decide +kernel, rfl⟩
theorem d_M_word_9 : vm_D q_M_word.2.1 9 1 10 (.aload_n 0) := ⟨by decide +kernel, rfl⟩
theorem d_M_word_10 : vm_D q_M_word.2.1 10 3 13 (.invokevirtual 34) := ⟨by decide +kernel, rfl⟩
theorem d_M_word_13 : vm_D q_M_word.2.1 13 1 14 (.iconst 0) := ⟨by decide +kernel, rfl⟩
theorem d_M_word_14 : vm_D q_M_word.2.1 14 1 15 (.istore_n 1) := ⟨by decide +kernel, rfl⟩
theorem d_M_word_15 : vm_D q_M_word.2.1 15 1 16 (.aload_n 0) := ⟨by decide +kernel, rfl⟩
theorem d_M_word_16 : vm_D q_M_word.2.1 16 2 18 (.bipush 97) := ⟨by decide +kernel, rfl⟩
theorem d_M_word_18 : vm_D q_M_word.2.1 18 2 20 (.bipush 97) := ⟨by decide +kernel, rfl⟩
theorem d_M_word_20 : vm_D q_M_word.2.1 20 1 21 (.aload_n 0) := ⟨by decide +kernel, rfl⟩
theorem d_M_word_21 : vm_D q_M_word.2.1 21 3 24 (.getfield 77) := ⟨by decide +kernel, rfl⟩
theorem d_M_word_24 : vm_D q_M_word.2.1 24 1 25 (.iconst 0) := ⟨by decide +kernel, rfl⟩
theorem d_M_word_25 : vm_D q_M_word.2.1 25 1 26 (.iaload) := ⟨by decide +kernel, rfl⟩
theorem d_M_word_26 : vm_D q_M_word.2.1 26 1 27 (.iadd) := ⟨by decide +kernel, rfl⟩
theorem d_M_word_27 : vm_D q_M_word.2.1 27 1 28 (.iconst 1) := ⟨by decide +kernel, rfl⟩
theorem d_M_word_28 : vm_D q_M_word.2.1 28 1 29 (.isub) := ⟨by decide +kernel, rfl⟩
theorem d_M_word_29 : vm_D q_M_word.2.1 29 3 32 (.invokevirtual 27) := ⟨by decide +kernel, rfl⟩
theorem d_M_word_32 : vm_B q_M_word.2.1 32 35 75 (fun o => .ifCond .eq o) := ⟨43, by decide +kernel, rfl, by decide⟩
theorem d_M_word_35 : vm_D q_M_word.2.1 35 1 36 (.iload_n 1) := ⟨by decide +kernel, rfl⟩
theorem d_M_word_36 : vm_D q_M_word.2.1 36 2 38 (.bipush 64) := ⟨by decide +kernel, rfl⟩
theorem d_M_word_38 : vm_B q_M_word.2.1 38 41 75 (fun o => .if_icmp .ge o) := ⟨37, by decide +kernel, rfl, by decide⟩
theorem d_M_word_41 : vm_D q_M_word.2.1 41 1 42 (.aload_n 0) := ⟨by decide +kernel, rfl⟩
theorem d_M_word_42 : vm_D q_M_word.2.1 42 3 45 (.getfield 86) := ⟨by decide +kernel, rfl⟩
theorem d_M_word_45 : vm_D q_M_word.2.1 45 1 46 (.iload_n 1) := ⟨by decide +kernel, rfl⟩
theorem d_M_word_46 : vm_D q_M_word.2.1 46 1 47 (.aload_n 0) := ⟨by decide +kernel, rfl⟩
theorem d_M_word_47 : vm_D q_M_word.2.1 47 3 50 (.getfield 14) := ⟨by decide +kernel, rfl⟩
theorem d_M_word_50 : vm_D q_M_word.2.1 50 1 51 (.aload_n 0) := ⟨by decide +kernel, rfl⟩
theorem d_M_word_51 : vm_D q_M_word.2.1 51 3 54 (.getfield 21) := ⟨by decide +kernel, rfl⟩
theorem d_M_word_54 : vm_D q_M_word.2.1 54 1 55 (.baload) := ⟨by decide +kernel, rfl⟩
theorem d_M_word_55 : vm_D q_M_word.2.1 55 2 57 (.bipush 97) := ⟨by decide +kernel, rfl⟩
theorem d_M_word_57 : vm_D q_M_word.2.1 57 1 58 (.isub) := ⟨by decide +kernel, rfl⟩
theorem d_M_word_58 : vm_D q_M_word.2.1 58 1 59 (.iastore) := ⟨by decide +kernel, rfl⟩
theorem d_M_word_59 : vm_D q_M_word.2.1 59 3 62 (.iinc 1 1) := ⟨by decide +kernel, rfl⟩
theorem d_M_word_62 : vm_D q_M_word.2.1 62 1 63 (.aload_n 0) := ⟨by decide +kernel, rfl⟩
theorem d_M_word_63 : vm_D q_M_word.2.1 63 1 64 (.dup) := ⟨by decide +kernel, rfl⟩
theorem d_M_word_64 : vm_D q_M_word.2.1 64 3 67 (.getfield 21) := ⟨by decide +kernel, rfl⟩
theorem d_M_word_67 : vm_D q_M_word.2.1 67 1 68 (.iconst 1) := ⟨by decide +kernel, rfl⟩
theorem d_M_word_68 : vm_D q_M_word.2.1 68 1 69 (.iadd) := ⟨by decide +kernel, rfl⟩
theorem d_M_word_69 : vm_D q_M_word.2.1 69 3 72 (.putfield 21) := ⟨by decide +kernel, rfl⟩
theorem d_M_word_72 : ∃ off : Int, decode q_M_word.2.1 72 = .ok (.goto off, 3) ∧ ((72 : Nat) : Int) + off = ((15 : Nat) : Int) := ⟨-57, by decide +kernel, by decide⟩
theorem d_M_word_75 : vm_D q_M_word.2.1 75 1 76 (.aload_n 0) := ⟨by decide +kernel, rfl⟩
theorem d_M_word_76 : vm_D q_M_word.2.1 76 3 79 (.invokevirtual 34) := ⟨by decide +kernel, rfl⟩
theorem d_M_word_79 : vm_D q_M_word.2.1 79 1 80 (.aload_n 0) := ⟨by decide +kernel, rfl⟩
theorem d_M_word_80 : vm_D q_M_word.2.1 80 3 83 (.getfield 21) := ⟨by decide +kernel, rfl⟩
theorem d_M_word_83 : vm_D q_M_word.2.1 83 1 84 (.aload_n 0) := ⟨by decide +kernel, rfl⟩
theorem d_M_word_84 : vm_D q_M_word.2.1 84 3 87 (.getfield 18) := ⟨by decide +kernel, rfl⟩
theorem d_M_word_87 : vm_B q_M_word.2.1 87 90 94 (fun o => .if_icmp .ge o) := ⟨7, by decide +kernel, rfl, by decide⟩
theorem d_M_word_94 : vm_D q_M_word.2.1 94 1 95 (.aload_n 0) := ⟨by decide +kernel, rfl⟩
theorem d_M_word_95 : vm_D q_M_word.2.1 95 1 96 (.aload_n 0) := ⟨by decide +kernel, rfl⟩
theorem d_M_word_96 : vm_D q_M_word.2.1 96 3 99 (.getfield 24) := ⟨by decide +kernel, rfl⟩
theorem d_M_word_99 : vm_D q_M_word.2.1 99 3 102 (.putfield 69) := ⟨by decide +kernel, rfl⟩
theorem d_M_word_102 : vm_D q_M_word.2.1 102 1 103 (.aload_n 0) := ⟨by decide +kernel, rfl⟩
theorem d_M_word_103 : vm_D q_M_word.2.1 103 1 104 (.aload_n 0) := ⟨by decide +kernel, rfl⟩
theorem d_M_word_104 : vm_D q_M_word.2.1 104 3 107 (.invokevirtual 38) := ⟨by decide +kernel, rfl⟩
theorem d_M_word_107 : vm_D q_M_word.2.1 107 1 108 (.iconst 1) := ⟨by decide +kernel, rfl⟩
theorem d_M_word_108 : vm_D q_M_word.2.1 108 3 111 (.invokevirtual 180) := ⟨by decide +kernel, rfl⟩
theorem d_M_word_111 : vm_B q_M_word.2.1 111 114 116 (fun o => .ifCond .eq o) := ⟨5, by decide +kernel, rfl, by decide⟩
theorem d_M_word_116 : vm_D q_M_word.2.1 116 1 117 (.aload_n 0) := ⟨by decide +kernel, rfl⟩
theorem d_M_word_117 : vm_D q_M_word.2.1 117 1 118 (.iload_n 1) := ⟨by decide +kernel, rfl⟩
theorem d_M_word_118 : vm_D q_M_word.2.1 118 3 121 (.invokevirtual 193) := ⟨by decide +kernel, rfl⟩
theorem d_M_word_121 : vm_D q_M_word.2.1 121 1 122 (.aload_n 0) := ⟨by decide +kernel, rfl⟩
theorem d_M_word_122 : vm_D q_M_word.2.1 122 3 125 (.getfield 184) := ⟨by decide +kernel, rfl⟩
theorem d_M_word_125 : vm_D q_M_word.2.1 125 1 126 (.ireturn) := ⟨by decide +kernel, rfl⟩
theorem d_M_word_114 : vm_D q_M_word.2.1 114 1 115 (.iconst 0) := ⟨by decide +kernel, rfl⟩
theorem d_M_word_115 : vm_D q_M_word.2.1 115 1 116 (.ireturn) := ⟨by decide +kernel, rfl⟩
theorem d_M_word_90 : vm_D q_M_word.2.1 90 1 91 (.aload_n 0) := ⟨by decide +kernel, rfl⟩
theorem d_M_word_91 : vm_D q_M_word.2.1 91 3 94 (.invokevirtual 42) := ⟨by decide +kernel, rfl⟩
def q_M_letter : vm_Y := ("RepeatFreeModel", cX11_letter, 2, false, [])
theorem d_M_letter_0 : vm_D q_M_letter.2.1 0 1 1 (.aload_n 0) := ⟨by decide +kernel, rfl⟩
theorem d_M_letter_1 : vm_D q_M_letter.2.1 1 1 2 (.iconst 0) := ⟨by decide +kernel, rfl⟩
theorem d_M_letter_2 : vm_D q_M_letter.2.1 2 3 5 (.putfield 3) := ⟨by decide +kernel, rfl⟩
theorem d_M_letter_5 : vm_D q_M_letter.2.1 5 1 6 (.iload_n 1) := ⟨by decide +kernel, rfl⟩
theorem d_M_letter_6 : vm_D q_M_letter.2.1 6 1 7 (.iconst 0) := ⟨by decide +kernel, rfl⟩
theorem d_M_letter_7 : vm_D q_M_letter.2.1 7 1 8 (.aload_n 0) := ⟨by decide +kernel, rfl⟩
theorem d_M_letter_8 : vm_D q_M_letter.2.1 8 3 11 (.getfield 184) := ⟨by decide +kernel, rfl⟩
theorem d_M_letter_11 : vm_D q_M_letter.2.1 11 1 12 (.iconst 1) := ⟨by decide +kernel, rfl⟩
theorem d_M_letter_12 : vm_D q_M_letter.2.1 12 1 13 (.isub) := ⟨by decide +kernel, rfl⟩
theorem d_M_letter_13 : vm_D q_M_letter.2.1 13 3 16 (.invokestatic 65) := ⟨by decide +kernel, rfl⟩
theorem d_M_letter_16 : vm_B q_M_letter.2.1 16 19 28 (fun o => .ifCond .eq o) := ⟨12, by decide +kernel, rfl, by decide⟩
theorem d_M_letter_28 : vm_D q_M_letter.2.1 28 1 29 (.iconst (-1)) := ⟨by decide +kernel, rfl⟩
theorem d_M_letter_29 : vm_D q_M_letter.2.1 29 1 30 (.ireturn) := ⟨by decide +kernel, rfl⟩
theorem d_M_letter_19 : vm_D q_M_letter.2.1 19 1 20 (.aload_n 0) := ⟨by decide +kernel, rfl⟩
theorem d_M_letter_20 : vm_D q_M_letter.2.1 20 3 23 (.getfield 83) := ⟨by decide +kernel, rfl⟩
theorem d_M_letter_23 : vm_D q_M_letter.2.1 23 1 24 (.iload_n 1) := ⟨by decide +kernel, rfl⟩
theorem d_M_letter_24 : vm_D q_M_letter.2.1 24 1 25 (.iaload) := ⟨by decide +kernel, rfl⟩
theorem d_M_letter_25 : ∃ off : Int, decode q_M_letter.2.1 25 = .ok (.goto off, 3) ∧ ((25 : Nat) : Int) + off = ((29 : Nat) : Int) := ⟨4, by decide +kernel, by decide⟩
def q_M_noLetter : vm_Y := ("RepeatFreeModel", cX11_noLetter, 3, false, [])
theorem d_M_noLetter_0 : vm_D q_M_noLetter.2.1 0 1 1 (.aload_n 0) := ⟨by decide +kernel, rfl⟩
theorem d_M_noLetter_1 : vm_D q_M_noLetter.2.1 1 1 2 (.iload_n 1) := ⟨by decide +kernel, rfl⟩
theorem d_M_noLetter_2 : vm_D q_M_noLetter.2.1 2 1 3 (.iconst 0) := ⟨by decide +kernel, rfl⟩
theorem d_M_noLetter_3 : vm_D q_M_noLetter.2.1 3 1 4 (.aload_n 0) := ⟨by decide +kernel, rfl⟩
theorem d_M_noLetter_4 : vm_D q_M_noLetter.2.1 4 3 7 (.getfield 77) := ⟨by decide +kernel, rfl⟩
theorem d_M_noLetter_7 : vm_D q_M_noLetter.2.1 7 1 8 (.iconst 0) := ⟨by decide +kernel, rfl⟩
theorem d_M_noLetter_8 : vm_D q_M_noLetter.2.1 8 1 9 (.iaload) := ⟨by decide +kernel, rfl⟩
theorem d_M_noLetter_9 : vm_D q_M_noLetter.2.1 9 1 10 (.iconst 1) := ⟨by decide +kernel, rfl⟩
theorem d_M_noLetter_10 : vm_D q_M_noLetter.2.1 10 1 11 (.isub) := ⟨by decide +kernel, rfl⟩
theorem d_M_noLetter_11 : vm_D q_M_noLetter.2.1 11 3 14 (.invokestatic 65) := ⟨by decide +kernel, rfl⟩
theorem d_M_noLetter_14 : vm_B q_M_noLetter.2.1 14 17 21 (fun o => .ifCond .ne o) := ⟨7, by decide +kernel, rfl, by decide⟩
theorem d_M_noLetter_22 : vm_D q_M_noLetter.2.1 22 1 23 (.iload_n 2) := ⟨by decide +kernel, rfl⟩
theorem d_M_noLetter_23 : vm_D q_M_noLetter.2.1 23 3 26 (.invokevirtual 180) := ⟨by decide +kernel, rfl⟩
theorem d_M_noLetter_26 : vm_D q_M_noLetter.2.1 26 1 27 (.ireturn) := ⟨by decide +kernel, rfl⟩
theorem d_M_noLetter_21 : vm_D q_M_noLetter.2.1 21 1 22 (.iconst 0) := ⟨by decide +kernel, rfl⟩
theorem d_M_noLetter_17 : vm_D q_M_noLetter.2.1 17 1 18 (.iconst 1) := ⟨by decide +kernel, rfl⟩
theorem d_M_noLetter_18 : ∃ off : Int, decode q_M_noLetter.2.1 18 = .ok (.goto off, 3) ∧ ((18 : Nat) : Int) + off = ((22 : Nat) : Int) := ⟨4, by decide +kernel, by decide⟩
def q_M_push : vm_Y := ("RepeatFreeModel", cX11_push, 2, false, [])
theorem d_M_push_0 : vm_D q_M_push.2.1 0 1 1 (.aload_n 0) := ⟨by decide +kernel, rfl⟩
theorem d_M_push_1 : vm_D q_M_push.2.1 1 1 2 (.iconst 0) := ⟨by decide +kernel, rfl⟩
theorem d_M_push_2 : vm_D q_M_push.2.1 2 3 5 (.putfield 3) := ⟨by decide +kernel, rfl⟩
theorem d_M_push_5 : vm_D q_M_push.2.1 5 1 6 (.aload_n 0) := ⟨by decide +kernel, rfl⟩
theorem d_M_push_6 : vm_D q_M_push.2.1 6 1 7 (.iload_n 1) := ⟨by decide +kernel, rfl⟩
theorem d_M_push_7 : vm_D q_M_push.2.1 7 1 8 (.iconst 1) := ⟨by decide +kernel, rfl⟩
theorem d_M_push_8 : vm_D q_M_push.2.1 8 3 11 (.invokevirtual 196) := ⟨by decide +kernel, rfl⟩
theorem d_M_push_11 : vm_B q_M_push.2.1 11 14 36 (fun o => .ifCond .ne o) := ⟨25, by decide +kernel, rfl, by decide⟩
theorem d_M_push_36 : vm_D q_M_push.2.1 36 1 37 (.iconst 0) := ⟨by decide +kernel, rfl⟩
theorem d_M_push_37 : vm_D q_M_push.2.1 37 1 38 (.ireturn) := ⟨by decide +kernel, rfl⟩
theorem d_M_push_14 : vm_D q_M_push.2.1 14 1 15 (.aload_n 0) := ⟨by decide +kernel, rfl⟩
theorem d_M_push_15 : vm_D q_M_push.2.1 15 1 16 (.aload_n 0) := ⟨by decide +kernel, rfl⟩
theorem d_M_push_16 : vm_D q_M_push.2.1 16 3 19 (.getfield 184) := ⟨by decide +kernel, rfl⟩
theorem d_M_push_19 : vm_D q_M_push.2.1 19 2 21 (.bipush 64) := ⟨by decide +kernel, rfl⟩
theorem d_M_push_21 : vm_B q_M_push.2.1 21 24 28 (fun o => .if_icmp .ne o) := ⟨7, by decide +kernel, rfl, by decide⟩
theorem d_M_push_29 : vm_D q_M_push.2.1 29 1 30 (.iconst 2) := ⟨by decide +kernel, rfl⟩
theorem d_M_push_30 : vm_D q_M_push.2.1 30 3 33 (.invokevirtual 180) := ⟨by decide +kernel, rfl⟩
theorem d_M_push_33 : vm_B q_M_push.2.1 33 36 38 (fun o => .ifCond .eq o) := ⟨5, by decide +kernel, rfl, by decide⟩
theorem d_M_push_38 : vm_D q_M_push.2.1 38 1 39 (.aload_n 0) := ⟨by decide +kernel, rfl⟩
theorem d_M_push_39 : vm_D q_M_push.2.1 39 3 42 (.invokevirtual 190) := ⟨by decide +kernel, rfl⟩
theorem d_M_push_42 : vm_D q_M_push.2.1 42 1 43 (.aload_n 0) := ⟨by decide +kernel, rfl⟩
theorem d_M_push_43 : vm_D q_M_push.2.1 43 3 46 (.getfield 83) := ⟨by decide +kernel, rfl⟩
theorem d_M_push_46 : vm_D q_M_push.2.1 46 1 47 (.aload_n 0) := ⟨by decide +kernel, rfl⟩
theorem d_M_push_47 : vm_D q_M_push.2.1 47 3 50 (.getfield 184) := ⟨by decide +kernel, rfl⟩
theorem d_M_push_50 : vm_D q_M_push.2.1 50 1 51 (.iload_n 1) := ⟨by decide +kernel, rfl⟩
theorem d_M_push_51 : vm_D q_M_push.2.1 51 1 52 (.iastore) := ⟨by decide +kernel, rfl⟩
theorem d_M_push_52 : vm_D q_M_push.2.1 52 1 53 (.aload_n 0) := ⟨by decide +kernel, rfl⟩
theorem d_M_push_53 : vm_D q_M_push.2.1 53 1 54 (.dup) := ⟨by decide +kernel, rfl⟩
theorem d_M_push_54 : vm_D q_M_push.2.1 54 3 57 (.getfield 184) := ⟨by decide +kernel, rfl⟩
theorem d_M_push_57 : vm_D q_M_push.2.1 57 1 58 (.iconst 1) := ⟨by decide +kernel, rfl⟩
theorem d_M_push_58 : vm_D q_M_push.2.1 58 1 59 (.iadd) := ⟨by decide +kernel, rfl⟩
theorem d_M_push_59 : vm_D q_M_push.2.1 59 3 62 (.putfield 184) := ⟨by decide +kernel, rfl⟩
theorem d_M_push_62 : vm_D q_M_push.2.1 62 1 63 (.aload_n 0) := ⟨by decide +kernel, rfl⟩
theorem d_M_push_63 : vm_D q_M_push.2.1 63 3 66 (.getfield 184) := ⟨by decide +kernel, rfl⟩
theorem d_M_push_66 : vm_D q_M_push.2.1 66 1 67 (.ireturn) := ⟨by decide +kernel, rfl⟩
theorem d_M_push_28 : vm_D q_M_push.2.1 28 1 29 (.iconst 0) := ⟨by decide +kernel, rfl⟩
theorem d_M_push_24 : vm_D q_M_push.2.1 24 1 25 (.iconst 1) := ⟨by decide +kernel, rfl⟩
theorem d_M_push_25 : ∃ off : Int, decode q_M_push.2.1 25 = .ok (.goto off, 3) ∧ ((25 : Nat) : Int) + off = ((29 : Nat) : Int) := ⟨4, by decide +kernel, by decide⟩
def q_M_pop : vm_Y := ("RepeatFreeModel", cX11_pop, 1, false, [])
theorem d_M_pop_0 : vm_D q_M_pop.2.1 0 1 1 (.aload_n 0) := ⟨by decide +kernel, rfl⟩
theorem d_M_pop_1 : vm_D q_M_pop.2.1 1 1 2 (.iconst 0) := ⟨by decide +kernel, rfl⟩
theorem d_M_pop_2 : vm_D q_M_pop.2.1 2 3 5 (.putfield 3) := ⟨by decide +kernel, rfl⟩
theorem d_M_pop_5 : vm_D q_M_pop.2.1 5 1 6 (.aload_n 0) := ⟨by decide +kernel, rfl⟩
theorem d_M_pop_6 : vm_D q_M_pop.2.1 6 1 7 (.aload_n 0) := ⟨by decide +kernel, rfl⟩
theorem d_M_pop_7 : vm_D q_M_pop.2.1 7 3 10 (.getfield 184) := ⟨by decide +kernel, rfl⟩
theorem d_M_pop_10 : vm_B q_M_pop.2.1 10 13 17 (fun o => .ifCond .ne o) := ⟨7, by decide +kernel, rfl, by decide⟩
theorem d_M_pop_18 : vm_D q_M_pop.2.1 18 1 19 (.iconst 1) := ⟨by decide +kernel, rfl⟩
theorem d_M_pop_19 : vm_D q_M_pop.2.1 19 3 22 (.invokevirtual 180) := ⟨by decide +kernel, rfl⟩
theorem d_M_pop_22 : vm_B q_M_pop.2.1 22 25 27 (fun o => .ifCond .eq o) := ⟨5, by decide +kernel, rfl, by decide⟩
theorem d_M_pop_27 : vm_D q_M_pop.2.1 27 1 28 (.aload_n 0) := ⟨by decide +kernel, rfl⟩
theorem d_M_pop_28 : vm_D q_M_pop.2.1 28 3 31 (.invokevirtual 190) := ⟨by decide +kernel, rfl⟩
theorem d_M_pop_31 : vm_D q_M_pop.2.1 31 1 32 (.aload_n 0) := ⟨by decide +kernel, rfl⟩
theorem d_M_pop_32 : vm_D q_M_pop.2.1 32 1 33 (.dup) := ⟨by decide +kernel, rfl⟩
theorem d_M_pop_33 : vm_D q_M_pop.2.1 33 3 36 (.getfield 184) := ⟨by decide +kernel, rfl⟩
theorem d_M_pop_36 : vm_D q_M_pop.2.1 36 1 37 (.iconst 1) := ⟨by decide +kernel, rfl⟩
theorem d_M_pop_37 : vm_D q_M_pop.2.1 37 1 38 (.isub) := ⟨by decide +kernel, rfl⟩
theorem d_M_pop_38 : vm_D q_M_pop.2.1 38 3 41 (.putfield 184) := ⟨by decide +kernel, rfl⟩
theorem d_M_pop_41 : vm_D q_M_pop.2.1 41 1 42 (.aload_n 0) := ⟨by decide +kernel, rfl⟩
theorem d_M_pop_42 : vm_D q_M_pop.2.1 42 3 45 (.getfield 83) := ⟨by decide +kernel, rfl⟩
theorem d_M_pop_45 : vm_D q_M_pop.2.1 45 1 46 (.aload_n 0) := ⟨by decide +kernel, rfl⟩
theorem d_M_pop_46 : vm_D q_M_pop.2.1 46 3 49 (.getfield 184) := ⟨by decide +kernel, rfl⟩
theorem d_M_pop_49 : vm_D q_M_pop.2.1 49 1 50 (.iaload) := ⟨by decide +kernel, rfl⟩
theorem d_M_pop_50 : vm_D q_M_pop.2.1 50 1 51 (.ireturn) := ⟨by decide +kernel, rfl⟩
theorem d_M_pop_25 : vm_D q_M_pop.2.1 25 1 26 (.iconst 0) := ⟨by decide +kernel, rfl⟩
theorem d_M_pop_26 : vm_D q_M_pop.2.1 26 1 27 (.ireturn) := ⟨by decide +kernel, rfl⟩
theorem d_M_pop_17 : vm_D q_M_pop.2.1 17 1 18 (.iconst 0) := ⟨by decide +kernel, rfl⟩
theorem d_M_pop_13 : vm_D q_M_pop.2.1 13 1 14 (.iconst 1) := ⟨by decide +kernel, rfl⟩
theorem d_M_pop_14 : ∃ off : Int, decode q_M_pop.2.1 14 = .ok (.goto off, 3) ∧ ((14 : Nat) : Int) + off = ((18 : Nat) : Int) := ⟨4, by decide +kernel, by decide⟩
def q_M_isBeyond : vm_Y := ("RepeatFreeModel", cX11_isBeyond, 4, false, [])
theorem d_M_isBeyond_0 : vm_D q_M_isBeyond.2.1 0 1 1 (.iload_n 1) := ⟨by decide +kernel, rfl⟩
theorem d_M_isBeyond_1 : vm_D q_M_isBeyond.2.1 1 1 2 (.aload_n 0) := ⟨by decide +kernel, rfl⟩
theorem d_M_isBeyond_2 : vm_D q_M_isBeyond.2.1 2 3 5 (.getfield 77) := ⟨by decide +kernel, rfl⟩
theorem d_M_isBeyond_5 : vm_D q_M_isBeyond.2.1 5 1 6 (.iconst 3) := ⟨by decide +kernel, rfl⟩
theorem d_M_isBeyond_6 : vm_D q_M_isBeyond.2.1 6 1 7 (.iaload) := ⟨by decide +kernel, rfl⟩
theorem d_M_isBeyond_7 : vm_D q_M_isBeyond.2.1 7 1 8 (.imul) := ⟨by decide +kernel, rfl⟩
theorem d_M_isBeyond_8 : vm_D q_M_isBeyond.2.1 8 1 9 (.aload_n 0) := ⟨by decide +kernel, rfl⟩
theorem d_M_isBeyond_9 : vm_D q_M_isBeyond.2.1 9 3 12 (.getfield 77) := ⟨by decide +kernel, rfl⟩
theorem d_M_isBeyond_12 : vm_D q_M_isBeyond.2.1 12 1 13 (.iconst 2) := ⟨by decide +kernel, rfl⟩
theorem d_M_isBeyond_13 : vm_D q_M_isBeyond.2.1 13 1 14 (.iaload) := ⟨by decide +kernel, rfl⟩
theorem d_M_isBeyond_14 : vm_D q_M_isBeyond.2.1 14 1 15 (.iload_n 2) := ⟨by decide +kernel, rfl⟩
theorem d_M_isBeyond_15 : vm_D q_M_isBeyond.2.1 15 1 16 (.imul) := ⟨by decide +kernel, rfl⟩
theorem d_M_isBeyond_16 : vm_D q_M_isBeyond.2.1 16 1 17 (.isub) := ⟨by decide +kernel, rfl⟩
theorem d_M_isBeyond_17 : vm_D q_M_isBeyond.2.1 17 1 18 (.istore_n 3) := ⟨by decide +kernel, rfl⟩
theorem d_M_isBeyond_18 : vm_D q_M_isBeyond.2.1 18 1 19 (.aload_n 0) := ⟨by decide +kernel, rfl⟩
theorem d_M_isBeyond_19 : vm_D q_M_isBeyond.2.1 19 3 22 (.getfield 77) := ⟨by decide +kernel, rfl⟩
theorem d_M_isBeyond_22 : vm_D q_M_isBeyond.2.1 22 1 23 (.iconst 1) := ⟨by decide +kernel, rfl⟩
theorem d_M_isBeyond_23 : vm_D q_M_isBeyond.2.1 23 1 24 (.iaload) := ⟨by decide +kernel, rfl⟩
theorem d_M_isBeyond_24 : vm_D q_M_isBeyond.2.1 24 1 25 (.iconst 1) := ⟨by decide +kernel, rfl⟩
theorem d_M_isBeyond_25 : vm_B q_M_isBeyond.2.1 25 28 40 (fun o => .if_icmp .ne o) := ⟨15, by decide +kernel, rfl, by decide⟩
theorem d_M_isBeyond_40 : vm_D q_M_isBeyond.2.1 40 1 41 (.aload_n 0) := ⟨by decide +kernel, rfl⟩
theorem d_M_isBeyond_41 : vm_D q_M_isBeyond.2.1 41 3 44 (.getfield 77) := ⟨by decide +kernel, rfl⟩
theorem d_M_isBeyond_44 : vm_D q_M_isBeyond.2.1 44 1 45 (.iconst 1) := ⟨by decide +kernel, rfl⟩
theorem d_M_isBeyond_45 : vm_D q_M_isBeyond.2.1 45 1 46 (.iaload) := ⟨by decide +kernel, rfl⟩
theorem d_M_isBeyond_46 : vm_D q_M_isBeyond.2.1 46 1 47 (.iconst 2) := ⟨by decide +kernel, rfl⟩
theorem d_M_isBeyond_47 : vm_B q_M_isBeyond.2.1 47 50 58 (fun o => .if_icmp .ne o) := ⟨11, by decide +kernel, rfl, by decide⟩
theorem d_M_isBeyond_58 : vm_D q_M_isBeyond.2.1 58 1 59 (.iconst 0) := ⟨by decide +kernel, rfl⟩
theorem d_M_isBeyond_59 : vm_D q_M_isBeyond.2.1 59 1 60 (.ireturn) := ⟨by decide +kernel, rfl⟩
theorem d_M_isBeyond_50 : vm_D q_M_isBeyond.2.1 50 1 51 (.iload_n 3) := ⟨by decide +kernel, rfl⟩
theorem d_M_isBeyond_51 : vm_B q_M_isBeyond.2.1 51 54 58 (fun o => .ifCond .le o) := ⟨7, by decide +kernel, rfl, by decide⟩
theorem d_M_isBeyond_54 : vm_D q_M_isBeyond.2.1 54 1 55 (.iconst 1) := ⟨by decide +kernel, rfl⟩
theorem d_M_isBeyond_55 : ∃ off : Int, decode q_M_isBeyond.2.1 55 = .ok (.goto off, 3) ∧ ((55 : Nat) : Int) + off = ((59 : Nat) : Int) := ⟨4, by decide +kernel, by decide⟩
theorem d_M_isBeyond_28 : vm_D q_M_isBeyond.2.1 28 1 29 (.iload_n 3) := ⟨by decide +kernel, rfl⟩
theorem d_M_isBeyond_29 : vm_B q_M_isBeyond.2.1 29 32 36 (fun o => .ifCond .lt o) := ⟨7, by decide +kernel, rfl, by decide⟩
theorem d_M_isBeyond_36 : vm_D q_M_isBeyond.2.1 36 1 37 (.iconst 0) := ⟨by decide +kernel, rfl⟩
theorem d_M_isBeyond_37 : ∃ off : Int, decode q_M_isBeyond.2.1 37 = .ok (.goto off, 3) ∧ ((37 : Nat) : Int) + off = ((59 : Nat) : Int) := ⟨22, by decide +kernel, by decide⟩
theorem d_M_isBeyond_32 : vm_D q_M_isBeyond.2.1 32 1 33 (.iconst 1) := ⟨by decide +kernel, rfl⟩
theorem d_M_isBeyond_33 : ∃ off : Int, decode q_M_isBeyond.2.1 33 = .ok (.goto off, 3) ∧ ((33 : Nat) : Int) + off = ((59 : Nat) : Int) := ⟨26, by decide +kernel, by decide⟩
def q_M_isRepeated : vm_Y := ("RepeatFreeModel", cX11_isRepeated, 5, false, [])
theorem d_M_isRepeated_0 : vm_D q_M_isRepeated.2.1 0 1 1 (.iconst 1) := ⟨by decide +kernel, rfl⟩
theorem d_M_isRepeated_1 : vm_D q_M_isRepeated.2.1 1 1 2 (.istore_n 3) := ⟨by decide +kernel, rfl⟩
theorem d_M_isRepeated_2 : vm_D q_M_isRepeated.2.1 2 1 3 (.iload_n 3) := ⟨by decide +kernel, rfl⟩
theorem d_M_isRepeated_3 : vm_D q_M_isRepeated.2.1 3 1 4 (.iload_n 2) := ⟨by decide +kernel, rfl⟩
theorem d_M_isRepeated_4 : vm_B q_M_isRepeated.2.1 4 7 70 (fun o => .if_icmp .gt o) := ⟨66, by decide +kernel, rfl, by decide⟩
theorem d_M_isRepeated_7 : vm_D q_M_isRepeated.2.1 7 1 8 (.aload_n 0) := ⟨by decide +kernel, rfl⟩
theorem d_M_isRepeated_8 : vm_D q_M_isRepeated.2.1 8 3 11 (.getfield 77) := ⟨by decide +kernel, rfl⟩
theorem d_M_isRepeated_11 : vm_D q_M_isRepeated.2.1 11 1 12 (.iconst 1) := ⟨by decide +kernel, rfl⟩
theorem d_M_isRepeated_12 : vm_D q_M_isRepeated.2.1 12 1 13 (.iaload) := ⟨by decide +kernel, rfl⟩
theorem d_M_isRepeated_13 : vm_B q_M_isRepeated.2.1 13 16 70 (fun o => .ifCond .le o) := ⟨57, by decide +kernel, rfl, by decide⟩
theorem d_M_isRepeated_16 : vm_D q_M_isRepeated.2.1 16 1 17 (.iload_n 3) := ⟨by decide +kernel, rfl⟩
theorem d_M_isRepeated_17 : vm_D q_M_isRepeated.2.1 17 2 19 (.istore 4) := ⟨by decide +kernel, rfl⟩
theorem d_M_isRepeated_19 : vm_D q_M_isRepeated.2.1 19 2 21 (.iload 4) := ⟨by decide +kernel, rfl⟩
theorem d_M_isRepeated_21 : vm_D q_M_isRepeated.2.1 21 1 22 (.iload_n 2) := ⟨by decide +kernel, rfl⟩
theorem d_M_isRepeated_22 : vm_B q_M_isRepeated.2.1 22 25 52 (fun o => .if_icmp .ge o) := ⟨30, by decide +kernel, rfl, by decide⟩
theorem d_M_isRepeated_25 : vm_D q_M_isRepeated.2.1 25 1 26 (.aload_n 1) := ⟨by decide +kernel, rfl⟩
theorem d_M_isRepeated_26 : vm_D q_M_isRepeated.2.1 26 1 27 (.iload_n 2) := ⟨by decide +kernel, rfl⟩
theorem d_M_isRepeated_27 : vm_D q_M_isRepeated.2.1 27 1 28 (.iconst 1) := ⟨by decide +kernel, rfl⟩
theorem d_M_isRepeated_28 : vm_D q_M_isRepeated.2.1 28 1 29 (.isub) := ⟨by decide +kernel, rfl⟩
theorem d_M_isRepeated_29 : vm_D q_M_isRepeated.2.1 29 2 31 (.iload 4) := ⟨by decide +kernel, rfl⟩
theorem d_M_isRepeated_31 : vm_D q_M_isRepeated.2.1 31 1 32 (.isub) := ⟨by decide +kernel, rfl⟩
theorem d_M_isRepeated_32 : vm_D q_M_isRepeated.2.1 32 1 33 (.iaload) := ⟨by decide +kernel, rfl⟩
theorem d_M_isRepeated_33 : vm_D q_M_isRepeated.2.1 33 1 34 (.aload_n 1) := ⟨by decide +kernel, rfl⟩
theorem d_M_isRepeated_34 : vm_D q_M_isRepeated.2.1 34 1 35 (.iload_n 2) := ⟨by decide +kernel, rfl⟩
theorem d_M_isRepeated_35 : vm_D q_M_isRepeated.2.1 35 1 36 (.iconst 1) := ⟨by decide +kernel, rfl⟩
theorem d_M_isRepeated_36 : vm_D q_M_isRepeated.2.1 36 1 37 (.isub) := ⟨by decide +kernel, rfl⟩
theorem d_M_isRepeated_37 : vm_D q_M_isRepeated.2.1 37 2 39 (.iload 4) := ⟨by decide +kernel, rfl⟩
theorem d_M_isRepeated_39 : vm_D q_M_isRepeated.2.1 39 1 40 (.isub) := ⟨by decide +kernel, rfl⟩
theorem d_M_isRepeated_40 : vm_D q_M_isRepeated.2.1 40 1 41 (.iload_n 3) := ⟨by decide +kernel, rfl⟩
theorem d_M_isRepeated_41 : vm_D q_M_isRepeated.2.1 41 1 42 (.iadd) := ⟨by decide +kernel, rfl⟩
theorem d_M_isRepeated_42 : vm_D q_M_isRepeated.2.1 42 1 43 (.iaload) := ⟨by decide +kernel, rfl⟩
theorem d_M_isRepeated_43 : vm_B q_M_isRepeated.2.1 43 46 52 (fun o => .if_icmp .ne o) := ⟨9, by decide +kernel, rfl, by decide⟩
theorem d_M_isRepeated_46 : vm_D q_M_isRepeated.2.1 46 3 49 (.iinc 4 1) := ⟨by decide +kernel, rfl⟩
theorem d_M_isRepeated_49 : ∃ off : Int, decode q_M_isRepeated.2.1 49 = .ok (.goto off, 3) ∧ ((49 : Nat) : Int) + off = ((19 : Nat) : Int) := ⟨-30, by decide +kernel, by decide⟩
theorem d_M_isRepeated_52 : vm_D q_M_isRepeated.2.1 52 1 53 (.aload_n 0) := ⟨by decide +kernel, rfl⟩
theorem d_M_isRepeated_53 : vm_D q_M_isRepeated.2.1 53 2 55 (.iload 4) := ⟨by decide +kernel, rfl⟩
theorem d_M_isRepeated_55 : vm_D q_M_isRepeated.2.1 55 1 56 (.iload_n 3) := ⟨by decide +kernel, rfl⟩
theorem d_M_isRepeated_56 : vm_D q_M_isRepeated.2.1 56 3 59 (.invokevirtual 199) := ⟨by decide +kernel, rfl⟩
theorem d_M_isRepeated_59 : vm_B q_M_isRepeated.2.1 59 62 64 (fun o => .ifCond .eq o) := ⟨5, by decide +kernel, rfl, by decide⟩
theorem d_M_isRepeated_64 : vm_D q_M_isRepeated.2.1 64 3 67 (.iinc 3 1) := ⟨by decide +kernel, rfl⟩
theorem d_M_isRepeated_67 : ∃ off : Int, decode q_M_isRepeated.2.1 67 = .ok (.goto off, 3) ∧ ((67 : Nat) : Int) + off = ((2 : Nat) : Int) := ⟨-65, by decide +kernel, by decide⟩
theorem d_M_isRepeated_62 : vm_D q_M_isRepeated.2.1 62 1 63 (.iconst 1) := ⟨by decide +kernel, rfl⟩
theorem d_M_isRepeated_63 : vm_D q_M_isRepeated.2.1 63 1 64 (.ireturn) := ⟨by decide +kernel, rfl⟩
theorem d_M_isRepeated_70 : vm_D q_M_isRepeated.2.1 70 1 71 (.iconst 0) := ⟨by decide +kernel, rfl⟩
theorem d_M_isRepeated_71 : vm_D q_M_isRepeated.2.1 71 1 72 (.ireturn) := ⟨by decide +kernel, rfl⟩
def q_M_letterOf : vm_Y := ("RepeatFreeModel", cX11_letterOf, 3, false, [])
theorem d_M_letterOf_0 : vm_D q_M_letterOf.2.1 0 1 1 (.aload_n 0) := ⟨by decide +kernel, rfl⟩
theorem d_M_letterOf_1 : vm_D q_M_letterOf.2.1 1 3 4 (.getfield 77) := ⟨by decide +kernel, rfl⟩
theorem d_M_letterOf_4 : vm_D q_M_letterOf.2.1 4 3 7 (.sipush 170) := ⟨by decide +kernel, rfl⟩
theorem d_M_letterOf_7 : vm_D q_M_letterOf.2.1 7 2 9 (.bipush 6) := ⟨by decide +kernel, rfl⟩
theorem d_M_letterOf_9 : vm_D q_M_letterOf.2.1 9 1 10 (.iload_n 1) := ⟨by decide +kernel, rfl⟩
theorem d_M_letterOf_10 : vm_D q_M_letterOf.2.1 10 1 11 (.imul) := ⟨by decide +kernel, rfl⟩
theorem d_M_letterOf_11 : vm_D q_M_letterOf.2.1 11 1 12 (.iadd) := ⟨by decide +kernel, rfl⟩
theorem d_M_letterOf_12 : vm_D q_M_letterOf.2.1 12 1 13 (.iload_n 2) := ⟨by decide +kernel, rfl⟩
theorem d_M_letterOf_13 : vm_D q_M_letterOf.2.1 13 1 14 (.iadd) := ⟨by decide +kernel, rfl⟩
theorem d_M_letterOf_14 : vm_D q_M_letterOf.2.1 14 1 15 (.iaload) := ⟨by decide +kernel, rfl⟩
theorem d_M_letterOf_15 : vm_D q_M_letterOf.2.1 15 1 16 (.ireturn) := ⟨by decide +kernel, rfl⟩
def q_M_hasLetter : vm_Y := ("RepeatFreeModel", cX11_hasLetter, 4, false, [])
theorem d_M_hasLetter_0 : vm_D q_M_hasLetter.2.1 0 1 1 (.iconst 0) := ⟨by decide +kernel, rfl⟩
theorem d_M_hasLetter_1 : vm_D q_M_hasLetter.2.1 1 1 2 (.istore_n 3) := ⟨by decide +kernel, rfl⟩
theorem d_M_hasLetter_2 : vm_D q_M_hasLetter.2.1 2 1 3 (.iload_n 3) := ⟨by decide +kernel, rfl⟩
theorem d_M_hasLetter_3 : vm_D q_M_hasLetter.2.1 3 1 4 (.aload_n 0) := ⟨by decide +kernel, rfl⟩
theorem d_M_hasLetter_4 : vm_D q_M_hasLetter.2.1 4 3 7 (.getfield 77) := ⟨by decide +kernel, rfl⟩
theorem d_M_hasLetter_7 : vm_D q_M_hasLetter.2.1 7 3 10 (.sipush 166) := ⟨by decide +kernel, rfl⟩
theorem d_M_hasLetter_10 : vm_D q_M_hasLetter.2.1 10 1 11 (.iload_n 1) := ⟨by decide +kernel, rfl⟩
theorem d_M_hasLetter_11 : vm_D q_M_hasLetter.2.1 11 1 12 (.iadd) := ⟨by decide +kernel, rfl⟩
theorem d_M_hasLetter_12 : vm_D q_M_hasLetter.2.1 12 1 13 (.iaload) := ⟨by decide +kernel, rfl⟩
theorem d_M_hasLetter_13 : vm_B q_M_hasLetter.2.1 13 16 34 (fun o => .if_icmp .ge o) := ⟨21, by decide +kernel, rfl, by decide⟩
theorem d_M_hasLetter_16 : vm_D q_M_hasLetter.2.1 16 1 17 (.aload_n 0) := ⟨by decide +kernel, rfl⟩
theorem d_M_hasLetter_17 : vm_D q_M_hasLetter.2.1 17 1 18 (.iload_n 1) := ⟨by decide +kernel, rfl⟩
theorem d_M_hasLetter_18 : vm_D q_M_hasLetter.2.1 18 1 19 (.iload_n 3) := ⟨by decide +kernel, rfl⟩
theorem d_M_hasLetter_19 : vm_D q_M_hasLetter.2.1 19 3 22 (.invokevirtual 202) := ⟨by decide +kernel, rfl⟩
theorem d_M_hasLetter_22 : vm_D q_M_hasLetter.2.1 22 1 23 (.iload_n 2) := ⟨by decide +kernel, rfl⟩
theorem d_M_hasLetter_23 : vm_B q_M_hasLetter.2.1 23 26 28 (fun o => .if_icmp .ne o) := ⟨5, by decide +kernel, rfl, by decide⟩
theorem d_M_hasLetter_28 : vm_D q_M_hasLetter.2.1 28 3 31 (.iinc 3 1) := ⟨by decide +kernel, rfl⟩
theorem d_M_hasLetter_31 : ∃ off : Int, decode q_M_hasLetter.2.1 31 = .ok (.goto off, 3) ∧ ((31 : Nat) : Int) + off = ((2 : Nat) : Int) := ⟨-29, by decide +kernel, by decide⟩
theorem d_M_hasLetter_26 : vm_D q_M_hasLetter.2.1 26 1 27 (.iconst 1) := ⟨by decide +kernel, rfl⟩
theorem d_M_hasLetter_27 : vm_D q_M_hasLetter.2.1 27 1 28 (.ireturn) := ⟨by decide +kernel, rfl⟩
theorem d_M_hasLetter_34 : vm_D q_M_hasLetter.2.1 34 1 35 (.iconst 0) := ⟨by decide +kernel, rfl⟩
theorem d_M_hasLetter_35 : vm_D q_M_hasLetter.2.1 35 1 36 (.ireturn) := ⟨by decide +kernel, rfl⟩
def q_M_longBy : vm_Y := ("RepeatFreeModel", cX11_longBy, 4, false, [])
theorem d_M_longBy_0 : vm_D q_M_longBy.2.1 0 1 1 (.iconst 0) := ⟨by decide +kernel, rfl⟩
theorem d_M_longBy_1 : vm_D q_M_longBy.2.1 1 1 2 (.istore_n 2) := ⟨by decide +kernel, rfl⟩
theorem d_M_longBy_2 : vm_D q_M_longBy.2.1 2 1 3 (.iconst 0) := ⟨by decide +kernel, rfl⟩
theorem d_M_longBy_3 : vm_D q_M_longBy.2.1 3 1 4 (.istore_n 3) := ⟨by decide +kernel, rfl⟩
theorem d_M_longBy_4 : vm_D q_M_longBy.2.1 4 1 5 (.iload_n 3) := ⟨by decide +kernel, rfl⟩
theorem d_M_longBy_5 : vm_D q_M_longBy.2.1 5 1 6 (.aload_n 0) := ⟨by decide +kernel, rfl⟩
theorem d_M_longBy_6 : vm_D q_M_longBy.2.1 6 3 9 (.getfield 77) := ⟨by decide +kernel, rfl⟩
theorem d_M_longBy_9 : vm_D q_M_longBy.2.1 9 3 12 (.sipush 166) := ⟨by decide +kernel, rfl⟩
theorem d_M_longBy_12 : vm_D q_M_longBy.2.1 12 1 13 (.iload_n 1) := ⟨by decide +kernel, rfl⟩
theorem d_M_longBy_13 : vm_D q_M_longBy.2.1 13 1 14 (.iadd) := ⟨by decide +kernel, rfl⟩
theorem d_M_longBy_14 : vm_D q_M_longBy.2.1 14 1 15 (.iaload) := ⟨by decide +kernel, rfl⟩
theorem d_M_longBy_15 : vm_B q_M_longBy.2.1 15 18 38 (fun o => .if_icmp .ge o) := ⟨23, by decide +kernel, rfl, by decide⟩
theorem d_M_longBy_18 : vm_D q_M_longBy.2.1 18 1 19 (.iload_n 2) := ⟨by decide +kernel, rfl⟩
theorem d_M_longBy_19 : vm_D q_M_longBy.2.1 19 1 20 (.aload_n 0) := ⟨by decide +kernel, rfl⟩
theorem d_M_longBy_20 : vm_D q_M_longBy.2.1 20 3 23 (.getfield 92) := ⟨by decide +kernel, rfl⟩
theorem d_M_longBy_23 : vm_D q_M_longBy.2.1 23 1 24 (.aload_n 0) := ⟨by decide +kernel, rfl⟩
theorem d_M_longBy_24 : vm_D q_M_longBy.2.1 24 1 25 (.iload_n 1) := ⟨by decide +kernel, rfl⟩
theorem d_M_longBy_25 : vm_D q_M_longBy.2.1 25 1 26 (.iload_n 3) := ⟨by decide +kernel, rfl⟩
theorem d_M_longBy_26 : vm_D q_M_longBy.2.1 26 3 29 (.invokevirtual 202) := ⟨by decide +kernel, rfl⟩
theorem d_M_longBy_29 : vm_D q_M_longBy.2.1 29 1 30 (.iaload) := ⟨by decide +kernel, rfl⟩
theorem d_M_longBy_30 : vm_D q_M_longBy.2.1 30 1 31 (.iadd) := ⟨by decide +kernel, rfl⟩
theorem d_M_longBy_31 : vm_D q_M_longBy.2.1 31 1 32 (.istore_n 2) := ⟨by decide +kernel, rfl⟩
theorem d_M_longBy_32 : vm_D q_M_longBy.2.1 32 3 35 (.iinc 3 1) := ⟨by decide +kernel, rfl⟩
theorem d_M_longBy_35 : ∃ off : Int, decode q_M_longBy.2.1 35 = .ok (.goto off, 3) ∧ ((35 : Nat) : Int) + off = ((4 : Nat) : Int) := ⟨-31, by decide +kernel, by decide⟩
theorem d_M_longBy_38 : vm_D q_M_longBy.2.1 38 1 39 (.iload_n 2) := ⟨by decide +kernel, rfl⟩
theorem d_M_longBy_39 : vm_D q_M_longBy.2.1 39 1 40 (.ireturn) := ⟨by decide +kernel, rfl⟩
def q_M_fitsAt : vm_Y := ("RepeatFreeModel", cX11_fitsAt, 8, false, [])
theorem d_M_fitsAt_0 : vm_D q_M_fitsAt.2.1 0 1 1 (.iload_n 2) := ⟨by decide +kernel, rfl⟩
theorem d_M_fitsAt_1 : vm_D q_M_fitsAt.2.1 1 2 3 (.istore 4) := ⟨by decide +kernel, rfl⟩
theorem d_M_fitsAt_3 : vm_D q_M_fitsAt.2.1 3 1 4 (.iconst 0) := ⟨by decide +kernel, rfl⟩
theorem d_M_fitsAt_4 : vm_D q_M_fitsAt.2.1 4 2 6 (.istore 5) := ⟨by decide +kernel, rfl⟩
theorem d_M_fitsAt_6 : vm_D q_M_fitsAt.2.1 6 2 8 (.iload 5) := ⟨by decide +kernel, rfl⟩
theorem d_M_fitsAt_8 : vm_D q_M_fitsAt.2.1 8 1 9 (.iconst 3) := ⟨by decide +kernel, rfl⟩
theorem d_M_fitsAt_9 : vm_B q_M_fitsAt.2.1 9 12 26 (fun o => .if_icmp .ge o) := ⟨17, by decide +kernel, rfl, by decide⟩
theorem d_M_fitsAt_12 : vm_D q_M_fitsAt.2.1 12 1 13 (.aload_n 0) := ⟨by decide +kernel, rfl⟩
theorem d_M_fitsAt_13 : vm_D q_M_fitsAt.2.1 13 3 16 (.getfield 95) := ⟨by decide +kernel, rfl⟩
theorem d_M_fitsAt_16 : vm_D q_M_fitsAt.2.1 16 2 18 (.iload 5) := ⟨by decide +kernel, rfl⟩
theorem d_M_fitsAt_18 : vm_D q_M_fitsAt.2.1 18 1 19 (.iconst (-1)) := ⟨by decide +kernel, rfl⟩
theorem d_M_fitsAt_19 : vm_D q_M_fitsAt.2.1 19 1 20 (.iastore) := ⟨by decide +kernel, rfl⟩
theorem d_M_fitsAt_20 : vm_D q_M_fitsAt.2.1 20 3 23 (.iinc 5 1) := ⟨by decide +kernel, rfl⟩
theorem d_M_fitsAt_23 : ∃ off : Int, decode q_M_fitsAt.2.1 23 = .ok (.goto off, 3) ∧ ((23 : Nat) : Int) + off = ((6 : Nat) : Int) := ⟨-17, by decide +kernel, by decide⟩
theorem d_M_fitsAt_26 : vm_D q_M_fitsAt.2.1 26 1 27 (.iconst 0) := ⟨by decide +kernel, rfl⟩
theorem d_M_fitsAt_27 : vm_D q_M_fitsAt.2.1 27 2 29 (.istore 5) := ⟨by decide +kernel, rfl⟩
theorem d_M_fitsAt_29 : vm_D q_M_fitsAt.2.1 29 2 31 (.iload 5) := ⟨by decide +kernel, rfl⟩
theorem d_M_fitsAt_31 : vm_D q_M_fitsAt.2.1 31 1 32 (.aload_n 0) := ⟨by decide +kernel, rfl⟩
theorem d_M_fitsAt_32 : vm_D q_M_fitsAt.2.1 32 3 35 (.getfield 77) := ⟨by decide +kernel, rfl⟩
theorem d_M_fitsAt_35 : vm_D q_M_fitsAt.2.1 35 3 38 (.sipush 166) := ⟨by decide +kernel, rfl⟩
theorem d_M_fitsAt_38 : vm_D q_M_fitsAt.2.1 38 1 39 (.iload_n 3) := ⟨by decide +kernel, rfl⟩
theorem d_M_fitsAt_39 : vm_D q_M_fitsAt.2.1 39 1 40 (.iadd) := ⟨by decide +kernel, rfl⟩
theorem d_M_fitsAt_40 : vm_D q_M_fitsAt.2.1 40 1 41 (.iaload) := ⟨by decide +kernel, rfl⟩
theorem d_M_fitsAt_41 : vm_B q_M_fitsAt.2.1 41 44 136 (fun o => .if_icmp .ge o) := ⟨95, by decide +kernel, rfl, by decide⟩
theorem d_M_fitsAt_44 : vm_D q_M_fitsAt.2.1 44 1 45 (.aload_n 0) := ⟨by decide +kernel, rfl⟩
theorem d_M_fitsAt_45 : vm_D q_M_fitsAt.2.1 45 1 46 (.iload_n 3) := ⟨by decide +kernel, rfl⟩
theorem d_M_fitsAt_46 : vm_D q_M_fitsAt.2.1 46 2 48 (.iload 5) := ⟨by decide +kernel, rfl⟩
theorem d_M_fitsAt_48 : vm_D q_M_fitsAt.2.1 48 3 51 (.invokevirtual 202) := ⟨by decide +kernel, rfl⟩
theorem d_M_fitsAt_51 : vm_D q_M_fitsAt.2.1 51 2 53 (.istore 6) := ⟨by decide +kernel, rfl⟩
theorem d_M_fitsAt_53 : vm_D q_M_fitsAt.2.1 53 1 54 (.aload_n 0) := ⟨by decide +kernel, rfl⟩
theorem d_M_fitsAt_54 : vm_D q_M_fitsAt.2.1 54 3 57 (.getfield 95) := ⟨by decide +kernel, rfl⟩
theorem d_M_fitsAt_57 : vm_D q_M_fitsAt.2.1 57 2 59 (.iload 6) := ⟨by decide +kernel, rfl⟩
theorem d_M_fitsAt_59 : vm_D q_M_fitsAt.2.1 59 1 60 (.iaload) := ⟨by decide +kernel, rfl⟩
theorem d_M_fitsAt_60 : vm_D q_M_fitsAt.2.1 60 1 61 (.iconst (-1)) := ⟨by decide +kernel, rfl⟩
theorem d_M_fitsAt_61 : vm_B q_M_fitsAt.2.1 61 64 73 (fun o => .if_icmp .ne o) := ⟨12, by decide +kernel, rfl, by decide⟩
theorem d_M_fitsAt_73 : vm_D q_M_fitsAt.2.1 73 1 74 (.iconst 0) := ⟨by decide +kernel, rfl⟩
theorem d_M_fitsAt_74 : vm_D q_M_fitsAt.2.1 74 2 76 (.istore 7) := ⟨by decide +kernel, rfl⟩
theorem d_M_fitsAt_76 : vm_D q_M_fitsAt.2.1 76 2 78 (.iload 7) := ⟨by decide +kernel, rfl⟩
theorem d_M_fitsAt_78 : vm_D q_M_fitsAt.2.1 78 1 79 (.aload_n 0) := ⟨by decide +kernel, rfl⟩
theorem d_M_fitsAt_79 : vm_D q_M_fitsAt.2.1 79 3 82 (.getfield 92) := ⟨by decide +kernel, rfl⟩
theorem d_M_fitsAt_82 : vm_D q_M_fitsAt.2.1 82 2 84 (.iload 6) := ⟨by decide +kernel, rfl⟩
theorem d_M_fitsAt_84 : vm_D q_M_fitsAt.2.1 84 1 85 (.iaload) := ⟨by decide +kernel, rfl⟩
theorem d_M_fitsAt_85 : vm_B q_M_fitsAt.2.1 85 88 118 (fun o => .if_icmp .ge o) := ⟨33, by decide +kernel, rfl, by decide⟩
theorem d_M_fitsAt_88 : vm_D q_M_fitsAt.2.1 88 1 89 (.aload_n 1) := ⟨by decide +kernel, rfl⟩
theorem d_M_fitsAt_89 : vm_D q_M_fitsAt.2.1 89 1 90 (.aload_n 0) := ⟨by decide +kernel, rfl⟩
theorem d_M_fitsAt_90 : vm_D q_M_fitsAt.2.1 90 3 93 (.getfield 95) := ⟨by decide +kernel, rfl⟩
theorem d_M_fitsAt_93 : vm_D q_M_fitsAt.2.1 93 2 95 (.iload 6) := ⟨by decide +kernel, rfl⟩
theorem d_M_fitsAt_95 : vm_D q_M_fitsAt.2.1 95 1 96 (.iaload) := ⟨by decide +kernel, rfl⟩
theorem d_M_fitsAt_96 : vm_D q_M_fitsAt.2.1 96 2 98 (.iload 7) := ⟨by decide +kernel, rfl⟩
theorem d_M_fitsAt_98 : vm_D q_M_fitsAt.2.1 98 1 99 (.iadd) := ⟨by decide +kernel, rfl⟩
theorem d_M_fitsAt_99 : vm_D q_M_fitsAt.2.1 99 1 100 (.iaload) := ⟨by decide +kernel, rfl⟩
theorem d_M_fitsAt_100 : vm_D q_M_fitsAt.2.1 100 1 101 (.aload_n 1) := ⟨by decide +kernel, rfl⟩
theorem d_M_fitsAt_101 : vm_D q_M_fitsAt.2.1 101 2 103 (.iload 4) := ⟨by decide +kernel, rfl⟩
theorem d_M_fitsAt_103 : vm_D q_M_fitsAt.2.1 103 2 105 (.iload 7) := ⟨by decide +kernel, rfl⟩
theorem d_M_fitsAt_105 : vm_D q_M_fitsAt.2.1 105 1 106 (.iadd) := ⟨by decide +kernel, rfl⟩
theorem d_M_fitsAt_106 : vm_D q_M_fitsAt.2.1 106 1 107 (.iaload) := ⟨by decide +kernel, rfl⟩
theorem d_M_fitsAt_107 : vm_B q_M_fitsAt.2.1 107 110 112 (fun o => .if_icmp .eq o) := ⟨5, by decide +kernel, rfl, by decide⟩
theorem d_M_fitsAt_112 : vm_D q_M_fitsAt.2.1 112 3 115 (.iinc 7 1) := ⟨by decide +kernel, rfl⟩
theorem d_M_fitsAt_115 : ∃ off : Int, decode q_M_fitsAt.2.1 115 = .ok (.goto off, 3) ∧ ((115 : Nat) : Int) + off = ((76 : Nat) : Int) := ⟨-39, by decide +kernel, by decide⟩
theorem d_M_fitsAt_110 : vm_D q_M_fitsAt.2.1 110 1 111 (.iconst 0) := ⟨by decide +kernel, rfl⟩
theorem d_M_fitsAt_111 : vm_D q_M_fitsAt.2.1 111 1 112 (.ireturn) := ⟨by decide +kernel, rfl⟩
theorem d_M_fitsAt_118 : vm_D q_M_fitsAt.2.1 118 2 120 (.iload 4) := ⟨by decide +kernel, rfl⟩
theorem d_M_fitsAt_120 : vm_D q_M_fitsAt.2.1 120 1 121 (.aload_n 0) := ⟨by decide +kernel, rfl⟩
theorem d_M_fitsAt_121 : vm_D q_M_fitsAt.2.1 121 3 124 (.getfield 92) := ⟨by decide +kernel, rfl⟩
theorem d_M_fitsAt_124 : vm_D q_M_fitsAt.2.1 124 2 126 (.iload 6) := ⟨by decide +kernel, rfl⟩
theorem d_M_fitsAt_126 : vm_D q_M_fitsAt.2.1 126 1 127 (.iaload) := ⟨by decide +kernel, rfl⟩
theorem d_M_fitsAt_127 : vm_D q_M_fitsAt.2.1 127 1 128 (.iadd) := ⟨by decide +kernel, rfl⟩
theorem d_M_fitsAt_128 : vm_D q_M_fitsAt.2.1 128 2 130 (.istore 4) := ⟨by decide +kernel, rfl⟩
theorem d_M_fitsAt_130 : vm_D q_M_fitsAt.2.1 130 3 133 (.iinc 5 1) := ⟨by decide +kernel, rfl⟩
theorem d_M_fitsAt_133 : ∃ off : Int, decode q_M_fitsAt.2.1 133 = .ok (.goto off, 3) ∧ ((133 : Nat) : Int) + off = ((29 : Nat) : Int) := ⟨-104, by decide +kernel, by decide⟩
theorem d_M_fitsAt_64 : vm_D q_M_fitsAt.2.1 64 1 65 (.aload_n 0) := ⟨by decide +kernel, rfl⟩
theorem d_M_fitsAt_65 : vm_D q_M_fitsAt.2.1 65 3 68 (.getfield 95) := ⟨by decide +kernel, rfl⟩
theorem d_M_fitsAt_68 : vm_D q_M_fitsAt.2.1 68 2 70 (.iload 6) := ⟨by decide +kernel, rfl⟩
theorem d_M_fitsAt_70 : vm_D q_M_fitsAt.2.1 70 2 72 (.iload 4) := ⟨by decide +kernel, rfl⟩
theorem d_M_fitsAt_72 : vm_D q_M_fitsAt.2.1 72 1 73 (.iastore) := ⟨by decide +kernel, rfl⟩
theorem d_M_fitsAt_136 : vm_D q_M_fitsAt.2.1 136 1 137 (.iconst 1) := ⟨by decide +kernel, rfl⟩
theorem d_M_fitsAt_137 : vm_D q_M_fitsAt.2.1 137 1 138 (.ireturn) := ⟨by decide +kernel, rfl⟩
def q_M_nextSizes : vm_Y := ("RepeatFreeModel", cX11_nextSizes, 4, false, [])
theorem d_M_nextSizes_0 : vm_D q_M_nextSizes.2.1 0 1 1 (.iconst 2) := ⟨by decide +kernel, rfl⟩
theorem d_M_nextSizes_1 : vm_D q_M_nextSizes.2.1 1 1 2 (.istore_n 3) := ⟨by decide +kernel, rfl⟩
theorem d_M_nextSizes_2 : vm_D q_M_nextSizes.2.1 2 1 3 (.iload_n 3) := ⟨by decide +kernel, rfl⟩
theorem d_M_nextSizes_3 : vm_B q_M_nextSizes.2.1 3 6 52 (fun o => .ifCond .lt o) := ⟨49, by decide +kernel, rfl, by decide⟩
theorem d_M_nextSizes_6 : vm_D q_M_nextSizes.2.1 6 1 7 (.aload_n 0) := ⟨by decide +kernel, rfl⟩
theorem d_M_nextSizes_7 : vm_D q_M_nextSizes.2.1 7 1 8 (.iload_n 1) := ⟨by decide +kernel, rfl⟩
theorem d_M_nextSizes_8 : vm_D q_M_nextSizes.2.1 8 1 9 (.iload_n 3) := ⟨by decide +kernel, rfl⟩
theorem d_M_nextSizes_9 : vm_D q_M_nextSizes.2.1 9 3 12 (.invokevirtual 205) := ⟨by decide +kernel, rfl⟩
theorem d_M_nextSizes_12 : vm_B q_M_nextSizes.2.1 12 15 18 (fun o => .ifCond .ne o) := ⟨6, by decide +kernel, rfl, by decide⟩
theorem d_M_nextSizes_46 : vm_D q_M_nextSizes.2.1 46 3 49 (.iinc 3 (-1)) := ⟨by decide +kernel, rfl⟩
theorem d_M_nextSizes_49 : ∃ off : Int, decode q_M_nextSizes.2.1 49 = .ok (.goto off, 3) ∧ ((49 : Nat) : Int) + off = ((2 : Nat) : Int) := ⟨-47, by decide +kernel, by decide⟩
theorem d_M_nextSizes_18 : vm_D q_M_nextSizes.2.1 18 1 19 (.aload_n 0) := ⟨by decide +kernel, rfl⟩
theorem d_M_nextSizes_19 : vm_D q_M_nextSizes.2.1 19 3 22 (.getfield 92) := ⟨by decide +kernel, rfl⟩
theorem d_M_nextSizes_22 : vm_D q_M_nextSizes.2.1 22 1 23 (.iload_n 3) := ⟨by decide +kernel, rfl⟩
theorem d_M_nextSizes_23 : vm_D q_M_nextSizes.2.1 23 1 24 (.dup2) := ⟨by decide +kernel, rfl⟩
theorem d_M_nextSizes_24 : vm_D q_M_nextSizes.2.1 24 1 25 (.iaload) := ⟨by decide +kernel, rfl⟩
theorem d_M_nextSizes_25 : vm_D q_M_nextSizes.2.1 25 1 26 (.iconst 1) := ⟨by decide +kernel, rfl⟩
theorem d_M_nextSizes_26 : vm_D q_M_nextSizes.2.1 26 1 27 (.iadd) := ⟨by decide +kernel, rfl⟩
theorem d_M_nextSizes_27 : vm_D q_M_nextSizes.2.1 27 1 28 (.iastore) := ⟨by decide +kernel, rfl⟩
theorem d_M_nextSizes_28 : vm_D q_M_nextSizes.2.1 28 1 29 (.aload_n 0) := ⟨by decide +kernel, rfl⟩
theorem d_M_nextSizes_29 : vm_D q_M_nextSizes.2.1 29 1 30 (.iload_n 1) := ⟨by decide +kernel, rfl⟩
theorem d_M_nextSizes_30 : vm_D q_M_nextSizes.2.1 30 3 33 (.invokevirtual 208) := ⟨by decide +kernel, rfl⟩
theorem d_M_nextSizes_33 : vm_D q_M_nextSizes.2.1 33 1 34 (.iload_n 2) := ⟨by decide +kernel, rfl⟩
theorem d_M_nextSizes_34 : vm_B q_M_nextSizes.2.1 34 37 39 (fun o => .if_icmp .gt o) := ⟨5, by decide +kernel, rfl, by decide⟩
theorem d_M_nextSizes_39 : vm_D q_M_nextSizes.2.1 39 1 40 (.aload_n 0) := ⟨by decide +kernel, rfl⟩
theorem d_M_nextSizes_40 : vm_D q_M_nextSizes.2.1 40 3 43 (.getfield 92) := ⟨by decide +kernel, rfl⟩
theorem d_M_nextSizes_43 : vm_D q_M_nextSizes.2.1 43 1 44 (.iload_n 3) := ⟨by decide +kernel, rfl⟩
theorem d_M_nextSizes_44 : vm_D q_M_nextSizes.2.1 44 1 45 (.iconst 1) := ⟨by decide +kernel, rfl⟩
theorem d_M_nextSizes_45 : vm_D q_M_nextSizes.2.1 45 1 46 (.iastore) := ⟨by decide +kernel, rfl⟩
theorem d_M_nextSizes_37 : vm_D q_M_nextSizes.2.1 37 1 38 (.iconst 1) := ⟨by decide +kernel, rfl⟩
theorem d_M_nextSizes_38 : vm_D q_M_nextSizes.2.1 38 1 39 (.ireturn) := ⟨by decide +kernel, rfl⟩
theorem d_M_nextSizes_15 : ∃ off : Int, decode q_M_nextSizes.2.1 15 = .ok (.goto off, 3) ∧ ((15 : Nat) : Int) + off = ((46 : Nat) : Int) := ⟨31, by decide +kernel, by decide⟩
theorem d_M_nextSizes_52 : vm_D q_M_nextSizes.2.1 52 1 53 (.iconst 0) := ⟨by decide +kernel, rfl⟩
theorem d_M_nextSizes_53 : vm_D q_M_nextSizes.2.1 53 1 54 (.ireturn) := ⟨by decide +kernel, rfl⟩
def q_M_firstSizes : vm_Y := ("RepeatFreeModel", cX11_firstSizes, 4, false, [])
theorem d_M_firstSizes_0 : vm_D q_M_firstSizes.2.1 0 1 1 (.iconst 0) := ⟨by decide +kernel, rfl⟩
theorem d_M_firstSizes_1 : vm_D q_M_firstSizes.2.1 1 1 2 (.istore_n 3) := ⟨by decide +kernel, rfl⟩
theorem d_M_firstSizes_2 : vm_D q_M_firstSizes.2.1 2 1 3 (.iload_n 3) := ⟨by decide +kernel, rfl⟩
theorem d_M_firstSizes_3 : vm_D q_M_firstSizes.2.1 3 1 4 (.iconst 3) := ⟨by decide +kernel, rfl⟩
theorem d_M_firstSizes_4 : vm_B q_M_firstSizes.2.1 4 7 33 (fun o => .if_icmp .ge o) := ⟨29, by decide +kernel, rfl, by decide⟩
theorem d_M_firstSizes_7 : vm_D q_M_firstSizes.2.1 7 1 8 (.aload_n 0) := ⟨by decide +kernel, rfl⟩
theorem d_M_firstSizes_8 : vm_D q_M_firstSizes.2.1 8 3 11 (.getfield 92) := ⟨by decide +kernel, rfl⟩
theorem d_M_firstSizes_11 : vm_D q_M_firstSizes.2.1 11 1 12 (.iload_n 3) := ⟨by decide +kernel, rfl⟩
theorem d_M_firstSizes_12 : vm_D q_M_firstSizes.2.1 12 1 13 (.aload_n 0) := ⟨by decide +kernel, rfl⟩
theorem d_M_firstSizes_13 : vm_D q_M_firstSizes.2.1 13 1 14 (.iload_n 1) := ⟨by decide +kernel, rfl⟩
theorem d_M_firstSizes_14 : vm_D q_M_firstSizes.2.1 14 1 15 (.iload_n 3) := ⟨by decide +kernel, rfl⟩
theorem d_M_firstSizes_15 : vm_D q_M_firstSizes.2.1 15 3 18 (.invokevirtual 205) := ⟨by decide +kernel, rfl⟩
theorem d_M_firstSizes_18 : vm_B q_M_firstSizes.2.1 18 21 25 (fun o => .ifCond .eq o) := ⟨7, by decide +kernel, rfl, by decide⟩
theorem d_M_firstSizes_26 : vm_D q_M_firstSizes.2.1 26 1 27 (.iastore) := ⟨by decide +kernel, rfl⟩
theorem d_M_firstSizes_27 : vm_D q_M_firstSizes.2.1 27 3 30 (.iinc 3 1) := ⟨by decide +kernel, rfl⟩
theorem d_M_firstSizes_30 : ∃ off : Int, decode q_M_firstSizes.2.1 30 = .ok (.goto off, 3) ∧ ((30 : Nat) : Int) + off = ((2 : Nat) : Int) := ⟨-28, by decide +kernel, by decide⟩
theorem d_M_firstSizes_25 : vm_D q_M_firstSizes.2.1 25 1 26 (.iconst 0) := ⟨by decide +kernel, rfl⟩
theorem d_M_firstSizes_21 : vm_D q_M_firstSizes.2.1 21 1 22 (.iconst 1) := ⟨by decide +kernel, rfl⟩
theorem d_M_firstSizes_22 : ∃ off : Int, decode q_M_firstSizes.2.1 22 = .ok (.goto off, 3) ∧ ((22 : Nat) : Int) + off = ((26 : Nat) : Int) := ⟨4, by decide +kernel, by decide⟩
theorem d_M_firstSizes_33 : vm_D q_M_firstSizes.2.1 33 1 34 (.aload_n 0) := ⟨by decide +kernel, rfl⟩
theorem d_M_firstSizes_34 : vm_D q_M_firstSizes.2.1 34 1 35 (.iload_n 1) := ⟨by decide +kernel, rfl⟩
theorem d_M_firstSizes_35 : vm_D q_M_firstSizes.2.1 35 3 38 (.invokevirtual 208) := ⟨by decide +kernel, rfl⟩
theorem d_M_firstSizes_38 : vm_D q_M_firstSizes.2.1 38 1 39 (.iload_n 2) := ⟨by decide +kernel, rfl⟩
theorem d_M_firstSizes_39 : vm_B q_M_firstSizes.2.1 39 42 46 (fun o => .if_icmp .gt o) := ⟨7, by decide +kernel, rfl, by decide⟩
theorem d_M_firstSizes_46 : vm_D q_M_firstSizes.2.1 46 1 47 (.iconst 0) := ⟨by decide +kernel, rfl⟩
theorem d_M_firstSizes_47 : vm_D q_M_firstSizes.2.1 47 1 48 (.ireturn) := ⟨by decide +kernel, rfl⟩
theorem d_M_firstSizes_42 : vm_D q_M_firstSizes.2.1 42 1 43 (.iconst 1) := ⟨by decide +kernel, rfl⟩
theorem d_M_firstSizes_43 : ∃ off : Int, decode q_M_firstSizes.2.1 43 = .ok (.goto off, 3) ∧ ((43 : Nat) : Int) + off = ((47 : Nat) : Int) := ⟨4, by decide +kernel, by decide⟩
def q_M_endsBy : vm_Y := ("RepeatFreeModel", cX11_endsBy, 5, false, [])
theorem d_M_endsBy_0 : vm_D q_M_endsBy.2.1 0 1 1 (.aload_n 0) := ⟨by decide +kernel, rfl⟩
theorem d_M_endsBy_1 : vm_D q_M_endsBy.2.1 1 1 2 (.iload_n 3) := ⟨by decide +kernel, rfl⟩
theorem d_M_endsBy_2 : vm_D q_M_endsBy.2.1 2 1 3 (.iload_n 2) := ⟨by decide +kernel, rfl⟩
theorem d_M_endsBy_3 : vm_D q_M_endsBy.2.1 3 3 6 (.invokevirtual 212) := ⟨by decide +kernel, rfl⟩
theorem d_M_endsBy_6 : vm_D q_M_endsBy.2.1 6 2 8 (.istore 4) := ⟨by decide +kernel, rfl⟩
theorem d_M_endsBy_8 : vm_D q_M_endsBy.2.1 8 2 10 (.iload 4) := ⟨by decide +kernel, rfl⟩
theorem d_M_endsBy_10 : vm_B q_M_endsBy.2.1 10 13 42 (fun o => .ifCond .eq o) := ⟨32, by decide +kernel, rfl, by decide⟩
theorem d_M_endsBy_13 : vm_D q_M_endsBy.2.1 13 1 14 (.aload_n 0) := ⟨by decide +kernel, rfl⟩
theorem d_M_endsBy_14 : vm_D q_M_endsBy.2.1 14 1 15 (.aload_n 1) := ⟨by decide +kernel, rfl⟩
theorem d_M_endsBy_15 : vm_D q_M_endsBy.2.1 15 1 16 (.iload_n 2) := ⟨by decide +kernel, rfl⟩
theorem d_M_endsBy_16 : vm_D q_M_endsBy.2.1 16 1 17 (.aload_n 0) := ⟨by decide +kernel, rfl⟩
theorem d_M_endsBy_17 : vm_D q_M_endsBy.2.1 17 1 18 (.iload_n 3) := ⟨by decide +kernel, rfl⟩
theorem d_M_endsBy_18 : vm_D q_M_endsBy.2.1 18 3 21 (.invokevirtual 208) := ⟨by decide +kernel, rfl⟩
theorem d_M_endsBy_21 : vm_D q_M_endsBy.2.1 21 1 22 (.isub) := ⟨by decide +kernel, rfl⟩
theorem d_M_endsBy_22 : vm_D q_M_endsBy.2.1 22 1 23 (.iload_n 3) := ⟨by decide +kernel, rfl⟩
theorem d_M_endsBy_23 : vm_D q_M_endsBy.2.1 23 3 26 (.invokevirtual 215) := ⟨by decide +kernel, rfl⟩
theorem d_M_endsBy_26 : vm_B q_M_endsBy.2.1 26 29 31 (fun o => .ifCond .eq o) := ⟨5, by decide +kernel, rfl, by decide⟩
theorem d_M_endsBy_31 : vm_D q_M_endsBy.2.1 31 1 32 (.aload_n 0) := ⟨by decide +kernel, rfl⟩
theorem d_M_endsBy_32 : vm_D q_M_endsBy.2.1 32 1 33 (.iload_n 3) := ⟨by decide +kernel, rfl⟩
theorem d_M_endsBy_33 : vm_D q_M_endsBy.2.1 33 1 34 (.iload_n 2) := ⟨by decide +kernel, rfl⟩
theorem d_M_endsBy_34 : vm_D q_M_endsBy.2.1 34 3 37 (.invokevirtual 219) := ⟨by decide +kernel, rfl⟩
theorem d_M_endsBy_37 : vm_D q_M_endsBy.2.1 37 2 39 (.istore 4) := ⟨by decide +kernel, rfl⟩
theorem d_M_endsBy_39 : ∃ off : Int, decode q_M_endsBy.2.1 39 = .ok (.goto off, 3) ∧ ((39 : Nat) : Int) + off = ((8 : Nat) : Int) := ⟨-31, by decide +kernel, by decide⟩
theorem d_M_endsBy_29 : vm_D q_M_endsBy.2.1 29 1 30 (.iconst 1) := ⟨by decide +kernel, rfl⟩
theorem d_M_endsBy_30 : vm_D q_M_endsBy.2.1 30 1 31 (.ireturn) := ⟨by decide +kernel, rfl⟩
theorem d_M_endsBy_42 : vm_D q_M_endsBy.2.1 42 1 43 (.iconst 0) := ⟨by decide +kernel, rfl⟩
theorem d_M_endsBy_43 : vm_D q_M_endsBy.2.1 43 1 44 (.ireturn) := ⟨by decide +kernel, rfl⟩
def q_M_goesOn : vm_Y := ("RepeatFreeModel", cX11_goesOn, 4, false, [])
theorem d_M_goesOn_0 : vm_D q_M_goesOn.2.1 0 1 1 (.aload_n 0) := ⟨by decide +kernel, rfl⟩
theorem d_M_goesOn_1 : vm_D q_M_goesOn.2.1 1 1 2 (.aload_n 1) := ⟨by decide +kernel, rfl⟩
theorem d_M_goesOn_2 : vm_D q_M_goesOn.2.1 2 1 3 (.iload_n 2) := ⟨by decide +kernel, rfl⟩
theorem d_M_goesOn_3 : vm_D q_M_goesOn.2.1 3 3 6 (.invokevirtual 222) := ⟨by decide +kernel, rfl⟩
theorem d_M_goesOn_6 : vm_B q_M_goesOn.2.1 6 9 11 (fun o => .ifCond .eq o) := ⟨5, by decide +kernel, rfl, by decide⟩
theorem d_M_goesOn_11 : vm_D q_M_goesOn.2.1 11 1 12 (.iconst 0) := ⟨by decide +kernel, rfl⟩
theorem d_M_goesOn_12 : vm_D q_M_goesOn.2.1 12 1 13 (.istore_n 3) := ⟨by decide +kernel, rfl⟩
theorem d_M_goesOn_13 : vm_D q_M_goesOn.2.1 13 1 14 (.iload_n 3) := ⟨by decide +kernel, rfl⟩
theorem d_M_goesOn_14 : vm_D q_M_goesOn.2.1 14 1 15 (.aload_n 0) := ⟨by decide +kernel, rfl⟩
theorem d_M_goesOn_15 : vm_D q_M_goesOn.2.1 15 3 18 (.getfield 77) := ⟨by decide +kernel, rfl⟩
theorem d_M_goesOn_18 : vm_D q_M_goesOn.2.1 18 1 19 (.iconst 5) := ⟨by decide +kernel, rfl⟩
theorem d_M_goesOn_19 : vm_D q_M_goesOn.2.1 19 1 20 (.iaload) := ⟨by decide +kernel, rfl⟩
theorem d_M_goesOn_20 : vm_B q_M_goesOn.2.1 20 23 55 (fun o => .if_icmp .ge o) := ⟨35, by decide +kernel, rfl, by decide⟩
theorem d_M_goesOn_23 : vm_D q_M_goesOn.2.1 23 1 24 (.aload_n 0) := ⟨by decide +kernel, rfl⟩
theorem d_M_goesOn_24 : vm_D q_M_goesOn.2.1 24 3 27 (.getfield 77) := ⟨by decide +kernel, rfl⟩
theorem d_M_goesOn_27 : vm_D q_M_goesOn.2.1 27 3 30 (.sipush 194) := ⟨by decide +kernel, rfl⟩
theorem d_M_goesOn_30 : vm_D q_M_goesOn.2.1 30 1 31 (.iload_n 3) := ⟨by decide +kernel, rfl⟩
theorem d_M_goesOn_31 : vm_D q_M_goesOn.2.1 31 1 32 (.iadd) := ⟨by decide +kernel, rfl⟩
theorem d_M_goesOn_32 : vm_D q_M_goesOn.2.1 32 1 33 (.iaload) := ⟨by decide +kernel, rfl⟩
theorem d_M_goesOn_33 : vm_D q_M_goesOn.2.1 33 1 34 (.iconst 1) := ⟨by decide +kernel, rfl⟩
theorem d_M_goesOn_34 : vm_B q_M_goesOn.2.1 34 37 49 (fun o => .if_icmp .ne o) := ⟨15, by decide +kernel, rfl, by decide⟩
theorem d_M_goesOn_49 : vm_D q_M_goesOn.2.1 49 3 52 (.iinc 3 1) := ⟨by decide +kernel, rfl⟩
theorem d_M_goesOn_52 : ∃ off : Int, decode q_M_goesOn.2.1 52 = .ok (.goto off, 3) ∧ ((52 : Nat) : Int) + off = ((13 : Nat) : Int) := ⟨-39, by decide +kernel, by decide⟩
theorem d_M_goesOn_37 : vm_D q_M_goesOn.2.1 37 1 38 (.aload_n 0) := ⟨by decide +kernel, rfl⟩
theorem d_M_goesOn_38 : vm_D q_M_goesOn.2.1 38 1 39 (.aload_n 1) := ⟨by decide +kernel, rfl⟩
theorem d_M_goesOn_39 : vm_D q_M_goesOn.2.1 39 1 40 (.iload_n 2) := ⟨by decide +kernel, rfl⟩
theorem d_M_goesOn_40 : vm_D q_M_goesOn.2.1 40 1 41 (.iload_n 3) := ⟨by decide +kernel, rfl⟩
theorem d_M_goesOn_41 : vm_D q_M_goesOn.2.1 41 3 44 (.invokevirtual 226) := ⟨by decide +kernel, rfl⟩
theorem d_M_goesOn_44 : vm_B q_M_goesOn.2.1 44 47 49 (fun o => .ifCond .eq o) := ⟨5, by decide +kernel, rfl, by decide⟩
theorem d_M_goesOn_47 : vm_D q_M_goesOn.2.1 47 1 48 (.iconst 0) := ⟨by decide +kernel, rfl⟩
theorem d_M_goesOn_48 : vm_D q_M_goesOn.2.1 48 1 49 (.ireturn) := ⟨by decide +kernel, rfl⟩
theorem d_M_goesOn_55 : vm_D q_M_goesOn.2.1 55 1 56 (.iconst 1) := ⟨by decide +kernel, rfl⟩
theorem d_M_goesOn_56 : vm_D q_M_goesOn.2.1 56 1 57 (.ireturn) := ⟨by decide +kernel, rfl⟩
theorem d_M_goesOn_9 : vm_D q_M_goesOn.2.1 9 1 10 (.iconst 0) := ⟨by decide +kernel, rfl⟩
theorem d_M_goesOn_10 : vm_D q_M_goesOn.2.1 10 1 11 (.ireturn) := ⟨by decide +kernel, rfl⟩
def q_M_freeOf : vm_Y := ("RepeatFreeModel", cX11_freeOf, 4, false, [])
theorem d_M_freeOf_0 : vm_D q_M_freeOf.2.1 0 1 1 (.iconst 0) := ⟨by decide +kernel, rfl⟩
theorem d_M_freeOf_1 : vm_D q_M_freeOf.2.1 1 1 2 (.istore_n 3) := ⟨by decide +kernel, rfl⟩
theorem d_M_freeOf_2 : vm_D q_M_freeOf.2.1 2 1 3 (.iload_n 3) := ⟨by decide +kernel, rfl⟩
theorem d_M_freeOf_3 : vm_D q_M_freeOf.2.1 3 1 4 (.iload_n 2) := ⟨by decide +kernel, rfl⟩
theorem d_M_freeOf_4 : vm_B q_M_freeOf.2.1 4 7 24 (fun o => .if_icmp .ge o) := ⟨20, by decide +kernel, rfl, by decide⟩
theorem d_M_freeOf_7 : vm_D q_M_freeOf.2.1 7 1 8 (.aload_n 0) := ⟨by decide +kernel, rfl⟩
theorem d_M_freeOf_8 : vm_D q_M_freeOf.2.1 8 1 9 (.aload_n 1) := ⟨by decide +kernel, rfl⟩
theorem d_M_freeOf_9 : vm_D q_M_freeOf.2.1 9 1 10 (.iload_n 3) := ⟨by decide +kernel, rfl⟩
theorem d_M_freeOf_10 : vm_D q_M_freeOf.2.1 10 1 11 (.iconst 1) := ⟨by decide +kernel, rfl⟩
theorem d_M_freeOf_11 : vm_D q_M_freeOf.2.1 11 1 12 (.iadd) := ⟨by decide +kernel, rfl⟩
theorem d_M_freeOf_12 : vm_D q_M_freeOf.2.1 12 3 15 (.invokevirtual 229) := ⟨by decide +kernel, rfl⟩
theorem d_M_freeOf_15 : vm_B q_M_freeOf.2.1 15 18 24 (fun o => .ifCond .eq o) := ⟨9, by decide +kernel, rfl, by decide⟩
theorem d_M_freeOf_18 : vm_D q_M_freeOf.2.1 18 3 21 (.iinc 3 1) := ⟨by decide +kernel, rfl⟩
theorem d_M_freeOf_21 : ∃ off : Int, decode q_M_freeOf.2.1 21 = .ok (.goto off, 3) ∧ ((21 : Nat) : Int) + off = ((2 : Nat) : Int) := ⟨-19, by decide +kernel, by decide⟩
theorem d_M_freeOf_24 : vm_D q_M_freeOf.2.1 24 1 25 (.iload_n 3) := ⟨by decide +kernel, rfl⟩
theorem d_M_freeOf_25 : vm_D q_M_freeOf.2.1 25 1 26 (.ireturn) := ⟨by decide +kernel, rfl⟩
def q_M_isFree : vm_Y := ("RepeatFreeModel", cX11_isFree, 1, false, [])
theorem d_M_isFree_0 : vm_D q_M_isFree.2.1 0 1 1 (.aload_n 0) := ⟨by decide +kernel, rfl⟩
theorem d_M_isFree_1 : vm_D q_M_isFree.2.1 1 1 2 (.aload_n 0) := ⟨by decide +kernel, rfl⟩
theorem d_M_isFree_2 : vm_D q_M_isFree.2.1 2 3 5 (.getfield 83) := ⟨by decide +kernel, rfl⟩
theorem d_M_isFree_5 : vm_D q_M_isFree.2.1 5 1 6 (.aload_n 0) := ⟨by decide +kernel, rfl⟩
theorem d_M_isFree_6 : vm_D q_M_isFree.2.1 6 3 9 (.getfield 184) := ⟨by decide +kernel, rfl⟩
theorem d_M_isFree_9 : vm_D q_M_isFree.2.1 9 3 12 (.invokevirtual 232) := ⟨by decide +kernel, rfl⟩
theorem d_M_isFree_12 : vm_D q_M_isFree.2.1 12 1 13 (.aload_n 0) := ⟨by decide +kernel, rfl⟩
theorem d_M_isFree_13 : vm_D q_M_isFree.2.1 13 3 16 (.getfield 184) := ⟨by decide +kernel, rfl⟩
theorem d_M_isFree_16 : vm_B q_M_isFree.2.1 16 19 23 (fun o => .if_icmp .ne o) := ⟨7, by decide +kernel, rfl, by decide⟩
theorem d_M_isFree_23 : vm_D q_M_isFree.2.1 23 1 24 (.iconst 0) := ⟨by decide +kernel, rfl⟩
theorem d_M_isFree_24 : vm_D q_M_isFree.2.1 24 1 25 (.ireturn) := ⟨by decide +kernel, rfl⟩
theorem d_M_isFree_19 : vm_D q_M_isFree.2.1 19 1 20 (.iconst 1) := ⟨by decide +kernel, rfl⟩
theorem d_M_isFree_20 : ∃ off : Int, decode q_M_isFree.2.1 20 = .ok (.goto off, 3) ∧ ((20 : Nat) : Int) + off = ((24 : Nat) : Int) := ⟨4, by decide +kernel, by decide⟩
def q_M_free : vm_Y := ("RepeatFreeModel", cX11_free, 1, false, [])
theorem d_M_free_0 : vm_D q_M_free.2.1 0 1 1 (.aload_n 0) := ⟨by decide +kernel, rfl⟩
theorem d_M_free_1 : vm_D q_M_free.2.1 1 1 2 (.iconst 0) := ⟨by decide +kernel, rfl⟩
theorem d_M_free_2 : vm_D q_M_free.2.1 2 3 5 (.putfield 3) := ⟨by decide +kernel, rfl⟩
theorem d_M_free_5 : vm_D q_M_free.2.1 5 1 6 (.aload_n 0) := ⟨by decide +kernel, rfl⟩
theorem d_M_free_6 : vm_D q_M_free.2.1 6 3 9 (.invokevirtual 236) := ⟨by decide +kernel, rfl⟩
theorem d_M_free_9 : vm_D q_M_free.2.1 9 1 10 (.ireturn) := ⟨by decide +kernel, rfl⟩
def q_M_endsAt : vm_Y := ("RepeatFreeModel", cX11_endsAt, 2, false, [])
theorem d_M_endsAt_0 : vm_D q_M_endsAt.2.1 0 1 1 (.aload_n 0) := ⟨by decide +kernel, rfl⟩
theorem d_M_endsAt_1 : vm_D q_M_endsAt.2.1 1 1 2 (.aload_n 0) := ⟨by decide +kernel, rfl⟩
theorem d_M_endsAt_2 : vm_D q_M_endsAt.2.1 2 3 5 (.getfield 83) := ⟨by decide +kernel, rfl⟩
theorem d_M_endsAt_5 : vm_D q_M_endsAt.2.1 5 1 6 (.aload_n 0) := ⟨by decide +kernel, rfl⟩
theorem d_M_endsAt_6 : vm_D q_M_endsAt.2.1 6 3 9 (.getfield 184) := ⟨by decide +kernel, rfl⟩
theorem d_M_endsAt_9 : vm_D q_M_endsAt.2.1 9 3 12 (.invokevirtual 232) := ⟨by decide +kernel, rfl⟩
theorem d_M_endsAt_12 : vm_D q_M_endsAt.2.1 12 1 13 (.istore_n 1) := ⟨by decide +kernel, rfl⟩
theorem d_M_endsAt_13 : vm_D q_M_endsAt.2.1 13 1 14 (.iload_n 1) := ⟨by decide +kernel, rfl⟩
theorem d_M_endsAt_14 : vm_D q_M_endsAt.2.1 14 1 15 (.aload_n 0) := ⟨by decide +kernel, rfl⟩
theorem d_M_endsAt_15 : vm_D q_M_endsAt.2.1 15 3 18 (.getfield 184) := ⟨by decide +kernel, rfl⟩
theorem d_M_endsAt_18 : vm_B q_M_endsAt.2.1 18 21 25 (fun o => .if_icmp .ne o) := ⟨7, by decide +kernel, rfl, by decide⟩
theorem d_M_endsAt_25 : vm_D q_M_endsAt.2.1 25 1 26 (.iload_n 1) := ⟨by decide +kernel, rfl⟩
theorem d_M_endsAt_26 : vm_D q_M_endsAt.2.1 26 1 27 (.ireturn) := ⟨by decide +kernel, rfl⟩
theorem d_M_endsAt_21 : vm_D q_M_endsAt.2.1 21 1 22 (.iconst (-1)) := ⟨by decide +kernel, rfl⟩
theorem d_M_endsAt_22 : ∃ off : Int, decode q_M_endsAt.2.1 22 = .ok (.goto off, 3) ∧ ((22 : Nat) : Int) + off = ((26 : Nat) : Int) := ⟨4, by decide +kernel, by decide⟩
def q_M_ends : vm_Y := ("RepeatFreeModel", cX11_ends, 1, false, [])
theorem d_M_ends_0 : vm_D q_M_ends.2.1 0 1 1 (.aload_n 0) := ⟨by decide +kernel, rfl⟩
theorem d_M_ends_1 : vm_D q_M_ends.2.1 1 1 2 (.iconst 0) := ⟨by decide +kernel, rfl⟩
theorem d_M_ends_2 : vm_D q_M_ends.2.1 2 3 5 (.putfield 3) := ⟨by decide +kernel, rfl⟩
theorem d_M_ends_5 : vm_D q_M_ends.2.1 5 1 6 (.aload_n 0) := ⟨by decide +kernel, rfl⟩
theorem d_M_ends_6 : vm_D q_M_ends.2.1 6 3 9 (.invokevirtual 239) := ⟨by decide +kernel, rfl⟩
theorem d_M_ends_9 : vm_D q_M_ends.2.1 9 1 10 (.ireturn) := ⟨by decide +kernel, rfl⟩
def q_M_laysGiven : vm_Y := ("RepeatFreeModel", cX11_laysGiven, 3, false, [])
theorem d_M_laysGiven_0 : vm_D q_M_laysGiven.2.1 0 1 1 (.iconst 0) := ⟨by decide +kernel, rfl⟩
theorem d_M_laysGiven_1 : vm_D q_M_laysGiven.2.1 1 1 2 (.istore_n 2) := ⟨by decide +kernel, rfl⟩
theorem d_M_laysGiven_2 : vm_D q_M_laysGiven.2.1 2 1 3 (.iload_n 2) := ⟨by decide +kernel, rfl⟩
theorem d_M_laysGiven_3 : vm_D q_M_laysGiven.2.1 3 1 4 (.iload_n 1) := ⟨by decide +kernel, rfl⟩
theorem d_M_laysGiven_4 : vm_B q_M_laysGiven.2.1 4 7 25 (fun o => .if_icmp .ge o) := ⟨21, by decide +kernel, rfl, by decide⟩
theorem d_M_laysGiven_7 : vm_D q_M_laysGiven.2.1 7 1 8 (.aload_n 0) := ⟨by decide +kernel, rfl⟩
theorem d_M_laysGiven_8 : vm_D q_M_laysGiven.2.1 8 3 11 (.getfield 86) := ⟨by decide +kernel, rfl⟩
theorem d_M_laysGiven_11 : vm_D q_M_laysGiven.2.1 11 1 12 (.iload_n 2) := ⟨by decide +kernel, rfl⟩
theorem d_M_laysGiven_12 : vm_D q_M_laysGiven.2.1 12 1 13 (.aload_n 0) := ⟨by decide +kernel, rfl⟩
theorem d_M_laysGiven_13 : vm_D q_M_laysGiven.2.1 13 3 16 (.getfield 83) := ⟨by decide +kernel, rfl⟩
theorem d_M_laysGiven_16 : vm_D q_M_laysGiven.2.1 16 1 17 (.iload_n 2) := ⟨by decide +kernel, rfl⟩
theorem d_M_laysGiven_17 : vm_D q_M_laysGiven.2.1 17 1 18 (.iaload) := ⟨by decide +kernel, rfl⟩
theorem d_M_laysGiven_18 : vm_D q_M_laysGiven.2.1 18 1 19 (.iastore) := ⟨by decide +kernel, rfl⟩
theorem d_M_laysGiven_19 : vm_D q_M_laysGiven.2.1 19 3 22 (.iinc 2 1) := ⟨by decide +kernel, rfl⟩
theorem d_M_laysGiven_22 : ∃ off : Int, decode q_M_laysGiven.2.1 22 = .ok (.goto off, 3) ∧ ((22 : Nat) : Int) + off = ((2 : Nat) : Int) := ⟨-20, by decide +kernel, by decide⟩
theorem d_M_laysGiven_25 : vm_D q_M_laysGiven.2.1 25 1 26 (.return_) := ⟨by decide +kernel, rfl⟩
def q_M_goes : vm_Y := ("RepeatFreeModel", cX11_goes, 3, false, [])
theorem d_M_goes_0 : vm_D q_M_goes.2.1 0 1 1 (.aload_n 0) := ⟨by decide +kernel, rfl⟩
theorem d_M_goes_1 : vm_D q_M_goes.2.1 1 1 2 (.iconst 0) := ⟨by decide +kernel, rfl⟩
theorem d_M_goes_2 : vm_D q_M_goes.2.1 2 3 5 (.putfield 3) := ⟨by decide +kernel, rfl⟩
theorem d_M_goes_5 : vm_D q_M_goes.2.1 5 1 6 (.aload_n 0) := ⟨by decide +kernel, rfl⟩
theorem d_M_goes_6 : vm_D q_M_goes.2.1 6 3 9 (.getfield 184) := ⟨by decide +kernel, rfl⟩
theorem d_M_goes_9 : vm_D q_M_goes.2.1 9 2 11 (.bipush 64) := ⟨by decide +kernel, rfl⟩
theorem d_M_goes_11 : vm_B q_M_goes.2.1 11 14 21 (fun o => .if_icmp .eq o) := ⟨10, by decide +kernel, rfl, by decide⟩
theorem d_M_goes_21 : vm_D q_M_goes.2.1 21 1 22 (.iconst 0) := ⟨by decide +kernel, rfl⟩
theorem d_M_goes_22 : vm_D q_M_goes.2.1 22 1 23 (.ireturn) := ⟨by decide +kernel, rfl⟩
theorem d_M_goes_14 : vm_D q_M_goes.2.1 14 1 15 (.aload_n 0) := ⟨by decide +kernel, rfl⟩
theorem d_M_goes_15 : vm_D q_M_goes.2.1 15 3 18 (.invokevirtual 236) := ⟨by decide +kernel, rfl⟩
theorem d_M_goes_18 : vm_B q_M_goes.2.1 18 21 23 (fun o => .ifCond .ne o) := ⟨5, by decide +kernel, rfl, by decide⟩
theorem d_M_goes_23 : vm_D q_M_goes.2.1 23 1 24 (.aload_n 0) := ⟨by decide +kernel, rfl⟩
theorem d_M_goes_24 : vm_D q_M_goes.2.1 24 1 25 (.aload_n 0) := ⟨by decide +kernel, rfl⟩
theorem d_M_goes_25 : vm_D q_M_goes.2.1 25 3 28 (.getfield 184) := ⟨by decide +kernel, rfl⟩
theorem d_M_goes_28 : vm_D q_M_goes.2.1 28 3 31 (.invokevirtual 242) := ⟨by decide +kernel, rfl⟩
theorem d_M_goes_31 : vm_D q_M_goes.2.1 31 1 32 (.iconst 0) := ⟨by decide +kernel, rfl⟩
theorem d_M_goes_32 : vm_D q_M_goes.2.1 32 1 33 (.istore_n 1) := ⟨by decide +kernel, rfl⟩
theorem d_M_goes_33 : vm_D q_M_goes.2.1 33 1 34 (.iconst 0) := ⟨by decide +kernel, rfl⟩
theorem d_M_goes_34 : vm_D q_M_goes.2.1 34 1 35 (.istore_n 2) := ⟨by decide +kernel, rfl⟩
theorem d_M_goes_35 : vm_D q_M_goes.2.1 35 1 36 (.iload_n 2) := ⟨by decide +kernel, rfl⟩
theorem d_M_goes_36 : vm_D q_M_goes.2.1 36 1 37 (.aload_n 0) := ⟨by decide +kernel, rfl⟩
theorem d_M_goes_37 : vm_D q_M_goes.2.1 37 3 40 (.getfield 77) := ⟨by decide +kernel, rfl⟩
theorem d_M_goes_40 : vm_D q_M_goes.2.1 40 1 41 (.iconst 0) := ⟨by decide +kernel, rfl⟩
theorem d_M_goes_41 : vm_D q_M_goes.2.1 41 1 42 (.iaload) := ⟨by decide +kernel, rfl⟩
theorem d_M_goes_42 : vm_B q_M_goes.2.1 42 45 88 (fun o => .if_icmp .ge o) := ⟨46, by decide +kernel, rfl, by decide⟩
theorem d_M_goes_45 : vm_D q_M_goes.2.1 45 1 46 (.aload_n 0) := ⟨by decide +kernel, rfl⟩
theorem d_M_goes_46 : vm_D q_M_goes.2.1 46 3 49 (.getfield 86) := ⟨by decide +kernel, rfl⟩
theorem d_M_goes_49 : vm_D q_M_goes.2.1 49 1 50 (.aload_n 0) := ⟨by decide +kernel, rfl⟩
theorem d_M_goes_50 : vm_D q_M_goes.2.1 50 3 53 (.getfield 184) := ⟨by decide +kernel, rfl⟩
theorem d_M_goes_53 : vm_D q_M_goes.2.1 53 1 54 (.iload_n 2) := ⟨by decide +kernel, rfl⟩
theorem d_M_goes_54 : vm_D q_M_goes.2.1 54 1 55 (.iastore) := ⟨by decide +kernel, rfl⟩
theorem d_M_goes_55 : vm_D q_M_goes.2.1 55 1 56 (.iload_n 1) := ⟨by decide +kernel, rfl⟩
theorem d_M_goes_56 : vm_D q_M_goes.2.1 56 1 57 (.aload_n 0) := ⟨by decide +kernel, rfl⟩
theorem d_M_goes_57 : vm_D q_M_goes.2.1 57 1 58 (.aload_n 0) := ⟨by decide +kernel, rfl⟩
theorem d_M_goes_58 : vm_D q_M_goes.2.1 58 3 61 (.getfield 86) := ⟨by decide +kernel, rfl⟩
theorem d_M_goes_61 : vm_D q_M_goes.2.1 61 1 62 (.aload_n 0) := ⟨by decide +kernel, rfl⟩
theorem d_M_goes_62 : vm_D q_M_goes.2.1 62 3 65 (.getfield 184) := ⟨by decide +kernel, rfl⟩
theorem d_M_goes_65 : vm_D q_M_goes.2.1 65 1 66 (.iconst 1) := ⟨by decide +kernel, rfl⟩
theorem d_M_goes_66 : vm_D q_M_goes.2.1 66 1 67 (.iadd) := ⟨by decide +kernel, rfl⟩
theorem d_M_goes_67 : vm_D q_M_goes.2.1 67 3 70 (.invokevirtual 229) := ⟨by decide +kernel, rfl⟩
theorem d_M_goes_70 : vm_B q_M_goes.2.1 70 73 79 (fun o => .ifCond .eq o) := ⟨9, by decide +kernel, rfl, by decide⟩
theorem d_M_goes_80 : vm_D q_M_goes.2.1 80 1 81 (.ior) := ⟨by decide +kernel, rfl⟩
theorem d_M_goes_81 : vm_D q_M_goes.2.1 81 1 82 (.istore_n 1) := ⟨by decide +kernel, rfl⟩
theorem d_M_goes_82 : vm_D q_M_goes.2.1 82 3 85 (.iinc 2 1) := ⟨by decide +kernel, rfl⟩
theorem d_M_goes_85 : ∃ off : Int, decode q_M_goes.2.1 85 = .ok (.goto off, 3) ∧ ((85 : Nat) : Int) + off = ((35 : Nat) : Int) := ⟨-50, by decide +kernel, by decide⟩
theorem d_M_goes_79 : vm_D q_M_goes.2.1 79 1 80 (.iconst 0) := ⟨by decide +kernel, rfl⟩
theorem d_M_goes_73 : vm_D q_M_goes.2.1 73 1 74 (.iconst 1) := ⟨by decide +kernel, rfl⟩
theorem d_M_goes_74 : vm_D q_M_goes.2.1 74 1 75 (.iload_n 2) := ⟨by decide +kernel, rfl⟩
theorem d_M_goes_75 : vm_D q_M_goes.2.1 75 1 76 (.ishl) := ⟨by decide +kernel, rfl⟩
theorem d_M_goes_76 : ∃ off : Int, decode q_M_goes.2.1 76 = .ok (.goto off, 3) ∧ ((76 : Nat) : Int) + off = ((80 : Nat) : Int) := ⟨4, by decide +kernel, by decide⟩
theorem d_M_goes_88 : vm_D q_M_goes.2.1 88 1 89 (.iload_n 1) := ⟨by decide +kernel, rfl⟩
theorem d_M_goes_89 : vm_D q_M_goes.2.1 89 1 90 (.ireturn) := ⟨by decide +kernel, rfl⟩
def q_M_ahead : vm_Y := ("RepeatFreeModel", cX11_ahead, 3, false, [])
theorem d_M_ahead_0 : vm_D q_M_ahead.2.1 0 1 1 (.aload_n 0) := ⟨by decide +kernel, rfl⟩
theorem d_M_ahead_1 : vm_D q_M_ahead.2.1 1 1 2 (.iconst 0) := ⟨by decide +kernel, rfl⟩
theorem d_M_ahead_2 : vm_D q_M_ahead.2.1 2 3 5 (.putfield 3) := ⟨by decide +kernel, rfl⟩
theorem d_M_ahead_5 : vm_D q_M_ahead.2.1 5 1 6 (.aload_n 0) := ⟨by decide +kernel, rfl⟩
theorem d_M_ahead_6 : vm_D q_M_ahead.2.1 6 3 9 (.getfield 184) := ⟨by decide +kernel, rfl⟩
theorem d_M_ahead_9 : vm_D q_M_ahead.2.1 9 2 11 (.bipush 64) := ⟨by decide +kernel, rfl⟩
theorem d_M_ahead_11 : vm_B q_M_ahead.2.1 11 14 16 (fun o => .if_icmp .ne o) := ⟨5, by decide +kernel, rfl, by decide⟩
theorem d_M_ahead_16 : vm_D q_M_ahead.2.1 16 1 17 (.iconst 0) := ⟨by decide +kernel, rfl⟩
theorem d_M_ahead_17 : vm_D q_M_ahead.2.1 17 1 18 (.istore_n 1) := ⟨by decide +kernel, rfl⟩
theorem d_M_ahead_18 : vm_D q_M_ahead.2.1 18 1 19 (.iload_n 1) := ⟨by decide +kernel, rfl⟩
theorem d_M_ahead_19 : vm_D q_M_ahead.2.1 19 1 20 (.aload_n 0) := ⟨by decide +kernel, rfl⟩
theorem d_M_ahead_20 : vm_D q_M_ahead.2.1 20 3 23 (.getfield 184) := ⟨by decide +kernel, rfl⟩
theorem d_M_ahead_23 : vm_B q_M_ahead.2.1 23 26 46 (fun o => .if_icmp .ge o) := ⟨23, by decide +kernel, rfl, by decide⟩
theorem d_M_ahead_26 : vm_D q_M_ahead.2.1 26 1 27 (.aload_n 0) := ⟨by decide +kernel, rfl⟩
theorem d_M_ahead_27 : vm_D q_M_ahead.2.1 27 3 30 (.getfield 86) := ⟨by decide +kernel, rfl⟩
theorem d_M_ahead_30 : vm_D q_M_ahead.2.1 30 1 31 (.iload_n 1) := ⟨by decide +kernel, rfl⟩
theorem d_M_ahead_31 : vm_D q_M_ahead.2.1 31 1 32 (.iconst 1) := ⟨by decide +kernel, rfl⟩
theorem d_M_ahead_32 : vm_D q_M_ahead.2.1 32 1 33 (.iadd) := ⟨by decide +kernel, rfl⟩
theorem d_M_ahead_33 : vm_D q_M_ahead.2.1 33 1 34 (.aload_n 0) := ⟨by decide +kernel, rfl⟩
theorem d_M_ahead_34 : vm_D q_M_ahead.2.1 34 3 37 (.getfield 83) := ⟨by decide +kernel, rfl⟩
theorem d_M_ahead_37 : vm_D q_M_ahead.2.1 37 1 38 (.iload_n 1) := ⟨by decide +kernel, rfl⟩
theorem d_M_ahead_38 : vm_D q_M_ahead.2.1 38 1 39 (.iaload) := ⟨by decide +kernel, rfl⟩
theorem d_M_ahead_39 : vm_D q_M_ahead.2.1 39 1 40 (.iastore) := ⟨by decide +kernel, rfl⟩
theorem d_M_ahead_40 : vm_D q_M_ahead.2.1 40 3 43 (.iinc 1 1) := ⟨by decide +kernel, rfl⟩
theorem d_M_ahead_43 : ∃ off : Int, decode q_M_ahead.2.1 43 = .ok (.goto off, 3) ∧ ((43 : Nat) : Int) + off = ((18 : Nat) : Int) := ⟨-25, by decide +kernel, by decide⟩
theorem d_M_ahead_46 : vm_D q_M_ahead.2.1 46 1 47 (.iconst 0) := ⟨by decide +kernel, rfl⟩
theorem d_M_ahead_47 : vm_D q_M_ahead.2.1 47 1 48 (.istore_n 1) := ⟨by decide +kernel, rfl⟩
theorem d_M_ahead_48 : vm_D q_M_ahead.2.1 48 1 49 (.iconst 0) := ⟨by decide +kernel, rfl⟩
theorem d_M_ahead_49 : vm_D q_M_ahead.2.1 49 1 50 (.istore_n 2) := ⟨by decide +kernel, rfl⟩
theorem d_M_ahead_50 : vm_D q_M_ahead.2.1 50 1 51 (.iload_n 2) := ⟨by decide +kernel, rfl⟩
theorem d_M_ahead_51 : vm_D q_M_ahead.2.1 51 1 52 (.aload_n 0) := ⟨by decide +kernel, rfl⟩
theorem d_M_ahead_52 : vm_D q_M_ahead.2.1 52 3 55 (.getfield 77) := ⟨by decide +kernel, rfl⟩
theorem d_M_ahead_55 : vm_D q_M_ahead.2.1 55 1 56 (.iconst 0) := ⟨by decide +kernel, rfl⟩
theorem d_M_ahead_56 : vm_D q_M_ahead.2.1 56 1 57 (.iaload) := ⟨by decide +kernel, rfl⟩
theorem d_M_ahead_57 : vm_B q_M_ahead.2.1 57 60 106 (fun o => .if_icmp .ge o) := ⟨49, by decide +kernel, rfl, by decide⟩
theorem d_M_ahead_60 : vm_D q_M_ahead.2.1 60 1 61 (.aload_n 0) := ⟨by decide +kernel, rfl⟩
theorem d_M_ahead_61 : vm_D q_M_ahead.2.1 61 3 64 (.getfield 86) := ⟨by decide +kernel, rfl⟩
theorem d_M_ahead_64 : vm_D q_M_ahead.2.1 64 1 65 (.iconst 0) := ⟨by decide +kernel, rfl⟩
theorem d_M_ahead_65 : vm_D q_M_ahead.2.1 65 1 66 (.iload_n 2) := ⟨by decide +kernel, rfl⟩
theorem d_M_ahead_66 : vm_D q_M_ahead.2.1 66 1 67 (.iastore) := ⟨by decide +kernel, rfl⟩
theorem d_M_ahead_67 : vm_D q_M_ahead.2.1 67 1 68 (.iload_n 1) := ⟨by decide +kernel, rfl⟩
theorem d_M_ahead_68 : vm_D q_M_ahead.2.1 68 1 69 (.aload_n 0) := ⟨by decide +kernel, rfl⟩
theorem d_M_ahead_69 : vm_D q_M_ahead.2.1 69 1 70 (.aload_n 0) := ⟨by decide +kernel, rfl⟩
theorem d_M_ahead_70 : vm_D q_M_ahead.2.1 70 3 73 (.getfield 86) := ⟨by decide +kernel, rfl⟩
theorem d_M_ahead_73 : vm_D q_M_ahead.2.1 73 1 74 (.aload_n 0) := ⟨by decide +kernel, rfl⟩
theorem d_M_ahead_74 : vm_D q_M_ahead.2.1 74 3 77 (.getfield 184) := ⟨by decide +kernel, rfl⟩
theorem d_M_ahead_77 : vm_D q_M_ahead.2.1 77 1 78 (.iconst 1) := ⟨by decide +kernel, rfl⟩
theorem d_M_ahead_78 : vm_D q_M_ahead.2.1 78 1 79 (.iadd) := ⟨by decide +kernel, rfl⟩
theorem d_M_ahead_79 : vm_D q_M_ahead.2.1 79 3 82 (.invokevirtual 232) := ⟨by decide +kernel, rfl⟩
theorem d_M_ahead_82 : vm_D q_M_ahead.2.1 82 1 83 (.aload_n 0) := ⟨by decide +kernel, rfl⟩
theorem d_M_ahead_83 : vm_D q_M_ahead.2.1 83 3 86 (.getfield 184) := ⟨by decide +kernel, rfl⟩
theorem d_M_ahead_86 : vm_D q_M_ahead.2.1 86 1 87 (.iconst 1) := ⟨by decide +kernel, rfl⟩
theorem d_M_ahead_87 : vm_D q_M_ahead.2.1 87 1 88 (.iadd) := ⟨by decide +kernel, rfl⟩
theorem d_M_ahead_88 : vm_B q_M_ahead.2.1 88 91 97 (fun o => .if_icmp .ne o) := ⟨9, by decide +kernel, rfl, by decide⟩
theorem d_M_ahead_98 : vm_D q_M_ahead.2.1 98 1 99 (.ior) := ⟨by decide +kernel, rfl⟩
theorem d_M_ahead_99 : vm_D q_M_ahead.2.1 99 1 100 (.istore_n 1) := ⟨by decide +kernel, rfl⟩
theorem d_M_ahead_100 : vm_D q_M_ahead.2.1 100 3 103 (.iinc 2 1) := ⟨by decide +kernel, rfl⟩
theorem d_M_ahead_103 : ∃ off : Int, decode q_M_ahead.2.1 103 = .ok (.goto off, 3) ∧ ((103 : Nat) : Int) + off = ((50 : Nat) : Int) := ⟨-53, by decide +kernel, by decide⟩
theorem d_M_ahead_97 : vm_D q_M_ahead.2.1 97 1 98 (.iconst 0) := ⟨by decide +kernel, rfl⟩
theorem d_M_ahead_91 : vm_D q_M_ahead.2.1 91 1 92 (.iconst 1) := ⟨by decide +kernel, rfl⟩
theorem d_M_ahead_92 : vm_D q_M_ahead.2.1 92 1 93 (.iload_n 2) := ⟨by decide +kernel, rfl⟩
theorem d_M_ahead_93 : vm_D q_M_ahead.2.1 93 1 94 (.ishl) := ⟨by decide +kernel, rfl⟩
theorem d_M_ahead_94 : ∃ off : Int, decode q_M_ahead.2.1 94 = .ok (.goto off, 3) ∧ ((94 : Nat) : Int) + off = ((98 : Nat) : Int) := ⟨4, by decide +kernel, by decide⟩
theorem d_M_ahead_106 : vm_D q_M_ahead.2.1 106 1 107 (.iload_n 1) := ⟨by decide +kernel, rfl⟩
theorem d_M_ahead_107 : vm_D q_M_ahead.2.1 107 1 108 (.ireturn) := ⟨by decide +kernel, rfl⟩
theorem d_M_ahead_14 : vm_D q_M_ahead.2.1 14 1 15 (.iconst 0) := ⟨by decide +kernel, rfl⟩
theorem d_M_ahead_15 : vm_D q_M_ahead.2.1 15 1 16 (.ireturn) := ⟨by decide +kernel, rfl⟩
def q_M_periodOf : vm_Y := ("RepeatFreeModel", cX11_periodOf, 5, false, [])
theorem d_M_periodOf_0 : vm_D q_M_periodOf.2.1 0 1 1 (.iconst 1) := ⟨by decide +kernel, rfl⟩
theorem d_M_periodOf_1 : vm_D q_M_periodOf.2.1 1 1 2 (.istore_n 3) := ⟨by decide +kernel, rfl⟩
theorem d_M_periodOf_2 : vm_D q_M_periodOf.2.1 2 1 3 (.iload_n 3) := ⟨by decide +kernel, rfl⟩
theorem d_M_periodOf_3 : vm_D q_M_periodOf.2.1 3 1 4 (.iload_n 2) := ⟨by decide +kernel, rfl⟩
theorem d_M_periodOf_4 : vm_B q_M_periodOf.2.1 4 7 59 (fun o => .if_icmp .ge o) := ⟨55, by decide +kernel, rfl, by decide⟩
theorem d_M_periodOf_7 : vm_D q_M_periodOf.2.1 7 1 8 (.iload_n 3) := ⟨by decide +kernel, rfl⟩
theorem d_M_periodOf_8 : vm_D q_M_periodOf.2.1 8 2 10 (.istore 4) := ⟨by decide +kernel, rfl⟩
theorem d_M_periodOf_10 : vm_D q_M_periodOf.2.1 10 2 12 (.iload 4) := ⟨by decide +kernel, rfl⟩
theorem d_M_periodOf_12 : vm_D q_M_periodOf.2.1 12 1 13 (.iload_n 2) := ⟨by decide +kernel, rfl⟩
theorem d_M_periodOf_13 : vm_B q_M_periodOf.2.1 13 16 45 (fun o => .if_icmp .ge o) := ⟨32, by decide +kernel, rfl, by decide⟩
theorem d_M_periodOf_16 : vm_D q_M_periodOf.2.1 16 1 17 (.aload_n 0) := ⟨by decide +kernel, rfl⟩
theorem d_M_periodOf_17 : vm_D q_M_periodOf.2.1 17 3 20 (.getfield 83) := ⟨by decide +kernel, rfl⟩
theorem d_M_periodOf_20 : vm_D q_M_periodOf.2.1 20 1 21 (.iload_n 1) := ⟨by decide +kernel, rfl⟩
theorem d_M_periodOf_21 : vm_D q_M_periodOf.2.1 21 2 23 (.iload 4) := ⟨by decide +kernel, rfl⟩
theorem d_M_periodOf_23 : vm_D q_M_periodOf.2.1 23 1 24 (.iadd) := ⟨by decide +kernel, rfl⟩
theorem d_M_periodOf_24 : vm_D q_M_periodOf.2.1 24 1 25 (.iaload) := ⟨by decide +kernel, rfl⟩
theorem d_M_periodOf_25 : vm_D q_M_periodOf.2.1 25 1 26 (.aload_n 0) := ⟨by decide +kernel, rfl⟩
theorem d_M_periodOf_26 : vm_D q_M_periodOf.2.1 26 3 29 (.getfield 83) := ⟨by decide +kernel, rfl⟩
theorem d_M_periodOf_29 : vm_D q_M_periodOf.2.1 29 1 30 (.iload_n 1) := ⟨by decide +kernel, rfl⟩
theorem d_M_periodOf_30 : vm_D q_M_periodOf.2.1 30 2 32 (.iload 4) := ⟨by decide +kernel, rfl⟩
theorem d_M_periodOf_32 : vm_D q_M_periodOf.2.1 32 1 33 (.iadd) := ⟨by decide +kernel, rfl⟩
theorem d_M_periodOf_33 : vm_D q_M_periodOf.2.1 33 1 34 (.iload_n 3) := ⟨by decide +kernel, rfl⟩
theorem d_M_periodOf_34 : vm_D q_M_periodOf.2.1 34 1 35 (.isub) := ⟨by decide +kernel, rfl⟩
theorem d_M_periodOf_35 : vm_D q_M_periodOf.2.1 35 1 36 (.iaload) := ⟨by decide +kernel, rfl⟩
theorem d_M_periodOf_36 : vm_B q_M_periodOf.2.1 36 39 45 (fun o => .if_icmp .ne o) := ⟨9, by decide +kernel, rfl, by decide⟩
theorem d_M_periodOf_39 : vm_D q_M_periodOf.2.1 39 3 42 (.iinc 4 1) := ⟨by decide +kernel, rfl⟩
theorem d_M_periodOf_42 : ∃ off : Int, decode q_M_periodOf.2.1 42 = .ok (.goto off, 3) ∧ ((42 : Nat) : Int) + off = ((10 : Nat) : Int) := ⟨-32, by decide +kernel, by decide⟩
theorem d_M_periodOf_45 : vm_D q_M_periodOf.2.1 45 2 47 (.iload 4) := ⟨by decide +kernel, rfl⟩
theorem d_M_periodOf_47 : vm_D q_M_periodOf.2.1 47 1 48 (.iload_n 2) := ⟨by decide +kernel, rfl⟩
theorem d_M_periodOf_48 : vm_B q_M_periodOf.2.1 48 51 53 (fun o => .if_icmp .ne o) := ⟨5, by decide +kernel, rfl, by decide⟩
theorem d_M_periodOf_53 : vm_D q_M_periodOf.2.1 53 3 56 (.iinc 3 1) := ⟨by decide +kernel, rfl⟩
theorem d_M_periodOf_56 : ∃ off : Int, decode q_M_periodOf.2.1 56 = .ok (.goto off, 3) ∧ ((56 : Nat) : Int) + off = ((2 : Nat) : Int) := ⟨-54, by decide +kernel, by decide⟩
theorem d_M_periodOf_51 : vm_D q_M_periodOf.2.1 51 1 52 (.iload_n 3) := ⟨by decide +kernel, rfl⟩
theorem d_M_periodOf_52 : vm_D q_M_periodOf.2.1 52 1 53 (.ireturn) := ⟨by decide +kernel, rfl⟩
theorem d_M_periodOf_59 : vm_D q_M_periodOf.2.1 59 1 60 (.iload_n 2) := ⟨by decide +kernel, rfl⟩
theorem d_M_periodOf_60 : vm_D q_M_periodOf.2.1 60 1 61 (.ireturn) := ⟨by decide +kernel, rfl⟩
def q_M_greatest : vm_Y := ("RepeatFreeModel", cX11_greatest, 9, false, [])
theorem d_M_greatest_0 : vm_D q_M_greatest.2.1 0 1 1 (.aload_n 0) := ⟨by decide +kernel, rfl⟩
theorem d_M_greatest_1 : vm_D q_M_greatest.2.1 1 1 2 (.iconst 0) := ⟨by decide +kernel, rfl⟩
theorem d_M_greatest_2 : vm_D q_M_greatest.2.1 2 3 5 (.putfield 3) := ⟨by decide +kernel, rfl⟩
theorem d_M_greatest_5 : vm_D q_M_greatest.2.1 5 1 6 (.aload_n 0) := ⟨by decide +kernel, rfl⟩
theorem d_M_greatest_6 : vm_D q_M_greatest.2.1 6 1 7 (.iload_n 1) := ⟨by decide +kernel, rfl⟩
theorem d_M_greatest_7 : vm_D q_M_greatest.2.1 7 1 8 (.iconst 0) := ⟨by decide +kernel, rfl⟩
theorem d_M_greatest_8 : vm_D q_M_greatest.2.1 8 1 9 (.iconst 2) := ⟨by decide +kernel, rfl⟩
theorem d_M_greatest_9 : vm_D q_M_greatest.2.1 9 3 12 (.invokestatic 65) := ⟨by decide +kernel, rfl⟩
theorem d_M_greatest_12 : vm_B q_M_greatest.2.1 12 15 19 (fun o => .ifCond .ne o) := ⟨7, by decide +kernel, rfl, by decide⟩
theorem d_M_greatest_20 : vm_D q_M_greatest.2.1 20 1 21 (.iconst 1) := ⟨by decide +kernel, rfl⟩
theorem d_M_greatest_21 : vm_D q_M_greatest.2.1 21 3 24 (.invokevirtual 180) := ⟨by decide +kernel, rfl⟩
theorem d_M_greatest_24 : vm_B q_M_greatest.2.1 24 27 34 (fun o => .ifCond .ne o) := ⟨10, by decide +kernel, rfl, by decide⟩
theorem d_M_greatest_34 : vm_D q_M_greatest.2.1 34 1 35 (.aload_n 0) := ⟨by decide +kernel, rfl⟩
theorem d_M_greatest_35 : vm_D q_M_greatest.2.1 35 3 38 (.getfield 3) := ⟨by decide +kernel, rfl⟩
theorem d_M_greatest_38 : vm_B q_M_greatest.2.1 38 41 45 (fun o => .ifCond .le o) := ⟨7, by decide +kernel, rfl, by decide⟩
theorem d_M_greatest_45 : vm_D q_M_greatest.2.1 45 1 46 (.iconst (-1)) := ⟨by decide +kernel, rfl⟩
theorem d_M_greatest_46 : vm_D q_M_greatest.2.1 46 1 47 (.ireturn) := ⟨by decide +kernel, rfl⟩
theorem d_M_greatest_41 : vm_D q_M_greatest.2.1 41 1 42 (.iconst 0) := ⟨by decide +kernel, rfl⟩
theorem d_M_greatest_42 : ∃ off : Int, decode q_M_greatest.2.1 42 = .ok (.goto off, 3) ∧ ((42 : Nat) : Int) + off = ((46 : Nat) : Int) := ⟨4, by decide +kernel, by decide⟩
theorem d_M_greatest_27 : vm_D q_M_greatest.2.1 27 1 28 (.aload_n 0) := ⟨by decide +kernel, rfl⟩
theorem d_M_greatest_28 : vm_D q_M_greatest.2.1 28 3 31 (.getfield 184) := ⟨by decide +kernel, rfl⟩
theorem d_M_greatest_31 : vm_B q_M_greatest.2.1 31 34 47 (fun o => .ifCond .ne o) := ⟨16, by decide +kernel, rfl, by decide⟩
theorem d_M_greatest_47 : vm_D q_M_greatest.2.1 47 1 48 (.iconst 1) := ⟨by decide +kernel, rfl⟩
theorem d_M_greatest_48 : vm_D q_M_greatest.2.1 48 1 49 (.istore_n 2) := ⟨by decide +kernel, rfl⟩
theorem d_M_greatest_49 : vm_D q_M_greatest.2.1 49 1 50 (.iconst 1) := ⟨by decide +kernel, rfl⟩
theorem d_M_greatest_50 : vm_D q_M_greatest.2.1 50 1 51 (.istore_n 3) := ⟨by decide +kernel, rfl⟩
theorem d_M_greatest_51 : vm_D q_M_greatest.2.1 51 1 52 (.iconst 0) := ⟨by decide +kernel, rfl⟩
theorem d_M_greatest_52 : vm_D q_M_greatest.2.1 52 2 54 (.istore 4) := ⟨by decide +kernel, rfl⟩
theorem d_M_greatest_54 : vm_D q_M_greatest.2.1 54 1 55 (.iconst 0) := ⟨by decide +kernel, rfl⟩
theorem d_M_greatest_55 : vm_D q_M_greatest.2.1 55 2 57 (.istore 5) := ⟨by decide +kernel, rfl⟩
theorem d_M_greatest_57 : vm_D q_M_greatest.2.1 57 2 59 (.iload 5) := ⟨by decide +kernel, rfl⟩
theorem d_M_greatest_59 : vm_D q_M_greatest.2.1 59 1 60 (.aload_n 0) := ⟨by decide +kernel, rfl⟩
theorem d_M_greatest_60 : vm_D q_M_greatest.2.1 60 3 63 (.getfield 184) := ⟨by decide +kernel, rfl⟩
theorem d_M_greatest_63 : vm_B q_M_greatest.2.1 63 66 150 (fun o => .if_icmp .ge o) := ⟨87, by decide +kernel, rfl, by decide⟩
theorem d_M_greatest_66 : vm_D q_M_greatest.2.1 66 1 67 (.iconst 1) := ⟨by decide +kernel, rfl⟩
theorem d_M_greatest_67 : vm_D q_M_greatest.2.1 67 2 69 (.istore 6) := ⟨by decide +kernel, rfl⟩
theorem d_M_greatest_69 : vm_D q_M_greatest.2.1 69 2 71 (.iload 6) := ⟨by decide +kernel, rfl⟩
theorem d_M_greatest_71 : vm_D q_M_greatest.2.1 71 1 72 (.aload_n 0) := ⟨by decide +kernel, rfl⟩
theorem d_M_greatest_72 : vm_D q_M_greatest.2.1 72 3 75 (.getfield 184) := ⟨by decide +kernel, rfl⟩
theorem d_M_greatest_75 : vm_D q_M_greatest.2.1 75 2 77 (.iload 5) := ⟨by decide +kernel, rfl⟩
theorem d_M_greatest_77 : vm_D q_M_greatest.2.1 77 1 78 (.isub) := ⟨by decide +kernel, rfl⟩
theorem d_M_greatest_78 : vm_B q_M_greatest.2.1 78 81 144 (fun o => .if_icmp .gt o) := ⟨66, by decide +kernel, rfl, by decide⟩
theorem d_M_greatest_81 : vm_D q_M_greatest.2.1 81 1 82 (.aload_n 0) := ⟨by decide +kernel, rfl⟩
theorem d_M_greatest_82 : vm_D q_M_greatest.2.1 82 2 84 (.iload 5) := ⟨by decide +kernel, rfl⟩
theorem d_M_greatest_84 : vm_D q_M_greatest.2.1 84 2 86 (.iload 6) := ⟨by decide +kernel, rfl⟩
theorem d_M_greatest_86 : vm_D q_M_greatest.2.1 86 3 89 (.invokevirtual 245) := ⟨by decide +kernel, rfl⟩
theorem d_M_greatest_89 : vm_D q_M_greatest.2.1 89 2 91 (.istore 7) := ⟨by decide +kernel, rfl⟩
theorem d_M_greatest_91 : vm_D q_M_greatest.2.1 91 2 93 (.iload 6) := ⟨by decide +kernel, rfl⟩
theorem d_M_greatest_93 : vm_D q_M_greatest.2.1 93 1 94 (.iload_n 3) := ⟨by decide +kernel, rfl⟩
theorem d_M_greatest_94 : vm_D q_M_greatest.2.1 94 1 95 (.imul) := ⟨by decide +kernel, rfl⟩
theorem d_M_greatest_95 : vm_D q_M_greatest.2.1 95 1 96 (.iload_n 2) := ⟨by decide +kernel, rfl⟩
theorem d_M_greatest_96 : vm_D q_M_greatest.2.1 96 2 98 (.iload 7) := ⟨by decide +kernel, rfl⟩
theorem d_M_greatest_98 : vm_D q_M_greatest.2.1 98 1 99 (.imul) := ⟨by decide +kernel, rfl⟩
theorem d_M_greatest_99 : vm_D q_M_greatest.2.1 99 1 100 (.isub) := ⟨by decide +kernel, rfl⟩
theorem d_M_greatest_100 : vm_D q_M_greatest.2.1 100 2 102 (.istore 8) := ⟨by decide +kernel, rfl⟩
theorem d_M_greatest_102 : vm_D q_M_greatest.2.1 102 2 104 (.iload 8) := ⟨by decide +kernel, rfl⟩
theorem d_M_greatest_104 : vm_B q_M_greatest.2.1 104 107 138 (fun o => .ifCond .lt o) := ⟨34, by decide +kernel, rfl, by decide⟩
theorem d_M_greatest_138 : vm_D q_M_greatest.2.1 138 3 141 (.iinc 6 1) := ⟨by decide +kernel, rfl⟩
theorem d_M_greatest_141 : ∃ off : Int, decode q_M_greatest.2.1 141 = .ok (.goto off, 3) ∧ ((141 : Nat) : Int) + off = ((69 : Nat) : Int) := ⟨-72, by decide +kernel, by decide⟩
theorem d_M_greatest_107 : vm_D q_M_greatest.2.1 107 2 109 (.iload 8) := ⟨by decide +kernel, rfl⟩
theorem d_M_greatest_109 : vm_B q_M_greatest.2.1 109 112 128 (fun o => .ifCond .ne o) := ⟨19, by decide +kernel, rfl, by decide⟩
theorem d_M_greatest_128 : vm_D q_M_greatest.2.1 128 2 130 (.iload 6) := ⟨by decide +kernel, rfl⟩
theorem d_M_greatest_130 : vm_D q_M_greatest.2.1 130 1 131 (.istore_n 2) := ⟨by decide +kernel, rfl⟩
theorem d_M_greatest_131 : vm_D q_M_greatest.2.1 131 2 133 (.iload 7) := ⟨by decide +kernel, rfl⟩
theorem d_M_greatest_133 : vm_D q_M_greatest.2.1 133 1 134 (.istore_n 3) := ⟨by decide +kernel, rfl⟩
theorem d_M_greatest_134 : vm_D q_M_greatest.2.1 134 2 136 (.iload 5) := ⟨by decide +kernel, rfl⟩
theorem d_M_greatest_136 : vm_D q_M_greatest.2.1 136 2 138 (.istore 4) := ⟨by decide +kernel, rfl⟩
theorem d_M_greatest_112 : vm_D q_M_greatest.2.1 112 2 114 (.iload 5) := ⟨by decide +kernel, rfl⟩
theorem d_M_greatest_114 : vm_D q_M_greatest.2.1 114 2 116 (.iload 4) := ⟨by decide +kernel, rfl⟩
theorem d_M_greatest_116 : vm_B q_M_greatest.2.1 116 119 138 (fun o => .if_icmp .ne o) := ⟨22, by decide +kernel, rfl, by decide⟩
theorem d_M_greatest_119 : vm_D q_M_greatest.2.1 119 2 121 (.iload 6) := ⟨by decide +kernel, rfl⟩
theorem d_M_greatest_121 : vm_D q_M_greatest.2.1 121 1 122 (.iload_n 2) := ⟨by decide +kernel, rfl⟩
theorem d_M_greatest_122 : vm_B q_M_greatest.2.1 122 125 128 (fun o => .if_icmp .gt o) := ⟨6, by decide +kernel, rfl, by decide⟩
theorem d_M_greatest_125 : ∃ off : Int, decode q_M_greatest.2.1 125 = .ok (.goto off, 3) ∧ ((125 : Nat) : Int) + off = ((138 : Nat) : Int) := ⟨13, by decide +kernel, by decide⟩
theorem d_M_greatest_144 : vm_D q_M_greatest.2.1 144 3 147 (.iinc 5 1) := ⟨by decide +kernel, rfl⟩
theorem d_M_greatest_147 : ∃ off : Int, decode q_M_greatest.2.1 147 = .ok (.goto off, 3) ∧ ((147 : Nat) : Int) + off = ((57 : Nat) : Int) := ⟨-90, by decide +kernel, by decide⟩
theorem d_M_greatest_150 : vm_D q_M_greatest.2.1 150 1 151 (.iload_n 1) := ⟨by decide +kernel, rfl⟩
theorem d_M_greatest_151 : vm_B q_M_greatest.2.1 151 154 158 (fun o => .ifCond .ne o) := ⟨7, by decide +kernel, rfl, by decide⟩
theorem d_M_greatest_158 : vm_D q_M_greatest.2.1 158 1 159 (.iload_n 1) := ⟨by decide +kernel, rfl⟩
theorem d_M_greatest_159 : vm_D q_M_greatest.2.1 159 1 160 (.iconst 1) := ⟨by decide +kernel, rfl⟩
theorem d_M_greatest_160 : vm_B q_M_greatest.2.1 160 163 167 (fun o => .if_icmp .ne o) := ⟨7, by decide +kernel, rfl, by decide⟩
theorem d_M_greatest_167 : vm_D q_M_greatest.2.1 167 2 169 (.iload 4) := ⟨by decide +kernel, rfl⟩
theorem d_M_greatest_169 : vm_D q_M_greatest.2.1 169 1 170 (.ireturn) := ⟨by decide +kernel, rfl⟩
theorem d_M_greatest_163 : vm_D q_M_greatest.2.1 163 1 164 (.iload_n 3) := ⟨by decide +kernel, rfl⟩
theorem d_M_greatest_164 : ∃ off : Int, decode q_M_greatest.2.1 164 = .ok (.goto off, 3) ∧ ((164 : Nat) : Int) + off = ((169 : Nat) : Int) := ⟨5, by decide +kernel, by decide⟩
theorem d_M_greatest_154 : vm_D q_M_greatest.2.1 154 1 155 (.iload_n 2) := ⟨by decide +kernel, rfl⟩
theorem d_M_greatest_155 : ∃ off : Int, decode q_M_greatest.2.1 155 = .ok (.goto off, 3) ∧ ((155 : Nat) : Int) + off = ((169 : Nat) : Int) := ⟨14, by decide +kernel, by decide⟩
theorem d_M_greatest_19 : vm_D q_M_greatest.2.1 19 1 20 (.iconst 0) := ⟨by decide +kernel, rfl⟩
theorem d_M_greatest_15 : vm_D q_M_greatest.2.1 15 1 16 (.iconst 1) := ⟨by decide +kernel, rfl⟩
theorem d_M_greatest_16 : ∃ off : Int, decode q_M_greatest.2.1 16 = .ok (.goto off, 3) ∧ ((16 : Nat) : Int) + off = ((20 : Nat) : Int) := ⟨4, by decide +kernel, by decide⟩
def q_M_period : vm_Y := ("RepeatFreeModel", cX11_period, 1, false, [])
theorem d_M_period_0 : vm_D q_M_period.2.1 0 1 1 (.aload_n 0) := ⟨by decide +kernel, rfl⟩
theorem d_M_period_1 : vm_D q_M_period.2.1 1 1 2 (.iconst 0) := ⟨by decide +kernel, rfl⟩
theorem d_M_period_2 : vm_D q_M_period.2.1 2 3 5 (.putfield 3) := ⟨by decide +kernel, rfl⟩
theorem d_M_period_5 : vm_D q_M_period.2.1 5 1 6 (.aload_n 0) := ⟨by decide +kernel, rfl⟩
theorem d_M_period_6 : vm_D q_M_period.2.1 6 3 9 (.getfield 184) := ⟨by decide +kernel, rfl⟩
theorem d_M_period_9 : vm_B q_M_period.2.1 9 12 16 (fun o => .ifCond .ne o) := ⟨7, by decide +kernel, rfl, by decide⟩
theorem d_M_period_16 : vm_D q_M_period.2.1 16 1 17 (.aload_n 0) := ⟨by decide +kernel, rfl⟩
theorem d_M_period_17 : vm_D q_M_period.2.1 17 1 18 (.iconst 0) := ⟨by decide +kernel, rfl⟩
theorem d_M_period_18 : vm_D q_M_period.2.1 18 1 19 (.aload_n 0) := ⟨by decide +kernel, rfl⟩
theorem d_M_period_19 : vm_D q_M_period.2.1 19 3 22 (.getfield 184) := ⟨by decide +kernel, rfl⟩
theorem d_M_period_22 : vm_D q_M_period.2.1 22 3 25 (.invokevirtual 245) := ⟨by decide +kernel, rfl⟩
theorem d_M_period_25 : vm_D q_M_period.2.1 25 1 26 (.ireturn) := ⟨by decide +kernel, rfl⟩
theorem d_M_period_12 : vm_D q_M_period.2.1 12 1 13 (.iconst (-1)) := ⟨by decide +kernel, rfl⟩
theorem d_M_period_13 : ∃ off : Int, decode q_M_period.2.1 13 = .ok (.goto off, 3) ∧ ((13 : Nat) : Int) + off = ((25 : Nat) : Int) := ⟨12, by decide +kernel, by decide⟩
def q_M_border : vm_Y := ("RepeatFreeModel", cX11_border, 6, false, [])
theorem d_M_border_0 : vm_D q_M_border.2.1 0 1 1 (.aload_n 0) := ⟨by decide +kernel, rfl⟩
theorem d_M_border_1 : vm_D q_M_border.2.1 1 1 2 (.iconst 0) := ⟨by decide +kernel, rfl⟩
theorem d_M_border_2 : vm_D q_M_border.2.1 2 3 5 (.putfield 3) := ⟨by decide +kernel, rfl⟩
theorem d_M_border_5 : vm_D q_M_border.2.1 5 1 6 (.iload_n 1) := ⟨by decide +kernel, rfl⟩
theorem d_M_border_6 : vm_D q_M_border.2.1 6 1 7 (.istore_n 2) := ⟨by decide +kernel, rfl⟩
theorem d_M_border_7 : vm_D q_M_border.2.1 7 1 8 (.aload_n 0) := ⟨by decide +kernel, rfl⟩
theorem d_M_border_8 : vm_D q_M_border.2.1 8 3 11 (.getfield 184) := ⟨by decide +kernel, rfl⟩
theorem d_M_border_11 : vm_D q_M_border.2.1 11 1 12 (.iconst 1) := ⟨by decide +kernel, rfl⟩
theorem d_M_border_12 : vm_D q_M_border.2.1 12 1 13 (.isub) := ⟨by decide +kernel, rfl⟩
theorem d_M_border_13 : vm_D q_M_border.2.1 13 1 14 (.istore_n 3) := ⟨by decide +kernel, rfl⟩
theorem d_M_border_14 : vm_D q_M_border.2.1 14 1 15 (.iload_n 3) := ⟨by decide +kernel, rfl⟩
theorem d_M_border_15 : vm_B q_M_border.2.1 15 18 99 (fun o => .ifCond .le o) := ⟨84, by decide +kernel, rfl, by decide⟩
theorem d_M_border_18 : vm_D q_M_border.2.1 18 1 19 (.iload_n 1) := ⟨by decide +kernel, rfl⟩
theorem d_M_border_19 : vm_B q_M_border.2.1 19 22 99 (fun o => .ifCond .lt o) := ⟨80, by decide +kernel, rfl, by decide⟩
theorem d_M_border_22 : vm_D q_M_border.2.1 22 1 23 (.iconst 1) := ⟨by decide +kernel, rfl⟩
theorem d_M_border_23 : vm_D q_M_border.2.1 23 2 25 (.istore 4) := ⟨by decide +kernel, rfl⟩
theorem d_M_border_25 : vm_D q_M_border.2.1 25 1 26 (.iconst 0) := ⟨by decide +kernel, rfl⟩
theorem d_M_border_26 : vm_D q_M_border.2.1 26 2 28 (.istore 5) := ⟨by decide +kernel, rfl⟩
theorem d_M_border_28 : vm_D q_M_border.2.1 28 2 30 (.iload 5) := ⟨by decide +kernel, rfl⟩
theorem d_M_border_30 : vm_D q_M_border.2.1 30 1 31 (.iload_n 3) := ⟨by decide +kernel, rfl⟩
theorem d_M_border_31 : vm_B q_M_border.2.1 31 34 76 (fun o => .if_icmp .ge o) := ⟨45, by decide +kernel, rfl, by decide⟩
theorem d_M_border_34 : vm_D q_M_border.2.1 34 2 36 (.iload 4) := ⟨by decide +kernel, rfl⟩
theorem d_M_border_36 : vm_B q_M_border.2.1 36 39 76 (fun o => .ifCond .eq o) := ⟨40, by decide +kernel, rfl, by decide⟩
theorem d_M_border_39 : vm_D q_M_border.2.1 39 1 40 (.aload_n 0) := ⟨by decide +kernel, rfl⟩
theorem d_M_border_40 : vm_D q_M_border.2.1 40 3 43 (.getfield 83) := ⟨by decide +kernel, rfl⟩
theorem d_M_border_43 : vm_D q_M_border.2.1 43 2 45 (.iload 5) := ⟨by decide +kernel, rfl⟩
theorem d_M_border_45 : vm_D q_M_border.2.1 45 1 46 (.iaload) := ⟨by decide +kernel, rfl⟩
theorem d_M_border_46 : vm_D q_M_border.2.1 46 1 47 (.aload_n 0) := ⟨by decide +kernel, rfl⟩
theorem d_M_border_47 : vm_D q_M_border.2.1 47 3 50 (.getfield 83) := ⟨by decide +kernel, rfl⟩
theorem d_M_border_50 : vm_D q_M_border.2.1 50 1 51 (.aload_n 0) := ⟨by decide +kernel, rfl⟩
theorem d_M_border_51 : vm_D q_M_border.2.1 51 3 54 (.getfield 184) := ⟨by decide +kernel, rfl⟩
theorem d_M_border_54 : vm_D q_M_border.2.1 54 1 55 (.iload_n 3) := ⟨by decide +kernel, rfl⟩
theorem d_M_border_55 : vm_D q_M_border.2.1 55 1 56 (.isub) := ⟨by decide +kernel, rfl⟩
theorem d_M_border_56 : vm_D q_M_border.2.1 56 2 58 (.iload 5) := ⟨by decide +kernel, rfl⟩
theorem d_M_border_58 : vm_D q_M_border.2.1 58 1 59 (.iadd) := ⟨by decide +kernel, rfl⟩
theorem d_M_border_59 : vm_D q_M_border.2.1 59 1 60 (.iaload) := ⟨by decide +kernel, rfl⟩
theorem d_M_border_60 : vm_B q_M_border.2.1 60 63 67 (fun o => .if_icmp .ne o) := ⟨7, by decide +kernel, rfl, by decide⟩
theorem d_M_border_68 : vm_D q_M_border.2.1 68 2 70 (.istore 4) := ⟨by decide +kernel, rfl⟩
theorem d_M_border_70 : vm_D q_M_border.2.1 70 3 73 (.iinc 5 1) := ⟨by decide +kernel, rfl⟩
theorem d_M_border_73 : ∃ off : Int, decode q_M_border.2.1 73 = .ok (.goto off, 3) ∧ ((73 : Nat) : Int) + off = ((28 : Nat) : Int) := ⟨-45, by decide +kernel, by decide⟩
theorem d_M_border_67 : vm_D q_M_border.2.1 67 1 68 (.iconst 0) := ⟨by decide +kernel, rfl⟩
theorem d_M_border_63 : vm_D q_M_border.2.1 63 1 64 (.iconst 1) := ⟨by decide +kernel, rfl⟩
theorem d_M_border_64 : ∃ off : Int, decode q_M_border.2.1 64 = .ok (.goto off, 3) ∧ ((64 : Nat) : Int) + off = ((68 : Nat) : Int) := ⟨4, by decide +kernel, by decide⟩
theorem d_M_border_76 : vm_D q_M_border.2.1 76 2 78 (.iload 4) := ⟨by decide +kernel, rfl⟩
theorem d_M_border_78 : vm_B q_M_border.2.1 78 81 84 (fun o => .ifCond .ne o) := ⟨6, by decide +kernel, rfl, by decide⟩
theorem d_M_border_93 : vm_D q_M_border.2.1 93 3 96 (.iinc 3 (-1)) := ⟨by decide +kernel, rfl⟩
theorem d_M_border_96 : ∃ off : Int, decode q_M_border.2.1 96 = .ok (.goto off, 3) ∧ ((96 : Nat) : Int) + off = ((14 : Nat) : Int) := ⟨-82, by decide +kernel, by decide⟩
theorem d_M_border_84 : vm_D q_M_border.2.1 84 1 85 (.iload_n 2) := ⟨by decide +kernel, rfl⟩
theorem d_M_border_85 : vm_B q_M_border.2.1 85 88 90 (fun o => .ifCond .ne o) := ⟨5, by decide +kernel, rfl, by decide⟩
theorem d_M_border_90 : vm_D q_M_border.2.1 90 3 93 (.iinc 2 (-1)) := ⟨by decide +kernel, rfl⟩
theorem d_M_border_88 : vm_D q_M_border.2.1 88 1 89 (.iload_n 3) := ⟨by decide +kernel, rfl⟩
theorem d_M_border_89 : vm_D q_M_border.2.1 89 1 90 (.ireturn) := ⟨by decide +kernel, rfl⟩
theorem d_M_border_81 : ∃ off : Int, decode q_M_border.2.1 81 = .ok (.goto off, 3) ∧ ((81 : Nat) : Int) + off = ((93 : Nat) : Int) := ⟨12, by decide +kernel, by decide⟩
theorem d_M_border_99 : vm_D q_M_border.2.1 99 1 100 (.iconst (-1)) := ⟨by decide +kernel, rfl⟩
theorem d_M_border_100 : vm_D q_M_border.2.1 100 1 101 (.ireturn) := ⟨by decide +kernel, rfl⟩
def q_M_runAt : vm_Y := ("RepeatFreeModel", cX11_runAt, 4, false, [])
theorem d_M_runAt_0 : vm_D q_M_runAt.2.1 0 1 1 (.iload_n 1) := ⟨by decide +kernel, rfl⟩
theorem d_M_runAt_1 : vm_B q_M_runAt.2.1 1 4 39 (fun o => .ifCond .le o) := ⟨38, by decide +kernel, rfl, by decide⟩
theorem d_M_runAt_39 : vm_D q_M_runAt.2.1 39 1 40 (.iload_n 2) := ⟨by decide +kernel, rfl⟩
theorem d_M_runAt_40 : vm_D q_M_runAt.2.1 40 1 41 (.istore_n 3) := ⟨by decide +kernel, rfl⟩
theorem d_M_runAt_41 : vm_D q_M_runAt.2.1 41 1 42 (.iload_n 1) := ⟨by decide +kernel, rfl⟩
theorem d_M_runAt_42 : vm_D q_M_runAt.2.1 42 1 43 (.iload_n 3) := ⟨by decide +kernel, rfl⟩
theorem d_M_runAt_43 : vm_D q_M_runAt.2.1 43 1 44 (.iadd) := ⟨by decide +kernel, rfl⟩
theorem d_M_runAt_44 : vm_D q_M_runAt.2.1 44 1 45 (.aload_n 0) := ⟨by decide +kernel, rfl⟩
theorem d_M_runAt_45 : vm_D q_M_runAt.2.1 45 3 48 (.getfield 184) := ⟨by decide +kernel, rfl⟩
theorem d_M_runAt_48 : vm_B q_M_runAt.2.1 48 51 78 (fun o => .if_icmp .ge o) := ⟨30, by decide +kernel, rfl, by decide⟩
theorem d_M_runAt_51 : vm_D q_M_runAt.2.1 51 1 52 (.aload_n 0) := ⟨by decide +kernel, rfl⟩
theorem d_M_runAt_52 : vm_D q_M_runAt.2.1 52 3 55 (.getfield 83) := ⟨by decide +kernel, rfl⟩
theorem d_M_runAt_55 : vm_D q_M_runAt.2.1 55 1 56 (.iload_n 1) := ⟨by decide +kernel, rfl⟩
theorem d_M_runAt_56 : vm_D q_M_runAt.2.1 56 1 57 (.iload_n 3) := ⟨by decide +kernel, rfl⟩
theorem d_M_runAt_57 : vm_D q_M_runAt.2.1 57 1 58 (.iadd) := ⟨by decide +kernel, rfl⟩
theorem d_M_runAt_58 : vm_D q_M_runAt.2.1 58 1 59 (.iaload) := ⟨by decide +kernel, rfl⟩
theorem d_M_runAt_59 : vm_D q_M_runAt.2.1 59 1 60 (.aload_n 0) := ⟨by decide +kernel, rfl⟩
theorem d_M_runAt_60 : vm_D q_M_runAt.2.1 60 3 63 (.getfield 83) := ⟨by decide +kernel, rfl⟩
theorem d_M_runAt_63 : vm_D q_M_runAt.2.1 63 1 64 (.iload_n 1) := ⟨by decide +kernel, rfl⟩
theorem d_M_runAt_64 : vm_D q_M_runAt.2.1 64 1 65 (.iload_n 3) := ⟨by decide +kernel, rfl⟩
theorem d_M_runAt_65 : vm_D q_M_runAt.2.1 65 1 66 (.iadd) := ⟨by decide +kernel, rfl⟩
theorem d_M_runAt_66 : vm_D q_M_runAt.2.1 66 1 67 (.iload_n 2) := ⟨by decide +kernel, rfl⟩
theorem d_M_runAt_67 : vm_D q_M_runAt.2.1 67 1 68 (.isub) := ⟨by decide +kernel, rfl⟩
theorem d_M_runAt_68 : vm_D q_M_runAt.2.1 68 1 69 (.iaload) := ⟨by decide +kernel, rfl⟩
theorem d_M_runAt_69 : vm_B q_M_runAt.2.1 69 72 78 (fun o => .if_icmp .ne o) := ⟨9, by decide +kernel, rfl, by decide⟩
theorem d_M_runAt_72 : vm_D q_M_runAt.2.1 72 3 75 (.iinc 3 1) := ⟨by decide +kernel, rfl⟩
theorem d_M_runAt_75 : ∃ off : Int, decode q_M_runAt.2.1 75 = .ok (.goto off, 3) ∧ ((75 : Nat) : Int) + off = ((41 : Nat) : Int) := ⟨-34, by decide +kernel, by decide⟩
theorem d_M_runAt_78 : vm_D q_M_runAt.2.1 78 1 79 (.iload_n 3) := ⟨by decide +kernel, rfl⟩
theorem d_M_runAt_79 : vm_D q_M_runAt.2.1 79 1 80 (.iconst 2) := ⟨by decide +kernel, rfl⟩
theorem d_M_runAt_80 : vm_D q_M_runAt.2.1 80 1 81 (.iload_n 2) := ⟨by decide +kernel, rfl⟩
theorem d_M_runAt_81 : vm_D q_M_runAt.2.1 81 1 82 (.imul) := ⟨by decide +kernel, rfl⟩
theorem d_M_runAt_82 : vm_B q_M_runAt.2.1 82 85 99 (fun o => .if_icmp .lt o) := ⟨17, by decide +kernel, rfl, by decide⟩
theorem d_M_runAt_99 : vm_D q_M_runAt.2.1 99 1 100 (.iconst 0) := ⟨by decide +kernel, rfl⟩
theorem d_M_runAt_100 : vm_D q_M_runAt.2.1 100 1 101 (.ireturn) := ⟨by decide +kernel, rfl⟩
theorem d_M_runAt_85 : vm_D q_M_runAt.2.1 85 1 86 (.aload_n 0) := ⟨by decide +kernel, rfl⟩
theorem d_M_runAt_86 : vm_D q_M_runAt.2.1 86 1 87 (.iload_n 1) := ⟨by decide +kernel, rfl⟩
theorem d_M_runAt_87 : vm_D q_M_runAt.2.1 87 1 88 (.iload_n 3) := ⟨by decide +kernel, rfl⟩
theorem d_M_runAt_88 : vm_D q_M_runAt.2.1 88 3 91 (.invokevirtual 245) := ⟨by decide +kernel, rfl⟩
theorem d_M_runAt_91 : vm_D q_M_runAt.2.1 91 1 92 (.iload_n 2) := ⟨by decide +kernel, rfl⟩
theorem d_M_runAt_92 : vm_B q_M_runAt.2.1 92 95 99 (fun o => .if_icmp .ne o) := ⟨7, by decide +kernel, rfl, by decide⟩
theorem d_M_runAt_95 : vm_D q_M_runAt.2.1 95 1 96 (.iload_n 3) := ⟨by decide +kernel, rfl⟩
theorem d_M_runAt_96 : ∃ off : Int, decode q_M_runAt.2.1 96 = .ok (.goto off, 3) ∧ ((96 : Nat) : Int) + off = ((100 : Nat) : Int) := ⟨4, by decide +kernel, by decide⟩
theorem d_M_runAt_4 : vm_D q_M_runAt.2.1 4 1 5 (.iload_n 1) := ⟨by decide +kernel, rfl⟩
theorem d_M_runAt_5 : vm_D q_M_runAt.2.1 5 1 6 (.iload_n 2) := ⟨by decide +kernel, rfl⟩
theorem d_M_runAt_6 : vm_D q_M_runAt.2.1 6 1 7 (.iadd) := ⟨by decide +kernel, rfl⟩
theorem d_M_runAt_7 : vm_D q_M_runAt.2.1 7 1 8 (.iconst 1) := ⟨by decide +kernel, rfl⟩
theorem d_M_runAt_8 : vm_D q_M_runAt.2.1 8 1 9 (.isub) := ⟨by decide +kernel, rfl⟩
theorem d_M_runAt_9 : vm_D q_M_runAt.2.1 9 1 10 (.aload_n 0) := ⟨by decide +kernel, rfl⟩
theorem d_M_runAt_10 : vm_D q_M_runAt.2.1 10 3 13 (.getfield 184) := ⟨by decide +kernel, rfl⟩
theorem d_M_runAt_13 : vm_B q_M_runAt.2.1 13 16 39 (fun o => .if_icmp .ge o) := ⟨26, by decide +kernel, rfl, by decide⟩
theorem d_M_runAt_16 : vm_D q_M_runAt.2.1 16 1 17 (.aload_n 0) := ⟨by decide +kernel, rfl⟩
theorem d_M_runAt_17 : vm_D q_M_runAt.2.1 17 3 20 (.getfield 83) := ⟨by decide +kernel, rfl⟩
theorem d_M_runAt_20 : vm_D q_M_runAt.2.1 20 1 21 (.iload_n 1) := ⟨by decide +kernel, rfl⟩
theorem d_M_runAt_21 : vm_D q_M_runAt.2.1 21 1 22 (.iconst 1) := ⟨by decide +kernel, rfl⟩
theorem d_M_runAt_22 : vm_D q_M_runAt.2.1 22 1 23 (.isub) := ⟨by decide +kernel, rfl⟩
theorem d_M_runAt_23 : vm_D q_M_runAt.2.1 23 1 24 (.iaload) := ⟨by decide +kernel, rfl⟩
theorem d_M_runAt_24 : vm_D q_M_runAt.2.1 24 1 25 (.aload_n 0) := ⟨by decide +kernel, rfl⟩
theorem d_M_runAt_25 : vm_D q_M_runAt.2.1 25 3 28 (.getfield 83) := ⟨by decide +kernel, rfl⟩
theorem d_M_runAt_28 : vm_D q_M_runAt.2.1 28 1 29 (.iload_n 1) := ⟨by decide +kernel, rfl⟩
theorem d_M_runAt_29 : vm_D q_M_runAt.2.1 29 1 30 (.iload_n 2) := ⟨by decide +kernel, rfl⟩
theorem d_M_runAt_30 : vm_D q_M_runAt.2.1 30 1 31 (.iadd) := ⟨by decide +kernel, rfl⟩
theorem d_M_runAt_31 : vm_D q_M_runAt.2.1 31 1 32 (.iconst 1) := ⟨by decide +kernel, rfl⟩
theorem d_M_runAt_32 : vm_D q_M_runAt.2.1 32 1 33 (.isub) := ⟨by decide +kernel, rfl⟩
theorem d_M_runAt_33 : vm_D q_M_runAt.2.1 33 1 34 (.iaload) := ⟨by decide +kernel, rfl⟩
theorem d_M_runAt_34 : vm_B q_M_runAt.2.1 34 37 39 (fun o => .if_icmp .ne o) := ⟨5, by decide +kernel, rfl, by decide⟩
theorem d_M_runAt_37 : vm_D q_M_runAt.2.1 37 1 38 (.iconst 0) := ⟨by decide +kernel, rfl⟩
theorem d_M_runAt_38 : vm_D q_M_runAt.2.1 38 1 39 (.ireturn) := ⟨by decide +kernel, rfl⟩
def q_M_run : vm_Y := ("RepeatFreeModel", cX11_run, 7, false, [])
theorem d_M_run_0 : vm_D q_M_run.2.1 0 1 1 (.aload_n 0) := ⟨by decide +kernel, rfl⟩
theorem d_M_run_1 : vm_D q_M_run.2.1 1 1 2 (.iconst 0) := ⟨by decide +kernel, rfl⟩
theorem d_M_run_2 : vm_D q_M_run.2.1 2 3 5 (.putfield 3) := ⟨by decide +kernel, rfl⟩
theorem d_M_run_5 : vm_D q_M_run.2.1 5 1 6 (.aload_n 0) := ⟨by decide +kernel, rfl⟩
theorem d_M_run_6 : vm_D q_M_run.2.1 6 1 7 (.iload_n 2) := ⟨by decide +kernel, rfl⟩
theorem d_M_run_7 : vm_D q_M_run.2.1 7 1 8 (.iconst 0) := ⟨by decide +kernel, rfl⟩
theorem d_M_run_8 : vm_D q_M_run.2.1 8 1 9 (.iconst 2) := ⟨by decide +kernel, rfl⟩
theorem d_M_run_9 : vm_D q_M_run.2.1 9 3 12 (.invokestatic 65) := ⟨by decide +kernel, rfl⟩
theorem d_M_run_12 : vm_B q_M_run.2.1 12 15 19 (fun o => .ifCond .ne o) := ⟨7, by decide +kernel, rfl, by decide⟩
theorem d_M_run_20 : vm_D q_M_run.2.1 20 1 21 (.iconst 1) := ⟨by decide +kernel, rfl⟩
theorem d_M_run_21 : vm_D q_M_run.2.1 21 3 24 (.invokevirtual 180) := ⟨by decide +kernel, rfl⟩
theorem d_M_run_24 : vm_B q_M_run.2.1 24 27 29 (fun o => .ifCond .eq o) := ⟨5, by decide +kernel, rfl, by decide⟩
theorem d_M_run_29 : vm_D q_M_run.2.1 29 1 30 (.iconst 0) := ⟨by decide +kernel, rfl⟩
theorem d_M_run_30 : vm_D q_M_run.2.1 30 1 31 (.istore_n 3) := ⟨by decide +kernel, rfl⟩
theorem d_M_run_31 : vm_D q_M_run.2.1 31 1 32 (.iconst 0) := ⟨by decide +kernel, rfl⟩
theorem d_M_run_32 : vm_D q_M_run.2.1 32 2 34 (.istore 4) := ⟨by decide +kernel, rfl⟩
theorem d_M_run_34 : vm_D q_M_run.2.1 34 2 36 (.iload 4) := ⟨by decide +kernel, rfl⟩
theorem d_M_run_36 : vm_D q_M_run.2.1 36 1 37 (.aload_n 0) := ⟨by decide +kernel, rfl⟩
theorem d_M_run_37 : vm_D q_M_run.2.1 37 3 40 (.getfield 184) := ⟨by decide +kernel, rfl⟩
theorem d_M_run_40 : vm_B q_M_run.2.1 40 43 120 (fun o => .if_icmp .ge o) := ⟨80, by decide +kernel, rfl, by decide⟩
theorem d_M_run_43 : vm_D q_M_run.2.1 43 1 44 (.iconst 1) := ⟨by decide +kernel, rfl⟩
theorem d_M_run_44 : vm_D q_M_run.2.1 44 2 46 (.istore 5) := ⟨by decide +kernel, rfl⟩
theorem d_M_run_46 : vm_D q_M_run.2.1 46 1 47 (.iconst 2) := ⟨by decide +kernel, rfl⟩
theorem d_M_run_47 : vm_D q_M_run.2.1 47 2 49 (.iload 5) := ⟨by decide +kernel, rfl⟩
theorem d_M_run_49 : vm_D q_M_run.2.1 49 1 50 (.imul) := ⟨by decide +kernel, rfl⟩
theorem d_M_run_50 : vm_D q_M_run.2.1 50 1 51 (.aload_n 0) := ⟨by decide +kernel, rfl⟩
theorem d_M_run_51 : vm_D q_M_run.2.1 51 3 54 (.getfield 184) := ⟨by decide +kernel, rfl⟩
theorem d_M_run_54 : vm_D q_M_run.2.1 54 2 56 (.iload 4) := ⟨by decide +kernel, rfl⟩
theorem d_M_run_56 : vm_D q_M_run.2.1 56 1 57 (.isub) := ⟨by decide +kernel, rfl⟩
theorem d_M_run_57 : vm_B q_M_run.2.1 57 60 114 (fun o => .if_icmp .gt o) := ⟨57, by decide +kernel, rfl, by decide⟩
theorem d_M_run_60 : vm_D q_M_run.2.1 60 1 61 (.aload_n 0) := ⟨by decide +kernel, rfl⟩
theorem d_M_run_61 : vm_D q_M_run.2.1 61 2 63 (.iload 4) := ⟨by decide +kernel, rfl⟩
theorem d_M_run_63 : vm_D q_M_run.2.1 63 2 65 (.iload 5) := ⟨by decide +kernel, rfl⟩
theorem d_M_run_65 : vm_D q_M_run.2.1 65 3 68 (.invokevirtual 248) := ⟨by decide +kernel, rfl⟩
theorem d_M_run_68 : vm_D q_M_run.2.1 68 2 70 (.istore 6) := ⟨by decide +kernel, rfl⟩
theorem d_M_run_70 : vm_D q_M_run.2.1 70 2 72 (.iload 6) := ⟨by decide +kernel, rfl⟩
theorem d_M_run_72 : vm_B q_M_run.2.1 72 75 78 (fun o => .ifCond .ne o) := ⟨6, by decide +kernel, rfl, by decide⟩
theorem d_M_run_108 : vm_D q_M_run.2.1 108 3 111 (.iinc 5 1) := ⟨by decide +kernel, rfl⟩
theorem d_M_run_111 : ∃ off : Int, decode q_M_run.2.1 111 = .ok (.goto off, 3) ∧ ((111 : Nat) : Int) + off = ((46 : Nat) : Int) := ⟨-65, by decide +kernel, by decide⟩
theorem d_M_run_78 : vm_D q_M_run.2.1 78 1 79 (.iload_n 3) := ⟨by decide +kernel, rfl⟩
theorem d_M_run_79 : vm_D q_M_run.2.1 79 1 80 (.iload_n 1) := ⟨by decide +kernel, rfl⟩
theorem d_M_run_80 : vm_B q_M_run.2.1 80 83 105 (fun o => .if_icmp .ne o) := ⟨25, by decide +kernel, rfl, by decide⟩
theorem d_M_run_105 : vm_D q_M_run.2.1 105 3 108 (.iinc 3 1) := ⟨by decide +kernel, rfl⟩
theorem d_M_run_83 : vm_D q_M_run.2.1 83 1 84 (.iload_n 2) := ⟨by decide +kernel, rfl⟩
theorem d_M_run_84 : vm_B q_M_run.2.1 84 87 92 (fun o => .ifCond .ne o) := ⟨8, by decide +kernel, rfl, by decide⟩
theorem d_M_run_92 : vm_D q_M_run.2.1 92 1 93 (.iload_n 2) := ⟨by decide +kernel, rfl⟩
theorem d_M_run_93 : vm_D q_M_run.2.1 93 1 94 (.iconst 1) := ⟨by decide +kernel, rfl⟩
theorem d_M_run_94 : vm_B q_M_run.2.1 94 97 102 (fun o => .if_icmp .ne o) := ⟨8, by decide +kernel, rfl, by decide⟩
theorem d_M_run_102 : vm_D q_M_run.2.1 102 2 104 (.iload 5) := ⟨by decide +kernel, rfl⟩
theorem d_M_run_104 : vm_D q_M_run.2.1 104 1 105 (.ireturn) := ⟨by decide +kernel, rfl⟩
theorem d_M_run_97 : vm_D q_M_run.2.1 97 2 99 (.iload 6) := ⟨by decide +kernel, rfl⟩
theorem d_M_run_99 : ∃ off : Int, decode q_M_run.2.1 99 = .ok (.goto off, 3) ∧ ((99 : Nat) : Int) + off = ((104 : Nat) : Int) := ⟨5, by decide +kernel, by decide⟩
theorem d_M_run_87 : vm_D q_M_run.2.1 87 2 89 (.iload 4) := ⟨by decide +kernel, rfl⟩
theorem d_M_run_89 : ∃ off : Int, decode q_M_run.2.1 89 = .ok (.goto off, 3) ∧ ((89 : Nat) : Int) + off = ((104 : Nat) : Int) := ⟨15, by decide +kernel, by decide⟩
theorem d_M_run_75 : ∃ off : Int, decode q_M_run.2.1 75 = .ok (.goto off, 3) ∧ ((75 : Nat) : Int) + off = ((108 : Nat) : Int) := ⟨33, by decide +kernel, by decide⟩
theorem d_M_run_114 : vm_D q_M_run.2.1 114 3 117 (.iinc 4 1) := ⟨by decide +kernel, rfl⟩
theorem d_M_run_117 : ∃ off : Int, decode q_M_run.2.1 117 = .ok (.goto off, 3) ∧ ((117 : Nat) : Int) + off = ((34 : Nat) : Int) := ⟨-83, by decide +kernel, by decide⟩
theorem d_M_run_120 : vm_D q_M_run.2.1 120 1 121 (.iload_n 1) := ⟨by decide +kernel, rfl⟩
theorem d_M_run_121 : vm_D q_M_run.2.1 121 1 122 (.iconst (-1)) := ⟨by decide +kernel, rfl⟩
theorem d_M_run_122 : vm_B q_M_run.2.1 122 125 129 (fun o => .if_icmp .ne o) := ⟨7, by decide +kernel, rfl, by decide⟩
theorem d_M_run_129 : vm_D q_M_run.2.1 129 1 130 (.iconst (-1)) := ⟨by decide +kernel, rfl⟩
theorem d_M_run_130 : vm_D q_M_run.2.1 130 1 131 (.ireturn) := ⟨by decide +kernel, rfl⟩
theorem d_M_run_125 : vm_D q_M_run.2.1 125 1 126 (.iload_n 3) := ⟨by decide +kernel, rfl⟩
theorem d_M_run_126 : ∃ off : Int, decode q_M_run.2.1 126 = .ok (.goto off, 3) ∧ ((126 : Nat) : Int) + off = ((130 : Nat) : Int) := ⟨4, by decide +kernel, by decide⟩
theorem d_M_run_27 : vm_D q_M_run.2.1 27 1 28 (.iconst 0) := ⟨by decide +kernel, rfl⟩
theorem d_M_run_28 : vm_D q_M_run.2.1 28 1 29 (.ireturn) := ⟨by decide +kernel, rfl⟩
theorem d_M_run_19 : vm_D q_M_run.2.1 19 1 20 (.iconst 0) := ⟨by decide +kernel, rfl⟩
theorem d_M_run_15 : vm_D q_M_run.2.1 15 1 16 (.iconst 1) := ⟨by decide +kernel, rfl⟩
theorem d_M_run_16 : ∃ off : Int, decode q_M_run.2.1 16 = .ok (.goto off, 3) ∧ ((16 : Nat) : Int) + off = ((20 : Nat) : Int) := ⟨4, by decide +kernel, by decide⟩
def q_M_areAlike : vm_Y := ("RepeatFreeModel", cX11_areAlike, 5, false, [])
theorem d_M_areAlike_0 : vm_D q_M_areAlike.2.1 0 1 1 (.iconst 0) := ⟨by decide +kernel, rfl⟩
theorem d_M_areAlike_1 : vm_D q_M_areAlike.2.1 1 2 3 (.istore 4) := ⟨by decide +kernel, rfl⟩
theorem d_M_areAlike_3 : vm_D q_M_areAlike.2.1 3 2 5 (.iload 4) := ⟨by decide +kernel, rfl⟩
theorem d_M_areAlike_5 : vm_D q_M_areAlike.2.1 5 1 6 (.iload_n 3) := ⟨by decide +kernel, rfl⟩
theorem d_M_areAlike_6 : vm_B q_M_areAlike.2.1 6 9 38 (fun o => .if_icmp .ge o) := ⟨32, by decide +kernel, rfl, by decide⟩
theorem d_M_areAlike_9 : vm_D q_M_areAlike.2.1 9 1 10 (.aload_n 0) := ⟨by decide +kernel, rfl⟩
theorem d_M_areAlike_10 : vm_D q_M_areAlike.2.1 10 3 13 (.getfield 83) := ⟨by decide +kernel, rfl⟩
theorem d_M_areAlike_13 : vm_D q_M_areAlike.2.1 13 1 14 (.iload_n 1) := ⟨by decide +kernel, rfl⟩
theorem d_M_areAlike_14 : vm_D q_M_areAlike.2.1 14 2 16 (.iload 4) := ⟨by decide +kernel, rfl⟩
theorem d_M_areAlike_16 : vm_D q_M_areAlike.2.1 16 1 17 (.iadd) := ⟨by decide +kernel, rfl⟩
theorem d_M_areAlike_17 : vm_D q_M_areAlike.2.1 17 1 18 (.iaload) := ⟨by decide +kernel, rfl⟩
theorem d_M_areAlike_18 : vm_D q_M_areAlike.2.1 18 1 19 (.aload_n 0) := ⟨by decide +kernel, rfl⟩
theorem d_M_areAlike_19 : vm_D q_M_areAlike.2.1 19 3 22 (.getfield 83) := ⟨by decide +kernel, rfl⟩
theorem d_M_areAlike_22 : vm_D q_M_areAlike.2.1 22 1 23 (.iload_n 2) := ⟨by decide +kernel, rfl⟩
theorem d_M_areAlike_23 : vm_D q_M_areAlike.2.1 23 2 25 (.iload 4) := ⟨by decide +kernel, rfl⟩
theorem d_M_areAlike_25 : vm_D q_M_areAlike.2.1 25 1 26 (.iadd) := ⟨by decide +kernel, rfl⟩
theorem d_M_areAlike_26 : vm_D q_M_areAlike.2.1 26 1 27 (.iaload) := ⟨by decide +kernel, rfl⟩
theorem d_M_areAlike_27 : vm_B q_M_areAlike.2.1 27 30 32 (fun o => .if_icmp .eq o) := ⟨5, by decide +kernel, rfl, by decide⟩
theorem d_M_areAlike_32 : vm_D q_M_areAlike.2.1 32 3 35 (.iinc 4 1) := ⟨by decide +kernel, rfl⟩
theorem d_M_areAlike_35 : ∃ off : Int, decode q_M_areAlike.2.1 35 = .ok (.goto off, 3) ∧ ((35 : Nat) : Int) + off = ((3 : Nat) : Int) := ⟨-32, by decide +kernel, by decide⟩
theorem d_M_areAlike_30 : vm_D q_M_areAlike.2.1 30 1 31 (.iconst 0) := ⟨by decide +kernel, rfl⟩
theorem d_M_areAlike_31 : vm_D q_M_areAlike.2.1 31 1 32 (.ireturn) := ⟨by decide +kernel, rfl⟩
theorem d_M_areAlike_38 : vm_D q_M_areAlike.2.1 38 1 39 (.iconst 1) := ⟨by decide +kernel, rfl⟩
theorem d_M_areAlike_39 : vm_D q_M_areAlike.2.1 39 1 40 (.ireturn) := ⟨by decide +kernel, rfl⟩
def q_M_factors : vm_Y := ("RepeatFreeModel", cX11_factors, 6, false, [])
theorem d_M_factors_0 : vm_D q_M_factors.2.1 0 1 1 (.aload_n 0) := ⟨by decide +kernel, rfl⟩
theorem d_M_factors_1 : vm_D q_M_factors.2.1 1 1 2 (.iconst 0) := ⟨by decide +kernel, rfl⟩
theorem d_M_factors_2 : vm_D q_M_factors.2.1 2 3 5 (.putfield 3) := ⟨by decide +kernel, rfl⟩
theorem d_M_factors_5 : vm_D q_M_factors.2.1 5 1 6 (.aload_n 0) := ⟨by decide +kernel, rfl⟩
theorem d_M_factors_6 : vm_D q_M_factors.2.1 6 1 7 (.iload_n 1) := ⟨by decide +kernel, rfl⟩
theorem d_M_factors_7 : vm_D q_M_factors.2.1 7 1 8 (.iconst 1) := ⟨by decide +kernel, rfl⟩
theorem d_M_factors_8 : vm_D q_M_factors.2.1 8 2 10 (.bipush 64) := ⟨by decide +kernel, rfl⟩
theorem d_M_factors_10 : vm_D q_M_factors.2.1 10 3 13 (.invokestatic 65) := ⟨by decide +kernel, rfl⟩
theorem d_M_factors_13 : vm_B q_M_factors.2.1 13 16 20 (fun o => .ifCond .ne o) := ⟨7, by decide +kernel, rfl, by decide⟩
theorem d_M_factors_21 : vm_D q_M_factors.2.1 21 1 22 (.iconst 1) := ⟨by decide +kernel, rfl⟩
theorem d_M_factors_22 : vm_D q_M_factors.2.1 22 3 25 (.invokevirtual 180) := ⟨by decide +kernel, rfl⟩
theorem d_M_factors_25 : vm_B q_M_factors.2.1 25 28 30 (fun o => .ifCond .eq o) := ⟨5, by decide +kernel, rfl, by decide⟩
theorem d_M_factors_30 : vm_D q_M_factors.2.1 30 1 31 (.iconst 0) := ⟨by decide +kernel, rfl⟩
theorem d_M_factors_31 : vm_D q_M_factors.2.1 31 1 32 (.istore_n 2) := ⟨by decide +kernel, rfl⟩
theorem d_M_factors_32 : vm_D q_M_factors.2.1 32 1 33 (.iconst 0) := ⟨by decide +kernel, rfl⟩
theorem d_M_factors_33 : vm_D q_M_factors.2.1 33 1 34 (.istore_n 3) := ⟨by decide +kernel, rfl⟩
theorem d_M_factors_34 : vm_D q_M_factors.2.1 34 1 35 (.iload_n 3) := ⟨by decide +kernel, rfl⟩
theorem d_M_factors_35 : vm_D q_M_factors.2.1 35 1 36 (.iload_n 1) := ⟨by decide +kernel, rfl⟩
theorem d_M_factors_36 : vm_D q_M_factors.2.1 36 1 37 (.iadd) := ⟨by decide +kernel, rfl⟩
theorem d_M_factors_37 : vm_D q_M_factors.2.1 37 1 38 (.aload_n 0) := ⟨by decide +kernel, rfl⟩
theorem d_M_factors_38 : vm_D q_M_factors.2.1 38 3 41 (.getfield 184) := ⟨by decide +kernel, rfl⟩
theorem d_M_factors_41 : vm_B q_M_factors.2.1 41 44 104 (fun o => .if_icmp .gt o) := ⟨63, by decide +kernel, rfl, by decide⟩
theorem d_M_factors_44 : vm_D q_M_factors.2.1 44 1 45 (.iconst 0) := ⟨by decide +kernel, rfl⟩
theorem d_M_factors_45 : vm_D q_M_factors.2.1 45 2 47 (.istore 4) := ⟨by decide +kernel, rfl⟩
theorem d_M_factors_47 : vm_D q_M_factors.2.1 47 1 48 (.iconst 0) := ⟨by decide +kernel, rfl⟩
theorem d_M_factors_48 : vm_D q_M_factors.2.1 48 2 50 (.istore 5) := ⟨by decide +kernel, rfl⟩
theorem d_M_factors_50 : vm_D q_M_factors.2.1 50 2 52 (.iload 5) := ⟨by decide +kernel, rfl⟩
theorem d_M_factors_52 : vm_D q_M_factors.2.1 52 1 53 (.iload_n 3) := ⟨by decide +kernel, rfl⟩
theorem d_M_factors_53 : vm_B q_M_factors.2.1 53 56 85 (fun o => .if_icmp .ge o) := ⟨32, by decide +kernel, rfl, by decide⟩
theorem d_M_factors_56 : vm_D q_M_factors.2.1 56 2 58 (.iload 4) := ⟨by decide +kernel, rfl⟩
theorem d_M_factors_58 : vm_B q_M_factors.2.1 58 61 72 (fun o => .ifCond .ne o) := ⟨14, by decide +kernel, rfl, by decide⟩
theorem d_M_factors_77 : vm_D q_M_factors.2.1 77 2 79 (.istore 4) := ⟨by decide +kernel, rfl⟩
theorem d_M_factors_79 : vm_D q_M_factors.2.1 79 3 82 (.iinc 5 1) := ⟨by decide +kernel, rfl⟩
theorem d_M_factors_82 : ∃ off : Int, decode q_M_factors.2.1 82 = .ok (.goto off, 3) ∧ ((82 : Nat) : Int) + off = ((50 : Nat) : Int) := ⟨-32, by decide +kernel, by decide⟩
theorem d_M_factors_72 : vm_D q_M_factors.2.1 72 1 73 (.iconst 1) := ⟨by decide +kernel, rfl⟩
theorem d_M_factors_73 : ∃ off : Int, decode q_M_factors.2.1 73 = .ok (.goto off, 3) ∧ ((73 : Nat) : Int) + off = ((77 : Nat) : Int) := ⟨4, by decide +kernel, by decide⟩
theorem d_M_factors_61 : vm_D q_M_factors.2.1 61 1 62 (.aload_n 0) := ⟨by decide +kernel, rfl⟩
theorem d_M_factors_62 : vm_D q_M_factors.2.1 62 1 63 (.iload_n 3) := ⟨by decide +kernel, rfl⟩
theorem d_M_factors_63 : vm_D q_M_factors.2.1 63 2 65 (.iload 5) := ⟨by decide +kernel, rfl⟩
theorem d_M_factors_65 : vm_D q_M_factors.2.1 65 1 66 (.iload_n 1) := ⟨by decide +kernel, rfl⟩
theorem d_M_factors_66 : vm_D q_M_factors.2.1 66 3 69 (.invokevirtual 251) := ⟨by decide +kernel, rfl⟩
theorem d_M_factors_69 : vm_B q_M_factors.2.1 69 72 76 (fun o => .ifCond .eq o) := ⟨7, by decide +kernel, rfl, by decide⟩
theorem d_M_factors_76 : vm_D q_M_factors.2.1 76 1 77 (.iconst 0) := ⟨by decide +kernel, rfl⟩
theorem d_M_factors_85 : vm_D q_M_factors.2.1 85 1 86 (.iload_n 2) := ⟨by decide +kernel, rfl⟩
theorem d_M_factors_86 : vm_D q_M_factors.2.1 86 2 88 (.iload 4) := ⟨by decide +kernel, rfl⟩
theorem d_M_factors_88 : vm_B q_M_factors.2.1 88 91 95 (fun o => .ifCond .eq o) := ⟨7, by decide +kernel, rfl, by decide⟩
theorem d_M_factors_96 : vm_D q_M_factors.2.1 96 1 97 (.iadd) := ⟨by decide +kernel, rfl⟩
theorem d_M_factors_97 : vm_D q_M_factors.2.1 97 1 98 (.istore_n 2) := ⟨by decide +kernel, rfl⟩
theorem d_M_factors_98 : vm_D q_M_factors.2.1 98 3 101 (.iinc 3 1) := ⟨by decide +kernel, rfl⟩
theorem d_M_factors_101 : ∃ off : Int, decode q_M_factors.2.1 101 = .ok (.goto off, 3) ∧ ((101 : Nat) : Int) + off = ((34 : Nat) : Int) := ⟨-67, by decide +kernel, by decide⟩
theorem d_M_factors_95 : vm_D q_M_factors.2.1 95 1 96 (.iconst 1) := ⟨by decide +kernel, rfl⟩
theorem d_M_factors_91 : vm_D q_M_factors.2.1 91 1 92 (.iconst 0) := ⟨by decide +kernel, rfl⟩
theorem d_M_factors_92 : ∃ off : Int, decode q_M_factors.2.1 92 = .ok (.goto off, 3) ∧ ((92 : Nat) : Int) + off = ((96 : Nat) : Int) := ⟨4, by decide +kernel, by decide⟩
theorem d_M_factors_104 : vm_D q_M_factors.2.1 104 1 105 (.iload_n 2) := ⟨by decide +kernel, rfl⟩
theorem d_M_factors_105 : vm_D q_M_factors.2.1 105 1 106 (.ireturn) := ⟨by decide +kernel, rfl⟩
theorem d_M_factors_28 : vm_D q_M_factors.2.1 28 1 29 (.iconst 0) := ⟨by decide +kernel, rfl⟩
theorem d_M_factors_29 : vm_D q_M_factors.2.1 29 1 30 (.ireturn) := ⟨by decide +kernel, rfl⟩
theorem d_M_factors_20 : vm_D q_M_factors.2.1 20 1 21 (.iconst 0) := ⟨by decide +kernel, rfl⟩
theorem d_M_factors_16 : vm_D q_M_factors.2.1 16 1 17 (.iconst 1) := ⟨by decide +kernel, rfl⟩
theorem d_M_factors_17 : ∃ off : Int, decode q_M_factors.2.1 17 = .ok (.goto off, 3) ∧ ((17 : Nat) : Int) + off = ((21 : Nat) : Int) := ⟨4, by decide +kernel, by decide⟩
def q_M_mirror : vm_Y := ("RepeatFreeModel", cX11_mirror, 5, false, [])
theorem d_M_mirror_0 : vm_D q_M_mirror.2.1 0 1 1 (.aload_n 0) := ⟨by decide +kernel, rfl⟩
theorem d_M_mirror_1 : vm_D q_M_mirror.2.1 1 1 2 (.iconst 0) := ⟨by decide +kernel, rfl⟩
theorem d_M_mirror_2 : vm_D q_M_mirror.2.1 2 3 5 (.putfield 3) := ⟨by decide +kernel, rfl⟩
theorem d_M_mirror_5 : vm_D q_M_mirror.2.1 5 1 6 (.iconst 0) := ⟨by decide +kernel, rfl⟩
theorem d_M_mirror_6 : vm_D q_M_mirror.2.1 6 1 7 (.istore_n 1) := ⟨by decide +kernel, rfl⟩
theorem d_M_mirror_7 : vm_D q_M_mirror.2.1 7 1 8 (.iconst 0) := ⟨by decide +kernel, rfl⟩
theorem d_M_mirror_8 : vm_D q_M_mirror.2.1 8 1 9 (.istore_n 2) := ⟨by decide +kernel, rfl⟩
theorem d_M_mirror_9 : vm_D q_M_mirror.2.1 9 1 10 (.iload_n 2) := ⟨by decide +kernel, rfl⟩
theorem d_M_mirror_10 : vm_D q_M_mirror.2.1 10 1 11 (.aload_n 0) := ⟨by decide +kernel, rfl⟩
theorem d_M_mirror_11 : vm_D q_M_mirror.2.1 11 3 14 (.getfield 184) := ⟨by decide +kernel, rfl⟩
theorem d_M_mirror_14 : vm_B q_M_mirror.2.1 14 17 101 (fun o => .if_icmp .ge o) := ⟨87, by decide +kernel, rfl, by decide⟩
theorem d_M_mirror_17 : vm_D q_M_mirror.2.1 17 1 18 (.iload_n 2) := ⟨by decide +kernel, rfl⟩
theorem d_M_mirror_18 : vm_D q_M_mirror.2.1 18 1 19 (.istore_n 3) := ⟨by decide +kernel, rfl⟩
theorem d_M_mirror_19 : vm_D q_M_mirror.2.1 19 1 20 (.iload_n 3) := ⟨by decide +kernel, rfl⟩
theorem d_M_mirror_20 : vm_D q_M_mirror.2.1 20 1 21 (.aload_n 0) := ⟨by decide +kernel, rfl⟩
theorem d_M_mirror_21 : vm_D q_M_mirror.2.1 21 3 24 (.getfield 184) := ⟨by decide +kernel, rfl⟩
theorem d_M_mirror_24 : vm_B q_M_mirror.2.1 24 27 95 (fun o => .if_icmp .ge o) := ⟨71, by decide +kernel, rfl, by decide⟩
theorem d_M_mirror_27 : vm_D q_M_mirror.2.1 27 1 28 (.iconst 0) := ⟨by decide +kernel, rfl⟩
theorem d_M_mirror_28 : vm_D q_M_mirror.2.1 28 2 30 (.istore 4) := ⟨by decide +kernel, rfl⟩
theorem d_M_mirror_30 : vm_D q_M_mirror.2.1 30 1 31 (.iload_n 2) := ⟨by decide +kernel, rfl⟩
theorem d_M_mirror_31 : vm_D q_M_mirror.2.1 31 2 33 (.iload 4) := ⟨by decide +kernel, rfl⟩
theorem d_M_mirror_33 : vm_D q_M_mirror.2.1 33 1 34 (.iadd) := ⟨by decide +kernel, rfl⟩
theorem d_M_mirror_34 : vm_D q_M_mirror.2.1 34 1 35 (.iload_n 3) := ⟨by decide +kernel, rfl⟩
theorem d_M_mirror_35 : vm_D q_M_mirror.2.1 35 2 37 (.iload 4) := ⟨by decide +kernel, rfl⟩
theorem d_M_mirror_37 : vm_D q_M_mirror.2.1 37 1 38 (.isub) := ⟨by decide +kernel, rfl⟩
theorem d_M_mirror_38 : vm_B q_M_mirror.2.1 38 41 68 (fun o => .if_icmp .ge o) := ⟨30, by decide +kernel, rfl, by decide⟩
theorem d_M_mirror_41 : vm_D q_M_mirror.2.1 41 1 42 (.aload_n 0) := ⟨by decide +kernel, rfl⟩
theorem d_M_mirror_42 : vm_D q_M_mirror.2.1 42 3 45 (.getfield 83) := ⟨by decide +kernel, rfl⟩
theorem d_M_mirror_45 : vm_D q_M_mirror.2.1 45 1 46 (.iload_n 2) := ⟨by decide +kernel, rfl⟩
theorem d_M_mirror_46 : vm_D q_M_mirror.2.1 46 2 48 (.iload 4) := ⟨by decide +kernel, rfl⟩
theorem d_M_mirror_48 : vm_D q_M_mirror.2.1 48 1 49 (.iadd) := ⟨by decide +kernel, rfl⟩
theorem d_M_mirror_49 : vm_D q_M_mirror.2.1 49 1 50 (.iaload) := ⟨by decide +kernel, rfl⟩
theorem d_M_mirror_50 : vm_D q_M_mirror.2.1 50 1 51 (.aload_n 0) := ⟨by decide +kernel, rfl⟩
theorem d_M_mirror_51 : vm_D q_M_mirror.2.1 51 3 54 (.getfield 83) := ⟨by decide +kernel, rfl⟩
theorem d_M_mirror_54 : vm_D q_M_mirror.2.1 54 1 55 (.iload_n 3) := ⟨by decide +kernel, rfl⟩
theorem d_M_mirror_55 : vm_D q_M_mirror.2.1 55 2 57 (.iload 4) := ⟨by decide +kernel, rfl⟩
theorem d_M_mirror_57 : vm_D q_M_mirror.2.1 57 1 58 (.isub) := ⟨by decide +kernel, rfl⟩
theorem d_M_mirror_58 : vm_D q_M_mirror.2.1 58 1 59 (.iaload) := ⟨by decide +kernel, rfl⟩
theorem d_M_mirror_59 : vm_B q_M_mirror.2.1 59 62 68 (fun o => .if_icmp .ne o) := ⟨9, by decide +kernel, rfl, by decide⟩
theorem d_M_mirror_62 : vm_D q_M_mirror.2.1 62 3 65 (.iinc 4 1) := ⟨by decide +kernel, rfl⟩
theorem d_M_mirror_65 : ∃ off : Int, decode q_M_mirror.2.1 65 = .ok (.goto off, 3) ∧ ((65 : Nat) : Int) + off = ((30 : Nat) : Int) := ⟨-35, by decide +kernel, by decide⟩
theorem d_M_mirror_68 : vm_D q_M_mirror.2.1 68 1 69 (.iload_n 2) := ⟨by decide +kernel, rfl⟩
theorem d_M_mirror_69 : vm_D q_M_mirror.2.1 69 2 71 (.iload 4) := ⟨by decide +kernel, rfl⟩
theorem d_M_mirror_71 : vm_D q_M_mirror.2.1 71 1 72 (.iadd) := ⟨by decide +kernel, rfl⟩
theorem d_M_mirror_72 : vm_D q_M_mirror.2.1 72 1 73 (.iload_n 3) := ⟨by decide +kernel, rfl⟩
theorem d_M_mirror_73 : vm_D q_M_mirror.2.1 73 2 75 (.iload 4) := ⟨by decide +kernel, rfl⟩
theorem d_M_mirror_75 : vm_D q_M_mirror.2.1 75 1 76 (.isub) := ⟨by decide +kernel, rfl⟩
theorem d_M_mirror_76 : vm_B q_M_mirror.2.1 76 79 89 (fun o => .if_icmp .lt o) := ⟨13, by decide +kernel, rfl, by decide⟩
theorem d_M_mirror_89 : vm_D q_M_mirror.2.1 89 3 92 (.iinc 3 1) := ⟨by decide +kernel, rfl⟩
theorem d_M_mirror_92 : ∃ off : Int, decode q_M_mirror.2.1 92 = .ok (.goto off, 3) ∧ ((92 : Nat) : Int) + off = ((19 : Nat) : Int) := ⟨-73, by decide +kernel, by decide⟩
theorem d_M_mirror_79 : vm_D q_M_mirror.2.1 79 1 80 (.iload_n 1) := ⟨by decide +kernel, rfl⟩
theorem d_M_mirror_80 : vm_D q_M_mirror.2.1 80 1 81 (.iload_n 3) := ⟨by decide +kernel, rfl⟩
theorem d_M_mirror_81 : vm_D q_M_mirror.2.1 81 1 82 (.iload_n 2) := ⟨by decide +kernel, rfl⟩
theorem d_M_mirror_82 : vm_D q_M_mirror.2.1 82 1 83 (.isub) := ⟨by decide +kernel, rfl⟩
theorem d_M_mirror_83 : vm_D q_M_mirror.2.1 83 1 84 (.iconst 1) := ⟨by decide +kernel, rfl⟩
theorem d_M_mirror_84 : vm_D q_M_mirror.2.1 84 1 85 (.iadd) := ⟨by decide +kernel, rfl⟩
theorem d_M_mirror_85 : vm_D q_M_mirror.2.1 85 3 88 (.invokestatic 254) := ⟨by decide +kernel, rfl⟩
theorem d_M_mirror_88 : vm_D q_M_mirror.2.1 88 1 89 (.istore_n 1) := ⟨by decide +kernel, rfl⟩
theorem d_M_mirror_95 : vm_D q_M_mirror.2.1 95 3 98 (.iinc 2 1) := ⟨by decide +kernel, rfl⟩
theorem d_M_mirror_98 : ∃ off : Int, decode q_M_mirror.2.1 98 = .ok (.goto off, 3) ∧ ((98 : Nat) : Int) + off = ((9 : Nat) : Int) := ⟨-89, by decide +kernel, by decide⟩
theorem d_M_mirror_101 : vm_D q_M_mirror.2.1 101 1 102 (.iload_n 1) := ⟨by decide +kernel, rfl⟩
theorem d_M_mirror_102 : vm_D q_M_mirror.2.1 102 1 103 (.ireturn) := ⟨by decide +kernel, rfl⟩
def q_M_lyndon : vm_Y := ("RepeatFreeModel", cX11_lyndon, 7, false, [])
theorem d_M_lyndon_0 : vm_D q_M_lyndon.2.1 0 1 1 (.aload_n 0) := ⟨by decide +kernel, rfl⟩
theorem d_M_lyndon_1 : vm_D q_M_lyndon.2.1 1 1 2 (.iconst 0) := ⟨by decide +kernel, rfl⟩
theorem d_M_lyndon_2 : vm_D q_M_lyndon.2.1 2 3 5 (.putfield 3) := ⟨by decide +kernel, rfl⟩
theorem d_M_lyndon_5 : vm_D q_M_lyndon.2.1 5 1 6 (.iconst 0) := ⟨by decide +kernel, rfl⟩
theorem d_M_lyndon_6 : vm_D q_M_lyndon.2.1 6 1 7 (.istore_n 2) := ⟨by decide +kernel, rfl⟩
theorem d_M_lyndon_7 : vm_D q_M_lyndon.2.1 7 1 8 (.iconst 0) := ⟨by decide +kernel, rfl⟩
theorem d_M_lyndon_8 : vm_D q_M_lyndon.2.1 8 1 9 (.istore_n 3) := ⟨by decide +kernel, rfl⟩
theorem d_M_lyndon_9 : vm_D q_M_lyndon.2.1 9 1 10 (.iload_n 3) := ⟨by decide +kernel, rfl⟩
theorem d_M_lyndon_10 : vm_D q_M_lyndon.2.1 10 1 11 (.aload_n 0) := ⟨by decide +kernel, rfl⟩
theorem d_M_lyndon_11 : vm_D q_M_lyndon.2.1 11 3 14 (.getfield 184) := ⟨by decide +kernel, rfl⟩
theorem d_M_lyndon_14 : vm_B q_M_lyndon.2.1 14 17 119 (fun o => .if_icmp .ge o) := ⟨105, by decide +kernel, rfl, by decide⟩
theorem d_M_lyndon_17 : vm_D q_M_lyndon.2.1 17 1 18 (.iload_n 3) := ⟨by decide +kernel, rfl⟩
theorem d_M_lyndon_18 : vm_D q_M_lyndon.2.1 18 2 20 (.istore 4) := ⟨by decide +kernel, rfl⟩
theorem d_M_lyndon_20 : vm_D q_M_lyndon.2.1 20 1 21 (.iload_n 3) := ⟨by decide +kernel, rfl⟩
theorem d_M_lyndon_21 : vm_D q_M_lyndon.2.1 21 1 22 (.iconst 1) := ⟨by decide +kernel, rfl⟩
theorem d_M_lyndon_22 : vm_D q_M_lyndon.2.1 22 1 23 (.iadd) := ⟨by decide +kernel, rfl⟩
theorem d_M_lyndon_23 : vm_D q_M_lyndon.2.1 23 2 25 (.istore 5) := ⟨by decide +kernel, rfl⟩
theorem d_M_lyndon_25 : vm_D q_M_lyndon.2.1 25 2 27 (.iload 5) := ⟨by decide +kernel, rfl⟩
theorem d_M_lyndon_27 : vm_D q_M_lyndon.2.1 27 1 28 (.aload_n 0) := ⟨by decide +kernel, rfl⟩
theorem d_M_lyndon_28 : vm_D q_M_lyndon.2.1 28 3 31 (.getfield 184) := ⟨by decide +kernel, rfl⟩
theorem d_M_lyndon_31 : vm_B q_M_lyndon.2.1 31 34 84 (fun o => .if_icmp .ge o) := ⟨53, by decide +kernel, rfl, by decide⟩
theorem d_M_lyndon_34 : vm_D q_M_lyndon.2.1 34 1 35 (.aload_n 0) := ⟨by decide +kernel, rfl⟩
theorem d_M_lyndon_35 : vm_D q_M_lyndon.2.1 35 3 38 (.getfield 83) := ⟨by decide +kernel, rfl⟩
theorem d_M_lyndon_38 : vm_D q_M_lyndon.2.1 38 2 40 (.iload 4) := ⟨by decide +kernel, rfl⟩
theorem d_M_lyndon_40 : vm_D q_M_lyndon.2.1 40 1 41 (.iaload) := ⟨by decide +kernel, rfl⟩
theorem d_M_lyndon_41 : vm_D q_M_lyndon.2.1 41 1 42 (.aload_n 0) := ⟨by decide +kernel, rfl⟩
theorem d_M_lyndon_42 : vm_D q_M_lyndon.2.1 42 3 45 (.getfield 83) := ⟨by decide +kernel, rfl⟩
theorem d_M_lyndon_45 : vm_D q_M_lyndon.2.1 45 2 47 (.iload 5) := ⟨by decide +kernel, rfl⟩
theorem d_M_lyndon_47 : vm_D q_M_lyndon.2.1 47 1 48 (.iaload) := ⟨by decide +kernel, rfl⟩
theorem d_M_lyndon_48 : vm_B q_M_lyndon.2.1 48 51 84 (fun o => .if_icmp .gt o) := ⟨36, by decide +kernel, rfl, by decide⟩
theorem d_M_lyndon_51 : vm_D q_M_lyndon.2.1 51 1 52 (.aload_n 0) := ⟨by decide +kernel, rfl⟩
theorem d_M_lyndon_52 : vm_D q_M_lyndon.2.1 52 3 55 (.getfield 83) := ⟨by decide +kernel, rfl⟩
theorem d_M_lyndon_55 : vm_D q_M_lyndon.2.1 55 2 57 (.iload 4) := ⟨by decide +kernel, rfl⟩
theorem d_M_lyndon_57 : vm_D q_M_lyndon.2.1 57 1 58 (.iaload) := ⟨by decide +kernel, rfl⟩
theorem d_M_lyndon_58 : vm_D q_M_lyndon.2.1 58 1 59 (.aload_n 0) := ⟨by decide +kernel, rfl⟩
theorem d_M_lyndon_59 : vm_D q_M_lyndon.2.1 59 3 62 (.getfield 83) := ⟨by decide +kernel, rfl⟩
theorem d_M_lyndon_62 : vm_D q_M_lyndon.2.1 62 2 64 (.iload 5) := ⟨by decide +kernel, rfl⟩
theorem d_M_lyndon_64 : vm_D q_M_lyndon.2.1 64 1 65 (.iaload) := ⟨by decide +kernel, rfl⟩
theorem d_M_lyndon_65 : vm_B q_M_lyndon.2.1 65 68 75 (fun o => .if_icmp .ne o) := ⟨10, by decide +kernel, rfl, by decide⟩
theorem d_M_lyndon_76 : vm_D q_M_lyndon.2.1 76 2 78 (.istore 4) := ⟨by decide +kernel, rfl⟩
theorem d_M_lyndon_78 : vm_D q_M_lyndon.2.1 78 3 81 (.iinc 5 1) := ⟨by decide +kernel, rfl⟩
theorem d_M_lyndon_81 : ∃ off : Int, decode q_M_lyndon.2.1 81 = .ok (.goto off, 3) ∧ ((81 : Nat) : Int) + off = ((25 : Nat) : Int) := ⟨-56, by decide +kernel, by decide⟩
theorem d_M_lyndon_75 : vm_D q_M_lyndon.2.1 75 1 76 (.iload_n 3) := ⟨by decide +kernel, rfl⟩
theorem d_M_lyndon_68 : vm_D q_M_lyndon.2.1 68 2 70 (.iload 4) := ⟨by decide +kernel, rfl⟩
theorem d_M_lyndon_70 : vm_D q_M_lyndon.2.1 70 1 71 (.iconst 1) := ⟨by decide +kernel, rfl⟩
theorem d_M_lyndon_71 : vm_D q_M_lyndon.2.1 71 1 72 (.iadd) := ⟨by decide +kernel, rfl⟩
theorem d_M_lyndon_72 : ∃ off : Int, decode q_M_lyndon.2.1 72 = .ok (.goto off, 3) ∧ ((72 : Nat) : Int) + off = ((76 : Nat) : Int) := ⟨4, by decide +kernel, by decide⟩
theorem d_M_lyndon_84 : vm_D q_M_lyndon.2.1 84 2 86 (.iload 5) := ⟨by decide +kernel, rfl⟩
theorem d_M_lyndon_86 : vm_D q_M_lyndon.2.1 86 2 88 (.iload 4) := ⟨by decide +kernel, rfl⟩
theorem d_M_lyndon_88 : vm_D q_M_lyndon.2.1 88 1 89 (.isub) := ⟨by decide +kernel, rfl⟩
theorem d_M_lyndon_89 : vm_D q_M_lyndon.2.1 89 2 91 (.istore 6) := ⟨by decide +kernel, rfl⟩
theorem d_M_lyndon_91 : vm_D q_M_lyndon.2.1 91 1 92 (.iload_n 3) := ⟨by decide +kernel, rfl⟩
theorem d_M_lyndon_92 : vm_D q_M_lyndon.2.1 92 2 94 (.iload 4) := ⟨by decide +kernel, rfl⟩
theorem d_M_lyndon_94 : vm_B q_M_lyndon.2.1 94 97 116 (fun o => .if_icmp .gt o) := ⟨22, by decide +kernel, rfl, by decide⟩
theorem d_M_lyndon_97 : vm_D q_M_lyndon.2.1 97 1 98 (.iload_n 2) := ⟨by decide +kernel, rfl⟩
theorem d_M_lyndon_98 : vm_D q_M_lyndon.2.1 98 1 99 (.iload_n 1) := ⟨by decide +kernel, rfl⟩
theorem d_M_lyndon_99 : vm_B q_M_lyndon.2.1 99 102 105 (fun o => .if_icmp .ne o) := ⟨6, by decide +kernel, rfl, by decide⟩
theorem d_M_lyndon_105 : vm_D q_M_lyndon.2.1 105 3 108 (.iinc 2 1) := ⟨by decide +kernel, rfl⟩
theorem d_M_lyndon_108 : vm_D q_M_lyndon.2.1 108 1 109 (.iload_n 3) := ⟨by decide +kernel, rfl⟩
theorem d_M_lyndon_109 : vm_D q_M_lyndon.2.1 109 2 111 (.iload 6) := ⟨by decide +kernel, rfl⟩
theorem d_M_lyndon_111 : vm_D q_M_lyndon.2.1 111 1 112 (.iadd) := ⟨by decide +kernel, rfl⟩
theorem d_M_lyndon_112 : vm_D q_M_lyndon.2.1 112 1 113 (.istore_n 3) := ⟨by decide +kernel, rfl⟩
theorem d_M_lyndon_113 : ∃ off : Int, decode q_M_lyndon.2.1 113 = .ok (.goto off, 3) ∧ ((113 : Nat) : Int) + off = ((91 : Nat) : Int) := ⟨-22, by decide +kernel, by decide⟩
theorem d_M_lyndon_102 : vm_D q_M_lyndon.2.1 102 2 104 (.iload 6) := ⟨by decide +kernel, rfl⟩
theorem d_M_lyndon_104 : vm_D q_M_lyndon.2.1 104 1 105 (.ireturn) := ⟨by decide +kernel, rfl⟩
theorem d_M_lyndon_116 : ∃ off : Int, decode q_M_lyndon.2.1 116 = .ok (.goto off, 3) ∧ ((116 : Nat) : Int) + off = ((9 : Nat) : Int) := ⟨-107, by decide +kernel, by decide⟩
theorem d_M_lyndon_119 : vm_D q_M_lyndon.2.1 119 1 120 (.iload_n 1) := ⟨by decide +kernel, rfl⟩
theorem d_M_lyndon_120 : vm_D q_M_lyndon.2.1 120 1 121 (.iconst (-1)) := ⟨by decide +kernel, rfl⟩
theorem d_M_lyndon_121 : vm_B q_M_lyndon.2.1 121 124 128 (fun o => .if_icmp .ne o) := ⟨7, by decide +kernel, rfl, by decide⟩
theorem d_M_lyndon_128 : vm_D q_M_lyndon.2.1 128 1 129 (.iconst (-1)) := ⟨by decide +kernel, rfl⟩
theorem d_M_lyndon_129 : vm_D q_M_lyndon.2.1 129 1 130 (.ireturn) := ⟨by decide +kernel, rfl⟩
theorem d_M_lyndon_124 : vm_D q_M_lyndon.2.1 124 1 125 (.iload_n 2) := ⟨by decide +kernel, rfl⟩
theorem d_M_lyndon_125 : ∃ off : Int, decode q_M_lyndon.2.1 125 = .ok (.goto off, 3) ∧ ((125 : Nat) : Int) + off = ((129 : Nat) : Int) := ⟨4, by decide +kernel, by decide⟩
def q_M_turned : vm_Y := ("RepeatFreeModel", cX11_turned, 4, false, [])
theorem d_M_turned_0 : vm_D q_M_turned.2.1 0 1 1 (.aload_n 0) := ⟨by decide +kernel, rfl⟩
theorem d_M_turned_1 : vm_D q_M_turned.2.1 1 1 2 (.iconst 0) := ⟨by decide +kernel, rfl⟩
theorem d_M_turned_2 : vm_D q_M_turned.2.1 2 3 5 (.putfield 3) := ⟨by decide +kernel, rfl⟩
theorem d_M_turned_5 : vm_D q_M_turned.2.1 5 1 6 (.aload_n 0) := ⟨by decide +kernel, rfl⟩
theorem d_M_turned_6 : vm_D q_M_turned.2.1 6 3 9 (.getfield 184) := ⟨by decide +kernel, rfl⟩
theorem d_M_turned_9 : vm_B q_M_turned.2.1 9 12 16 (fun o => .ifCond .ne o) := ⟨7, by decide +kernel, rfl, by decide⟩
theorem d_M_turned_17 : vm_D q_M_turned.2.1 17 1 18 (.istore_n 1) := ⟨by decide +kernel, rfl⟩
theorem d_M_turned_18 : vm_D q_M_turned.2.1 18 1 19 (.iconst 1) := ⟨by decide +kernel, rfl⟩
theorem d_M_turned_19 : vm_D q_M_turned.2.1 19 1 20 (.istore_n 2) := ⟨by decide +kernel, rfl⟩
theorem d_M_turned_20 : vm_D q_M_turned.2.1 20 1 21 (.iload_n 2) := ⟨by decide +kernel, rfl⟩
theorem d_M_turned_21 : vm_D q_M_turned.2.1 21 1 22 (.aload_n 0) := ⟨by decide +kernel, rfl⟩
theorem d_M_turned_22 : vm_D q_M_turned.2.1 22 3 25 (.getfield 184) := ⟨by decide +kernel, rfl⟩
theorem d_M_turned_25 : vm_B q_M_turned.2.1 25 28 118 (fun o => .if_icmp .ge o) := ⟨93, by decide +kernel, rfl, by decide⟩
theorem d_M_turned_28 : vm_D q_M_turned.2.1 28 1 29 (.iconst 0) := ⟨by decide +kernel, rfl⟩
theorem d_M_turned_29 : vm_D q_M_turned.2.1 29 1 30 (.istore_n 3) := ⟨by decide +kernel, rfl⟩
theorem d_M_turned_30 : vm_D q_M_turned.2.1 30 1 31 (.iload_n 3) := ⟨by decide +kernel, rfl⟩
theorem d_M_turned_31 : vm_D q_M_turned.2.1 31 1 32 (.aload_n 0) := ⟨by decide +kernel, rfl⟩
theorem d_M_turned_32 : vm_D q_M_turned.2.1 32 3 35 (.getfield 184) := ⟨by decide +kernel, rfl⟩
theorem d_M_turned_35 : vm_B q_M_turned.2.1 35 38 73 (fun o => .if_icmp .ge o) := ⟨38, by decide +kernel, rfl, by decide⟩
theorem d_M_turned_38 : vm_D q_M_turned.2.1 38 1 39 (.aload_n 0) := ⟨by decide +kernel, rfl⟩
theorem d_M_turned_39 : vm_D q_M_turned.2.1 39 3 42 (.getfield 83) := ⟨by decide +kernel, rfl⟩
theorem d_M_turned_42 : vm_D q_M_turned.2.1 42 1 43 (.iload_n 2) := ⟨by decide +kernel, rfl⟩
theorem d_M_turned_43 : vm_D q_M_turned.2.1 43 1 44 (.iload_n 3) := ⟨by decide +kernel, rfl⟩
theorem d_M_turned_44 : vm_D q_M_turned.2.1 44 1 45 (.iadd) := ⟨by decide +kernel, rfl⟩
theorem d_M_turned_45 : vm_D q_M_turned.2.1 45 1 46 (.aload_n 0) := ⟨by decide +kernel, rfl⟩
theorem d_M_turned_46 : vm_D q_M_turned.2.1 46 3 49 (.getfield 184) := ⟨by decide +kernel, rfl⟩
theorem d_M_turned_49 : vm_D q_M_turned.2.1 49 1 50 (.irem) := ⟨by decide +kernel, rfl⟩
theorem d_M_turned_50 : vm_D q_M_turned.2.1 50 1 51 (.iaload) := ⟨by decide +kernel, rfl⟩
theorem d_M_turned_51 : vm_D q_M_turned.2.1 51 1 52 (.aload_n 0) := ⟨by decide +kernel, rfl⟩
theorem d_M_turned_52 : vm_D q_M_turned.2.1 52 3 55 (.getfield 83) := ⟨by decide +kernel, rfl⟩
theorem d_M_turned_55 : vm_D q_M_turned.2.1 55 1 56 (.iload_n 1) := ⟨by decide +kernel, rfl⟩
theorem d_M_turned_56 : vm_D q_M_turned.2.1 56 1 57 (.iload_n 3) := ⟨by decide +kernel, rfl⟩
theorem d_M_turned_57 : vm_D q_M_turned.2.1 57 1 58 (.iadd) := ⟨by decide +kernel, rfl⟩
theorem d_M_turned_58 : vm_D q_M_turned.2.1 58 1 59 (.aload_n 0) := ⟨by decide +kernel, rfl⟩
theorem d_M_turned_59 : vm_D q_M_turned.2.1 59 3 62 (.getfield 184) := ⟨by decide +kernel, rfl⟩
theorem d_M_turned_62 : vm_D q_M_turned.2.1 62 1 63 (.irem) := ⟨by decide +kernel, rfl⟩
theorem d_M_turned_63 : vm_D q_M_turned.2.1 63 1 64 (.iaload) := ⟨by decide +kernel, rfl⟩
theorem d_M_turned_64 : vm_B q_M_turned.2.1 64 67 73 (fun o => .if_icmp .ne o) := ⟨9, by decide +kernel, rfl, by decide⟩
theorem d_M_turned_67 : vm_D q_M_turned.2.1 67 3 70 (.iinc 3 1) := ⟨by decide +kernel, rfl⟩
theorem d_M_turned_70 : ∃ off : Int, decode q_M_turned.2.1 70 = .ok (.goto off, 3) ∧ ((70 : Nat) : Int) + off = ((30 : Nat) : Int) := ⟨-40, by decide +kernel, by decide⟩
theorem d_M_turned_73 : vm_D q_M_turned.2.1 73 1 74 (.iload_n 3) := ⟨by decide +kernel, rfl⟩
theorem d_M_turned_74 : vm_D q_M_turned.2.1 74 1 75 (.aload_n 0) := ⟨by decide +kernel, rfl⟩
theorem d_M_turned_75 : vm_D q_M_turned.2.1 75 3 78 (.getfield 184) := ⟨by decide +kernel, rfl⟩
theorem d_M_turned_78 : vm_B q_M_turned.2.1 78 81 112 (fun o => .if_icmp .ge o) := ⟨34, by decide +kernel, rfl, by decide⟩
theorem d_M_turned_112 : vm_D q_M_turned.2.1 112 3 115 (.iinc 2 1) := ⟨by decide +kernel, rfl⟩
theorem d_M_turned_115 : ∃ off : Int, decode q_M_turned.2.1 115 = .ok (.goto off, 3) ∧ ((115 : Nat) : Int) + off = ((20 : Nat) : Int) := ⟨-95, by decide +kernel, by decide⟩
theorem d_M_turned_81 : vm_D q_M_turned.2.1 81 1 82 (.aload_n 0) := ⟨by decide +kernel, rfl⟩
theorem d_M_turned_82 : vm_D q_M_turned.2.1 82 3 85 (.getfield 83) := ⟨by decide +kernel, rfl⟩
theorem d_M_turned_85 : vm_D q_M_turned.2.1 85 1 86 (.iload_n 2) := ⟨by decide +kernel, rfl⟩
theorem d_M_turned_86 : vm_D q_M_turned.2.1 86 1 87 (.iload_n 3) := ⟨by decide +kernel, rfl⟩
theorem d_M_turned_87 : vm_D q_M_turned.2.1 87 1 88 (.iadd) := ⟨by decide +kernel, rfl⟩
theorem d_M_turned_88 : vm_D q_M_turned.2.1 88 1 89 (.aload_n 0) := ⟨by decide +kernel, rfl⟩
theorem d_M_turned_89 : vm_D q_M_turned.2.1 89 3 92 (.getfield 184) := ⟨by decide +kernel, rfl⟩
theorem d_M_turned_92 : vm_D q_M_turned.2.1 92 1 93 (.irem) := ⟨by decide +kernel, rfl⟩
theorem d_M_turned_93 : vm_D q_M_turned.2.1 93 1 94 (.iaload) := ⟨by decide +kernel, rfl⟩
theorem d_M_turned_94 : vm_D q_M_turned.2.1 94 1 95 (.aload_n 0) := ⟨by decide +kernel, rfl⟩
theorem d_M_turned_95 : vm_D q_M_turned.2.1 95 3 98 (.getfield 83) := ⟨by decide +kernel, rfl⟩
theorem d_M_turned_98 : vm_D q_M_turned.2.1 98 1 99 (.iload_n 1) := ⟨by decide +kernel, rfl⟩
theorem d_M_turned_99 : vm_D q_M_turned.2.1 99 1 100 (.iload_n 3) := ⟨by decide +kernel, rfl⟩
theorem d_M_turned_100 : vm_D q_M_turned.2.1 100 1 101 (.iadd) := ⟨by decide +kernel, rfl⟩
theorem d_M_turned_101 : vm_D q_M_turned.2.1 101 1 102 (.aload_n 0) := ⟨by decide +kernel, rfl⟩
theorem d_M_turned_102 : vm_D q_M_turned.2.1 102 3 105 (.getfield 184) := ⟨by decide +kernel, rfl⟩
theorem d_M_turned_105 : vm_D q_M_turned.2.1 105 1 106 (.irem) := ⟨by decide +kernel, rfl⟩
theorem d_M_turned_106 : vm_D q_M_turned.2.1 106 1 107 (.iaload) := ⟨by decide +kernel, rfl⟩
theorem d_M_turned_107 : vm_B q_M_turned.2.1 107 110 112 (fun o => .if_icmp .ge o) := ⟨5, by decide +kernel, rfl, by decide⟩
theorem d_M_turned_110 : vm_D q_M_turned.2.1 110 1 111 (.iload_n 2) := ⟨by decide +kernel, rfl⟩
theorem d_M_turned_111 : vm_D q_M_turned.2.1 111 1 112 (.istore_n 1) := ⟨by decide +kernel, rfl⟩
theorem d_M_turned_118 : vm_D q_M_turned.2.1 118 1 119 (.iload_n 1) := ⟨by decide +kernel, rfl⟩
theorem d_M_turned_119 : vm_D q_M_turned.2.1 119 1 120 (.ireturn) := ⟨by decide +kernel, rfl⟩
theorem d_M_turned_16 : vm_D q_M_turned.2.1 16 1 17 (.iconst 0) := ⟨by decide +kernel, rfl⟩
theorem d_M_turned_12 : vm_D q_M_turned.2.1 12 1 13 (.iconst (-1)) := ⟨by decide +kernel, rfl⟩
theorem d_M_turned_13 : ∃ off : Int, decode q_M_turned.2.1 13 = .ok (.goto off, 3) ∧ ((13 : Nat) : Int) + off = ((17 : Nat) : Int) := ⟨4, by decide +kernel, by decide⟩
def q_M_local : vm_Y := ("RepeatFreeModel", cX11_local, 5, false, [])
theorem d_M_local_0 : vm_D q_M_local.2.1 0 1 1 (.aload_n 0) := ⟨by decide +kernel, rfl⟩
theorem d_M_local_1 : vm_D q_M_local.2.1 1 1 2 (.iconst 0) := ⟨by decide +kernel, rfl⟩
theorem d_M_local_2 : vm_D q_M_local.2.1 2 3 5 (.putfield 3) := ⟨by decide +kernel, rfl⟩
theorem d_M_local_5 : vm_D q_M_local.2.1 5 1 6 (.aload_n 0) := ⟨by decide +kernel, rfl⟩
theorem d_M_local_6 : vm_D q_M_local.2.1 6 1 7 (.iload_n 1) := ⟨by decide +kernel, rfl⟩
theorem d_M_local_7 : vm_D q_M_local.2.1 7 1 8 (.iconst 1) := ⟨by decide +kernel, rfl⟩
theorem d_M_local_8 : vm_D q_M_local.2.1 8 1 9 (.aload_n 0) := ⟨by decide +kernel, rfl⟩
theorem d_M_local_9 : vm_D q_M_local.2.1 9 3 12 (.getfield 184) := ⟨by decide +kernel, rfl⟩
theorem d_M_local_12 : vm_D q_M_local.2.1 12 1 13 (.iconst 1) := ⟨by decide +kernel, rfl⟩
theorem d_M_local_13 : vm_D q_M_local.2.1 13 1 14 (.isub) := ⟨by decide +kernel, rfl⟩
theorem d_M_local_14 : vm_D q_M_local.2.1 14 3 17 (.invokestatic 65) := ⟨by decide +kernel, rfl⟩
theorem d_M_local_17 : vm_B q_M_local.2.1 17 20 24 (fun o => .ifCond .ne o) := ⟨7, by decide +kernel, rfl, by decide⟩
theorem d_M_local_25 : vm_D q_M_local.2.1 25 1 26 (.iconst 1) := ⟨by decide +kernel, rfl⟩
theorem d_M_local_26 : vm_D q_M_local.2.1 26 3 29 (.invokevirtual 180) := ⟨by decide +kernel, rfl⟩
theorem d_M_local_29 : vm_B q_M_local.2.1 29 32 34 (fun o => .ifCond .eq o) := ⟨5, by decide +kernel, rfl, by decide⟩
theorem d_M_local_34 : vm_D q_M_local.2.1 34 1 35 (.iconst 0) := ⟨by decide +kernel, rfl⟩
theorem d_M_local_35 : vm_D q_M_local.2.1 35 1 36 (.istore_n 2) := ⟨by decide +kernel, rfl⟩
theorem d_M_local_36 : vm_D q_M_local.2.1 36 1 37 (.iconst 0) := ⟨by decide +kernel, rfl⟩
theorem d_M_local_37 : vm_D q_M_local.2.1 37 1 38 (.istore_n 3) := ⟨by decide +kernel, rfl⟩
theorem d_M_local_38 : vm_D q_M_local.2.1 38 1 39 (.iload_n 3) := ⟨by decide +kernel, rfl⟩
theorem d_M_local_39 : vm_B q_M_local.2.1 39 42 111 (fun o => .ifCond .ne o) := ⟨72, by decide +kernel, rfl, by decide⟩
theorem d_M_local_42 : vm_D q_M_local.2.1 42 3 45 (.iinc 2 1) := ⟨by decide +kernel, rfl⟩
theorem d_M_local_45 : vm_D q_M_local.2.1 45 1 46 (.iconst 1) := ⟨by decide +kernel, rfl⟩
theorem d_M_local_46 : vm_D q_M_local.2.1 46 1 47 (.istore_n 3) := ⟨by decide +kernel, rfl⟩
theorem d_M_local_47 : vm_D q_M_local.2.1 47 1 48 (.iconst 0) := ⟨by decide +kernel, rfl⟩
theorem d_M_local_48 : vm_D q_M_local.2.1 48 1 49 (.iload_n 1) := ⟨by decide +kernel, rfl⟩
theorem d_M_local_49 : vm_D q_M_local.2.1 49 1 50 (.iload_n 2) := ⟨by decide +kernel, rfl⟩
theorem d_M_local_50 : vm_D q_M_local.2.1 50 1 51 (.isub) := ⟨by decide +kernel, rfl⟩
theorem d_M_local_51 : vm_D q_M_local.2.1 51 3 54 (.invokestatic 254) := ⟨by decide +kernel, rfl⟩
theorem d_M_local_54 : vm_D q_M_local.2.1 54 2 56 (.istore 4) := ⟨by decide +kernel, rfl⟩
theorem d_M_local_56 : vm_D q_M_local.2.1 56 2 58 (.iload 4) := ⟨by decide +kernel, rfl⟩
theorem d_M_local_58 : vm_D q_M_local.2.1 58 1 59 (.iload_n 1) := ⟨by decide +kernel, rfl⟩
theorem d_M_local_59 : vm_B q_M_local.2.1 59 62 108 (fun o => .if_icmp .ge o) := ⟨49, by decide +kernel, rfl, by decide⟩
theorem d_M_local_62 : vm_D q_M_local.2.1 62 2 64 (.iload 4) := ⟨by decide +kernel, rfl⟩
theorem d_M_local_64 : vm_D q_M_local.2.1 64 1 65 (.iload_n 2) := ⟨by decide +kernel, rfl⟩
theorem d_M_local_65 : vm_D q_M_local.2.1 65 1 66 (.iadd) := ⟨by decide +kernel, rfl⟩
theorem d_M_local_66 : vm_D q_M_local.2.1 66 1 67 (.aload_n 0) := ⟨by decide +kernel, rfl⟩
theorem d_M_local_67 : vm_D q_M_local.2.1 67 3 70 (.getfield 184) := ⟨by decide +kernel, rfl⟩
theorem d_M_local_70 : vm_B q_M_local.2.1 70 73 108 (fun o => .if_icmp .ge o) := ⟨38, by decide +kernel, rfl, by decide⟩
theorem d_M_local_73 : vm_D q_M_local.2.1 73 1 74 (.iload_n 3) := ⟨by decide +kernel, rfl⟩
theorem d_M_local_74 : vm_B q_M_local.2.1 74 77 100 (fun o => .ifCond .eq o) := ⟨26, by decide +kernel, rfl, by decide⟩
theorem d_M_local_101 : vm_D q_M_local.2.1 101 1 102 (.istore_n 3) := ⟨by decide +kernel, rfl⟩
theorem d_M_local_102 : vm_D q_M_local.2.1 102 3 105 (.iinc 4 1) := ⟨by decide +kernel, rfl⟩
theorem d_M_local_105 : ∃ off : Int, decode q_M_local.2.1 105 = .ok (.goto off, 3) ∧ ((105 : Nat) : Int) + off = ((56 : Nat) : Int) := ⟨-49, by decide +kernel, by decide⟩
theorem d_M_local_100 : vm_D q_M_local.2.1 100 1 101 (.iconst 0) := ⟨by decide +kernel, rfl⟩
theorem d_M_local_77 : vm_D q_M_local.2.1 77 1 78 (.aload_n 0) := ⟨by decide +kernel, rfl⟩
theorem d_M_local_78 : vm_D q_M_local.2.1 78 3 81 (.getfield 83) := ⟨by decide +kernel, rfl⟩
theorem d_M_local_81 : vm_D q_M_local.2.1 81 2 83 (.iload 4) := ⟨by decide +kernel, rfl⟩
theorem d_M_local_83 : vm_D q_M_local.2.1 83 1 84 (.iaload) := ⟨by decide +kernel, rfl⟩
theorem d_M_local_84 : vm_D q_M_local.2.1 84 1 85 (.aload_n 0) := ⟨by decide +kernel, rfl⟩
theorem d_M_local_85 : vm_D q_M_local.2.1 85 3 88 (.getfield 83) := ⟨by decide +kernel, rfl⟩
theorem d_M_local_88 : vm_D q_M_local.2.1 88 2 90 (.iload 4) := ⟨by decide +kernel, rfl⟩
theorem d_M_local_90 : vm_D q_M_local.2.1 90 1 91 (.iload_n 2) := ⟨by decide +kernel, rfl⟩
theorem d_M_local_91 : vm_D q_M_local.2.1 91 1 92 (.iadd) := ⟨by decide +kernel, rfl⟩
theorem d_M_local_92 : vm_D q_M_local.2.1 92 1 93 (.iaload) := ⟨by decide +kernel, rfl⟩
theorem d_M_local_93 : vm_B q_M_local.2.1 93 96 100 (fun o => .if_icmp .ne o) := ⟨7, by decide +kernel, rfl, by decide⟩
theorem d_M_local_96 : vm_D q_M_local.2.1 96 1 97 (.iconst 1) := ⟨by decide +kernel, rfl⟩
theorem d_M_local_97 : ∃ off : Int, decode q_M_local.2.1 97 = .ok (.goto off, 3) ∧ ((97 : Nat) : Int) + off = ((101 : Nat) : Int) := ⟨4, by decide +kernel, by decide⟩
theorem d_M_local_108 : ∃ off : Int, decode q_M_local.2.1 108 = .ok (.goto off, 3) ∧ ((108 : Nat) : Int) + off = ((38 : Nat) : Int) := ⟨-70, by decide +kernel, by decide⟩
theorem d_M_local_111 : vm_D q_M_local.2.1 111 1 112 (.iload_n 2) := ⟨by decide +kernel, rfl⟩
theorem d_M_local_112 : vm_D q_M_local.2.1 112 1 113 (.ireturn) := ⟨by decide +kernel, rfl⟩
theorem d_M_local_32 : vm_D q_M_local.2.1 32 1 33 (.iconst 0) := ⟨by decide +kernel, rfl⟩
theorem d_M_local_33 : vm_D q_M_local.2.1 33 1 34 (.ireturn) := ⟨by decide +kernel, rfl⟩
theorem d_M_local_24 : vm_D q_M_local.2.1 24 1 25 (.iconst 0) := ⟨by decide +kernel, rfl⟩
theorem d_M_local_20 : vm_D q_M_local.2.1 20 1 21 (.iconst 1) := ⟨by decide +kernel, rfl⟩
theorem d_M_local_21 : ∃ off : Int, decode q_M_local.2.1 21 = .ok (.goto off, 3) ∧ ((21 : Nat) : Int) + off = ((25 : Nat) : Int) := ⟨4, by decide +kernel, by decide⟩
def q_M_imageOf : vm_Y := ("RepeatFreeModel", cX11_imageOf, 4, false, [])
theorem d_M_imageOf_0 : vm_D q_M_imageOf.2.1 0 1 1 (.aload_n 0) := ⟨by decide +kernel, rfl⟩
theorem d_M_imageOf_1 : vm_D q_M_imageOf.2.1 1 3 4 (.getfield 77) := ⟨by decide +kernel, rfl⟩
theorem d_M_imageOf_4 : vm_D q_M_imageOf.2.1 4 2 6 (.bipush 70) := ⟨by decide +kernel, rfl⟩
theorem d_M_imageOf_6 : vm_D q_M_imageOf.2.1 6 2 8 (.bipush 6) := ⟨by decide +kernel, rfl⟩
theorem d_M_imageOf_8 : vm_D q_M_imageOf.2.1 8 1 9 (.iconst 4) := ⟨by decide +kernel, rfl⟩
theorem d_M_imageOf_9 : vm_D q_M_imageOf.2.1 9 1 10 (.iload_n 1) := ⟨by decide +kernel, rfl⟩
theorem d_M_imageOf_10 : vm_D q_M_imageOf.2.1 10 1 11 (.imul) := ⟨by decide +kernel, rfl⟩
theorem d_M_imageOf_11 : vm_D q_M_imageOf.2.1 11 1 12 (.iload_n 2) := ⟨by decide +kernel, rfl⟩
theorem d_M_imageOf_12 : vm_D q_M_imageOf.2.1 12 1 13 (.iadd) := ⟨by decide +kernel, rfl⟩
theorem d_M_imageOf_13 : vm_D q_M_imageOf.2.1 13 1 14 (.imul) := ⟨by decide +kernel, rfl⟩
theorem d_M_imageOf_14 : vm_D q_M_imageOf.2.1 14 1 15 (.iadd) := ⟨by decide +kernel, rfl⟩
theorem d_M_imageOf_15 : vm_D q_M_imageOf.2.1 15 1 16 (.iload_n 3) := ⟨by decide +kernel, rfl⟩
theorem d_M_imageOf_16 : vm_D q_M_imageOf.2.1 16 1 17 (.iadd) := ⟨by decide +kernel, rfl⟩
theorem d_M_imageOf_17 : vm_D q_M_imageOf.2.1 17 1 18 (.iaload) := ⟨by decide +kernel, rfl⟩
theorem d_M_imageOf_18 : vm_D q_M_imageOf.2.1 18 1 19 (.ireturn) := ⟨by decide +kernel, rfl⟩
def q_M_longOf : vm_Y := ("RepeatFreeModel", cX11_longOf, 3, false, [])
theorem d_M_longOf_0 : vm_D q_M_longOf.2.1 0 1 1 (.aload_n 0) := ⟨by decide +kernel, rfl⟩
theorem d_M_longOf_1 : vm_D q_M_longOf.2.1 1 3 4 (.getfield 77) := ⟨by decide +kernel, rfl⟩
theorem d_M_longOf_4 : vm_D q_M_longOf.2.1 4 2 6 (.bipush 54) := ⟨by decide +kernel, rfl⟩
theorem d_M_longOf_6 : vm_D q_M_longOf.2.1 6 1 7 (.iconst 4) := ⟨by decide +kernel, rfl⟩
theorem d_M_longOf_7 : vm_D q_M_longOf.2.1 7 1 8 (.iload_n 1) := ⟨by decide +kernel, rfl⟩
theorem d_M_longOf_8 : vm_D q_M_longOf.2.1 8 1 9 (.imul) := ⟨by decide +kernel, rfl⟩
theorem d_M_longOf_9 : vm_D q_M_longOf.2.1 9 1 10 (.iadd) := ⟨by decide +kernel, rfl⟩
theorem d_M_longOf_10 : vm_D q_M_longOf.2.1 10 1 11 (.iload_n 2) := ⟨by decide +kernel, rfl⟩
theorem d_M_longOf_11 : vm_D q_M_longOf.2.1 11 1 12 (.iadd) := ⟨by decide +kernel, rfl⟩
theorem d_M_longOf_12 : vm_D q_M_longOf.2.1 12 1 13 (.iaload) := ⟨by decide +kernel, rfl⟩
theorem d_M_longOf_13 : vm_D q_M_longOf.2.1 13 1 14 (.ireturn) := ⟨by decide +kernel, rfl⟩
def q_M_images : vm_Y := ("RepeatFreeModel", cX11_images, 7, false, [])
theorem d_M_images_0 : vm_D q_M_images.2.1 0 1 1 (.iconst 0) := ⟨by decide +kernel, rfl⟩
theorem d_M_images_1 : vm_D q_M_images.2.1 1 2 3 (.istore 4) := ⟨by decide +kernel, rfl⟩
theorem d_M_images_3 : vm_D q_M_images.2.1 3 1 4 (.iconst 0) := ⟨by decide +kernel, rfl⟩
theorem d_M_images_4 : vm_D q_M_images.2.1 4 2 6 (.istore 5) := ⟨by decide +kernel, rfl⟩
theorem d_M_images_6 : vm_D q_M_images.2.1 6 2 8 (.iload 5) := ⟨by decide +kernel, rfl⟩
theorem d_M_images_8 : vm_D q_M_images.2.1 8 1 9 (.iload_n 2) := ⟨by decide +kernel, rfl⟩
theorem d_M_images_9 : vm_B q_M_images.2.1 9 12 62 (fun o => .if_icmp .ge o) := ⟨53, by decide +kernel, rfl, by decide⟩
theorem d_M_images_12 : vm_D q_M_images.2.1 12 1 13 (.iconst 0) := ⟨by decide +kernel, rfl⟩
theorem d_M_images_13 : vm_D q_M_images.2.1 13 2 15 (.istore 6) := ⟨by decide +kernel, rfl⟩
theorem d_M_images_15 : vm_D q_M_images.2.1 15 2 17 (.iload 6) := ⟨by decide +kernel, rfl⟩
theorem d_M_images_17 : vm_D q_M_images.2.1 17 1 18 (.aload_n 0) := ⟨by decide +kernel, rfl⟩
theorem d_M_images_18 : vm_D q_M_images.2.1 18 1 19 (.iload_n 3) := ⟨by decide +kernel, rfl⟩
theorem d_M_images_19 : vm_D q_M_images.2.1 19 1 20 (.aload_n 1) := ⟨by decide +kernel, rfl⟩
theorem d_M_images_20 : vm_D q_M_images.2.1 20 2 22 (.iload 5) := ⟨by decide +kernel, rfl⟩
theorem d_M_images_22 : vm_D q_M_images.2.1 22 1 23 (.iaload) := ⟨by decide +kernel, rfl⟩
theorem d_M_images_23 : vm_D q_M_images.2.1 23 3 26 (.invokevirtual 305) := ⟨by decide +kernel, rfl⟩
theorem d_M_images_26 : vm_B q_M_images.2.1 26 29 56 (fun o => .if_icmp .ge o) := ⟨30, by decide +kernel, rfl, by decide⟩
theorem d_M_images_29 : vm_D q_M_images.2.1 29 1 30 (.aload_n 0) := ⟨by decide +kernel, rfl⟩
theorem d_M_images_30 : vm_D q_M_images.2.1 30 3 33 (.getfield 101) := ⟨by decide +kernel, rfl⟩
theorem d_M_images_33 : vm_D q_M_images.2.1 33 2 35 (.iload 4) := ⟨by decide +kernel, rfl⟩
theorem d_M_images_35 : vm_D q_M_images.2.1 35 1 36 (.aload_n 0) := ⟨by decide +kernel, rfl⟩
theorem d_M_images_36 : vm_D q_M_images.2.1 36 1 37 (.iload_n 3) := ⟨by decide +kernel, rfl⟩
theorem d_M_images_37 : vm_D q_M_images.2.1 37 1 38 (.aload_n 1) := ⟨by decide +kernel, rfl⟩
theorem d_M_images_38 : vm_D q_M_images.2.1 38 2 40 (.iload 5) := ⟨by decide +kernel, rfl⟩
theorem d_M_images_40 : vm_D q_M_images.2.1 40 1 41 (.iaload) := ⟨by decide +kernel, rfl⟩
theorem d_M_images_41 : vm_D q_M_images.2.1 41 2 43 (.iload 6) := ⟨by decide +kernel, rfl⟩
theorem d_M_images_43 : vm_D q_M_images.2.1 43 3 46 (.invokevirtual 308) := ⟨by decide +kernel, rfl⟩
theorem d_M_images_46 : vm_D q_M_images.2.1 46 1 47 (.iastore) := ⟨by decide +kernel, rfl⟩
theorem d_M_images_47 : vm_D q_M_images.2.1 47 3 50 (.iinc 4 1) := ⟨by decide +kernel, rfl⟩
theorem d_M_images_50 : vm_D q_M_images.2.1 50 3 53 (.iinc 6 1) := ⟨by decide +kernel, rfl⟩
theorem d_M_images_53 : ∃ off : Int, decode q_M_images.2.1 53 = .ok (.goto off, 3) ∧ ((53 : Nat) : Int) + off = ((15 : Nat) : Int) := ⟨-38, by decide +kernel, by decide⟩
theorem d_M_images_56 : vm_D q_M_images.2.1 56 3 59 (.iinc 5 1) := ⟨by decide +kernel, rfl⟩
theorem d_M_images_59 : ∃ off : Int, decode q_M_images.2.1 59 = .ok (.goto off, 3) ∧ ((59 : Nat) : Int) + off = ((6 : Nat) : Int) := ⟨-53, by decide +kernel, by decide⟩
theorem d_M_images_62 : vm_D q_M_images.2.1 62 2 64 (.iload 4) := ⟨by decide +kernel, rfl⟩
theorem d_M_images_64 : vm_D q_M_images.2.1 64 1 65 (.ireturn) := ⟨by decide +kernel, rfl⟩
def q_M_doesBreak : vm_Y := ("RepeatFreeModel", cX11_doesBreak, 3, false, [])
theorem d_M_doesBreak_0 : vm_D q_M_doesBreak.2.1 0 1 1 (.aload_n 0) := ⟨by decide +kernel, rfl⟩
theorem d_M_doesBreak_1 : vm_D q_M_doesBreak.2.1 1 1 2 (.aload_n 0) := ⟨by decide +kernel, rfl⟩
theorem d_M_doesBreak_2 : vm_D q_M_doesBreak.2.1 2 3 5 (.getfield 98) := ⟨by decide +kernel, rfl⟩
theorem d_M_doesBreak_5 : vm_D q_M_doesBreak.2.1 5 1 6 (.iload_n 1) := ⟨by decide +kernel, rfl⟩
theorem d_M_doesBreak_6 : vm_D q_M_doesBreak.2.1 6 1 7 (.aload_n 0) := ⟨by decide +kernel, rfl⟩
theorem d_M_doesBreak_7 : vm_D q_M_doesBreak.2.1 7 3 10 (.getfield 312) := ⟨by decide +kernel, rfl⟩
theorem d_M_doesBreak_10 : vm_D q_M_doesBreak.2.1 10 3 13 (.invokevirtual 315) := ⟨by decide +kernel, rfl⟩
theorem d_M_doesBreak_13 : vm_D q_M_doesBreak.2.1 13 1 14 (.istore_n 2) := ⟨by decide +kernel, rfl⟩
theorem d_M_doesBreak_14 : vm_D q_M_doesBreak.2.1 14 1 15 (.aload_n 0) := ⟨by decide +kernel, rfl⟩
theorem d_M_doesBreak_15 : vm_D q_M_doesBreak.2.1 15 1 16 (.aload_n 0) := ⟨by decide +kernel, rfl⟩
theorem d_M_doesBreak_16 : vm_D q_M_doesBreak.2.1 16 3 19 (.getfield 101) := ⟨by decide +kernel, rfl⟩
theorem d_M_doesBreak_19 : vm_D q_M_doesBreak.2.1 19 1 20 (.iload_n 2) := ⟨by decide +kernel, rfl⟩
theorem d_M_doesBreak_20 : vm_D q_M_doesBreak.2.1 20 3 23 (.invokevirtual 232) := ⟨by decide +kernel, rfl⟩
theorem d_M_doesBreak_23 : vm_D q_M_doesBreak.2.1 23 1 24 (.iload_n 2) := ⟨by decide +kernel, rfl⟩
theorem d_M_doesBreak_24 : vm_B q_M_doesBreak.2.1 24 27 31 (fun o => .if_icmp .ge o) := ⟨7, by decide +kernel, rfl, by decide⟩
theorem d_M_doesBreak_31 : vm_D q_M_doesBreak.2.1 31 1 32 (.iconst 0) := ⟨by decide +kernel, rfl⟩
theorem d_M_doesBreak_32 : vm_D q_M_doesBreak.2.1 32 1 33 (.ireturn) := ⟨by decide +kernel, rfl⟩
theorem d_M_doesBreak_27 : vm_D q_M_doesBreak.2.1 27 1 28 (.iconst 1) := ⟨by decide +kernel, rfl⟩
theorem d_M_doesBreak_28 : ∃ off : Int, decode q_M_doesBreak.2.1 28 = .ok (.goto off, 3) ∧ ((28 : Nat) : Int) + off = ((32 : Nat) : Int) := ⟨4, by decide +kernel, by decide⟩
def q_M_isAheadOf : vm_Y := ("RepeatFreeModel", cX11_isAheadOf, 3, false, [])
theorem d_M_isAheadOf_0 : vm_D q_M_isAheadOf.2.1 0 1 1 (.iconst 0) := ⟨by decide +kernel, rfl⟩
theorem d_M_isAheadOf_1 : vm_D q_M_isAheadOf.2.1 1 1 2 (.istore_n 2) := ⟨by decide +kernel, rfl⟩
theorem d_M_isAheadOf_2 : vm_D q_M_isAheadOf.2.1 2 1 3 (.iload_n 2) := ⟨by decide +kernel, rfl⟩
theorem d_M_isAheadOf_3 : vm_D q_M_isAheadOf.2.1 3 1 4 (.iload_n 1) := ⟨by decide +kernel, rfl⟩
theorem d_M_isAheadOf_4 : vm_B q_M_isAheadOf.2.1 4 7 28 (fun o => .if_icmp .ge o) := ⟨24, by decide +kernel, rfl, by decide⟩
theorem d_M_isAheadOf_7 : vm_D q_M_isAheadOf.2.1 7 1 8 (.aload_n 0) := ⟨by decide +kernel, rfl⟩
theorem d_M_isAheadOf_8 : vm_D q_M_isAheadOf.2.1 8 3 11 (.getfield 98) := ⟨by decide +kernel, rfl⟩
theorem d_M_isAheadOf_11 : vm_D q_M_isAheadOf.2.1 11 1 12 (.iload_n 2) := ⟨by decide +kernel, rfl⟩
theorem d_M_isAheadOf_12 : vm_D q_M_isAheadOf.2.1 12 1 13 (.iaload) := ⟨by decide +kernel, rfl⟩
theorem d_M_isAheadOf_13 : vm_D q_M_isAheadOf.2.1 13 1 14 (.aload_n 0) := ⟨by decide +kernel, rfl⟩
theorem d_M_isAheadOf_14 : vm_D q_M_isAheadOf.2.1 14 3 17 (.getfield 83) := ⟨by decide +kernel, rfl⟩
theorem d_M_isAheadOf_17 : vm_D q_M_isAheadOf.2.1 17 1 18 (.iload_n 2) := ⟨by decide +kernel, rfl⟩
theorem d_M_isAheadOf_18 : vm_D q_M_isAheadOf.2.1 18 1 19 (.iaload) := ⟨by decide +kernel, rfl⟩
theorem d_M_isAheadOf_19 : vm_B q_M_isAheadOf.2.1 19 22 28 (fun o => .if_icmp .ne o) := ⟨9, by decide +kernel, rfl, by decide⟩
theorem d_M_isAheadOf_22 : vm_D q_M_isAheadOf.2.1 22 3 25 (.iinc 2 1) := ⟨by decide +kernel, rfl⟩
theorem d_M_isAheadOf_25 : ∃ off : Int, decode q_M_isAheadOf.2.1 25 = .ok (.goto off, 3) ∧ ((25 : Nat) : Int) + off = ((2 : Nat) : Int) := ⟨-23, by decide +kernel, by decide⟩
theorem d_M_isAheadOf_28 : vm_D q_M_isAheadOf.2.1 28 1 29 (.iload_n 2) := ⟨by decide +kernel, rfl⟩
theorem d_M_isAheadOf_29 : vm_D q_M_isAheadOf.2.1 29 1 30 (.iload_n 1) := ⟨by decide +kernel, rfl⟩
theorem d_M_isAheadOf_30 : vm_B q_M_isAheadOf.2.1 30 33 52 (fun o => .if_icmp .ge o) := ⟨22, by decide +kernel, rfl, by decide⟩
theorem d_M_isAheadOf_52 : vm_D q_M_isAheadOf.2.1 52 1 53 (.iconst 0) := ⟨by decide +kernel, rfl⟩
theorem d_M_isAheadOf_53 : vm_D q_M_isAheadOf.2.1 53 1 54 (.ireturn) := ⟨by decide +kernel, rfl⟩
theorem d_M_isAheadOf_33 : vm_D q_M_isAheadOf.2.1 33 1 34 (.aload_n 0) := ⟨by decide +kernel, rfl⟩
theorem d_M_isAheadOf_34 : vm_D q_M_isAheadOf.2.1 34 3 37 (.getfield 98) := ⟨by decide +kernel, rfl⟩
theorem d_M_isAheadOf_37 : vm_D q_M_isAheadOf.2.1 37 1 38 (.iload_n 2) := ⟨by decide +kernel, rfl⟩
theorem d_M_isAheadOf_38 : vm_D q_M_isAheadOf.2.1 38 1 39 (.iaload) := ⟨by decide +kernel, rfl⟩
theorem d_M_isAheadOf_39 : vm_D q_M_isAheadOf.2.1 39 1 40 (.aload_n 0) := ⟨by decide +kernel, rfl⟩
theorem d_M_isAheadOf_40 : vm_D q_M_isAheadOf.2.1 40 3 43 (.getfield 83) := ⟨by decide +kernel, rfl⟩
theorem d_M_isAheadOf_43 : vm_D q_M_isAheadOf.2.1 43 1 44 (.iload_n 2) := ⟨by decide +kernel, rfl⟩
theorem d_M_isAheadOf_44 : vm_D q_M_isAheadOf.2.1 44 1 45 (.iaload) := ⟨by decide +kernel, rfl⟩
theorem d_M_isAheadOf_45 : vm_B q_M_isAheadOf.2.1 45 48 52 (fun o => .if_icmp .ge o) := ⟨7, by decide +kernel, rfl, by decide⟩
theorem d_M_isAheadOf_48 : vm_D q_M_isAheadOf.2.1 48 1 49 (.iconst 1) := ⟨by decide +kernel, rfl⟩
theorem d_M_isAheadOf_49 : ∃ off : Int, decode q_M_isAheadOf.2.1 49 = .ok (.goto off, 3) ∧ ((49 : Nat) : Int) + off = ((53 : Nat) : Int) := ⟨4, by decide +kernel, by decide⟩
def q_M_isStuck : vm_Y := ("RepeatFreeModel", cX11_isStuck, 3, false, [])
theorem d_M_isStuck_0 : vm_D q_M_isStuck.2.1 0 1 1 (.iconst 0) := ⟨by decide +kernel, rfl⟩
theorem d_M_isStuck_1 : vm_D q_M_isStuck.2.1 1 1 2 (.istore_n 2) := ⟨by decide +kernel, rfl⟩
theorem d_M_isStuck_2 : vm_D q_M_isStuck.2.1 2 1 3 (.iload_n 2) := ⟨by decide +kernel, rfl⟩
theorem d_M_isStuck_3 : vm_D q_M_isStuck.2.1 3 1 4 (.aload_n 0) := ⟨by decide +kernel, rfl⟩
theorem d_M_isStuck_4 : vm_D q_M_isStuck.2.1 4 3 7 (.getfield 77) := ⟨by decide +kernel, rfl⟩
theorem d_M_isStuck_7 : vm_D q_M_isStuck.2.1 7 1 8 (.iconst 0) := ⟨by decide +kernel, rfl⟩
theorem d_M_isStuck_8 : vm_D q_M_isStuck.2.1 8 1 9 (.iaload) := ⟨by decide +kernel, rfl⟩
theorem d_M_isStuck_9 : vm_B q_M_isStuck.2.1 9 12 41 (fun o => .if_icmp .ge o) := ⟨32, by decide +kernel, rfl, by decide⟩
theorem d_M_isStuck_12 : vm_D q_M_isStuck.2.1 12 1 13 (.aload_n 0) := ⟨by decide +kernel, rfl⟩
theorem d_M_isStuck_13 : vm_D q_M_isStuck.2.1 13 3 16 (.getfield 98) := ⟨by decide +kernel, rfl⟩
theorem d_M_isStuck_16 : vm_D q_M_isStuck.2.1 16 1 17 (.iload_n 1) := ⟨by decide +kernel, rfl⟩
theorem d_M_isStuck_17 : vm_D q_M_isStuck.2.1 17 1 18 (.iload_n 2) := ⟨by decide +kernel, rfl⟩
theorem d_M_isStuck_18 : vm_D q_M_isStuck.2.1 18 1 19 (.iastore) := ⟨by decide +kernel, rfl⟩
theorem d_M_isStuck_19 : vm_D q_M_isStuck.2.1 19 1 20 (.aload_n 0) := ⟨by decide +kernel, rfl⟩
theorem d_M_isStuck_20 : vm_D q_M_isStuck.2.1 20 1 21 (.aload_n 0) := ⟨by decide +kernel, rfl⟩
theorem d_M_isStuck_21 : vm_D q_M_isStuck.2.1 21 3 24 (.getfield 98) := ⟨by decide +kernel, rfl⟩
theorem d_M_isStuck_24 : vm_D q_M_isStuck.2.1 24 1 25 (.iload_n 1) := ⟨by decide +kernel, rfl⟩
theorem d_M_isStuck_25 : vm_D q_M_isStuck.2.1 25 1 26 (.iconst 1) := ⟨by decide +kernel, rfl⟩
theorem d_M_isStuck_26 : vm_D q_M_isStuck.2.1 26 1 27 (.iadd) := ⟨by decide +kernel, rfl⟩
theorem d_M_isStuck_27 : vm_D q_M_isStuck.2.1 27 3 30 (.invokevirtual 229) := ⟨by decide +kernel, rfl⟩
theorem d_M_isStuck_30 : vm_B q_M_isStuck.2.1 30 33 35 (fun o => .ifCond .eq o) := ⟨5, by decide +kernel, rfl, by decide⟩
theorem d_M_isStuck_35 : vm_D q_M_isStuck.2.1 35 3 38 (.iinc 2 1) := ⟨by decide +kernel, rfl⟩
theorem d_M_isStuck_38 : ∃ off : Int, decode q_M_isStuck.2.1 38 = .ok (.goto off, 3) ∧ ((38 : Nat) : Int) + off = ((2 : Nat) : Int) := ⟨-36, by decide +kernel, by decide⟩
theorem d_M_isStuck_33 : vm_D q_M_isStuck.2.1 33 1 34 (.iconst 0) := ⟨by decide +kernel, rfl⟩
theorem d_M_isStuck_34 : vm_D q_M_isStuck.2.1 34 1 35 (.ireturn) := ⟨by decide +kernel, rfl⟩
theorem d_M_isStuck_41 : vm_D q_M_isStuck.2.1 41 1 42 (.iconst 1) := ⟨by decide +kernel, rfl⟩
theorem d_M_isStuck_42 : vm_D q_M_isStuck.2.1 42 1 43 (.ireturn) := ⟨by decide +kernel, rfl⟩
def q_M_meets : vm_Y := ("RepeatFreeModel", cX11_meets, 3, false, [])
theorem d_M_meets_0 : vm_D q_M_meets.2.1 0 1 1 (.iload_n 2) := ⟨by decide +kernel, rfl⟩
theorem d_M_meets_1 : decode q_M_meets.2.1 1 = .ok (.tableswitch 143 0 4 #[35, 42, 54, 78, 100], 35) := by decide +kernel
theorem d_M_meets_1_o : ∀ i, i < 5 → ∃ off : Int, (#[35, 42, 54, 78, 100] : Array Int)[i]? = some off ∧ ((1 : Nat) : Int) + off = ((([36, 43, 55, 79, 101] : List Nat).getD i 0 : Nat) : Int) := by
  intro i hi
  match i, hi with
  | 0, _ => exact ⟨_, rfl, rfl⟩
  | 1, _ => exact ⟨_, rfl, rfl⟩
  | 2, _ => exact ⟨_, rfl, rfl⟩
  | 3, _ => exact ⟨_, rfl, rfl⟩
  | 4, _ => exact ⟨_, rfl, rfl⟩
  | k + 5, hi => exact absurd hi (by omega)
theorem d_M_meets_144 : vm_D q_M_meets.2.1 144 1 145 (.aload_n 0) := ⟨by decide +kernel, rfl⟩
theorem d_M_meets_145 : vm_D q_M_meets.2.1 145 1 146 (.aload_n 0) := ⟨by decide +kernel, rfl⟩
theorem d_M_meets_146 : vm_D q_M_meets.2.1 146 1 147 (.iload_n 1) := ⟨by decide +kernel, rfl⟩
theorem d_M_meets_147 : vm_D q_M_meets.2.1 147 3 150 (.invokevirtual 287) := ⟨by decide +kernel, rfl⟩
theorem d_M_meets_150 : vm_D q_M_meets.2.1 150 3 153 (.putfield 271) := ⟨by decide +kernel, rfl⟩
theorem d_M_meets_153 : vm_D q_M_meets.2.1 153 1 154 (.aload_n 0) := ⟨by decide +kernel, rfl⟩
theorem d_M_meets_154 : vm_D q_M_meets.2.1 154 3 157 (.getfield 271) := ⟨by decide +kernel, rfl⟩
theorem d_M_meets_157 : vm_B q_M_meets.2.1 157 160 164 (fun o => .ifCond .ne o) := ⟨7, by decide +kernel, rfl, by decide⟩
theorem d_M_meets_164 : vm_D q_M_meets.2.1 164 1 165 (.iconst 0) := ⟨by decide +kernel, rfl⟩
theorem d_M_meets_165 : vm_D q_M_meets.2.1 165 1 166 (.ireturn) := ⟨by decide +kernel, rfl⟩
theorem d_M_meets_160 : vm_D q_M_meets.2.1 160 1 161 (.iconst 1) := ⟨by decide +kernel, rfl⟩
theorem d_M_meets_161 : ∃ off : Int, decode q_M_meets.2.1 161 = .ok (.goto off, 3) ∧ ((161 : Nat) : Int) + off = ((165 : Nat) : Int) := ⟨4, by decide +kernel, by decide⟩
theorem d_M_meets_36 : vm_D q_M_meets.2.1 36 1 37 (.aload_n 0) := ⟨by decide +kernel, rfl⟩
theorem d_M_meets_37 : vm_D q_M_meets.2.1 37 1 38 (.iconst 1) := ⟨by decide +kernel, rfl⟩
theorem d_M_meets_38 : vm_D q_M_meets.2.1 38 3 41 (.putfield 271) := ⟨by decide +kernel, rfl⟩
theorem d_M_meets_41 : vm_D q_M_meets.2.1 41 1 42 (.iconst 0) := ⟨by decide +kernel, rfl⟩
theorem d_M_meets_42 : vm_D q_M_meets.2.1 42 1 43 (.ireturn) := ⟨by decide +kernel, rfl⟩
theorem d_M_meets_43 : vm_D q_M_meets.2.1 43 1 44 (.aload_n 0) := ⟨by decide +kernel, rfl⟩
theorem d_M_meets_44 : vm_D q_M_meets.2.1 44 1 45 (.dup) := ⟨by decide +kernel, rfl⟩
theorem d_M_meets_45 : vm_D q_M_meets.2.1 45 3 48 (.getfield 274) := ⟨by decide +kernel, rfl⟩
theorem d_M_meets_48 : vm_D q_M_meets.2.1 48 1 49 (.iconst 1) := ⟨by decide +kernel, rfl⟩
theorem d_M_meets_49 : vm_D q_M_meets.2.1 49 1 50 (.iadd) := ⟨by decide +kernel, rfl⟩
theorem d_M_meets_50 : vm_D q_M_meets.2.1 50 3 53 (.putfield 274) := ⟨by decide +kernel, rfl⟩
theorem d_M_meets_53 : vm_D q_M_meets.2.1 53 1 54 (.iconst 1) := ⟨by decide +kernel, rfl⟩
theorem d_M_meets_54 : vm_D q_M_meets.2.1 54 1 55 (.ireturn) := ⟨by decide +kernel, rfl⟩
theorem d_M_meets_55 : vm_D q_M_meets.2.1 55 1 56 (.aload_n 0) := ⟨by decide +kernel, rfl⟩
theorem d_M_meets_56 : vm_D q_M_meets.2.1 56 1 57 (.dup) := ⟨by decide +kernel, rfl⟩
theorem d_M_meets_57 : vm_D q_M_meets.2.1 57 3 60 (.getfield 274) := ⟨by decide +kernel, rfl⟩
theorem d_M_meets_60 : vm_D q_M_meets.2.1 60 1 61 (.aload_n 0) := ⟨by decide +kernel, rfl⟩
theorem d_M_meets_61 : vm_D q_M_meets.2.1 61 1 62 (.iload_n 1) := ⟨by decide +kernel, rfl⟩
theorem d_M_meets_62 : vm_D q_M_meets.2.1 62 3 65 (.invokevirtual 277) := ⟨by decide +kernel, rfl⟩
theorem d_M_meets_65 : vm_B q_M_meets.2.1 65 68 72 (fun o => .ifCond .eq o) := ⟨7, by decide +kernel, rfl, by decide⟩
theorem d_M_meets_73 : vm_D q_M_meets.2.1 73 1 74 (.iadd) := ⟨by decide +kernel, rfl⟩
theorem d_M_meets_74 : vm_D q_M_meets.2.1 74 3 77 (.putfield 274) := ⟨by decide +kernel, rfl⟩
theorem d_M_meets_77 : vm_D q_M_meets.2.1 77 1 78 (.iconst 1) := ⟨by decide +kernel, rfl⟩
theorem d_M_meets_78 : vm_D q_M_meets.2.1 78 1 79 (.ireturn) := ⟨by decide +kernel, rfl⟩
theorem d_M_meets_72 : vm_D q_M_meets.2.1 72 1 73 (.iconst 0) := ⟨by decide +kernel, rfl⟩
theorem d_M_meets_68 : vm_D q_M_meets.2.1 68 1 69 (.iconst 1) := ⟨by decide +kernel, rfl⟩
theorem d_M_meets_69 : ∃ off : Int, decode q_M_meets.2.1 69 = .ok (.goto off, 3) ∧ ((69 : Nat) : Int) + off = ((73 : Nat) : Int) := ⟨4, by decide +kernel, by decide⟩
theorem d_M_meets_79 : vm_D q_M_meets.2.1 79 1 80 (.aload_n 0) := ⟨by decide +kernel, rfl⟩
theorem d_M_meets_80 : vm_D q_M_meets.2.1 80 1 81 (.iload_n 1) := ⟨by decide +kernel, rfl⟩
theorem d_M_meets_81 : vm_D q_M_meets.2.1 81 3 84 (.invokevirtual 281) := ⟨by decide +kernel, rfl⟩
theorem d_M_meets_84 : vm_B q_M_meets.2.1 84 87 89 (fun o => .ifCond .ne o) := ⟨5, by decide +kernel, rfl, by decide⟩
theorem d_M_meets_89 : vm_D q_M_meets.2.1 89 1 90 (.aload_n 0) := ⟨by decide +kernel, rfl⟩
theorem d_M_meets_90 : vm_D q_M_meets.2.1 90 1 91 (.dup) := ⟨by decide +kernel, rfl⟩
theorem d_M_meets_91 : vm_D q_M_meets.2.1 91 3 94 (.getfield 274) := ⟨by decide +kernel, rfl⟩
theorem d_M_meets_94 : vm_D q_M_meets.2.1 94 1 95 (.iconst 1) := ⟨by decide +kernel, rfl⟩
theorem d_M_meets_95 : vm_D q_M_meets.2.1 95 1 96 (.iadd) := ⟨by decide +kernel, rfl⟩
theorem d_M_meets_96 : vm_D q_M_meets.2.1 96 3 99 (.putfield 274) := ⟨by decide +kernel, rfl⟩
theorem d_M_meets_99 : vm_D q_M_meets.2.1 99 1 100 (.iconst 1) := ⟨by decide +kernel, rfl⟩
theorem d_M_meets_100 : vm_D q_M_meets.2.1 100 1 101 (.ireturn) := ⟨by decide +kernel, rfl⟩
theorem d_M_meets_87 : vm_D q_M_meets.2.1 87 1 88 (.iconst 0) := ⟨by decide +kernel, rfl⟩
theorem d_M_meets_88 : vm_D q_M_meets.2.1 88 1 89 (.ireturn) := ⟨by decide +kernel, rfl⟩
theorem d_M_meets_101 : vm_D q_M_meets.2.1 101 1 102 (.aload_n 0) := ⟨by decide +kernel, rfl⟩
theorem d_M_meets_102 : vm_D q_M_meets.2.1 102 1 103 (.aload_n 0) := ⟨by decide +kernel, rfl⟩
theorem d_M_meets_103 : vm_D q_M_meets.2.1 103 3 106 (.getfield 274) := ⟨by decide +kernel, rfl⟩
theorem d_M_meets_106 : vm_D q_M_meets.2.1 106 1 107 (.aload_n 0) := ⟨by decide +kernel, rfl⟩
theorem d_M_meets_107 : vm_D q_M_meets.2.1 107 3 110 (.getfield 284) := ⟨by decide +kernel, rfl⟩
theorem d_M_meets_110 : vm_B q_M_meets.2.1 110 113 117 (fun o => .if_icmp .ne o) := ⟨7, by decide +kernel, rfl, by decide⟩
theorem d_M_meets_118 : vm_D q_M_meets.2.1 118 3 121 (.putfield 271) := ⟨by decide +kernel, rfl⟩
theorem d_M_meets_121 : vm_D q_M_meets.2.1 121 1 122 (.aload_n 0) := ⟨by decide +kernel, rfl⟩
theorem d_M_meets_122 : vm_D q_M_meets.2.1 122 1 123 (.dup) := ⟨by decide +kernel, rfl⟩
theorem d_M_meets_123 : vm_D q_M_meets.2.1 123 3 126 (.getfield 274) := ⟨by decide +kernel, rfl⟩
theorem d_M_meets_126 : vm_D q_M_meets.2.1 126 1 127 (.iconst 1) := ⟨by decide +kernel, rfl⟩
theorem d_M_meets_127 : vm_D q_M_meets.2.1 127 1 128 (.iadd) := ⟨by decide +kernel, rfl⟩
theorem d_M_meets_128 : vm_D q_M_meets.2.1 128 3 131 (.putfield 274) := ⟨by decide +kernel, rfl⟩
theorem d_M_meets_131 : vm_D q_M_meets.2.1 131 1 132 (.aload_n 0) := ⟨by decide +kernel, rfl⟩
theorem d_M_meets_132 : vm_D q_M_meets.2.1 132 3 135 (.getfield 271) := ⟨by decide +kernel, rfl⟩
theorem d_M_meets_135 : vm_B q_M_meets.2.1 135 138 142 (fun o => .ifCond .ne o) := ⟨7, by decide +kernel, rfl, by decide⟩
theorem d_M_meets_142 : vm_D q_M_meets.2.1 142 1 143 (.iconst 0) := ⟨by decide +kernel, rfl⟩
theorem d_M_meets_143 : vm_D q_M_meets.2.1 143 1 144 (.ireturn) := ⟨by decide +kernel, rfl⟩
theorem d_M_meets_138 : vm_D q_M_meets.2.1 138 1 139 (.iconst 1) := ⟨by decide +kernel, rfl⟩
theorem d_M_meets_139 : ∃ off : Int, decode q_M_meets.2.1 139 = .ok (.goto off, 3) ∧ ((139 : Nat) : Int) + off = ((143 : Nat) : Int) := ⟨4, by decide +kernel, by decide⟩
theorem d_M_meets_117 : vm_D q_M_meets.2.1 117 1 118 (.iconst 0) := ⟨by decide +kernel, rfl⟩
theorem d_M_meets_113 : vm_D q_M_meets.2.1 113 1 114 (.iconst 1) := ⟨by decide +kernel, rfl⟩
theorem d_M_meets_114 : ∃ off : Int, decode q_M_meets.2.1 114 = .ok (.goto off, 3) ∧ ((114 : Nat) : Int) + off = ((118 : Nat) : Int) := ⟨4, by decide +kernel, by decide⟩
def q_M_searches : vm_Y := ("RepeatFreeModel", cX11_searches, 5, false, [])
theorem d_M_searches_0 : vm_D q_M_searches.2.1 0 1 1 (.iload_n 1) := ⟨by decide +kernel, rfl⟩
theorem d_M_searches_1 : vm_D q_M_searches.2.1 1 1 2 (.iload_n 2) := ⟨by decide +kernel, rfl⟩
theorem d_M_searches_2 : vm_B q_M_searches.2.1 2 5 12 (fun o => .if_icmp .ne o) := ⟨10, by decide +kernel, rfl, by decide⟩
theorem d_M_searches_12 : vm_D q_M_searches.2.1 12 1 13 (.iconst 0) := ⟨by decide +kernel, rfl⟩
theorem d_M_searches_13 : vm_D q_M_searches.2.1 13 2 15 (.istore 4) := ⟨by decide +kernel, rfl⟩
theorem d_M_searches_15 : vm_D q_M_searches.2.1 15 2 17 (.iload 4) := ⟨by decide +kernel, rfl⟩
theorem d_M_searches_17 : vm_D q_M_searches.2.1 17 1 18 (.aload_n 0) := ⟨by decide +kernel, rfl⟩
theorem d_M_searches_18 : vm_D q_M_searches.2.1 18 3 21 (.getfield 77) := ⟨by decide +kernel, rfl⟩
theorem d_M_searches_21 : vm_D q_M_searches.2.1 21 1 22 (.iconst 0) := ⟨by decide +kernel, rfl⟩
theorem d_M_searches_22 : vm_D q_M_searches.2.1 22 1 23 (.iaload) := ⟨by decide +kernel, rfl⟩
theorem d_M_searches_23 : vm_B q_M_searches.2.1 23 26 95 (fun o => .if_icmp .ge o) := ⟨72, by decide +kernel, rfl, by decide⟩
theorem d_M_searches_26 : vm_D q_M_searches.2.1 26 1 27 (.aload_n 0) := ⟨by decide +kernel, rfl⟩
theorem d_M_searches_27 : vm_D q_M_searches.2.1 27 3 30 (.getfield 262) := ⟨by decide +kernel, rfl⟩
theorem d_M_searches_30 : vm_D q_M_searches.2.1 30 3 33 (.sipush 5000) := ⟨by decide +kernel, rfl⟩
theorem d_M_searches_33 : vm_B q_M_searches.2.1 33 36 43 (fun o => .if_icmp .ne o) := ⟨10, by decide +kernel, rfl, by decide⟩
theorem d_M_searches_43 : vm_D q_M_searches.2.1 43 1 44 (.aload_n 0) := ⟨by decide +kernel, rfl⟩
theorem d_M_searches_44 : vm_D q_M_searches.2.1 44 1 45 (.dup) := ⟨by decide +kernel, rfl⟩
theorem d_M_searches_45 : vm_D q_M_searches.2.1 45 3 48 (.getfield 262) := ⟨by decide +kernel, rfl⟩
theorem d_M_searches_48 : vm_D q_M_searches.2.1 48 1 49 (.iconst 1) := ⟨by decide +kernel, rfl⟩
theorem d_M_searches_49 : vm_D q_M_searches.2.1 49 1 50 (.iadd) := ⟨by decide +kernel, rfl⟩
theorem d_M_searches_50 : vm_D q_M_searches.2.1 50 3 53 (.putfield 262) := ⟨by decide +kernel, rfl⟩
theorem d_M_searches_53 : vm_D q_M_searches.2.1 53 1 54 (.aload_n 0) := ⟨by decide +kernel, rfl⟩
theorem d_M_searches_54 : vm_D q_M_searches.2.1 54 3 57 (.getfield 98) := ⟨by decide +kernel, rfl⟩
theorem d_M_searches_57 : vm_D q_M_searches.2.1 57 1 58 (.iload_n 1) := ⟨by decide +kernel, rfl⟩
theorem d_M_searches_58 : vm_D q_M_searches.2.1 58 2 60 (.iload 4) := ⟨by decide +kernel, rfl⟩
theorem d_M_searches_60 : vm_D q_M_searches.2.1 60 1 61 (.iastore) := ⟨by decide +kernel, rfl⟩
theorem d_M_searches_61 : vm_D q_M_searches.2.1 61 1 62 (.aload_n 0) := ⟨by decide +kernel, rfl⟩
theorem d_M_searches_62 : vm_D q_M_searches.2.1 62 1 63 (.aload_n 0) := ⟨by decide +kernel, rfl⟩
theorem d_M_searches_63 : vm_D q_M_searches.2.1 63 3 66 (.getfield 98) := ⟨by decide +kernel, rfl⟩
theorem d_M_searches_66 : vm_D q_M_searches.2.1 66 1 67 (.iload_n 1) := ⟨by decide +kernel, rfl⟩
theorem d_M_searches_67 : vm_D q_M_searches.2.1 67 1 68 (.iconst 1) := ⟨by decide +kernel, rfl⟩
theorem d_M_searches_68 : vm_D q_M_searches.2.1 68 1 69 (.iadd) := ⟨by decide +kernel, rfl⟩
theorem d_M_searches_69 : vm_D q_M_searches.2.1 69 3 72 (.invokevirtual 229) := ⟨by decide +kernel, rfl⟩
theorem d_M_searches_72 : vm_B q_M_searches.2.1 72 75 89 (fun o => .ifCond .eq o) := ⟨17, by decide +kernel, rfl, by decide⟩
theorem d_M_searches_89 : vm_D q_M_searches.2.1 89 3 92 (.iinc 4 1) := ⟨by decide +kernel, rfl⟩
theorem d_M_searches_92 : ∃ off : Int, decode q_M_searches.2.1 92 = .ok (.goto off, 3) ∧ ((92 : Nat) : Int) + off = ((15 : Nat) : Int) := ⟨-77, by decide +kernel, by decide⟩
theorem d_M_searches_75 : vm_D q_M_searches.2.1 75 1 76 (.aload_n 0) := ⟨by decide +kernel, rfl⟩
theorem d_M_searches_76 : vm_D q_M_searches.2.1 76 1 77 (.iload_n 1) := ⟨by decide +kernel, rfl⟩
theorem d_M_searches_77 : vm_D q_M_searches.2.1 77 1 78 (.iconst 1) := ⟨by decide +kernel, rfl⟩
theorem d_M_searches_78 : vm_D q_M_searches.2.1 78 1 79 (.iadd) := ⟨by decide +kernel, rfl⟩
theorem d_M_searches_79 : vm_D q_M_searches.2.1 79 1 80 (.iload_n 2) := ⟨by decide +kernel, rfl⟩
theorem d_M_searches_80 : vm_D q_M_searches.2.1 80 1 81 (.iload_n 3) := ⟨by decide +kernel, rfl⟩
theorem d_M_searches_81 : vm_D q_M_searches.2.1 81 3 84 (.invokevirtual 268) := ⟨by decide +kernel, rfl⟩
theorem d_M_searches_84 : vm_B q_M_searches.2.1 84 87 89 (fun o => .ifCond .ne o) := ⟨5, by decide +kernel, rfl, by decide⟩
theorem d_M_searches_87 : vm_D q_M_searches.2.1 87 1 88 (.iconst 0) := ⟨by decide +kernel, rfl⟩
theorem d_M_searches_88 : vm_D q_M_searches.2.1 88 1 89 (.ireturn) := ⟨by decide +kernel, rfl⟩
theorem d_M_searches_36 : vm_D q_M_searches.2.1 36 1 37 (.aload_n 0) := ⟨by decide +kernel, rfl⟩
theorem d_M_searches_37 : vm_D q_M_searches.2.1 37 1 38 (.iconst 1) := ⟨by decide +kernel, rfl⟩
theorem d_M_searches_38 : vm_D q_M_searches.2.1 38 3 41 (.putfield 265) := ⟨by decide +kernel, rfl⟩
theorem d_M_searches_41 : vm_D q_M_searches.2.1 41 1 42 (.iconst 0) := ⟨by decide +kernel, rfl⟩
theorem d_M_searches_42 : vm_D q_M_searches.2.1 42 1 43 (.ireturn) := ⟨by decide +kernel, rfl⟩
theorem d_M_searches_95 : vm_D q_M_searches.2.1 95 1 96 (.iconst 1) := ⟨by decide +kernel, rfl⟩
theorem d_M_searches_96 : vm_D q_M_searches.2.1 96 1 97 (.ireturn) := ⟨by decide +kernel, rfl⟩
theorem d_M_searches_5 : vm_D q_M_searches.2.1 5 1 6 (.aload_n 0) := ⟨by decide +kernel, rfl⟩
theorem d_M_searches_6 : vm_D q_M_searches.2.1 6 1 7 (.iload_n 2) := ⟨by decide +kernel, rfl⟩
theorem d_M_searches_7 : vm_D q_M_searches.2.1 7 1 8 (.iload_n 3) := ⟨by decide +kernel, rfl⟩
theorem d_M_searches_8 : vm_D q_M_searches.2.1 8 3 11 (.invokevirtual 259) := ⟨by decide +kernel, rfl⟩
theorem d_M_searches_11 : vm_D q_M_searches.2.1 11 1 12 (.ireturn) := ⟨by decide +kernel, rfl⟩
def q_M_startsSearch : vm_Y := ("RepeatFreeModel", cX11_startsSearch, 1, false, [])
theorem d_M_startsSearch_0 : vm_D q_M_startsSearch.2.1 0 1 1 (.aload_n 0) := ⟨by decide +kernel, rfl⟩
theorem d_M_startsSearch_1 : vm_D q_M_startsSearch.2.1 1 1 2 (.iconst 0) := ⟨by decide +kernel, rfl⟩
theorem d_M_startsSearch_2 : vm_D q_M_startsSearch.2.1 2 3 5 (.putfield 262) := ⟨by decide +kernel, rfl⟩
theorem d_M_startsSearch_5 : vm_D q_M_startsSearch.2.1 5 1 6 (.aload_n 0) := ⟨by decide +kernel, rfl⟩
theorem d_M_startsSearch_6 : vm_D q_M_startsSearch.2.1 6 1 7 (.iconst 0) := ⟨by decide +kernel, rfl⟩
theorem d_M_startsSearch_7 : vm_D q_M_startsSearch.2.1 7 3 10 (.putfield 274) := ⟨by decide +kernel, rfl⟩
theorem d_M_startsSearch_10 : vm_D q_M_startsSearch.2.1 10 1 11 (.aload_n 0) := ⟨by decide +kernel, rfl⟩
theorem d_M_startsSearch_11 : vm_D q_M_startsSearch.2.1 11 1 12 (.iconst 0) := ⟨by decide +kernel, rfl⟩
theorem d_M_startsSearch_12 : vm_D q_M_startsSearch.2.1 12 3 15 (.putfield 265) := ⟨by decide +kernel, rfl⟩
theorem d_M_startsSearch_15 : vm_D q_M_startsSearch.2.1 15 1 16 (.aload_n 0) := ⟨by decide +kernel, rfl⟩
theorem d_M_startsSearch_16 : vm_D q_M_startsSearch.2.1 16 1 17 (.iconst 0) := ⟨by decide +kernel, rfl⟩
theorem d_M_startsSearch_17 : vm_D q_M_startsSearch.2.1 17 3 20 (.putfield 271) := ⟨by decide +kernel, rfl⟩
theorem d_M_startsSearch_20 : vm_D q_M_startsSearch.2.1 20 1 21 (.return_) := ⟨by decide +kernel, rfl⟩
def q_M_takes : vm_Y := ("RepeatFreeModel", cX11_takes, 2, false, [])
theorem d_M_takes_0 : vm_D q_M_takes.2.1 0 1 1 (.iconst 0) := ⟨by decide +kernel, rfl⟩
theorem d_M_takes_1 : vm_D q_M_takes.2.1 1 1 2 (.istore_n 1) := ⟨by decide +kernel, rfl⟩
theorem d_M_takes_2 : vm_D q_M_takes.2.1 2 1 3 (.iload_n 1) := ⟨by decide +kernel, rfl⟩
theorem d_M_takes_3 : vm_D q_M_takes.2.1 3 1 4 (.aload_n 0) := ⟨by decide +kernel, rfl⟩
theorem d_M_takes_4 : vm_D q_M_takes.2.1 4 3 7 (.getfield 184) := ⟨by decide +kernel, rfl⟩
theorem d_M_takes_7 : vm_B q_M_takes.2.1 7 10 28 (fun o => .if_icmp .ge o) := ⟨21, by decide +kernel, rfl, by decide⟩
theorem d_M_takes_10 : vm_D q_M_takes.2.1 10 1 11 (.aload_n 0) := ⟨by decide +kernel, rfl⟩
theorem d_M_takes_11 : vm_D q_M_takes.2.1 11 3 14 (.getfield 98) := ⟨by decide +kernel, rfl⟩
theorem d_M_takes_14 : vm_D q_M_takes.2.1 14 1 15 (.iload_n 1) := ⟨by decide +kernel, rfl⟩
theorem d_M_takes_15 : vm_D q_M_takes.2.1 15 1 16 (.aload_n 0) := ⟨by decide +kernel, rfl⟩
theorem d_M_takes_16 : vm_D q_M_takes.2.1 16 3 19 (.getfield 83) := ⟨by decide +kernel, rfl⟩
theorem d_M_takes_19 : vm_D q_M_takes.2.1 19 1 20 (.iload_n 1) := ⟨by decide +kernel, rfl⟩
theorem d_M_takes_20 : vm_D q_M_takes.2.1 20 1 21 (.iaload) := ⟨by decide +kernel, rfl⟩
theorem d_M_takes_21 : vm_D q_M_takes.2.1 21 1 22 (.iastore) := ⟨by decide +kernel, rfl⟩
theorem d_M_takes_22 : vm_D q_M_takes.2.1 22 3 25 (.iinc 1 1) := ⟨by decide +kernel, rfl⟩
theorem d_M_takes_25 : ∃ off : Int, decode q_M_takes.2.1 25 = .ok (.goto off, 3) ∧ ((25 : Nat) : Int) + off = ((2 : Nat) : Int) := ⟨-23, by decide +kernel, by decide⟩
theorem d_M_takes_28 : vm_D q_M_takes.2.1 28 1 29 (.return_) := ⟨by decide +kernel, rfl⟩
def q_M_becomesFound : vm_Y := ("RepeatFreeModel", cX11_becomesFound, 3, false, [])
theorem d_M_becomesFound_0 : vm_D q_M_becomesFound.2.1 0 1 1 (.iconst 0) := ⟨by decide +kernel, rfl⟩
theorem d_M_becomesFound_1 : vm_D q_M_becomesFound.2.1 1 1 2 (.istore_n 2) := ⟨by decide +kernel, rfl⟩
theorem d_M_becomesFound_2 : vm_D q_M_becomesFound.2.1 2 1 3 (.iload_n 2) := ⟨by decide +kernel, rfl⟩
theorem d_M_becomesFound_3 : vm_D q_M_becomesFound.2.1 3 1 4 (.iload_n 1) := ⟨by decide +kernel, rfl⟩
theorem d_M_becomesFound_4 : vm_B q_M_becomesFound.2.1 4 7 25 (fun o => .if_icmp .ge o) := ⟨21, by decide +kernel, rfl, by decide⟩
theorem d_M_becomesFound_7 : vm_D q_M_becomesFound.2.1 7 1 8 (.aload_n 0) := ⟨by decide +kernel, rfl⟩
theorem d_M_becomesFound_8 : vm_D q_M_becomesFound.2.1 8 3 11 (.getfield 86) := ⟨by decide +kernel, rfl⟩
theorem d_M_becomesFound_11 : vm_D q_M_becomesFound.2.1 11 1 12 (.iload_n 2) := ⟨by decide +kernel, rfl⟩
theorem d_M_becomesFound_12 : vm_D q_M_becomesFound.2.1 12 1 13 (.aload_n 0) := ⟨by decide +kernel, rfl⟩
theorem d_M_becomesFound_13 : vm_D q_M_becomesFound.2.1 13 3 16 (.getfield 98) := ⟨by decide +kernel, rfl⟩
theorem d_M_becomesFound_16 : vm_D q_M_becomesFound.2.1 16 1 17 (.iload_n 2) := ⟨by decide +kernel, rfl⟩
theorem d_M_becomesFound_17 : vm_D q_M_becomesFound.2.1 17 1 18 (.iaload) := ⟨by decide +kernel, rfl⟩
theorem d_M_becomesFound_18 : vm_D q_M_becomesFound.2.1 18 1 19 (.iastore) := ⟨by decide +kernel, rfl⟩
theorem d_M_becomesFound_19 : vm_D q_M_becomesFound.2.1 19 3 22 (.iinc 2 1) := ⟨by decide +kernel, rfl⟩
theorem d_M_becomesFound_22 : ∃ off : Int, decode q_M_becomesFound.2.1 22 = .ok (.goto off, 3) ∧ ((22 : Nat) : Int) + off = ((2 : Nat) : Int) := ⟨-20, by decide +kernel, by decide⟩
theorem d_M_becomesFound_25 : vm_D q_M_becomesFound.2.1 25 1 26 (.aload_n 0) := ⟨by decide +kernel, rfl⟩
theorem d_M_becomesFound_26 : vm_D q_M_becomesFound.2.1 26 1 27 (.iload_n 1) := ⟨by decide +kernel, rfl⟩
theorem d_M_becomesFound_27 : vm_D q_M_becomesFound.2.1 27 3 30 (.invokevirtual 193) := ⟨by decide +kernel, rfl⟩
theorem d_M_becomesFound_30 : vm_D q_M_becomesFound.2.1 30 1 31 (.return_) := ⟨by decide +kernel, rfl⟩
def q_M_first : vm_Y := ("RepeatFreeModel", cX11_first, 3, false, [])
theorem d_M_first_0 : vm_D q_M_first.2.1 0 1 1 (.aload_n 0) := ⟨by decide +kernel, rfl⟩
theorem d_M_first_1 : vm_D q_M_first.2.1 1 1 2 (.iconst 0) := ⟨by decide +kernel, rfl⟩
theorem d_M_first_2 : vm_D q_M_first.2.1 2 3 5 (.putfield 3) := ⟨by decide +kernel, rfl⟩
theorem d_M_first_5 : vm_D q_M_first.2.1 5 1 6 (.aload_n 0) := ⟨by decide +kernel, rfl⟩
theorem d_M_first_6 : vm_D q_M_first.2.1 6 1 7 (.iload_n 1) := ⟨by decide +kernel, rfl⟩
theorem d_M_first_7 : vm_D q_M_first.2.1 7 1 8 (.iconst 1) := ⟨by decide +kernel, rfl⟩
theorem d_M_first_8 : vm_D q_M_first.2.1 8 2 10 (.bipush 40) := ⟨by decide +kernel, rfl⟩
theorem d_M_first_10 : vm_D q_M_first.2.1 10 3 13 (.invokestatic 65) := ⟨by decide +kernel, rfl⟩
theorem d_M_first_13 : vm_B q_M_first.2.1 13 16 20 (fun o => .ifCond .ne o) := ⟨7, by decide +kernel, rfl, by decide⟩
theorem d_M_first_21 : vm_D q_M_first.2.1 21 1 22 (.iconst 1) := ⟨by decide +kernel, rfl⟩
theorem d_M_first_22 : vm_D q_M_first.2.1 22 3 25 (.invokevirtual 180) := ⟨by decide +kernel, rfl⟩
theorem d_M_first_25 : vm_B q_M_first.2.1 25 28 30 (fun o => .ifCond .eq o) := ⟨5, by decide +kernel, rfl, by decide⟩
theorem d_M_first_30 : vm_D q_M_first.2.1 30 1 31 (.aload_n 0) := ⟨by decide +kernel, rfl⟩
theorem d_M_first_31 : vm_D q_M_first.2.1 31 3 34 (.invokevirtual 290) := ⟨by decide +kernel, rfl⟩
theorem d_M_first_34 : vm_D q_M_first.2.1 34 1 35 (.aload_n 0) := ⟨by decide +kernel, rfl⟩
theorem d_M_first_35 : vm_D q_M_first.2.1 35 1 36 (.iconst 0) := ⟨by decide +kernel, rfl⟩
theorem d_M_first_36 : vm_D q_M_first.2.1 36 1 37 (.iload_n 1) := ⟨by decide +kernel, rfl⟩
theorem d_M_first_37 : vm_D q_M_first.2.1 37 1 38 (.iconst 0) := ⟨by decide +kernel, rfl⟩
theorem d_M_first_38 : vm_D q_M_first.2.1 38 3 41 (.invokevirtual 268) := ⟨by decide +kernel, rfl⟩
theorem d_M_first_41 : vm_D q_M_first.2.1 41 1 42 (.istore_n 2) := ⟨by decide +kernel, rfl⟩
theorem d_M_first_42 : vm_D q_M_first.2.1 42 1 43 (.aload_n 0) := ⟨by decide +kernel, rfl⟩
theorem d_M_first_43 : vm_D q_M_first.2.1 43 3 46 (.getfield 265) := ⟨by decide +kernel, rfl⟩
theorem d_M_first_46 : vm_B q_M_first.2.1 46 49 52 (fun o => .ifCond .eq o) := ⟨6, by decide +kernel, rfl, by decide⟩
theorem d_M_first_52 : vm_D q_M_first.2.1 52 1 53 (.aload_n 0) := ⟨by decide +kernel, rfl⟩
theorem d_M_first_53 : vm_D q_M_first.2.1 53 3 56 (.getfield 271) := ⟨by decide +kernel, rfl⟩
theorem d_M_first_56 : vm_B q_M_first.2.1 56 59 61 (fun o => .ifCond .ne o) := ⟨5, by decide +kernel, rfl, by decide⟩
theorem d_M_first_61 : vm_D q_M_first.2.1 61 1 62 (.aload_n 0) := ⟨by decide +kernel, rfl⟩
theorem d_M_first_62 : vm_D q_M_first.2.1 62 1 63 (.iload_n 1) := ⟨by decide +kernel, rfl⟩
theorem d_M_first_63 : vm_D q_M_first.2.1 63 3 66 (.invokevirtual 293) := ⟨by decide +kernel, rfl⟩
theorem d_M_first_66 : vm_D q_M_first.2.1 66 1 67 (.aload_n 0) := ⟨by decide +kernel, rfl⟩
theorem d_M_first_67 : vm_D q_M_first.2.1 67 3 70 (.getfield 262) := ⟨by decide +kernel, rfl⟩
theorem d_M_first_70 : vm_D q_M_first.2.1 70 1 71 (.ireturn) := ⟨by decide +kernel, rfl⟩
theorem d_M_first_59 : vm_D q_M_first.2.1 59 1 60 (.iconst (-1)) := ⟨by decide +kernel, rfl⟩
theorem d_M_first_60 : vm_D q_M_first.2.1 60 1 61 (.ireturn) := ⟨by decide +kernel, rfl⟩
theorem d_M_first_49 : vm_D q_M_first.2.1 49 2 51 (.bipush (-2)) := ⟨by decide +kernel, rfl⟩
theorem d_M_first_51 : vm_D q_M_first.2.1 51 1 52 (.ireturn) := ⟨by decide +kernel, rfl⟩
theorem d_M_first_28 : vm_D q_M_first.2.1 28 1 29 (.iconst 0) := ⟨by decide +kernel, rfl⟩
theorem d_M_first_29 : vm_D q_M_first.2.1 29 1 30 (.ireturn) := ⟨by decide +kernel, rfl⟩
theorem d_M_first_20 : vm_D q_M_first.2.1 20 1 21 (.iconst 0) := ⟨by decide +kernel, rfl⟩
theorem d_M_first_16 : vm_D q_M_first.2.1 16 1 17 (.iconst 1) := ⟨by decide +kernel, rfl⟩
theorem d_M_first_17 : ∃ off : Int, decode q_M_first.2.1 17 = .ok (.goto off, 3) ∧ ((17 : Nat) : Int) + off = ((21 : Nat) : Int) := ⟨4, by decide +kernel, by decide⟩
def q_M_next : vm_Y := ("RepeatFreeModel", cX11_next, 5, false, [])
theorem d_M_next_0 : vm_D q_M_next.2.1 0 1 1 (.aload_n 0) := ⟨by decide +kernel, rfl⟩
theorem d_M_next_1 : vm_D q_M_next.2.1 1 1 2 (.iconst 0) := ⟨by decide +kernel, rfl⟩
theorem d_M_next_2 : vm_D q_M_next.2.1 2 3 5 (.putfield 3) := ⟨by decide +kernel, rfl⟩
theorem d_M_next_5 : vm_D q_M_next.2.1 5 1 6 (.aload_n 0) := ⟨by decide +kernel, rfl⟩
theorem d_M_next_6 : vm_D q_M_next.2.1 6 1 7 (.aload_n 0) := ⟨by decide +kernel, rfl⟩
theorem d_M_next_7 : vm_D q_M_next.2.1 7 3 10 (.getfield 184) := ⟨by decide +kernel, rfl⟩
theorem d_M_next_10 : vm_D q_M_next.2.1 10 2 12 (.bipush 40) := ⟨by decide +kernel, rfl⟩
theorem d_M_next_12 : vm_B q_M_next.2.1 12 15 19 (fun o => .if_icmp .le o) := ⟨7, by decide +kernel, rfl, by decide⟩
theorem d_M_next_20 : vm_D q_M_next.2.1 20 1 21 (.iconst 1) := ⟨by decide +kernel, rfl⟩
theorem d_M_next_21 : vm_D q_M_next.2.1 21 3 24 (.invokevirtual 180) := ⟨by decide +kernel, rfl⟩
theorem d_M_next_24 : vm_B q_M_next.2.1 24 27 29 (fun o => .ifCond .eq o) := ⟨5, by decide +kernel, rfl, by decide⟩
theorem d_M_next_29 : vm_D q_M_next.2.1 29 1 30 (.aload_n 0) := ⟨by decide +kernel, rfl⟩
theorem d_M_next_30 : vm_D q_M_next.2.1 30 3 33 (.invokevirtual 290) := ⟨by decide +kernel, rfl⟩
theorem d_M_next_33 : vm_D q_M_next.2.1 33 1 34 (.aload_n 0) := ⟨by decide +kernel, rfl⟩
theorem d_M_next_34 : vm_D q_M_next.2.1 34 3 37 (.invokevirtual 296) := ⟨by decide +kernel, rfl⟩
theorem d_M_next_37 : vm_D q_M_next.2.1 37 1 38 (.aload_n 0) := ⟨by decide +kernel, rfl⟩
theorem d_M_next_38 : vm_D q_M_next.2.1 38 1 39 (.aload_n 0) := ⟨by decide +kernel, rfl⟩
theorem d_M_next_39 : vm_D q_M_next.2.1 39 3 42 (.getfield 83) := ⟨by decide +kernel, rfl⟩
theorem d_M_next_42 : vm_D q_M_next.2.1 42 1 43 (.aload_n 0) := ⟨by decide +kernel, rfl⟩
theorem d_M_next_43 : vm_D q_M_next.2.1 43 3 46 (.getfield 184) := ⟨by decide +kernel, rfl⟩
theorem d_M_next_46 : vm_D q_M_next.2.1 46 3 49 (.invokevirtual 232) := ⟨by decide +kernel, rfl⟩
theorem d_M_next_49 : vm_D q_M_next.2.1 49 1 50 (.istore_n 1) := ⟨by decide +kernel, rfl⟩
theorem d_M_next_50 : vm_D q_M_next.2.1 50 1 51 (.aload_n 0) := ⟨by decide +kernel, rfl⟩
theorem d_M_next_51 : vm_D q_M_next.2.1 51 3 54 (.getfield 184) := ⟨by decide +kernel, rfl⟩
theorem d_M_next_54 : vm_D q_M_next.2.1 54 1 55 (.iconst 1) := ⟨by decide +kernel, rfl⟩
theorem d_M_next_55 : vm_D q_M_next.2.1 55 1 56 (.isub) := ⟨by decide +kernel, rfl⟩
theorem d_M_next_56 : vm_D q_M_next.2.1 56 1 57 (.istore_n 2) := ⟨by decide +kernel, rfl⟩
theorem d_M_next_57 : vm_D q_M_next.2.1 57 1 58 (.iload_n 2) := ⟨by decide +kernel, rfl⟩
theorem d_M_next_58 : vm_B q_M_next.2.1 58 61 197 (fun o => .ifCond .lt o) := ⟨139, by decide +kernel, rfl, by decide⟩
theorem d_M_next_61 : vm_D q_M_next.2.1 61 1 62 (.aload_n 0) := ⟨by decide +kernel, rfl⟩
theorem d_M_next_62 : vm_D q_M_next.2.1 62 3 65 (.invokevirtual 296) := ⟨by decide +kernel, rfl⟩
theorem d_M_next_65 : vm_D q_M_next.2.1 65 1 66 (.aload_n 0) := ⟨by decide +kernel, rfl⟩
theorem d_M_next_66 : vm_D q_M_next.2.1 66 3 69 (.getfield 83) := ⟨by decide +kernel, rfl⟩
theorem d_M_next_69 : vm_D q_M_next.2.1 69 1 70 (.iload_n 2) := ⟨by decide +kernel, rfl⟩
theorem d_M_next_70 : vm_D q_M_next.2.1 70 1 71 (.iaload) := ⟨by decide +kernel, rfl⟩
theorem d_M_next_71 : vm_D q_M_next.2.1 71 1 72 (.iconst 1) := ⟨by decide +kernel, rfl⟩
theorem d_M_next_72 : vm_D q_M_next.2.1 72 1 73 (.iadd) := ⟨by decide +kernel, rfl⟩
theorem d_M_next_73 : vm_D q_M_next.2.1 73 1 74 (.istore_n 3) := ⟨by decide +kernel, rfl⟩
theorem d_M_next_74 : vm_D q_M_next.2.1 74 1 75 (.iload_n 3) := ⟨by decide +kernel, rfl⟩
theorem d_M_next_75 : vm_D q_M_next.2.1 75 1 76 (.aload_n 0) := ⟨by decide +kernel, rfl⟩
theorem d_M_next_76 : vm_D q_M_next.2.1 76 3 79 (.getfield 77) := ⟨by decide +kernel, rfl⟩
theorem d_M_next_79 : vm_D q_M_next.2.1 79 1 80 (.iconst 0) := ⟨by decide +kernel, rfl⟩
theorem d_M_next_80 : vm_D q_M_next.2.1 80 1 81 (.iaload) := ⟨by decide +kernel, rfl⟩
theorem d_M_next_81 : vm_B q_M_next.2.1 81 84 191 (fun o => .if_icmp .ge o) := ⟨110, by decide +kernel, rfl, by decide⟩
theorem d_M_next_84 : vm_D q_M_next.2.1 84 1 85 (.iload_n 2) := ⟨by decide +kernel, rfl⟩
theorem d_M_next_85 : vm_D q_M_next.2.1 85 1 86 (.iload_n 1) := ⟨by decide +kernel, rfl⟩
theorem d_M_next_86 : vm_B q_M_next.2.1 86 89 191 (fun o => .if_icmp .gt o) := ⟨105, by decide +kernel, rfl, by decide⟩
theorem d_M_next_89 : vm_D q_M_next.2.1 89 1 90 (.aload_n 0) := ⟨by decide +kernel, rfl⟩
theorem d_M_next_90 : vm_D q_M_next.2.1 90 3 93 (.getfield 262) := ⟨by decide +kernel, rfl⟩
theorem d_M_next_93 : vm_D q_M_next.2.1 93 3 96 (.sipush 5000) := ⟨by decide +kernel, rfl⟩
theorem d_M_next_96 : vm_B q_M_next.2.1 96 99 102 (fun o => .if_icmp .ne o) := ⟨6, by decide +kernel, rfl, by decide⟩
theorem d_M_next_102 : vm_D q_M_next.2.1 102 1 103 (.aload_n 0) := ⟨by decide +kernel, rfl⟩
theorem d_M_next_103 : vm_D q_M_next.2.1 103 1 104 (.dup) := ⟨by decide +kernel, rfl⟩
theorem d_M_next_104 : vm_D q_M_next.2.1 104 3 107 (.getfield 262) := ⟨by decide +kernel, rfl⟩
theorem d_M_next_107 : vm_D q_M_next.2.1 107 1 108 (.iconst 1) := ⟨by decide +kernel, rfl⟩
theorem d_M_next_108 : vm_D q_M_next.2.1 108 1 109 (.iadd) := ⟨by decide +kernel, rfl⟩
theorem d_M_next_109 : vm_D q_M_next.2.1 109 3 112 (.putfield 262) := ⟨by decide +kernel, rfl⟩
theorem d_M_next_112 : vm_D q_M_next.2.1 112 1 113 (.aload_n 0) := ⟨by decide +kernel, rfl⟩
theorem d_M_next_113 : vm_D q_M_next.2.1 113 3 116 (.getfield 98) := ⟨by decide +kernel, rfl⟩
theorem d_M_next_116 : vm_D q_M_next.2.1 116 1 117 (.iload_n 2) := ⟨by decide +kernel, rfl⟩
theorem d_M_next_117 : vm_D q_M_next.2.1 117 1 118 (.iload_n 3) := ⟨by decide +kernel, rfl⟩
theorem d_M_next_118 : vm_D q_M_next.2.1 118 1 119 (.iastore) := ⟨by decide +kernel, rfl⟩
theorem d_M_next_119 : vm_D q_M_next.2.1 119 1 120 (.aload_n 0) := ⟨by decide +kernel, rfl⟩
theorem d_M_next_120 : vm_D q_M_next.2.1 120 1 121 (.aload_n 0) := ⟨by decide +kernel, rfl⟩
theorem d_M_next_121 : vm_D q_M_next.2.1 121 3 124 (.getfield 98) := ⟨by decide +kernel, rfl⟩
theorem d_M_next_124 : vm_D q_M_next.2.1 124 1 125 (.iload_n 2) := ⟨by decide +kernel, rfl⟩
theorem d_M_next_125 : vm_D q_M_next.2.1 125 1 126 (.iconst 1) := ⟨by decide +kernel, rfl⟩
theorem d_M_next_126 : vm_D q_M_next.2.1 126 1 127 (.iadd) := ⟨by decide +kernel, rfl⟩
theorem d_M_next_127 : vm_D q_M_next.2.1 127 3 130 (.invokevirtual 229) := ⟨by decide +kernel, rfl⟩
theorem d_M_next_130 : vm_B q_M_next.2.1 130 133 148 (fun o => .ifCond .eq o) := ⟨18, by decide +kernel, rfl, by decide⟩
theorem d_M_next_153 : vm_D q_M_next.2.1 153 2 155 (.istore 4) := ⟨by decide +kernel, rfl⟩
theorem d_M_next_155 : vm_D q_M_next.2.1 155 1 156 (.aload_n 0) := ⟨by decide +kernel, rfl⟩
theorem d_M_next_156 : vm_D q_M_next.2.1 156 3 159 (.getfield 265) := ⟨by decide +kernel, rfl⟩
theorem d_M_next_159 : vm_B q_M_next.2.1 159 162 165 (fun o => .ifCond .eq o) := ⟨6, by decide +kernel, rfl, by decide⟩
theorem d_M_next_165 : vm_D q_M_next.2.1 165 1 166 (.aload_n 0) := ⟨by decide +kernel, rfl⟩
theorem d_M_next_166 : vm_D q_M_next.2.1 166 3 169 (.getfield 271) := ⟨by decide +kernel, rfl⟩
theorem d_M_next_169 : vm_B q_M_next.2.1 169 172 175 (fun o => .ifCond .ne o) := ⟨6, by decide +kernel, rfl, by decide⟩
theorem d_M_next_175 : vm_D q_M_next.2.1 175 1 176 (.aload_n 0) := ⟨by decide +kernel, rfl⟩
theorem d_M_next_176 : vm_D q_M_next.2.1 176 1 177 (.aload_n 0) := ⟨by decide +kernel, rfl⟩
theorem d_M_next_177 : vm_D q_M_next.2.1 177 3 180 (.getfield 184) := ⟨by decide +kernel, rfl⟩
theorem d_M_next_180 : vm_D q_M_next.2.1 180 3 183 (.invokevirtual 293) := ⟨by decide +kernel, rfl⟩
theorem d_M_next_183 : vm_D q_M_next.2.1 183 1 184 (.iload_n 2) := ⟨by decide +kernel, rfl⟩
theorem d_M_next_184 : vm_D q_M_next.2.1 184 1 185 (.ireturn) := ⟨by decide +kernel, rfl⟩
theorem d_M_next_172 : ∃ off : Int, decode q_M_next.2.1 172 = .ok (.goto off, 3) ∧ ((172 : Nat) : Int) + off = ((185 : Nat) : Int) := ⟨13, by decide +kernel, by decide⟩
theorem d_M_next_185 : vm_D q_M_next.2.1 185 3 188 (.iinc 3 1) := ⟨by decide +kernel, rfl⟩
theorem d_M_next_188 : ∃ off : Int, decode q_M_next.2.1 188 = .ok (.goto off, 3) ∧ ((188 : Nat) : Int) + off = ((74 : Nat) : Int) := ⟨-114, by decide +kernel, by decide⟩
theorem d_M_next_162 : vm_D q_M_next.2.1 162 2 164 (.bipush (-2)) := ⟨by decide +kernel, rfl⟩
theorem d_M_next_164 : vm_D q_M_next.2.1 164 1 165 (.ireturn) := ⟨by decide +kernel, rfl⟩
theorem d_M_next_148 : vm_D q_M_next.2.1 148 1 149 (.iconst 1) := ⟨by decide +kernel, rfl⟩
theorem d_M_next_149 : ∃ off : Int, decode q_M_next.2.1 149 = .ok (.goto off, 3) ∧ ((149 : Nat) : Int) + off = ((153 : Nat) : Int) := ⟨4, by decide +kernel, by decide⟩
theorem d_M_next_133 : vm_D q_M_next.2.1 133 1 134 (.aload_n 0) := ⟨by decide +kernel, rfl⟩
theorem d_M_next_134 : vm_D q_M_next.2.1 134 1 135 (.iload_n 2) := ⟨by decide +kernel, rfl⟩
theorem d_M_next_135 : vm_D q_M_next.2.1 135 1 136 (.iconst 1) := ⟨by decide +kernel, rfl⟩
theorem d_M_next_136 : vm_D q_M_next.2.1 136 1 137 (.iadd) := ⟨by decide +kernel, rfl⟩
theorem d_M_next_137 : vm_D q_M_next.2.1 137 1 138 (.aload_n 0) := ⟨by decide +kernel, rfl⟩
theorem d_M_next_138 : vm_D q_M_next.2.1 138 3 141 (.getfield 184) := ⟨by decide +kernel, rfl⟩
theorem d_M_next_141 : vm_D q_M_next.2.1 141 1 142 (.iconst 0) := ⟨by decide +kernel, rfl⟩
theorem d_M_next_142 : vm_D q_M_next.2.1 142 3 145 (.invokevirtual 268) := ⟨by decide +kernel, rfl⟩
theorem d_M_next_145 : vm_B q_M_next.2.1 145 148 152 (fun o => .ifCond .eq o) := ⟨7, by decide +kernel, rfl, by decide⟩
theorem d_M_next_152 : vm_D q_M_next.2.1 152 1 153 (.iconst 0) := ⟨by decide +kernel, rfl⟩
theorem d_M_next_99 : vm_D q_M_next.2.1 99 2 101 (.bipush (-2)) := ⟨by decide +kernel, rfl⟩
theorem d_M_next_101 : vm_D q_M_next.2.1 101 1 102 (.ireturn) := ⟨by decide +kernel, rfl⟩
theorem d_M_next_191 : vm_D q_M_next.2.1 191 3 194 (.iinc 2 (-1)) := ⟨by decide +kernel, rfl⟩
theorem d_M_next_194 : ∃ off : Int, decode q_M_next.2.1 194 = .ok (.goto off, 3) ∧ ((194 : Nat) : Int) + off = ((57 : Nat) : Int) := ⟨-137, by decide +kernel, by decide⟩
theorem d_M_next_197 : vm_D q_M_next.2.1 197 1 198 (.iconst (-1)) := ⟨by decide +kernel, rfl⟩
theorem d_M_next_198 : vm_D q_M_next.2.1 198 1 199 (.ireturn) := ⟨by decide +kernel, rfl⟩
theorem d_M_next_27 : vm_D q_M_next.2.1 27 1 28 (.iconst 0) := ⟨by decide +kernel, rfl⟩
theorem d_M_next_28 : vm_D q_M_next.2.1 28 1 29 (.ireturn) := ⟨by decide +kernel, rfl⟩
theorem d_M_next_19 : vm_D q_M_next.2.1 19 1 20 (.iconst 0) := ⟨by decide +kernel, rfl⟩
theorem d_M_next_15 : vm_D q_M_next.2.1 15 1 16 (.iconst 1) := ⟨by decide +kernel, rfl⟩
theorem d_M_next_16 : ∃ off : Int, decode q_M_next.2.1 16 = .ok (.goto off, 3) ∧ ((16 : Nat) : Int) + off = ((20 : Nat) : Int) := ⟨4, by decide +kernel, by decide⟩
def q_M_countBy : vm_Y := ("RepeatFreeModel", cX11_countBy, 4, false, [])
theorem d_M_countBy_0 : vm_D q_M_countBy.2.1 0 1 1 (.aload_n 0) := ⟨by decide +kernel, rfl⟩
theorem d_M_countBy_1 : vm_D q_M_countBy.2.1 1 3 4 (.invokevirtual 290) := ⟨by decide +kernel, rfl⟩
theorem d_M_countBy_4 : vm_D q_M_countBy.2.1 4 1 5 (.aload_n 0) := ⟨by decide +kernel, rfl⟩
theorem d_M_countBy_5 : vm_D q_M_countBy.2.1 5 1 6 (.iconst 0) := ⟨by decide +kernel, rfl⟩
theorem d_M_countBy_6 : vm_D q_M_countBy.2.1 6 1 7 (.iload_n 1) := ⟨by decide +kernel, rfl⟩
theorem d_M_countBy_7 : vm_D q_M_countBy.2.1 7 1 8 (.iload_n 2) := ⟨by decide +kernel, rfl⟩
theorem d_M_countBy_8 : vm_D q_M_countBy.2.1 8 3 11 (.invokevirtual 268) := ⟨by decide +kernel, rfl⟩
theorem d_M_countBy_11 : vm_D q_M_countBy.2.1 11 1 12 (.istore_n 3) := ⟨by decide +kernel, rfl⟩
theorem d_M_countBy_12 : vm_D q_M_countBy.2.1 12 1 13 (.aload_n 0) := ⟨by decide +kernel, rfl⟩
theorem d_M_countBy_13 : vm_D q_M_countBy.2.1 13 3 16 (.getfield 265) := ⟨by decide +kernel, rfl⟩
theorem d_M_countBy_16 : vm_B q_M_countBy.2.1 16 19 24 (fun o => .ifCond .eq o) := ⟨8, by decide +kernel, rfl, by decide⟩
theorem d_M_countBy_24 : vm_D q_M_countBy.2.1 24 1 25 (.aload_n 0) := ⟨by decide +kernel, rfl⟩
theorem d_M_countBy_25 : vm_D q_M_countBy.2.1 25 3 28 (.getfield 274) := ⟨by decide +kernel, rfl⟩
theorem d_M_countBy_28 : vm_D q_M_countBy.2.1 28 1 29 (.ireturn) := ⟨by decide +kernel, rfl⟩
theorem d_M_countBy_19 : vm_D q_M_countBy.2.1 19 2 21 (.bipush (-2)) := ⟨by decide +kernel, rfl⟩
theorem d_M_countBy_21 : ∃ off : Int, decode q_M_countBy.2.1 21 = .ok (.goto off, 3) ∧ ((21 : Nat) : Int) + off = ((28 : Nat) : Int) := ⟨7, by decide +kernel, by decide⟩
def q_M_many : vm_Y := ("RepeatFreeModel", cX11_many, 2, false, [])
theorem d_M_many_0 : vm_D q_M_many.2.1 0 1 1 (.aload_n 0) := ⟨by decide +kernel, rfl⟩
theorem d_M_many_1 : vm_D q_M_many.2.1 1 1 2 (.iconst 0) := ⟨by decide +kernel, rfl⟩
theorem d_M_many_2 : vm_D q_M_many.2.1 2 3 5 (.putfield 3) := ⟨by decide +kernel, rfl⟩
theorem d_M_many_5 : vm_D q_M_many.2.1 5 1 6 (.aload_n 0) := ⟨by decide +kernel, rfl⟩
theorem d_M_many_6 : vm_D q_M_many.2.1 6 1 7 (.iload_n 1) := ⟨by decide +kernel, rfl⟩
theorem d_M_many_7 : vm_D q_M_many.2.1 7 1 8 (.iconst 0) := ⟨by decide +kernel, rfl⟩
theorem d_M_many_8 : vm_D q_M_many.2.1 8 2 10 (.bipush 40) := ⟨by decide +kernel, rfl⟩
theorem d_M_many_10 : vm_D q_M_many.2.1 10 3 13 (.invokestatic 65) := ⟨by decide +kernel, rfl⟩
theorem d_M_many_13 : vm_B q_M_many.2.1 13 16 20 (fun o => .ifCond .ne o) := ⟨7, by decide +kernel, rfl, by decide⟩
theorem d_M_many_21 : vm_D q_M_many.2.1 21 1 22 (.iconst 1) := ⟨by decide +kernel, rfl⟩
theorem d_M_many_22 : vm_D q_M_many.2.1 22 3 25 (.invokevirtual 180) := ⟨by decide +kernel, rfl⟩
theorem d_M_many_25 : vm_B q_M_many.2.1 25 28 30 (fun o => .ifCond .eq o) := ⟨5, by decide +kernel, rfl, by decide⟩
theorem d_M_many_30 : vm_D q_M_many.2.1 30 1 31 (.aload_n 0) := ⟨by decide +kernel, rfl⟩
theorem d_M_many_31 : vm_D q_M_many.2.1 31 1 32 (.iload_n 1) := ⟨by decide +kernel, rfl⟩
theorem d_M_many_32 : vm_D q_M_many.2.1 32 1 33 (.iconst 1) := ⟨by decide +kernel, rfl⟩
theorem d_M_many_33 : vm_D q_M_many.2.1 33 3 36 (.invokevirtual 299) := ⟨by decide +kernel, rfl⟩
theorem d_M_many_36 : vm_D q_M_many.2.1 36 1 37 (.ireturn) := ⟨by decide +kernel, rfl⟩
theorem d_M_many_28 : vm_D q_M_many.2.1 28 1 29 (.iconst 0) := ⟨by decide +kernel, rfl⟩
theorem d_M_many_29 : vm_D q_M_many.2.1 29 1 30 (.ireturn) := ⟨by decide +kernel, rfl⟩
theorem d_M_many_20 : vm_D q_M_many.2.1 20 1 21 (.iconst 0) := ⟨by decide +kernel, rfl⟩
theorem d_M_many_16 : vm_D q_M_many.2.1 16 1 17 (.iconst 1) := ⟨by decide +kernel, rfl⟩
theorem d_M_many_17 : ∃ off : Int, decode q_M_many.2.1 17 = .ok (.goto off, 3) ∧ ((17 : Nat) : Int) + off = ((21 : Nat) : Int) := ⟨4, by decide +kernel, by decide⟩
def q_M_growth : vm_Y := ("RepeatFreeModel", cX11_growth, 4, false, [])
theorem d_M_growth_0 : vm_D q_M_growth.2.1 0 1 1 (.aload_n 0) := ⟨by decide +kernel, rfl⟩
theorem d_M_growth_1 : vm_D q_M_growth.2.1 1 1 2 (.iconst 0) := ⟨by decide +kernel, rfl⟩
theorem d_M_growth_2 : vm_D q_M_growth.2.1 2 3 5 (.putfield 3) := ⟨by decide +kernel, rfl⟩
theorem d_M_growth_5 : vm_D q_M_growth.2.1 5 1 6 (.aload_n 0) := ⟨by decide +kernel, rfl⟩
theorem d_M_growth_6 : vm_D q_M_growth.2.1 6 1 7 (.iload_n 1) := ⟨by decide +kernel, rfl⟩
theorem d_M_growth_7 : vm_D q_M_growth.2.1 7 1 8 (.iconst 0) := ⟨by decide +kernel, rfl⟩
theorem d_M_growth_8 : vm_D q_M_growth.2.1 8 2 10 (.bipush 39) := ⟨by decide +kernel, rfl⟩
theorem d_M_growth_10 : vm_D q_M_growth.2.1 10 3 13 (.invokestatic 65) := ⟨by decide +kernel, rfl⟩
theorem d_M_growth_13 : vm_B q_M_growth.2.1 13 16 20 (fun o => .ifCond .ne o) := ⟨7, by decide +kernel, rfl, by decide⟩
theorem d_M_growth_21 : vm_D q_M_growth.2.1 21 1 22 (.iconst 1) := ⟨by decide +kernel, rfl⟩
theorem d_M_growth_22 : vm_D q_M_growth.2.1 22 3 25 (.invokevirtual 180) := ⟨by decide +kernel, rfl⟩
theorem d_M_growth_25 : vm_B q_M_growth.2.1 25 28 30 (fun o => .ifCond .eq o) := ⟨5, by decide +kernel, rfl, by decide⟩
theorem d_M_growth_30 : vm_D q_M_growth.2.1 30 1 31 (.aload_n 0) := ⟨by decide +kernel, rfl⟩
theorem d_M_growth_31 : vm_D q_M_growth.2.1 31 1 32 (.iload_n 1) := ⟨by decide +kernel, rfl⟩
theorem d_M_growth_32 : vm_D q_M_growth.2.1 32 1 33 (.iconst 1) := ⟨by decide +kernel, rfl⟩
theorem d_M_growth_33 : vm_D q_M_growth.2.1 33 3 36 (.invokevirtual 299) := ⟨by decide +kernel, rfl⟩
theorem d_M_growth_36 : vm_D q_M_growth.2.1 36 1 37 (.istore_n 2) := ⟨by decide +kernel, rfl⟩
theorem d_M_growth_37 : vm_D q_M_growth.2.1 37 1 38 (.iload_n 2) := ⟨by decide +kernel, rfl⟩
theorem d_M_growth_38 : vm_D q_M_growth.2.1 38 2 40 (.bipush (-2)) := ⟨by decide +kernel, rfl⟩
theorem d_M_growth_40 : vm_B q_M_growth.2.1 40 43 47 (fun o => .if_icmp .eq o) := ⟨7, by decide +kernel, rfl, by decide⟩
theorem d_M_growth_47 : vm_D q_M_growth.2.1 47 1 48 (.iload_n 2) := ⟨by decide +kernel, rfl⟩
theorem d_M_growth_48 : vm_D q_M_growth.2.1 48 2 50 (.bipush (-2)) := ⟨by decide +kernel, rfl⟩
theorem d_M_growth_50 : vm_B q_M_growth.2.1 50 53 58 (fun o => .if_icmp .ne o) := ⟨8, by decide +kernel, rfl, by decide⟩
theorem d_M_growth_58 : vm_D q_M_growth.2.1 58 1 59 (.iconst (-1)) := ⟨by decide +kernel, rfl⟩
theorem d_M_growth_59 : vm_D q_M_growth.2.1 59 1 60 (.ireturn) := ⟨by decide +kernel, rfl⟩
theorem d_M_growth_53 : vm_D q_M_growth.2.1 53 2 55 (.bipush (-2)) := ⟨by decide +kernel, rfl⟩
theorem d_M_growth_55 : ∃ off : Int, decode q_M_growth.2.1 55 = .ok (.goto off, 3) ∧ ((55 : Nat) : Int) + off = ((59 : Nat) : Int) := ⟨4, by decide +kernel, by decide⟩
theorem d_M_growth_43 : vm_D q_M_growth.2.1 43 1 44 (.iload_n 2) := ⟨by decide +kernel, rfl⟩
theorem d_M_growth_44 : vm_B q_M_growth.2.1 44 47 60 (fun o => .ifCond .ne o) := ⟨16, by decide +kernel, rfl, by decide⟩
theorem d_M_growth_60 : vm_D q_M_growth.2.1 60 1 61 (.aload_n 0) := ⟨by decide +kernel, rfl⟩
theorem d_M_growth_61 : vm_D q_M_growth.2.1 61 1 62 (.iload_n 1) := ⟨by decide +kernel, rfl⟩
theorem d_M_growth_62 : vm_D q_M_growth.2.1 62 1 63 (.iconst 1) := ⟨by decide +kernel, rfl⟩
theorem d_M_growth_63 : vm_D q_M_growth.2.1 63 1 64 (.iadd) := ⟨by decide +kernel, rfl⟩
theorem d_M_growth_64 : vm_D q_M_growth.2.1 64 1 65 (.iconst 1) := ⟨by decide +kernel, rfl⟩
theorem d_M_growth_65 : vm_D q_M_growth.2.1 65 3 68 (.invokevirtual 299) := ⟨by decide +kernel, rfl⟩
theorem d_M_growth_68 : vm_D q_M_growth.2.1 68 1 69 (.istore_n 3) := ⟨by decide +kernel, rfl⟩
theorem d_M_growth_69 : vm_D q_M_growth.2.1 69 1 70 (.iload_n 3) := ⟨by decide +kernel, rfl⟩
theorem d_M_growth_70 : vm_D q_M_growth.2.1 70 2 72 (.bipush (-2)) := ⟨by decide +kernel, rfl⟩
theorem d_M_growth_72 : vm_B q_M_growth.2.1 72 75 80 (fun o => .if_icmp .ne o) := ⟨8, by decide +kernel, rfl, by decide⟩
theorem d_M_growth_80 : vm_D q_M_growth.2.1 80 3 83 (.sipush 1000) := ⟨by decide +kernel, rfl⟩
theorem d_M_growth_83 : vm_D q_M_growth.2.1 83 1 84 (.iload_n 3) := ⟨by decide +kernel, rfl⟩
theorem d_M_growth_84 : vm_D q_M_growth.2.1 84 1 85 (.imul) := ⟨by decide +kernel, rfl⟩
theorem d_M_growth_85 : vm_D q_M_growth.2.1 85 1 86 (.iload_n 2) := ⟨by decide +kernel, rfl⟩
theorem d_M_growth_86 : vm_D q_M_growth.2.1 86 1 87 (.idiv) := ⟨by decide +kernel, rfl⟩
theorem d_M_growth_87 : vm_D q_M_growth.2.1 87 1 88 (.ireturn) := ⟨by decide +kernel, rfl⟩
theorem d_M_growth_75 : vm_D q_M_growth.2.1 75 2 77 (.bipush (-2)) := ⟨by decide +kernel, rfl⟩
theorem d_M_growth_77 : ∃ off : Int, decode q_M_growth.2.1 77 = .ok (.goto off, 3) ∧ ((77 : Nat) : Int) + off = ((87 : Nat) : Int) := ⟨10, by decide +kernel, by decide⟩
theorem d_M_growth_28 : vm_D q_M_growth.2.1 28 1 29 (.iconst 0) := ⟨by decide +kernel, rfl⟩
theorem d_M_growth_29 : vm_D q_M_growth.2.1 29 1 30 (.ireturn) := ⟨by decide +kernel, rfl⟩
theorem d_M_growth_20 : vm_D q_M_growth.2.1 20 1 21 (.iconst 0) := ⟨by decide +kernel, rfl⟩
theorem d_M_growth_16 : vm_D q_M_growth.2.1 16 1 17 (.iconst 1) := ⟨by decide +kernel, rfl⟩
theorem d_M_growth_17 : ∃ off : Int, decode q_M_growth.2.1 17 = .ok (.goto off, 3) ∧ ((17 : Nat) : Int) + off = ((21 : Nat) : Int) := ⟨4, by decide +kernel, by decide⟩
def q_M_longest : vm_Y := ("RepeatFreeModel", cX11_longest, 3, false, [])
theorem d_M_longest_0 : vm_D q_M_longest.2.1 0 1 1 (.aload_n 0) := ⟨by decide +kernel, rfl⟩
theorem d_M_longest_1 : vm_D q_M_longest.2.1 1 1 2 (.iconst 0) := ⟨by decide +kernel, rfl⟩
theorem d_M_longest_2 : vm_D q_M_longest.2.1 2 3 5 (.putfield 3) := ⟨by decide +kernel, rfl⟩
theorem d_M_longest_5 : vm_D q_M_longest.2.1 5 1 6 (.iconst 1) := ⟨by decide +kernel, rfl⟩
theorem d_M_longest_6 : vm_D q_M_longest.2.1 6 1 7 (.istore_n 1) := ⟨by decide +kernel, rfl⟩
theorem d_M_longest_7 : vm_D q_M_longest.2.1 7 1 8 (.iload_n 1) := ⟨by decide +kernel, rfl⟩
theorem d_M_longest_8 : vm_D q_M_longest.2.1 8 2 10 (.bipush 40) := ⟨by decide +kernel, rfl⟩
theorem d_M_longest_10 : vm_B q_M_longest.2.1 10 13 52 (fun o => .if_icmp .gt o) := ⟨42, by decide +kernel, rfl, by decide⟩
theorem d_M_longest_13 : vm_D q_M_longest.2.1 13 1 14 (.aload_n 0) := ⟨by decide +kernel, rfl⟩
theorem d_M_longest_14 : vm_D q_M_longest.2.1 14 3 17 (.invokevirtual 290) := ⟨by decide +kernel, rfl⟩
theorem d_M_longest_17 : vm_D q_M_longest.2.1 17 1 18 (.aload_n 0) := ⟨by decide +kernel, rfl⟩
theorem d_M_longest_18 : vm_D q_M_longest.2.1 18 1 19 (.iconst 0) := ⟨by decide +kernel, rfl⟩
theorem d_M_longest_19 : vm_D q_M_longest.2.1 19 1 20 (.iload_n 1) := ⟨by decide +kernel, rfl⟩
theorem d_M_longest_20 : vm_D q_M_longest.2.1 20 1 21 (.iconst 0) := ⟨by decide +kernel, rfl⟩
theorem d_M_longest_21 : vm_D q_M_longest.2.1 21 3 24 (.invokevirtual 268) := ⟨by decide +kernel, rfl⟩
theorem d_M_longest_24 : vm_D q_M_longest.2.1 24 1 25 (.istore_n 2) := ⟨by decide +kernel, rfl⟩
theorem d_M_longest_25 : vm_D q_M_longest.2.1 25 1 26 (.aload_n 0) := ⟨by decide +kernel, rfl⟩
theorem d_M_longest_26 : vm_D q_M_longest.2.1 26 3 29 (.getfield 265) := ⟨by decide +kernel, rfl⟩
theorem d_M_longest_29 : vm_B q_M_longest.2.1 29 32 35 (fun o => .ifCond .eq o) := ⟨6, by decide +kernel, rfl, by decide⟩
theorem d_M_longest_35 : vm_D q_M_longest.2.1 35 1 36 (.aload_n 0) := ⟨by decide +kernel, rfl⟩
theorem d_M_longest_36 : vm_D q_M_longest.2.1 36 3 39 (.getfield 271) := ⟨by decide +kernel, rfl⟩
theorem d_M_longest_39 : vm_B q_M_longest.2.1 39 42 46 (fun o => .ifCond .ne o) := ⟨7, by decide +kernel, rfl, by decide⟩
theorem d_M_longest_46 : vm_D q_M_longest.2.1 46 3 49 (.iinc 1 1) := ⟨by decide +kernel, rfl⟩
theorem d_M_longest_49 : ∃ off : Int, decode q_M_longest.2.1 49 = .ok (.goto off, 3) ∧ ((49 : Nat) : Int) + off = ((7 : Nat) : Int) := ⟨-42, by decide +kernel, by decide⟩
theorem d_M_longest_42 : vm_D q_M_longest.2.1 42 1 43 (.iload_n 1) := ⟨by decide +kernel, rfl⟩
theorem d_M_longest_43 : vm_D q_M_longest.2.1 43 1 44 (.iconst 1) := ⟨by decide +kernel, rfl⟩
theorem d_M_longest_44 : vm_D q_M_longest.2.1 44 1 45 (.isub) := ⟨by decide +kernel, rfl⟩
theorem d_M_longest_45 : vm_D q_M_longest.2.1 45 1 46 (.ireturn) := ⟨by decide +kernel, rfl⟩
theorem d_M_longest_32 : vm_D q_M_longest.2.1 32 2 34 (.bipush (-2)) := ⟨by decide +kernel, rfl⟩
theorem d_M_longest_34 : vm_D q_M_longest.2.1 34 1 35 (.ireturn) := ⟨by decide +kernel, rfl⟩
theorem d_M_longest_52 : vm_D q_M_longest.2.1 52 2 54 (.bipush 40) := ⟨by decide +kernel, rfl⟩
theorem d_M_longest_54 : vm_D q_M_longest.2.1 54 1 55 (.ireturn) := ⟨by decide +kernel, rfl⟩
def q_M_further : vm_Y := ("RepeatFreeModel", cX11_further, 4, false, [])
theorem d_M_further_0 : vm_D q_M_further.2.1 0 1 1 (.aload_n 0) := ⟨by decide +kernel, rfl⟩
theorem d_M_further_1 : vm_D q_M_further.2.1 1 1 2 (.iconst 0) := ⟨by decide +kernel, rfl⟩
theorem d_M_further_2 : vm_D q_M_further.2.1 2 3 5 (.putfield 3) := ⟨by decide +kernel, rfl⟩
theorem d_M_further_5 : vm_D q_M_further.2.1 5 1 6 (.aload_n 0) := ⟨by decide +kernel, rfl⟩
theorem d_M_further_6 : vm_D q_M_further.2.1 6 3 9 (.invokevirtual 236) := ⟨by decide +kernel, rfl⟩
theorem d_M_further_9 : vm_B q_M_further.2.1 9 12 14 (fun o => .ifCond .ne o) := ⟨5, by decide +kernel, rfl, by decide⟩
theorem d_M_further_14 : vm_D q_M_further.2.1 14 2 16 (.bipush 20) := ⟨by decide +kernel, rfl⟩
theorem d_M_further_16 : vm_D q_M_further.2.1 16 2 18 (.bipush 64) := ⟨by decide +kernel, rfl⟩
theorem d_M_further_18 : vm_D q_M_further.2.1 18 1 19 (.aload_n 0) := ⟨by decide +kernel, rfl⟩
theorem d_M_further_19 : vm_D q_M_further.2.1 19 3 22 (.getfield 184) := ⟨by decide +kernel, rfl⟩
theorem d_M_further_22 : vm_D q_M_further.2.1 22 1 23 (.isub) := ⟨by decide +kernel, rfl⟩
theorem d_M_further_23 : vm_D q_M_further.2.1 23 3 26 (.invokestatic 302) := ⟨by decide +kernel, rfl⟩
theorem d_M_further_26 : vm_D q_M_further.2.1 26 1 27 (.istore_n 1) := ⟨by decide +kernel, rfl⟩
theorem d_M_further_27 : vm_D q_M_further.2.1 27 1 28 (.iconst 1) := ⟨by decide +kernel, rfl⟩
theorem d_M_further_28 : vm_D q_M_further.2.1 28 1 29 (.istore_n 2) := ⟨by decide +kernel, rfl⟩
theorem d_M_further_29 : vm_D q_M_further.2.1 29 1 30 (.iload_n 2) := ⟨by decide +kernel, rfl⟩
theorem d_M_further_30 : vm_D q_M_further.2.1 30 1 31 (.iload_n 1) := ⟨by decide +kernel, rfl⟩
theorem d_M_further_31 : vm_B q_M_further.2.1 31 34 85 (fun o => .if_icmp .gt o) := ⟨54, by decide +kernel, rfl, by decide⟩
theorem d_M_further_34 : vm_D q_M_further.2.1 34 1 35 (.aload_n 0) := ⟨by decide +kernel, rfl⟩
theorem d_M_further_35 : vm_D q_M_further.2.1 35 3 38 (.invokevirtual 290) := ⟨by decide +kernel, rfl⟩
theorem d_M_further_38 : vm_D q_M_further.2.1 38 1 39 (.aload_n 0) := ⟨by decide +kernel, rfl⟩
theorem d_M_further_39 : vm_D q_M_further.2.1 39 3 42 (.invokevirtual 296) := ⟨by decide +kernel, rfl⟩
theorem d_M_further_42 : vm_D q_M_further.2.1 42 1 43 (.aload_n 0) := ⟨by decide +kernel, rfl⟩
theorem d_M_further_43 : vm_D q_M_further.2.1 43 1 44 (.aload_n 0) := ⟨by decide +kernel, rfl⟩
theorem d_M_further_44 : vm_D q_M_further.2.1 44 3 47 (.getfield 184) := ⟨by decide +kernel, rfl⟩
theorem d_M_further_47 : vm_D q_M_further.2.1 47 1 48 (.aload_n 0) := ⟨by decide +kernel, rfl⟩
theorem d_M_further_48 : vm_D q_M_further.2.1 48 3 51 (.getfield 184) := ⟨by decide +kernel, rfl⟩
theorem d_M_further_51 : vm_D q_M_further.2.1 51 1 52 (.iload_n 2) := ⟨by decide +kernel, rfl⟩
theorem d_M_further_52 : vm_D q_M_further.2.1 52 1 53 (.iadd) := ⟨by decide +kernel, rfl⟩
theorem d_M_further_53 : vm_D q_M_further.2.1 53 1 54 (.iconst 0) := ⟨by decide +kernel, rfl⟩
theorem d_M_further_54 : vm_D q_M_further.2.1 54 3 57 (.invokevirtual 268) := ⟨by decide +kernel, rfl⟩
theorem d_M_further_57 : vm_D q_M_further.2.1 57 1 58 (.istore_n 3) := ⟨by decide +kernel, rfl⟩
theorem d_M_further_58 : vm_D q_M_further.2.1 58 1 59 (.aload_n 0) := ⟨by decide +kernel, rfl⟩
theorem d_M_further_59 : vm_D q_M_further.2.1 59 3 62 (.getfield 265) := ⟨by decide +kernel, rfl⟩
theorem d_M_further_62 : vm_B q_M_further.2.1 62 65 68 (fun o => .ifCond .eq o) := ⟨6, by decide +kernel, rfl, by decide⟩
theorem d_M_further_68 : vm_D q_M_further.2.1 68 1 69 (.aload_n 0) := ⟨by decide +kernel, rfl⟩
theorem d_M_further_69 : vm_D q_M_further.2.1 69 3 72 (.getfield 271) := ⟨by decide +kernel, rfl⟩
theorem d_M_further_72 : vm_B q_M_further.2.1 72 75 79 (fun o => .ifCond .ne o) := ⟨7, by decide +kernel, rfl, by decide⟩
theorem d_M_further_79 : vm_D q_M_further.2.1 79 3 82 (.iinc 2 1) := ⟨by decide +kernel, rfl⟩
theorem d_M_further_82 : ∃ off : Int, decode q_M_further.2.1 82 = .ok (.goto off, 3) ∧ ((82 : Nat) : Int) + off = ((29 : Nat) : Int) := ⟨-53, by decide +kernel, by decide⟩
theorem d_M_further_75 : vm_D q_M_further.2.1 75 1 76 (.iload_n 2) := ⟨by decide +kernel, rfl⟩
theorem d_M_further_76 : vm_D q_M_further.2.1 76 1 77 (.iconst 1) := ⟨by decide +kernel, rfl⟩
theorem d_M_further_77 : vm_D q_M_further.2.1 77 1 78 (.isub) := ⟨by decide +kernel, rfl⟩
theorem d_M_further_78 : vm_D q_M_further.2.1 78 1 79 (.ireturn) := ⟨by decide +kernel, rfl⟩
theorem d_M_further_65 : vm_D q_M_further.2.1 65 2 67 (.bipush (-2)) := ⟨by decide +kernel, rfl⟩
theorem d_M_further_67 : vm_D q_M_further.2.1 67 1 68 (.ireturn) := ⟨by decide +kernel, rfl⟩
theorem d_M_further_85 : vm_D q_M_further.2.1 85 1 86 (.iload_n 1) := ⟨by decide +kernel, rfl⟩
theorem d_M_further_86 : vm_D q_M_further.2.1 86 1 87 (.ireturn) := ⟨by decide +kernel, rfl⟩
theorem d_M_further_12 : vm_D q_M_further.2.1 12 1 13 (.iconst 0) := ⟨by decide +kernel, rfl⟩
theorem d_M_further_13 : vm_D q_M_further.2.1 13 1 14 (.ireturn) := ⟨by decide +kernel, rfl⟩
def q_M_stuck : vm_Y := ("RepeatFreeModel", cX11_stuck, 2, false, [])
theorem d_M_stuck_0 : vm_D q_M_stuck.2.1 0 1 1 (.aload_n 0) := ⟨by decide +kernel, rfl⟩
theorem d_M_stuck_1 : vm_D q_M_stuck.2.1 1 1 2 (.iconst 0) := ⟨by decide +kernel, rfl⟩
theorem d_M_stuck_2 : vm_D q_M_stuck.2.1 2 3 5 (.putfield 3) := ⟨by decide +kernel, rfl⟩
theorem d_M_stuck_5 : vm_D q_M_stuck.2.1 5 1 6 (.aload_n 0) := ⟨by decide +kernel, rfl⟩
theorem d_M_stuck_6 : vm_D q_M_stuck.2.1 6 1 7 (.iload_n 1) := ⟨by decide +kernel, rfl⟩
theorem d_M_stuck_7 : vm_D q_M_stuck.2.1 7 1 8 (.iconst 0) := ⟨by decide +kernel, rfl⟩
theorem d_M_stuck_8 : vm_D q_M_stuck.2.1 8 2 10 (.bipush 40) := ⟨by decide +kernel, rfl⟩
theorem d_M_stuck_10 : vm_D q_M_stuck.2.1 10 3 13 (.invokestatic 65) := ⟨by decide +kernel, rfl⟩
theorem d_M_stuck_13 : vm_B q_M_stuck.2.1 13 16 20 (fun o => .ifCond .ne o) := ⟨7, by decide +kernel, rfl, by decide⟩
theorem d_M_stuck_21 : vm_D q_M_stuck.2.1 21 1 22 (.iconst 1) := ⟨by decide +kernel, rfl⟩
theorem d_M_stuck_22 : vm_D q_M_stuck.2.1 22 3 25 (.invokevirtual 180) := ⟨by decide +kernel, rfl⟩
theorem d_M_stuck_25 : vm_B q_M_stuck.2.1 25 28 30 (fun o => .ifCond .eq o) := ⟨5, by decide +kernel, rfl, by decide⟩
theorem d_M_stuck_30 : vm_D q_M_stuck.2.1 30 1 31 (.aload_n 0) := ⟨by decide +kernel, rfl⟩
theorem d_M_stuck_31 : vm_D q_M_stuck.2.1 31 1 32 (.iload_n 1) := ⟨by decide +kernel, rfl⟩
theorem d_M_stuck_32 : vm_D q_M_stuck.2.1 32 1 33 (.iconst 2) := ⟨by decide +kernel, rfl⟩
theorem d_M_stuck_33 : vm_D q_M_stuck.2.1 33 3 36 (.invokevirtual 299) := ⟨by decide +kernel, rfl⟩
theorem d_M_stuck_36 : vm_D q_M_stuck.2.1 36 1 37 (.ireturn) := ⟨by decide +kernel, rfl⟩
theorem d_M_stuck_28 : vm_D q_M_stuck.2.1 28 1 29 (.iconst 0) := ⟨by decide +kernel, rfl⟩
theorem d_M_stuck_29 : vm_D q_M_stuck.2.1 29 1 30 (.ireturn) := ⟨by decide +kernel, rfl⟩
theorem d_M_stuck_20 : vm_D q_M_stuck.2.1 20 1 21 (.iconst 0) := ⟨by decide +kernel, rfl⟩
theorem d_M_stuck_16 : vm_D q_M_stuck.2.1 16 1 17 (.iconst 1) := ⟨by decide +kernel, rfl⟩
theorem d_M_stuck_17 : ∃ off : Int, decode q_M_stuck.2.1 17 = .ok (.goto off, 3) ∧ ((17 : Nat) : Int) + off = ((21 : Nat) : Int) := ⟨4, by decide +kernel, by decide⟩
def q_M_rank : vm_Y := ("RepeatFreeModel", cX11_rank, 1, false, [])
theorem d_M_rank_0 : vm_D q_M_rank.2.1 0 1 1 (.aload_n 0) := ⟨by decide +kernel, rfl⟩
theorem d_M_rank_1 : vm_D q_M_rank.2.1 1 1 2 (.iconst 0) := ⟨by decide +kernel, rfl⟩
theorem d_M_rank_2 : vm_D q_M_rank.2.1 2 3 5 (.putfield 3) := ⟨by decide +kernel, rfl⟩
theorem d_M_rank_5 : vm_D q_M_rank.2.1 5 1 6 (.aload_n 0) := ⟨by decide +kernel, rfl⟩
theorem d_M_rank_6 : vm_D q_M_rank.2.1 6 1 7 (.aload_n 0) := ⟨by decide +kernel, rfl⟩
theorem d_M_rank_7 : vm_D q_M_rank.2.1 7 3 10 (.getfield 184) := ⟨by decide +kernel, rfl⟩
theorem d_M_rank_10 : vm_D q_M_rank.2.1 10 2 12 (.bipush 40) := ⟨by decide +kernel, rfl⟩
theorem d_M_rank_12 : vm_B q_M_rank.2.1 12 15 19 (fun o => .if_icmp .le o) := ⟨7, by decide +kernel, rfl, by decide⟩
theorem d_M_rank_20 : vm_D q_M_rank.2.1 20 1 21 (.iconst 1) := ⟨by decide +kernel, rfl⟩
theorem d_M_rank_21 : vm_D q_M_rank.2.1 21 3 24 (.invokevirtual 180) := ⟨by decide +kernel, rfl⟩
theorem d_M_rank_24 : vm_B q_M_rank.2.1 24 27 29 (fun o => .ifCond .eq o) := ⟨5, by decide +kernel, rfl, by decide⟩
theorem d_M_rank_29 : vm_D q_M_rank.2.1 29 1 30 (.aload_n 0) := ⟨by decide +kernel, rfl⟩
theorem d_M_rank_30 : vm_D q_M_rank.2.1 30 1 31 (.aload_n 0) := ⟨by decide +kernel, rfl⟩
theorem d_M_rank_31 : vm_D q_M_rank.2.1 31 3 34 (.getfield 184) := ⟨by decide +kernel, rfl⟩
theorem d_M_rank_34 : vm_D q_M_rank.2.1 34 1 35 (.iconst 3) := ⟨by decide +kernel, rfl⟩
theorem d_M_rank_35 : vm_D q_M_rank.2.1 35 3 38 (.invokevirtual 299) := ⟨by decide +kernel, rfl⟩
theorem d_M_rank_38 : vm_D q_M_rank.2.1 38 1 39 (.ireturn) := ⟨by decide +kernel, rfl⟩
theorem d_M_rank_27 : vm_D q_M_rank.2.1 27 1 28 (.iconst 0) := ⟨by decide +kernel, rfl⟩
theorem d_M_rank_28 : vm_D q_M_rank.2.1 28 1 29 (.ireturn) := ⟨by decide +kernel, rfl⟩
theorem d_M_rank_19 : vm_D q_M_rank.2.1 19 1 20 (.iconst 0) := ⟨by decide +kernel, rfl⟩
theorem d_M_rank_15 : vm_D q_M_rank.2.1 15 1 16 (.iconst 1) := ⟨by decide +kernel, rfl⟩
theorem d_M_rank_16 : ∃ off : Int, decode q_M_rank.2.1 16 = .ok (.goto off, 3) ∧ ((16 : Nat) : Int) + off = ((20 : Nat) : Int) := ⟨4, by decide +kernel, by decide⟩
def q_M_nth : vm_Y := ("RepeatFreeModel", cX11_nth, 4, false, [])
theorem d_M_nth_0 : vm_D q_M_nth.2.1 0 1 1 (.aload_n 0) := ⟨by decide +kernel, rfl⟩
theorem d_M_nth_1 : vm_D q_M_nth.2.1 1 1 2 (.iconst 0) := ⟨by decide +kernel, rfl⟩
theorem d_M_nth_2 : vm_D q_M_nth.2.1 2 3 5 (.putfield 3) := ⟨by decide +kernel, rfl⟩
theorem d_M_nth_5 : vm_D q_M_nth.2.1 5 1 6 (.aload_n 0) := ⟨by decide +kernel, rfl⟩
theorem d_M_nth_6 : vm_D q_M_nth.2.1 6 1 7 (.iload_n 1) := ⟨by decide +kernel, rfl⟩
theorem d_M_nth_7 : vm_D q_M_nth.2.1 7 1 8 (.iconst 1) := ⟨by decide +kernel, rfl⟩
theorem d_M_nth_8 : vm_D q_M_nth.2.1 8 2 10 (.bipush 40) := ⟨by decide +kernel, rfl⟩
theorem d_M_nth_10 : vm_D q_M_nth.2.1 10 3 13 (.invokestatic 65) := ⟨by decide +kernel, rfl⟩
theorem d_M_nth_13 : vm_B q_M_nth.2.1 13 16 20 (fun o => .ifCond .eq o) := ⟨7, by decide +kernel, rfl, by decide⟩
theorem d_M_nth_25 : vm_D q_M_nth.2.1 25 1 26 (.iconst 1) := ⟨by decide +kernel, rfl⟩
theorem d_M_nth_26 : vm_D q_M_nth.2.1 26 3 29 (.invokevirtual 180) := ⟨by decide +kernel, rfl⟩
theorem d_M_nth_29 : vm_B q_M_nth.2.1 29 32 34 (fun o => .ifCond .eq o) := ⟨5, by decide +kernel, rfl, by decide⟩
theorem d_M_nth_34 : vm_D q_M_nth.2.1 34 1 35 (.aload_n 0) := ⟨by decide +kernel, rfl⟩
theorem d_M_nth_35 : vm_D q_M_nth.2.1 35 3 38 (.invokevirtual 290) := ⟨by decide +kernel, rfl⟩
theorem d_M_nth_38 : vm_D q_M_nth.2.1 38 1 39 (.aload_n 0) := ⟨by decide +kernel, rfl⟩
theorem d_M_nth_39 : vm_D q_M_nth.2.1 39 1 40 (.iload_n 2) := ⟨by decide +kernel, rfl⟩
theorem d_M_nth_40 : vm_D q_M_nth.2.1 40 3 43 (.putfield 284) := ⟨by decide +kernel, rfl⟩
theorem d_M_nth_43 : vm_D q_M_nth.2.1 43 1 44 (.aload_n 0) := ⟨by decide +kernel, rfl⟩
theorem d_M_nth_44 : vm_D q_M_nth.2.1 44 1 45 (.iconst 0) := ⟨by decide +kernel, rfl⟩
theorem d_M_nth_45 : vm_D q_M_nth.2.1 45 1 46 (.iload_n 1) := ⟨by decide +kernel, rfl⟩
theorem d_M_nth_46 : vm_D q_M_nth.2.1 46 1 47 (.iconst 4) := ⟨by decide +kernel, rfl⟩
theorem d_M_nth_47 : vm_D q_M_nth.2.1 47 3 50 (.invokevirtual 268) := ⟨by decide +kernel, rfl⟩
theorem d_M_nth_50 : vm_D q_M_nth.2.1 50 1 51 (.istore_n 3) := ⟨by decide +kernel, rfl⟩
theorem d_M_nth_51 : vm_D q_M_nth.2.1 51 1 52 (.aload_n 0) := ⟨by decide +kernel, rfl⟩
theorem d_M_nth_52 : vm_D q_M_nth.2.1 52 3 55 (.getfield 265) := ⟨by decide +kernel, rfl⟩
theorem d_M_nth_55 : vm_B q_M_nth.2.1 55 58 61 (fun o => .ifCond .eq o) := ⟨6, by decide +kernel, rfl, by decide⟩
theorem d_M_nth_61 : vm_D q_M_nth.2.1 61 1 62 (.aload_n 0) := ⟨by decide +kernel, rfl⟩
theorem d_M_nth_62 : vm_D q_M_nth.2.1 62 3 65 (.getfield 271) := ⟨by decide +kernel, rfl⟩
theorem d_M_nth_65 : vm_B q_M_nth.2.1 65 68 70 (fun o => .ifCond .ne o) := ⟨5, by decide +kernel, rfl, by decide⟩
theorem d_M_nth_70 : vm_D q_M_nth.2.1 70 1 71 (.aload_n 0) := ⟨by decide +kernel, rfl⟩
theorem d_M_nth_71 : vm_D q_M_nth.2.1 71 1 72 (.iload_n 1) := ⟨by decide +kernel, rfl⟩
theorem d_M_nth_72 : vm_D q_M_nth.2.1 72 3 75 (.invokevirtual 293) := ⟨by decide +kernel, rfl⟩
theorem d_M_nth_75 : vm_D q_M_nth.2.1 75 1 76 (.aload_n 0) := ⟨by decide +kernel, rfl⟩
theorem d_M_nth_76 : vm_D q_M_nth.2.1 76 3 79 (.getfield 262) := ⟨by decide +kernel, rfl⟩
theorem d_M_nth_79 : vm_D q_M_nth.2.1 79 1 80 (.ireturn) := ⟨by decide +kernel, rfl⟩
theorem d_M_nth_68 : vm_D q_M_nth.2.1 68 1 69 (.iconst (-1)) := ⟨by decide +kernel, rfl⟩
theorem d_M_nth_69 : vm_D q_M_nth.2.1 69 1 70 (.ireturn) := ⟨by decide +kernel, rfl⟩
theorem d_M_nth_58 : vm_D q_M_nth.2.1 58 2 60 (.bipush (-2)) := ⟨by decide +kernel, rfl⟩
theorem d_M_nth_60 : vm_D q_M_nth.2.1 60 1 61 (.ireturn) := ⟨by decide +kernel, rfl⟩
theorem d_M_nth_32 : vm_D q_M_nth.2.1 32 1 33 (.iconst 0) := ⟨by decide +kernel, rfl⟩
theorem d_M_nth_33 : vm_D q_M_nth.2.1 33 1 34 (.ireturn) := ⟨by decide +kernel, rfl⟩
theorem d_M_nth_20 : vm_D q_M_nth.2.1 20 1 21 (.iconst 1) := ⟨by decide +kernel, rfl⟩
theorem d_M_nth_21 : ∃ off : Int, decode q_M_nth.2.1 21 = .ok (.goto off, 3) ∧ ((21 : Nat) : Int) + off = ((25 : Nat) : Int) := ⟨4, by decide +kernel, by decide⟩
theorem d_M_nth_16 : vm_D q_M_nth.2.1 16 1 17 (.iload_n 2) := ⟨by decide +kernel, rfl⟩
theorem d_M_nth_17 : vm_B q_M_nth.2.1 17 20 24 (fun o => .ifCond .ge o) := ⟨7, by decide +kernel, rfl, by decide⟩
theorem d_M_nth_24 : vm_D q_M_nth.2.1 24 1 25 (.iconst 0) := ⟨by decide +kernel, rfl⟩
def q_M_noMap : vm_Y := ("RepeatFreeModel", cX11_noMap, 2, false, [])
theorem d_M_noMap_0 : vm_D q_M_noMap.2.1 0 1 1 (.aload_n 0) := ⟨by decide +kernel, rfl⟩
theorem d_M_noMap_1 : vm_D q_M_noMap.2.1 1 1 2 (.iload_n 1) := ⟨by decide +kernel, rfl⟩
theorem d_M_noMap_2 : vm_D q_M_noMap.2.1 2 1 3 (.iconst 0) := ⟨by decide +kernel, rfl⟩
theorem d_M_noMap_3 : vm_D q_M_noMap.2.1 3 1 4 (.aload_n 0) := ⟨by decide +kernel, rfl⟩
theorem d_M_noMap_4 : vm_D q_M_noMap.2.1 4 3 7 (.getfield 77) := ⟨by decide +kernel, rfl⟩
theorem d_M_noMap_7 : vm_D q_M_noMap.2.1 7 1 8 (.iconst 4) := ⟨by decide +kernel, rfl⟩
theorem d_M_noMap_8 : vm_D q_M_noMap.2.1 8 1 9 (.iaload) := ⟨by decide +kernel, rfl⟩
theorem d_M_noMap_9 : vm_D q_M_noMap.2.1 9 1 10 (.iconst 1) := ⟨by decide +kernel, rfl⟩
theorem d_M_noMap_10 : vm_D q_M_noMap.2.1 10 1 11 (.isub) := ⟨by decide +kernel, rfl⟩
theorem d_M_noMap_11 : vm_D q_M_noMap.2.1 11 3 14 (.invokestatic 65) := ⟨by decide +kernel, rfl⟩
theorem d_M_noMap_14 : vm_B q_M_noMap.2.1 14 17 21 (fun o => .ifCond .ne o) := ⟨7, by decide +kernel, rfl, by decide⟩
theorem d_M_noMap_22 : vm_D q_M_noMap.2.1 22 1 23 (.iconst 1) := ⟨by decide +kernel, rfl⟩
theorem d_M_noMap_23 : vm_D q_M_noMap.2.1 23 3 26 (.invokevirtual 180) := ⟨by decide +kernel, rfl⟩
theorem d_M_noMap_26 : vm_D q_M_noMap.2.1 26 1 27 (.ireturn) := ⟨by decide +kernel, rfl⟩
theorem d_M_noMap_21 : vm_D q_M_noMap.2.1 21 1 22 (.iconst 0) := ⟨by decide +kernel, rfl⟩
theorem d_M_noMap_17 : vm_D q_M_noMap.2.1 17 1 18 (.iconst 1) := ⟨by decide +kernel, rfl⟩
theorem d_M_noMap_18 : ∃ off : Int, decode q_M_noMap.2.1 18 = .ok (.goto off, 3) ∧ ((18 : Nat) : Int) + off = ((22 : Nat) : Int) := ⟨4, by decide +kernel, by decide⟩
def q_M_image : vm_Y := ("RepeatFreeModel", cX11_image, 4, false, [])
theorem d_M_image_0 : vm_D q_M_image.2.1 0 1 1 (.aload_n 0) := ⟨by decide +kernel, rfl⟩
theorem d_M_image_1 : vm_D q_M_image.2.1 1 1 2 (.iconst 0) := ⟨by decide +kernel, rfl⟩
theorem d_M_image_2 : vm_D q_M_image.2.1 2 3 5 (.putfield 3) := ⟨by decide +kernel, rfl⟩
theorem d_M_image_5 : vm_D q_M_image.2.1 5 1 6 (.aload_n 0) := ⟨by decide +kernel, rfl⟩
theorem d_M_image_6 : vm_D q_M_image.2.1 6 1 7 (.iload_n 1) := ⟨by decide +kernel, rfl⟩
theorem d_M_image_7 : vm_D q_M_image.2.1 7 3 10 (.invokevirtual 319) := ⟨by decide +kernel, rfl⟩
theorem d_M_image_10 : vm_B q_M_image.2.1 10 13 15 (fun o => .ifCond .eq o) := ⟨5, by decide +kernel, rfl, by decide⟩
theorem d_M_image_15 : vm_D q_M_image.2.1 15 1 16 (.aload_n 0) := ⟨by decide +kernel, rfl⟩
theorem d_M_image_16 : vm_D q_M_image.2.1 16 1 17 (.aload_n 0) := ⟨by decide +kernel, rfl⟩
theorem d_M_image_17 : vm_D q_M_image.2.1 17 3 20 (.getfield 83) := ⟨by decide +kernel, rfl⟩
theorem d_M_image_20 : vm_D q_M_image.2.1 20 1 21 (.aload_n 0) := ⟨by decide +kernel, rfl⟩
theorem d_M_image_21 : vm_D q_M_image.2.1 21 3 24 (.getfield 184) := ⟨by decide +kernel, rfl⟩
theorem d_M_image_24 : vm_D q_M_image.2.1 24 1 25 (.iload_n 1) := ⟨by decide +kernel, rfl⟩
theorem d_M_image_25 : vm_D q_M_image.2.1 25 3 28 (.invokevirtual 315) := ⟨by decide +kernel, rfl⟩
theorem d_M_image_28 : vm_D q_M_image.2.1 28 1 29 (.istore_n 2) := ⟨by decide +kernel, rfl⟩
theorem d_M_image_29 : vm_D q_M_image.2.1 29 1 30 (.aload_n 0) := ⟨by decide +kernel, rfl⟩
theorem d_M_image_30 : vm_D q_M_image.2.1 30 1 31 (.iload_n 2) := ⟨by decide +kernel, rfl⟩
theorem d_M_image_31 : vm_D q_M_image.2.1 31 2 33 (.bipush 64) := ⟨by decide +kernel, rfl⟩
theorem d_M_image_33 : vm_B q_M_image.2.1 33 36 40 (fun o => .if_icmp .le o) := ⟨7, by decide +kernel, rfl, by decide⟩
theorem d_M_image_41 : vm_D q_M_image.2.1 41 1 42 (.iconst 2) := ⟨by decide +kernel, rfl⟩
theorem d_M_image_42 : vm_D q_M_image.2.1 42 3 45 (.invokevirtual 180) := ⟨by decide +kernel, rfl⟩
theorem d_M_image_45 : vm_B q_M_image.2.1 45 48 50 (fun o => .ifCond .eq o) := ⟨5, by decide +kernel, rfl, by decide⟩
theorem d_M_image_50 : vm_D q_M_image.2.1 50 1 51 (.iconst 0) := ⟨by decide +kernel, rfl⟩
theorem d_M_image_51 : vm_D q_M_image.2.1 51 1 52 (.istore_n 3) := ⟨by decide +kernel, rfl⟩
theorem d_M_image_52 : vm_D q_M_image.2.1 52 1 53 (.iload_n 3) := ⟨by decide +kernel, rfl⟩
theorem d_M_image_53 : vm_D q_M_image.2.1 53 1 54 (.iload_n 2) := ⟨by decide +kernel, rfl⟩
theorem d_M_image_54 : vm_B q_M_image.2.1 54 57 75 (fun o => .if_icmp .ge o) := ⟨21, by decide +kernel, rfl, by decide⟩
theorem d_M_image_57 : vm_D q_M_image.2.1 57 1 58 (.aload_n 0) := ⟨by decide +kernel, rfl⟩
theorem d_M_image_58 : vm_D q_M_image.2.1 58 3 61 (.getfield 86) := ⟨by decide +kernel, rfl⟩
theorem d_M_image_61 : vm_D q_M_image.2.1 61 1 62 (.iload_n 3) := ⟨by decide +kernel, rfl⟩
theorem d_M_image_62 : vm_D q_M_image.2.1 62 1 63 (.aload_n 0) := ⟨by decide +kernel, rfl⟩
theorem d_M_image_63 : vm_D q_M_image.2.1 63 3 66 (.getfield 101) := ⟨by decide +kernel, rfl⟩
theorem d_M_image_66 : vm_D q_M_image.2.1 66 1 67 (.iload_n 3) := ⟨by decide +kernel, rfl⟩
theorem d_M_image_67 : vm_D q_M_image.2.1 67 1 68 (.iaload) := ⟨by decide +kernel, rfl⟩
theorem d_M_image_68 : vm_D q_M_image.2.1 68 1 69 (.iastore) := ⟨by decide +kernel, rfl⟩
theorem d_M_image_69 : vm_D q_M_image.2.1 69 3 72 (.iinc 3 1) := ⟨by decide +kernel, rfl⟩
theorem d_M_image_72 : ∃ off : Int, decode q_M_image.2.1 72 = .ok (.goto off, 3) ∧ ((72 : Nat) : Int) + off = ((52 : Nat) : Int) := ⟨-20, by decide +kernel, by decide⟩
theorem d_M_image_75 : vm_D q_M_image.2.1 75 1 76 (.aload_n 0) := ⟨by decide +kernel, rfl⟩
theorem d_M_image_76 : vm_D q_M_image.2.1 76 1 77 (.iload_n 2) := ⟨by decide +kernel, rfl⟩
theorem d_M_image_77 : vm_D q_M_image.2.1 77 3 80 (.invokevirtual 193) := ⟨by decide +kernel, rfl⟩
theorem d_M_image_80 : vm_D q_M_image.2.1 80 1 81 (.aload_n 0) := ⟨by decide +kernel, rfl⟩
theorem d_M_image_81 : vm_D q_M_image.2.1 81 3 84 (.getfield 184) := ⟨by decide +kernel, rfl⟩
theorem d_M_image_84 : vm_D q_M_image.2.1 84 1 85 (.ireturn) := ⟨by decide +kernel, rfl⟩
theorem d_M_image_48 : vm_D q_M_image.2.1 48 1 49 (.iconst 0) := ⟨by decide +kernel, rfl⟩
theorem d_M_image_49 : vm_D q_M_image.2.1 49 1 50 (.ireturn) := ⟨by decide +kernel, rfl⟩
theorem d_M_image_40 : vm_D q_M_image.2.1 40 1 41 (.iconst 0) := ⟨by decide +kernel, rfl⟩
theorem d_M_image_36 : vm_D q_M_image.2.1 36 1 37 (.iconst 1) := ⟨by decide +kernel, rfl⟩
theorem d_M_image_37 : ∃ off : Int, decode q_M_image.2.1 37 = .ok (.goto off, 3) ∧ ((37 : Nat) : Int) + off = ((41 : Nat) : Int) := ⟨4, by decide +kernel, by decide⟩
theorem d_M_image_13 : vm_D q_M_image.2.1 13 1 14 (.iconst 0) := ⟨by decide +kernel, rfl⟩
theorem d_M_image_14 : vm_D q_M_image.2.1 14 1 15 (.ireturn) := ⟨by decide +kernel, rfl⟩
def q_M_imaged : vm_Y := ("RepeatFreeModel", cX11_imaged, 4, false, [])
theorem d_M_imaged_0 : vm_D q_M_imaged.2.1 0 1 1 (.aload_n 0) := ⟨by decide +kernel, rfl⟩
theorem d_M_imaged_1 : vm_D q_M_imaged.2.1 1 1 2 (.iconst 0) := ⟨by decide +kernel, rfl⟩
theorem d_M_imaged_2 : vm_D q_M_imaged.2.1 2 3 5 (.putfield 3) := ⟨by decide +kernel, rfl⟩
theorem d_M_imaged_5 : vm_D q_M_imaged.2.1 5 1 6 (.aload_n 0) := ⟨by decide +kernel, rfl⟩
theorem d_M_imaged_6 : vm_D q_M_imaged.2.1 6 1 7 (.iload_n 1) := ⟨by decide +kernel, rfl⟩
theorem d_M_imaged_7 : vm_D q_M_imaged.2.1 7 3 10 (.invokevirtual 319) := ⟨by decide +kernel, rfl⟩
theorem d_M_imaged_10 : vm_B q_M_imaged.2.1 10 13 22 (fun o => .ifCond .ne o) := ⟨12, by decide +kernel, rfl, by decide⟩
theorem d_M_imaged_22 : vm_D q_M_imaged.2.1 22 1 23 (.iconst 0) := ⟨by decide +kernel, rfl⟩
theorem d_M_imaged_23 : vm_D q_M_imaged.2.1 23 1 24 (.ireturn) := ⟨by decide +kernel, rfl⟩
theorem d_M_imaged_13 : vm_D q_M_imaged.2.1 13 1 14 (.aload_n 0) := ⟨by decide +kernel, rfl⟩
theorem d_M_imaged_14 : vm_D q_M_imaged.2.1 14 1 15 (.iload_n 2) := ⟨by decide +kernel, rfl⟩
theorem d_M_imaged_15 : vm_D q_M_imaged.2.1 15 1 16 (.iconst 2) := ⟨by decide +kernel, rfl⟩
theorem d_M_imaged_16 : vm_D q_M_imaged.2.1 16 3 19 (.invokevirtual 196) := ⟨by decide +kernel, rfl⟩
theorem d_M_imaged_19 : vm_B q_M_imaged.2.1 19 22 24 (fun o => .ifCond .eq o) := ⟨5, by decide +kernel, rfl, by decide⟩
theorem d_M_imaged_24 : vm_D q_M_imaged.2.1 24 1 25 (.iload_n 3) := ⟨by decide +kernel, rfl⟩
theorem d_M_imaged_25 : vm_D q_M_imaged.2.1 25 1 26 (.iconst (-1)) := ⟨by decide +kernel, rfl⟩
theorem d_M_imaged_26 : vm_B q_M_imaged.2.1 26 29 38 (fun o => .if_icmp .ne o) := ⟨12, by decide +kernel, rfl, by decide⟩
theorem d_M_imaged_38 : vm_D q_M_imaged.2.1 38 1 39 (.iload_n 3) := ⟨by decide +kernel, rfl⟩
theorem d_M_imaged_39 : vm_D q_M_imaged.2.1 39 1 40 (.iconst 0) := ⟨by decide +kernel, rfl⟩
theorem d_M_imaged_40 : vm_D q_M_imaged.2.1 40 1 41 (.aload_n 0) := ⟨by decide +kernel, rfl⟩
theorem d_M_imaged_41 : vm_D q_M_imaged.2.1 41 1 42 (.iload_n 1) := ⟨by decide +kernel, rfl⟩
theorem d_M_imaged_42 : vm_D q_M_imaged.2.1 42 1 43 (.iload_n 2) := ⟨by decide +kernel, rfl⟩
theorem d_M_imaged_43 : vm_D q_M_imaged.2.1 43 3 46 (.invokevirtual 305) := ⟨by decide +kernel, rfl⟩
theorem d_M_imaged_46 : vm_D q_M_imaged.2.1 46 1 47 (.iconst 1) := ⟨by decide +kernel, rfl⟩
theorem d_M_imaged_47 : vm_D q_M_imaged.2.1 47 1 48 (.isub) := ⟨by decide +kernel, rfl⟩
theorem d_M_imaged_48 : vm_D q_M_imaged.2.1 48 3 51 (.invokestatic 65) := ⟨by decide +kernel, rfl⟩
theorem d_M_imaged_51 : vm_B q_M_imaged.2.1 51 54 64 (fun o => .ifCond .eq o) := ⟨13, by decide +kernel, rfl, by decide⟩
theorem d_M_imaged_64 : vm_D q_M_imaged.2.1 64 1 65 (.iconst (-1)) := ⟨by decide +kernel, rfl⟩
theorem d_M_imaged_65 : vm_D q_M_imaged.2.1 65 1 66 (.ireturn) := ⟨by decide +kernel, rfl⟩
theorem d_M_imaged_54 : vm_D q_M_imaged.2.1 54 1 55 (.aload_n 0) := ⟨by decide +kernel, rfl⟩
theorem d_M_imaged_55 : vm_D q_M_imaged.2.1 55 1 56 (.iload_n 1) := ⟨by decide +kernel, rfl⟩
theorem d_M_imaged_56 : vm_D q_M_imaged.2.1 56 1 57 (.iload_n 2) := ⟨by decide +kernel, rfl⟩
theorem d_M_imaged_57 : vm_D q_M_imaged.2.1 57 1 58 (.iload_n 3) := ⟨by decide +kernel, rfl⟩
theorem d_M_imaged_58 : vm_D q_M_imaged.2.1 58 3 61 (.invokevirtual 308) := ⟨by decide +kernel, rfl⟩
theorem d_M_imaged_61 : ∃ off : Int, decode q_M_imaged.2.1 61 = .ok (.goto off, 3) ∧ ((61 : Nat) : Int) + off = ((65 : Nat) : Int) := ⟨4, by decide +kernel, by decide⟩
theorem d_M_imaged_29 : vm_D q_M_imaged.2.1 29 1 30 (.aload_n 0) := ⟨by decide +kernel, rfl⟩
theorem d_M_imaged_30 : vm_D q_M_imaged.2.1 30 1 31 (.iload_n 1) := ⟨by decide +kernel, rfl⟩
theorem d_M_imaged_31 : vm_D q_M_imaged.2.1 31 1 32 (.iload_n 2) := ⟨by decide +kernel, rfl⟩
theorem d_M_imaged_32 : vm_D q_M_imaged.2.1 32 3 35 (.invokevirtual 305) := ⟨by decide +kernel, rfl⟩
theorem d_M_imaged_35 : ∃ off : Int, decode q_M_imaged.2.1 35 = .ok (.goto off, 3) ∧ ((35 : Nat) : Int) + off = ((65 : Nat) : Int) := ⟨30, by decide +kernel, by decide⟩
def q_M_at : vm_Y := ("RepeatFreeModel", cX11_at, 3, false, [])
theorem d_M_at_0 : vm_D q_M_at.2.1 0 1 1 (.iconst 4) := ⟨by decide +kernel, rfl⟩
theorem d_M_at_1 : vm_D q_M_at.2.1 1 1 2 (.iconst 4) := ⟨by decide +kernel, rfl⟩
theorem d_M_at_2 : vm_D q_M_at.2.1 2 1 3 (.iload_n 0) := ⟨by decide +kernel, rfl⟩
theorem d_M_at_3 : vm_D q_M_at.2.1 3 1 4 (.imul) := ⟨by decide +kernel, rfl⟩
theorem d_M_at_4 : vm_D q_M_at.2.1 4 1 5 (.iload_n 1) := ⟨by decide +kernel, rfl⟩
theorem d_M_at_5 : vm_D q_M_at.2.1 5 1 6 (.iadd) := ⟨by decide +kernel, rfl⟩
theorem d_M_at_6 : vm_D q_M_at.2.1 6 1 7 (.imul) := ⟨by decide +kernel, rfl⟩
theorem d_M_at_7 : vm_D q_M_at.2.1 7 1 8 (.iload_n 2) := ⟨by decide +kernel, rfl⟩
theorem d_M_at_8 : vm_D q_M_at.2.1 8 1 9 (.iadd) := ⟨by decide +kernel, rfl⟩
theorem d_M_at_9 : vm_D q_M_at.2.1 9 1 10 (.ireturn) := ⟨by decide +kernel, rfl⟩
def q_M_laysCounts : vm_Y := ("RepeatFreeModel", cX11_laysCounts, 7, false, [])
theorem d_M_laysCounts_0 : vm_D q_M_laysCounts.2.1 0 1 1 (.iconst 0) := ⟨by decide +kernel, rfl⟩
theorem d_M_laysCounts_1 : vm_D q_M_laysCounts.2.1 1 1 2 (.istore_n 3) := ⟨by decide +kernel, rfl⟩
theorem d_M_laysCounts_2 : vm_D q_M_laysCounts.2.1 2 1 3 (.iload_n 3) := ⟨by decide +kernel, rfl⟩
theorem d_M_laysCounts_3 : vm_D q_M_laysCounts.2.1 3 1 4 (.iconst 4) := ⟨by decide +kernel, rfl⟩
theorem d_M_laysCounts_4 : vm_B q_M_laysCounts.2.1 4 7 51 (fun o => .if_icmp .ge o) := ⟨47, by decide +kernel, rfl, by decide⟩
theorem d_M_laysCounts_7 : vm_D q_M_laysCounts.2.1 7 1 8 (.iconst 0) := ⟨by decide +kernel, rfl⟩
theorem d_M_laysCounts_8 : vm_D q_M_laysCounts.2.1 8 2 10 (.istore 4) := ⟨by decide +kernel, rfl⟩
theorem d_M_laysCounts_10 : vm_D q_M_laysCounts.2.1 10 2 12 (.iload 4) := ⟨by decide +kernel, rfl⟩
theorem d_M_laysCounts_12 : vm_D q_M_laysCounts.2.1 12 1 13 (.iconst 4) := ⟨by decide +kernel, rfl⟩
theorem d_M_laysCounts_13 : vm_B q_M_laysCounts.2.1 13 16 45 (fun o => .if_icmp .ge o) := ⟨32, by decide +kernel, rfl, by decide⟩
theorem d_M_laysCounts_16 : vm_D q_M_laysCounts.2.1 16 1 17 (.aload_n 0) := ⟨by decide +kernel, rfl⟩
theorem d_M_laysCounts_17 : vm_D q_M_laysCounts.2.1 17 3 20 (.getfield 104) := ⟨by decide +kernel, rfl⟩
theorem d_M_laysCounts_20 : vm_D q_M_laysCounts.2.1 20 1 21 (.iconst 0) := ⟨by decide +kernel, rfl⟩
theorem d_M_laysCounts_21 : vm_D q_M_laysCounts.2.1 21 1 22 (.iload_n 3) := ⟨by decide +kernel, rfl⟩
theorem d_M_laysCounts_22 : vm_D q_M_laysCounts.2.1 22 2 24 (.iload 4) := ⟨by decide +kernel, rfl⟩
theorem d_M_laysCounts_24 : vm_D q_M_laysCounts.2.1 24 3 27 (.invokestatic 322) := ⟨by decide +kernel, rfl⟩
theorem d_M_laysCounts_27 : vm_D q_M_laysCounts.2.1 27 1 28 (.iload_n 3) := ⟨by decide +kernel, rfl⟩
theorem d_M_laysCounts_28 : vm_D q_M_laysCounts.2.1 28 2 30 (.iload 4) := ⟨by decide +kernel, rfl⟩
theorem d_M_laysCounts_30 : vm_B q_M_laysCounts.2.1 30 33 37 (fun o => .if_icmp .ne o) := ⟨7, by decide +kernel, rfl, by decide⟩
theorem d_M_laysCounts_38 : vm_D q_M_laysCounts.2.1 38 1 39 (.lastore) := ⟨by decide +kernel, rfl⟩
theorem d_M_laysCounts_39 : vm_D q_M_laysCounts.2.1 39 3 42 (.iinc 4 1) := ⟨by decide +kernel, rfl⟩
theorem d_M_laysCounts_42 : ∃ off : Int, decode q_M_laysCounts.2.1 42 = .ok (.goto off, 3) ∧ ((42 : Nat) : Int) + off = ((10 : Nat) : Int) := ⟨-32, by decide +kernel, by decide⟩
theorem d_M_laysCounts_37 : vm_D q_M_laysCounts.2.1 37 1 38 (.lconst 0) := ⟨by decide +kernel, rfl⟩
theorem d_M_laysCounts_33 : vm_D q_M_laysCounts.2.1 33 1 34 (.lconst 1) := ⟨by decide +kernel, rfl⟩
theorem d_M_laysCounts_34 : ∃ off : Int, decode q_M_laysCounts.2.1 34 = .ok (.goto off, 3) ∧ ((34 : Nat) : Int) + off = ((38 : Nat) : Int) := ⟨4, by decide +kernel, by decide⟩
theorem d_M_laysCounts_45 : vm_D q_M_laysCounts.2.1 45 3 48 (.iinc 3 1) := ⟨by decide +kernel, rfl⟩
theorem d_M_laysCounts_48 : ∃ off : Int, decode q_M_laysCounts.2.1 48 = .ok (.goto off, 3) ∧ ((48 : Nat) : Int) + off = ((2 : Nat) : Int) := ⟨-46, by decide +kernel, by decide⟩
theorem d_M_laysCounts_51 : vm_D q_M_laysCounts.2.1 51 1 52 (.iconst 1) := ⟨by decide +kernel, rfl⟩
theorem d_M_laysCounts_52 : vm_D q_M_laysCounts.2.1 52 1 53 (.istore_n 3) := ⟨by decide +kernel, rfl⟩
theorem d_M_laysCounts_53 : vm_D q_M_laysCounts.2.1 53 1 54 (.iload_n 3) := ⟨by decide +kernel, rfl⟩
theorem d_M_laysCounts_54 : vm_D q_M_laysCounts.2.1 54 1 55 (.iload_n 2) := ⟨by decide +kernel, rfl⟩
theorem d_M_laysCounts_55 : vm_B q_M_laysCounts.2.1 55 58 172 (fun o => .if_icmp .gt o) := ⟨117, by decide +kernel, rfl, by decide⟩
theorem d_M_laysCounts_58 : vm_D q_M_laysCounts.2.1 58 1 59 (.iconst 0) := ⟨by decide +kernel, rfl⟩
theorem d_M_laysCounts_59 : vm_D q_M_laysCounts.2.1 59 2 61 (.istore 4) := ⟨by decide +kernel, rfl⟩
theorem d_M_laysCounts_61 : vm_D q_M_laysCounts.2.1 61 2 63 (.iload 4) := ⟨by decide +kernel, rfl⟩
theorem d_M_laysCounts_63 : vm_D q_M_laysCounts.2.1 63 1 64 (.aload_n 0) := ⟨by decide +kernel, rfl⟩
theorem d_M_laysCounts_64 : vm_D q_M_laysCounts.2.1 64 3 67 (.getfield 77) := ⟨by decide +kernel, rfl⟩
theorem d_M_laysCounts_67 : vm_D q_M_laysCounts.2.1 67 1 68 (.iconst 0) := ⟨by decide +kernel, rfl⟩
theorem d_M_laysCounts_68 : vm_D q_M_laysCounts.2.1 68 1 69 (.iaload) := ⟨by decide +kernel, rfl⟩
theorem d_M_laysCounts_69 : vm_B q_M_laysCounts.2.1 69 72 166 (fun o => .if_icmp .ge o) := ⟨97, by decide +kernel, rfl, by decide⟩
theorem d_M_laysCounts_72 : vm_D q_M_laysCounts.2.1 72 1 73 (.iconst 0) := ⟨by decide +kernel, rfl⟩
theorem d_M_laysCounts_73 : vm_D q_M_laysCounts.2.1 73 2 75 (.istore 5) := ⟨by decide +kernel, rfl⟩
theorem d_M_laysCounts_75 : vm_D q_M_laysCounts.2.1 75 2 77 (.iload 5) := ⟨by decide +kernel, rfl⟩
theorem d_M_laysCounts_77 : vm_D q_M_laysCounts.2.1 77 1 78 (.iconst 4) := ⟨by decide +kernel, rfl⟩
theorem d_M_laysCounts_78 : vm_B q_M_laysCounts.2.1 78 81 160 (fun o => .if_icmp .ge o) := ⟨82, by decide +kernel, rfl, by decide⟩
theorem d_M_laysCounts_81 : vm_D q_M_laysCounts.2.1 81 1 82 (.aload_n 0) := ⟨by decide +kernel, rfl⟩
theorem d_M_laysCounts_82 : vm_D q_M_laysCounts.2.1 82 3 85 (.getfield 104) := ⟨by decide +kernel, rfl⟩
theorem d_M_laysCounts_85 : vm_D q_M_laysCounts.2.1 85 1 86 (.iload_n 3) := ⟨by decide +kernel, rfl⟩
theorem d_M_laysCounts_86 : vm_D q_M_laysCounts.2.1 86 2 88 (.iload 4) := ⟨by decide +kernel, rfl⟩
theorem d_M_laysCounts_88 : vm_D q_M_laysCounts.2.1 88 2 90 (.iload 5) := ⟨by decide +kernel, rfl⟩
theorem d_M_laysCounts_90 : vm_D q_M_laysCounts.2.1 90 3 93 (.invokestatic 322) := ⟨by decide +kernel, rfl⟩
theorem d_M_laysCounts_93 : vm_D q_M_laysCounts.2.1 93 1 94 (.lconst 0) := ⟨by decide +kernel, rfl⟩
theorem d_M_laysCounts_94 : vm_D q_M_laysCounts.2.1 94 1 95 (.lastore) := ⟨by decide +kernel, rfl⟩
theorem d_M_laysCounts_95 : vm_D q_M_laysCounts.2.1 95 1 96 (.iconst 0) := ⟨by decide +kernel, rfl⟩
theorem d_M_laysCounts_96 : vm_D q_M_laysCounts.2.1 96 2 98 (.istore 6) := ⟨by decide +kernel, rfl⟩
theorem d_M_laysCounts_98 : vm_D q_M_laysCounts.2.1 98 2 100 (.iload 6) := ⟨by decide +kernel, rfl⟩
theorem d_M_laysCounts_100 : vm_D q_M_laysCounts.2.1 100 1 101 (.aload_n 0) := ⟨by decide +kernel, rfl⟩
theorem d_M_laysCounts_101 : vm_D q_M_laysCounts.2.1 101 1 102 (.iload_n 1) := ⟨by decide +kernel, rfl⟩
theorem d_M_laysCounts_102 : vm_D q_M_laysCounts.2.1 102 2 104 (.iload 4) := ⟨by decide +kernel, rfl⟩
theorem d_M_laysCounts_104 : vm_D q_M_laysCounts.2.1 104 3 107 (.invokevirtual 305) := ⟨by decide +kernel, rfl⟩
theorem d_M_laysCounts_107 : vm_B q_M_laysCounts.2.1 107 110 154 (fun o => .if_icmp .ge o) := ⟨47, by decide +kernel, rfl, by decide⟩
theorem d_M_laysCounts_110 : vm_D q_M_laysCounts.2.1 110 1 111 (.aload_n 0) := ⟨by decide +kernel, rfl⟩
theorem d_M_laysCounts_111 : vm_D q_M_laysCounts.2.1 111 3 114 (.getfield 104) := ⟨by decide +kernel, rfl⟩
theorem d_M_laysCounts_114 : vm_D q_M_laysCounts.2.1 114 1 115 (.iload_n 3) := ⟨by decide +kernel, rfl⟩
theorem d_M_laysCounts_115 : vm_D q_M_laysCounts.2.1 115 2 117 (.iload 4) := ⟨by decide +kernel, rfl⟩
theorem d_M_laysCounts_117 : vm_D q_M_laysCounts.2.1 117 2 119 (.iload 5) := ⟨by decide +kernel, rfl⟩
theorem d_M_laysCounts_119 : vm_D q_M_laysCounts.2.1 119 3 122 (.invokestatic 322) := ⟨by decide +kernel, rfl⟩
theorem d_M_laysCounts_122 : vm_D q_M_laysCounts.2.1 122 1 123 (.dup2) := ⟨by decide +kernel, rfl⟩
theorem d_M_laysCounts_123 : vm_D q_M_laysCounts.2.1 123 1 124 (.laload) := ⟨by decide +kernel, rfl⟩
theorem d_M_laysCounts_124 : vm_D q_M_laysCounts.2.1 124 1 125 (.aload_n 0) := ⟨by decide +kernel, rfl⟩
theorem d_M_laysCounts_125 : vm_D q_M_laysCounts.2.1 125 3 128 (.getfield 104) := ⟨by decide +kernel, rfl⟩
theorem d_M_laysCounts_128 : vm_D q_M_laysCounts.2.1 128 1 129 (.iload_n 3) := ⟨by decide +kernel, rfl⟩
theorem d_M_laysCounts_129 : vm_D q_M_laysCounts.2.1 129 1 130 (.iconst 1) := ⟨by decide +kernel, rfl⟩
theorem d_M_laysCounts_130 : vm_D q_M_laysCounts.2.1 130 1 131 (.isub) := ⟨by decide +kernel, rfl⟩
theorem d_M_laysCounts_131 : vm_D q_M_laysCounts.2.1 131 1 132 (.aload_n 0) := ⟨by decide +kernel, rfl⟩
theorem d_M_laysCounts_132 : vm_D q_M_laysCounts.2.1 132 1 133 (.iload_n 1) := ⟨by decide +kernel, rfl⟩
theorem d_M_laysCounts_133 : vm_D q_M_laysCounts.2.1 133 2 135 (.iload 4) := ⟨by decide +kernel, rfl⟩
theorem d_M_laysCounts_135 : vm_D q_M_laysCounts.2.1 135 2 137 (.iload 6) := ⟨by decide +kernel, rfl⟩
theorem d_M_laysCounts_137 : vm_D q_M_laysCounts.2.1 137 3 140 (.invokevirtual 308) := ⟨by decide +kernel, rfl⟩
theorem d_M_laysCounts_140 : vm_D q_M_laysCounts.2.1 140 2 142 (.iload 5) := ⟨by decide +kernel, rfl⟩
theorem d_M_laysCounts_142 : vm_D q_M_laysCounts.2.1 142 3 145 (.invokestatic 322) := ⟨by decide +kernel, rfl⟩
theorem d_M_laysCounts_145 : vm_D q_M_laysCounts.2.1 145 1 146 (.laload) := ⟨by decide +kernel, rfl⟩
theorem d_M_laysCounts_146 : vm_D q_M_laysCounts.2.1 146 1 147 (.ladd) := ⟨by decide +kernel, rfl⟩
theorem d_M_laysCounts_147 : vm_D q_M_laysCounts.2.1 147 1 148 (.lastore) := ⟨by decide +kernel, rfl⟩
theorem d_M_laysCounts_148 : vm_D q_M_laysCounts.2.1 148 3 151 (.iinc 6 1) := ⟨by decide +kernel, rfl⟩
theorem d_M_laysCounts_151 : ∃ off : Int, decode q_M_laysCounts.2.1 151 = .ok (.goto off, 3) ∧ ((151 : Nat) : Int) + off = ((98 : Nat) : Int) := ⟨-53, by decide +kernel, by decide⟩
theorem d_M_laysCounts_154 : vm_D q_M_laysCounts.2.1 154 3 157 (.iinc 5 1) := ⟨by decide +kernel, rfl⟩
theorem d_M_laysCounts_157 : ∃ off : Int, decode q_M_laysCounts.2.1 157 = .ok (.goto off, 3) ∧ ((157 : Nat) : Int) + off = ((75 : Nat) : Int) := ⟨-82, by decide +kernel, by decide⟩
theorem d_M_laysCounts_160 : vm_D q_M_laysCounts.2.1 160 3 163 (.iinc 4 1) := ⟨by decide +kernel, rfl⟩
theorem d_M_laysCounts_163 : ∃ off : Int, decode q_M_laysCounts.2.1 163 = .ok (.goto off, 3) ∧ ((163 : Nat) : Int) + off = ((61 : Nat) : Int) := ⟨-102, by decide +kernel, by decide⟩
theorem d_M_laysCounts_166 : vm_D q_M_laysCounts.2.1 166 3 169 (.iinc 3 1) := ⟨by decide +kernel, rfl⟩
theorem d_M_laysCounts_169 : ∃ off : Int, decode q_M_laysCounts.2.1 169 = .ok (.goto off, 3) ∧ ((169 : Nat) : Int) + off = ((53 : Nat) : Int) := ⟨-116, by decide +kernel, by decide⟩
theorem d_M_laysCounts_172 : vm_D q_M_laysCounts.2.1 172 1 173 (.return_) := ⟨by decide +kernel, rfl⟩
def q_M_lengthOf : vm_Y := ("RepeatFreeModel", cX11_lengthOf, 6, false, [])
theorem d_M_lengthOf_0 : vm_D q_M_lengthOf.2.1 0 1 1 (.lconst 0) := ⟨by decide +kernel, rfl⟩
theorem d_M_lengthOf_1 : vm_D q_M_lengthOf.2.1 1 1 2 (.lstore_n 3) := ⟨by decide +kernel, rfl⟩
theorem d_M_lengthOf_2 : vm_D q_M_lengthOf.2.1 2 1 3 (.iconst 0) := ⟨by decide +kernel, rfl⟩
theorem d_M_lengthOf_3 : vm_D q_M_lengthOf.2.1 3 2 5 (.istore 5) := ⟨by decide +kernel, rfl⟩
theorem d_M_lengthOf_5 : vm_D q_M_lengthOf.2.1 5 2 7 (.iload 5) := ⟨by decide +kernel, rfl⟩
theorem d_M_lengthOf_7 : vm_D q_M_lengthOf.2.1 7 1 8 (.iconst 4) := ⟨by decide +kernel, rfl⟩
theorem d_M_lengthOf_8 : vm_B q_M_lengthOf.2.1 8 11 32 (fun o => .if_icmp .ge o) := ⟨24, by decide +kernel, rfl, by decide⟩
theorem d_M_lengthOf_11 : vm_D q_M_lengthOf.2.1 11 1 12 (.lload_n 3) := ⟨by decide +kernel, rfl⟩
theorem d_M_lengthOf_12 : vm_D q_M_lengthOf.2.1 12 1 13 (.aload_n 0) := ⟨by decide +kernel, rfl⟩
theorem d_M_lengthOf_13 : vm_D q_M_lengthOf.2.1 13 3 16 (.getfield 104) := ⟨by decide +kernel, rfl⟩
theorem d_M_lengthOf_16 : vm_D q_M_lengthOf.2.1 16 1 17 (.iload_n 1) := ⟨by decide +kernel, rfl⟩
theorem d_M_lengthOf_17 : vm_D q_M_lengthOf.2.1 17 1 18 (.iload_n 2) := ⟨by decide +kernel, rfl⟩
theorem d_M_lengthOf_18 : vm_D q_M_lengthOf.2.1 18 2 20 (.iload 5) := ⟨by decide +kernel, rfl⟩
theorem d_M_lengthOf_20 : vm_D q_M_lengthOf.2.1 20 3 23 (.invokestatic 322) := ⟨by decide +kernel, rfl⟩
theorem d_M_lengthOf_23 : vm_D q_M_lengthOf.2.1 23 1 24 (.laload) := ⟨by decide +kernel, rfl⟩
theorem d_M_lengthOf_24 : vm_D q_M_lengthOf.2.1 24 1 25 (.ladd) := ⟨by decide +kernel, rfl⟩
theorem d_M_lengthOf_25 : vm_D q_M_lengthOf.2.1 25 1 26 (.lstore_n 3) := ⟨by decide +kernel, rfl⟩
theorem d_M_lengthOf_26 : vm_D q_M_lengthOf.2.1 26 3 29 (.iinc 5 1) := ⟨by decide +kernel, rfl⟩
theorem d_M_lengthOf_29 : ∃ off : Int, decode q_M_lengthOf.2.1 29 = .ok (.goto off, 3) ∧ ((29 : Nat) : Int) + off = ((5 : Nat) : Int) := ⟨-24, by decide +kernel, by decide⟩
theorem d_M_lengthOf_32 : vm_D q_M_lengthOf.2.1 32 1 33 (.lload_n 3) := ⟨by decide +kernel, rfl⟩
theorem d_M_lengthOf_33 : vm_D q_M_lengthOf.2.1 33 1 34 (.lreturn) := ⟨by decide +kernel, rfl⟩
def q_M_noPower : vm_Y := ("RepeatFreeModel", cX11_noPower, 4, false, [])
theorem d_M_noPower_0 : vm_D q_M_noPower.2.1 0 1 1 (.aload_n 0) := ⟨by decide +kernel, rfl⟩
theorem d_M_noPower_1 : vm_D q_M_noPower.2.1 1 1 2 (.iload_n 1) := ⟨by decide +kernel, rfl⟩
theorem d_M_noPower_2 : vm_D q_M_noPower.2.1 2 3 5 (.invokevirtual 319) := ⟨by decide +kernel, rfl⟩
theorem d_M_noPower_5 : vm_B q_M_noPower.2.1 5 8 40 (fun o => .ifCond .ne o) := ⟨35, by decide +kernel, rfl, by decide⟩
theorem d_M_noPower_40 : vm_D q_M_noPower.2.1 40 1 41 (.iconst 1) := ⟨by decide +kernel, rfl⟩
theorem d_M_noPower_41 : ∃ off : Int, decode q_M_noPower.2.1 41 = .ok (.goto off, 3) ∧ ((41 : Nat) : Int) + off = ((45 : Nat) : Int) := ⟨4, by decide +kernel, by decide⟩
theorem d_M_noPower_45 : vm_D q_M_noPower.2.1 45 1 46 (.ireturn) := ⟨by decide +kernel, rfl⟩
theorem d_M_noPower_8 : vm_D q_M_noPower.2.1 8 1 9 (.aload_n 0) := ⟨by decide +kernel, rfl⟩
theorem d_M_noPower_9 : vm_D q_M_noPower.2.1 9 1 10 (.iload_n 2) := ⟨by decide +kernel, rfl⟩
theorem d_M_noPower_10 : vm_D q_M_noPower.2.1 10 1 11 (.iconst 2) := ⟨by decide +kernel, rfl⟩
theorem d_M_noPower_11 : vm_D q_M_noPower.2.1 11 3 14 (.invokevirtual 196) := ⟨by decide +kernel, rfl⟩
theorem d_M_noPower_14 : vm_B q_M_noPower.2.1 14 17 40 (fun o => .ifCond .ne o) := ⟨26, by decide +kernel, rfl, by decide⟩
theorem d_M_noPower_17 : vm_D q_M_noPower.2.1 17 1 18 (.aload_n 0) := ⟨by decide +kernel, rfl⟩
theorem d_M_noPower_18 : vm_D q_M_noPower.2.1 18 1 19 (.iload_n 3) := ⟨by decide +kernel, rfl⟩
theorem d_M_noPower_19 : vm_D q_M_noPower.2.1 19 1 20 (.iconst 0) := ⟨by decide +kernel, rfl⟩
theorem d_M_noPower_20 : vm_D q_M_noPower.2.1 20 2 22 (.bipush 12) := ⟨by decide +kernel, rfl⟩
theorem d_M_noPower_22 : vm_D q_M_noPower.2.1 22 3 25 (.invokestatic 65) := ⟨by decide +kernel, rfl⟩
theorem d_M_noPower_25 : vm_B q_M_noPower.2.1 25 28 32 (fun o => .ifCond .ne o) := ⟨7, by decide +kernel, rfl, by decide⟩
theorem d_M_noPower_33 : vm_D q_M_noPower.2.1 33 1 34 (.iconst 2) := ⟨by decide +kernel, rfl⟩
theorem d_M_noPower_34 : vm_D q_M_noPower.2.1 34 3 37 (.invokevirtual 180) := ⟨by decide +kernel, rfl⟩
theorem d_M_noPower_37 : vm_B q_M_noPower.2.1 37 40 44 (fun o => .ifCond .eq o) := ⟨7, by decide +kernel, rfl, by decide⟩
theorem d_M_noPower_44 : vm_D q_M_noPower.2.1 44 1 45 (.iconst 0) := ⟨by decide +kernel, rfl⟩
theorem d_M_noPower_32 : vm_D q_M_noPower.2.1 32 1 33 (.iconst 0) := ⟨by decide +kernel, rfl⟩
theorem d_M_noPower_28 : vm_D q_M_noPower.2.1 28 1 29 (.iconst 1) := ⟨by decide +kernel, rfl⟩
theorem d_M_noPower_29 : ∃ off : Int, decode q_M_noPower.2.1 29 = .ok (.goto off, 3) ∧ ((29 : Nat) : Int) + off = ((33 : Nat) : Int) := ⟨4, by decide +kernel, by decide⟩
def q_M_length : vm_Y := ("RepeatFreeModel", cX11_length, 4, false, [])
theorem d_M_length_0 : vm_D q_M_length.2.1 0 1 1 (.aload_n 0) := ⟨by decide +kernel, rfl⟩
theorem d_M_length_1 : vm_D q_M_length.2.1 1 1 2 (.iconst 0) := ⟨by decide +kernel, rfl⟩
theorem d_M_length_2 : vm_D q_M_length.2.1 2 3 5 (.putfield 3) := ⟨by decide +kernel, rfl⟩
theorem d_M_length_5 : vm_D q_M_length.2.1 5 1 6 (.aload_n 0) := ⟨by decide +kernel, rfl⟩
theorem d_M_length_6 : vm_D q_M_length.2.1 6 1 7 (.iload_n 1) := ⟨by decide +kernel, rfl⟩
theorem d_M_length_7 : vm_D q_M_length.2.1 7 1 8 (.iload_n 2) := ⟨by decide +kernel, rfl⟩
theorem d_M_length_8 : vm_D q_M_length.2.1 8 1 9 (.iload_n 3) := ⟨by decide +kernel, rfl⟩
theorem d_M_length_9 : vm_D q_M_length.2.1 9 3 12 (.invokevirtual 325) := ⟨by decide +kernel, rfl⟩
theorem d_M_length_12 : vm_B q_M_length.2.1 12 15 17 (fun o => .ifCond .eq o) := ⟨5, by decide +kernel, rfl, by decide⟩
theorem d_M_length_17 : vm_D q_M_length.2.1 17 1 18 (.aload_n 0) := ⟨by decide +kernel, rfl⟩
theorem d_M_length_18 : vm_D q_M_length.2.1 18 1 19 (.iload_n 1) := ⟨by decide +kernel, rfl⟩
theorem d_M_length_19 : vm_D q_M_length.2.1 19 1 20 (.iload_n 3) := ⟨by decide +kernel, rfl⟩
theorem d_M_length_20 : vm_D q_M_length.2.1 20 3 23 (.invokevirtual 328) := ⟨by decide +kernel, rfl⟩
theorem d_M_length_23 : vm_D q_M_length.2.1 23 1 24 (.aload_n 0) := ⟨by decide +kernel, rfl⟩
theorem d_M_length_24 : vm_D q_M_length.2.1 24 1 25 (.iload_n 3) := ⟨by decide +kernel, rfl⟩
theorem d_M_length_25 : vm_D q_M_length.2.1 25 1 26 (.iload_n 2) := ⟨by decide +kernel, rfl⟩
theorem d_M_length_26 : vm_D q_M_length.2.1 26 3 29 (.invokevirtual 332) := ⟨by decide +kernel, rfl⟩
theorem d_M_length_29 : vm_D q_M_length.2.1 29 1 30 (.lreturn) := ⟨by decide +kernel, rfl⟩
theorem d_M_length_15 : vm_D q_M_length.2.1 15 1 16 (.lconst 0) := ⟨by decide +kernel, rfl⟩
theorem d_M_length_16 : vm_D q_M_length.2.1 16 1 17 (.lreturn) := ⟨by decide +kernel, rfl⟩
def q_M_placed : vm_Y := ("RepeatFreeModel", cX11_placed, 11, false, [])
theorem d_M_placed_0 : vm_D q_M_placed.2.1 0 1 1 (.iload_n 2) := ⟨by decide +kernel, rfl⟩
theorem d_M_placed_1 : vm_D q_M_placed.2.1 1 2 3 (.istore 6) := ⟨by decide +kernel, rfl⟩
theorem d_M_placed_3 : vm_D q_M_placed.2.1 3 2 5 (.lload 4) := ⟨by decide +kernel, rfl⟩
theorem d_M_placed_5 : vm_D q_M_placed.2.1 5 2 7 (.lstore 7) := ⟨by decide +kernel, rfl⟩
theorem d_M_placed_7 : vm_D q_M_placed.2.1 7 1 8 (.iload_n 3) := ⟨by decide +kernel, rfl⟩
theorem d_M_placed_8 : vm_D q_M_placed.2.1 8 2 10 (.istore 9) := ⟨by decide +kernel, rfl⟩
theorem d_M_placed_10 : vm_D q_M_placed.2.1 10 2 12 (.iload 9) := ⟨by decide +kernel, rfl⟩
theorem d_M_placed_12 : vm_B q_M_placed.2.1 12 15 86 (fun o => .ifCond .le o) := ⟨74, by decide +kernel, rfl, by decide⟩
theorem d_M_placed_15 : vm_D q_M_placed.2.1 15 1 16 (.iconst 0) := ⟨by decide +kernel, rfl⟩
theorem d_M_placed_16 : vm_D q_M_placed.2.1 16 2 18 (.istore 10) := ⟨by decide +kernel, rfl⟩
theorem d_M_placed_18 : vm_D q_M_placed.2.1 18 2 20 (.lload 7) := ⟨by decide +kernel, rfl⟩
theorem d_M_placed_20 : vm_D q_M_placed.2.1 20 1 21 (.aload_n 0) := ⟨by decide +kernel, rfl⟩
theorem d_M_placed_21 : vm_D q_M_placed.2.1 21 2 23 (.iload 9) := ⟨by decide +kernel, rfl⟩
theorem d_M_placed_23 : vm_D q_M_placed.2.1 23 1 24 (.iconst 1) := ⟨by decide +kernel, rfl⟩
theorem d_M_placed_24 : vm_D q_M_placed.2.1 24 1 25 (.isub) := ⟨by decide +kernel, rfl⟩
theorem d_M_placed_25 : vm_D q_M_placed.2.1 25 1 26 (.aload_n 0) := ⟨by decide +kernel, rfl⟩
theorem d_M_placed_26 : vm_D q_M_placed.2.1 26 1 27 (.iload_n 1) := ⟨by decide +kernel, rfl⟩
theorem d_M_placed_27 : vm_D q_M_placed.2.1 27 2 29 (.iload 6) := ⟨by decide +kernel, rfl⟩
theorem d_M_placed_29 : vm_D q_M_placed.2.1 29 2 31 (.iload 10) := ⟨by decide +kernel, rfl⟩
theorem d_M_placed_31 : vm_D q_M_placed.2.1 31 3 34 (.invokevirtual 308) := ⟨by decide +kernel, rfl⟩
theorem d_M_placed_34 : vm_D q_M_placed.2.1 34 3 37 (.invokevirtual 332) := ⟨by decide +kernel, rfl⟩
theorem d_M_placed_37 : vm_D q_M_placed.2.1 37 1 38 (.lcmp) := ⟨by decide +kernel, rfl⟩
theorem d_M_placed_38 : vm_B q_M_placed.2.1 38 41 69 (fun o => .ifCond .lt o) := ⟨31, by decide +kernel, rfl, by decide⟩
theorem d_M_placed_41 : vm_D q_M_placed.2.1 41 2 43 (.lload 7) := ⟨by decide +kernel, rfl⟩
theorem d_M_placed_43 : vm_D q_M_placed.2.1 43 1 44 (.aload_n 0) := ⟨by decide +kernel, rfl⟩
theorem d_M_placed_44 : vm_D q_M_placed.2.1 44 2 46 (.iload 9) := ⟨by decide +kernel, rfl⟩
theorem d_M_placed_46 : vm_D q_M_placed.2.1 46 1 47 (.iconst 1) := ⟨by decide +kernel, rfl⟩
theorem d_M_placed_47 : vm_D q_M_placed.2.1 47 1 48 (.isub) := ⟨by decide +kernel, rfl⟩
theorem d_M_placed_48 : vm_D q_M_placed.2.1 48 1 49 (.aload_n 0) := ⟨by decide +kernel, rfl⟩
theorem d_M_placed_49 : vm_D q_M_placed.2.1 49 1 50 (.iload_n 1) := ⟨by decide +kernel, rfl⟩
theorem d_M_placed_50 : vm_D q_M_placed.2.1 50 2 52 (.iload 6) := ⟨by decide +kernel, rfl⟩
theorem d_M_placed_52 : vm_D q_M_placed.2.1 52 2 54 (.iload 10) := ⟨by decide +kernel, rfl⟩
theorem d_M_placed_54 : vm_D q_M_placed.2.1 54 3 57 (.invokevirtual 308) := ⟨by decide +kernel, rfl⟩
theorem d_M_placed_57 : vm_D q_M_placed.2.1 57 3 60 (.invokevirtual 332) := ⟨by decide +kernel, rfl⟩
theorem d_M_placed_60 : vm_D q_M_placed.2.1 60 1 61 (.lsub) := ⟨by decide +kernel, rfl⟩
theorem d_M_placed_61 : vm_D q_M_placed.2.1 61 2 63 (.lstore 7) := ⟨by decide +kernel, rfl⟩
theorem d_M_placed_63 : vm_D q_M_placed.2.1 63 3 66 (.iinc 10 1) := ⟨by decide +kernel, rfl⟩
theorem d_M_placed_66 : ∃ off : Int, decode q_M_placed.2.1 66 = .ok (.goto off, 3) ∧ ((66 : Nat) : Int) + off = ((18 : Nat) : Int) := ⟨-48, by decide +kernel, by decide⟩
theorem d_M_placed_69 : vm_D q_M_placed.2.1 69 1 70 (.aload_n 0) := ⟨by decide +kernel, rfl⟩
theorem d_M_placed_70 : vm_D q_M_placed.2.1 70 1 71 (.iload_n 1) := ⟨by decide +kernel, rfl⟩
theorem d_M_placed_71 : vm_D q_M_placed.2.1 71 2 73 (.iload 6) := ⟨by decide +kernel, rfl⟩
theorem d_M_placed_73 : vm_D q_M_placed.2.1 73 2 75 (.iload 10) := ⟨by decide +kernel, rfl⟩
theorem d_M_placed_75 : vm_D q_M_placed.2.1 75 3 78 (.invokevirtual 308) := ⟨by decide +kernel, rfl⟩
theorem d_M_placed_78 : vm_D q_M_placed.2.1 78 2 80 (.istore 6) := ⟨by decide +kernel, rfl⟩
theorem d_M_placed_80 : vm_D q_M_placed.2.1 80 3 83 (.iinc 9 (-1)) := ⟨by decide +kernel, rfl⟩
theorem d_M_placed_83 : ∃ off : Int, decode q_M_placed.2.1 83 = .ok (.goto off, 3) ∧ ((83 : Nat) : Int) + off = ((10 : Nat) : Int) := ⟨-73, by decide +kernel, by decide⟩
theorem d_M_placed_86 : vm_D q_M_placed.2.1 86 2 88 (.iload 6) := ⟨by decide +kernel, rfl⟩
theorem d_M_placed_88 : vm_D q_M_placed.2.1 88 1 89 (.ireturn) := ⟨by decide +kernel, rfl⟩
def q_M_power : vm_Y := ("RepeatFreeModel", cX11_power, 6, false, [])
theorem d_M_power_0 : vm_D q_M_power.2.1 0 1 1 (.aload_n 0) := ⟨by decide +kernel, rfl⟩
theorem d_M_power_1 : vm_D q_M_power.2.1 1 1 2 (.iconst 0) := ⟨by decide +kernel, rfl⟩
theorem d_M_power_2 : vm_D q_M_power.2.1 2 3 5 (.putfield 3) := ⟨by decide +kernel, rfl⟩
theorem d_M_power_5 : vm_D q_M_power.2.1 5 1 6 (.aload_n 0) := ⟨by decide +kernel, rfl⟩
theorem d_M_power_6 : vm_D q_M_power.2.1 6 1 7 (.iload_n 1) := ⟨by decide +kernel, rfl⟩
theorem d_M_power_7 : vm_D q_M_power.2.1 7 1 8 (.iload_n 2) := ⟨by decide +kernel, rfl⟩
theorem d_M_power_8 : vm_D q_M_power.2.1 8 1 9 (.iload_n 3) := ⟨by decide +kernel, rfl⟩
theorem d_M_power_9 : vm_D q_M_power.2.1 9 3 12 (.invokevirtual 325) := ⟨by decide +kernel, rfl⟩
theorem d_M_power_12 : vm_B q_M_power.2.1 12 15 17 (fun o => .ifCond .eq o) := ⟨5, by decide +kernel, rfl, by decide⟩
theorem d_M_power_17 : vm_D q_M_power.2.1 17 1 18 (.aload_n 0) := ⟨by decide +kernel, rfl⟩
theorem d_M_power_18 : vm_D q_M_power.2.1 18 1 19 (.iload_n 1) := ⟨by decide +kernel, rfl⟩
theorem d_M_power_19 : vm_D q_M_power.2.1 19 1 20 (.iload_n 3) := ⟨by decide +kernel, rfl⟩
theorem d_M_power_20 : vm_D q_M_power.2.1 20 3 23 (.invokevirtual 328) := ⟨by decide +kernel, rfl⟩
theorem d_M_power_23 : vm_D q_M_power.2.1 23 2 25 (.lload 4) := ⟨by decide +kernel, rfl⟩
theorem d_M_power_25 : vm_D q_M_power.2.1 25 1 26 (.lconst 0) := ⟨by decide +kernel, rfl⟩
theorem d_M_power_26 : vm_D q_M_power.2.1 26 1 27 (.lcmp) := ⟨by decide +kernel, rfl⟩
theorem d_M_power_27 : vm_B q_M_power.2.1 27 30 42 (fun o => .ifCond .lt o) := ⟨15, by decide +kernel, rfl, by decide⟩
theorem d_M_power_42 : vm_D q_M_power.2.1 42 1 43 (.iconst (-1)) := ⟨by decide +kernel, rfl⟩
theorem d_M_power_43 : vm_D q_M_power.2.1 43 1 44 (.ireturn) := ⟨by decide +kernel, rfl⟩
theorem d_M_power_30 : vm_D q_M_power.2.1 30 2 32 (.lload 4) := ⟨by decide +kernel, rfl⟩
theorem d_M_power_32 : vm_D q_M_power.2.1 32 1 33 (.aload_n 0) := ⟨by decide +kernel, rfl⟩
theorem d_M_power_33 : vm_D q_M_power.2.1 33 1 34 (.iload_n 3) := ⟨by decide +kernel, rfl⟩
theorem d_M_power_34 : vm_D q_M_power.2.1 34 1 35 (.iload_n 2) := ⟨by decide +kernel, rfl⟩
theorem d_M_power_35 : vm_D q_M_power.2.1 35 3 38 (.invokevirtual 332) := ⟨by decide +kernel, rfl⟩
theorem d_M_power_38 : vm_D q_M_power.2.1 38 1 39 (.lcmp) := ⟨by decide +kernel, rfl⟩
theorem d_M_power_39 : vm_B q_M_power.2.1 39 42 44 (fun o => .ifCond .lt o) := ⟨5, by decide +kernel, rfl, by decide⟩
theorem d_M_power_44 : vm_D q_M_power.2.1 44 1 45 (.aload_n 0) := ⟨by decide +kernel, rfl⟩
theorem d_M_power_45 : vm_D q_M_power.2.1 45 1 46 (.iload_n 1) := ⟨by decide +kernel, rfl⟩
theorem d_M_power_46 : vm_D q_M_power.2.1 46 1 47 (.iload_n 2) := ⟨by decide +kernel, rfl⟩
theorem d_M_power_47 : vm_D q_M_power.2.1 47 1 48 (.iload_n 3) := ⟨by decide +kernel, rfl⟩
theorem d_M_power_48 : vm_D q_M_power.2.1 48 2 50 (.lload 4) := ⟨by decide +kernel, rfl⟩
theorem d_M_power_50 : vm_D q_M_power.2.1 50 3 53 (.invokevirtual 336) := ⟨by decide +kernel, rfl⟩
theorem d_M_power_53 : vm_D q_M_power.2.1 53 1 54 (.ireturn) := ⟨by decide +kernel, rfl⟩
theorem d_M_power_15 : vm_D q_M_power.2.1 15 1 16 (.iconst 0) := ⟨by decide +kernel, rfl⟩
theorem d_M_power_16 : vm_D q_M_power.2.1 16 1 17 (.ireturn) := ⟨by decide +kernel, rfl⟩
def q_M_often : vm_Y := ("RepeatFreeModel", cX11_often, 5, false, [])
theorem d_M_often_0 : vm_D q_M_often.2.1 0 1 1 (.aload_n 0) := ⟨by decide +kernel, rfl⟩
theorem d_M_often_1 : vm_D q_M_often.2.1 1 1 2 (.iconst 0) := ⟨by decide +kernel, rfl⟩
theorem d_M_often_2 : vm_D q_M_often.2.1 2 3 5 (.putfield 3) := ⟨by decide +kernel, rfl⟩
theorem d_M_often_5 : vm_D q_M_often.2.1 5 1 6 (.aload_n 0) := ⟨by decide +kernel, rfl⟩
theorem d_M_often_6 : vm_D q_M_often.2.1 6 1 7 (.iload_n 1) := ⟨by decide +kernel, rfl⟩
theorem d_M_often_7 : vm_D q_M_often.2.1 7 1 8 (.iload_n 2) := ⟨by decide +kernel, rfl⟩
theorem d_M_often_8 : vm_D q_M_often.2.1 8 1 9 (.iload_n 3) := ⟨by decide +kernel, rfl⟩
theorem d_M_often_9 : vm_D q_M_often.2.1 9 3 12 (.invokevirtual 325) := ⟨by decide +kernel, rfl⟩
theorem d_M_often_12 : vm_B q_M_often.2.1 12 15 25 (fun o => .ifCond .ne o) := ⟨13, by decide +kernel, rfl, by decide⟩
theorem d_M_often_25 : vm_D q_M_often.2.1 25 1 26 (.lconst 0) := ⟨by decide +kernel, rfl⟩
theorem d_M_often_26 : vm_D q_M_often.2.1 26 1 27 (.lreturn) := ⟨by decide +kernel, rfl⟩
theorem d_M_often_15 : vm_D q_M_often.2.1 15 1 16 (.aload_n 0) := ⟨by decide +kernel, rfl⟩
theorem d_M_often_16 : vm_D q_M_often.2.1 16 2 18 (.iload 4) := ⟨by decide +kernel, rfl⟩
theorem d_M_often_18 : vm_D q_M_often.2.1 18 1 19 (.iconst 2) := ⟨by decide +kernel, rfl⟩
theorem d_M_often_19 : vm_D q_M_often.2.1 19 3 22 (.invokevirtual 196) := ⟨by decide +kernel, rfl⟩
theorem d_M_often_22 : vm_B q_M_often.2.1 22 25 27 (fun o => .ifCond .eq o) := ⟨5, by decide +kernel, rfl, by decide⟩
theorem d_M_often_27 : vm_D q_M_often.2.1 27 1 28 (.aload_n 0) := ⟨by decide +kernel, rfl⟩
theorem d_M_often_28 : vm_D q_M_often.2.1 28 1 29 (.iload_n 1) := ⟨by decide +kernel, rfl⟩
theorem d_M_often_29 : vm_D q_M_often.2.1 29 1 30 (.iload_n 3) := ⟨by decide +kernel, rfl⟩
theorem d_M_often_30 : vm_D q_M_often.2.1 30 3 33 (.invokevirtual 328) := ⟨by decide +kernel, rfl⟩
theorem d_M_often_33 : vm_D q_M_often.2.1 33 1 34 (.aload_n 0) := ⟨by decide +kernel, rfl⟩
theorem d_M_often_34 : vm_D q_M_often.2.1 34 3 37 (.getfield 104) := ⟨by decide +kernel, rfl⟩
theorem d_M_often_37 : vm_D q_M_often.2.1 37 1 38 (.iload_n 3) := ⟨by decide +kernel, rfl⟩
theorem d_M_often_38 : vm_D q_M_often.2.1 38 1 39 (.iload_n 2) := ⟨by decide +kernel, rfl⟩
theorem d_M_often_39 : vm_D q_M_often.2.1 39 2 41 (.iload 4) := ⟨by decide +kernel, rfl⟩
theorem d_M_often_41 : vm_D q_M_often.2.1 41 3 44 (.invokestatic 322) := ⟨by decide +kernel, rfl⟩
theorem d_M_often_44 : vm_D q_M_often.2.1 44 1 45 (.laload) := ⟨by decide +kernel, rfl⟩
theorem d_M_often_45 : vm_D q_M_often.2.1 45 1 46 (.lreturn) := ⟨by decide +kernel, rfl⟩
def q_M_laysBreak : vm_Y := ("RepeatFreeModel", cX11_laysBreak, 5, false, [])
theorem d_M_laysBreak_0 : vm_D q_M_laysBreak.2.1 0 1 1 (.aload_n 0) := ⟨by decide +kernel, rfl⟩
theorem d_M_laysBreak_1 : vm_D q_M_laysBreak.2.1 1 3 4 (.invokevirtual 290) := ⟨by decide +kernel, rfl⟩
theorem d_M_laysBreak_4 : vm_D q_M_laysBreak.2.1 4 1 5 (.aload_n 0) := ⟨by decide +kernel, rfl⟩
theorem d_M_laysBreak_5 : vm_D q_M_laysBreak.2.1 5 1 6 (.iload_n 1) := ⟨by decide +kernel, rfl⟩
theorem d_M_laysBreak_6 : vm_D q_M_laysBreak.2.1 6 3 9 (.putfield 312) := ⟨by decide +kernel, rfl⟩
theorem d_M_laysBreak_9 : vm_D q_M_laysBreak.2.1 9 1 10 (.aload_n 0) := ⟨by decide +kernel, rfl⟩
theorem d_M_laysBreak_10 : vm_D q_M_laysBreak.2.1 10 1 11 (.iconst 0) := ⟨by decide +kernel, rfl⟩
theorem d_M_laysBreak_11 : vm_D q_M_laysBreak.2.1 11 3 14 (.putfield 284) := ⟨by decide +kernel, rfl⟩
theorem d_M_laysBreak_14 : vm_D q_M_laysBreak.2.1 14 1 15 (.iconst 1) := ⟨by decide +kernel, rfl⟩
theorem d_M_laysBreak_15 : vm_D q_M_laysBreak.2.1 15 1 16 (.istore_n 3) := ⟨by decide +kernel, rfl⟩
theorem d_M_laysBreak_16 : vm_D q_M_laysBreak.2.1 16 1 17 (.iload_n 3) := ⟨by decide +kernel, rfl⟩
theorem d_M_laysBreak_17 : vm_D q_M_laysBreak.2.1 17 1 18 (.iload_n 2) := ⟨by decide +kernel, rfl⟩
theorem d_M_laysBreak_18 : vm_B q_M_laysBreak.2.1 18 21 55 (fun o => .if_icmp .gt o) := ⟨37, by decide +kernel, rfl, by decide⟩
theorem d_M_laysBreak_21 : vm_D q_M_laysBreak.2.1 21 1 22 (.aload_n 0) := ⟨by decide +kernel, rfl⟩
theorem d_M_laysBreak_22 : vm_D q_M_laysBreak.2.1 22 3 25 (.getfield 265) := ⟨by decide +kernel, rfl⟩
theorem d_M_laysBreak_25 : vm_B q_M_laysBreak.2.1 25 28 55 (fun o => .ifCond .ne o) := ⟨30, by decide +kernel, rfl, by decide⟩
theorem d_M_laysBreak_28 : vm_D q_M_laysBreak.2.1 28 1 29 (.aload_n 0) := ⟨by decide +kernel, rfl⟩
theorem d_M_laysBreak_29 : vm_D q_M_laysBreak.2.1 29 3 32 (.getfield 271) := ⟨by decide +kernel, rfl⟩
theorem d_M_laysBreak_32 : vm_B q_M_laysBreak.2.1 32 35 55 (fun o => .ifCond .ne o) := ⟨23, by decide +kernel, rfl, by decide⟩
theorem d_M_laysBreak_35 : vm_D q_M_laysBreak.2.1 35 1 36 (.aload_n 0) := ⟨by decide +kernel, rfl⟩
theorem d_M_laysBreak_36 : vm_D q_M_laysBreak.2.1 36 1 37 (.iconst 0) := ⟨by decide +kernel, rfl⟩
theorem d_M_laysBreak_37 : vm_D q_M_laysBreak.2.1 37 1 38 (.iload_n 3) := ⟨by decide +kernel, rfl⟩
theorem d_M_laysBreak_38 : vm_D q_M_laysBreak.2.1 38 1 39 (.iconst 5) := ⟨by decide +kernel, rfl⟩
theorem d_M_laysBreak_39 : vm_D q_M_laysBreak.2.1 39 3 42 (.invokevirtual 268) := ⟨by decide +kernel, rfl⟩
theorem d_M_laysBreak_42 : vm_D q_M_laysBreak.2.1 42 2 44 (.istore 4) := ⟨by decide +kernel, rfl⟩
theorem d_M_laysBreak_44 : vm_D q_M_laysBreak.2.1 44 1 45 (.aload_n 0) := ⟨by decide +kernel, rfl⟩
theorem d_M_laysBreak_45 : vm_D q_M_laysBreak.2.1 45 1 46 (.iload_n 3) := ⟨by decide +kernel, rfl⟩
theorem d_M_laysBreak_46 : vm_D q_M_laysBreak.2.1 46 3 49 (.putfield 284) := ⟨by decide +kernel, rfl⟩
theorem d_M_laysBreak_49 : vm_D q_M_laysBreak.2.1 49 3 52 (.iinc 3 1) := ⟨by decide +kernel, rfl⟩
theorem d_M_laysBreak_52 : ∃ off : Int, decode q_M_laysBreak.2.1 52 = .ok (.goto off, 3) ∧ ((52 : Nat) : Int) + off = ((16 : Nat) : Int) := ⟨-36, by decide +kernel, by decide⟩
theorem d_M_laysBreak_55 : vm_D q_M_laysBreak.2.1 55 1 56 (.return_) := ⟨by decide +kernel, rfl⟩
def q_M_keeps : vm_Y := ("RepeatFreeModel", cX11_keeps, 3, false, [])
theorem d_M_keeps_0 : vm_D q_M_keeps.2.1 0 1 1 (.aload_n 0) := ⟨by decide +kernel, rfl⟩
theorem d_M_keeps_1 : vm_D q_M_keeps.2.1 1 1 2 (.iconst 0) := ⟨by decide +kernel, rfl⟩
theorem d_M_keeps_2 : vm_D q_M_keeps.2.1 2 3 5 (.putfield 3) := ⟨by decide +kernel, rfl⟩
theorem d_M_keeps_5 : vm_D q_M_keeps.2.1 5 1 6 (.aload_n 0) := ⟨by decide +kernel, rfl⟩
theorem d_M_keeps_6 : vm_D q_M_keeps.2.1 6 1 7 (.iload_n 1) := ⟨by decide +kernel, rfl⟩
theorem d_M_keeps_7 : vm_D q_M_keeps.2.1 7 3 10 (.invokevirtual 319) := ⟨by decide +kernel, rfl⟩
theorem d_M_keeps_10 : vm_B q_M_keeps.2.1 10 13 36 (fun o => .ifCond .ne o) := ⟨26, by decide +kernel, rfl, by decide⟩
theorem d_M_keeps_36 : vm_D q_M_keeps.2.1 36 1 37 (.iconst 0) := ⟨by decide +kernel, rfl⟩
theorem d_M_keeps_37 : vm_D q_M_keeps.2.1 37 1 38 (.ireturn) := ⟨by decide +kernel, rfl⟩
theorem d_M_keeps_13 : vm_D q_M_keeps.2.1 13 1 14 (.aload_n 0) := ⟨by decide +kernel, rfl⟩
theorem d_M_keeps_14 : vm_D q_M_keeps.2.1 14 1 15 (.iload_n 2) := ⟨by decide +kernel, rfl⟩
theorem d_M_keeps_15 : vm_D q_M_keeps.2.1 15 1 16 (.iconst 1) := ⟨by decide +kernel, rfl⟩
theorem d_M_keeps_16 : vm_D q_M_keeps.2.1 16 2 18 (.bipush 6) := ⟨by decide +kernel, rfl⟩
theorem d_M_keeps_18 : vm_D q_M_keeps.2.1 18 3 21 (.invokestatic 65) := ⟨by decide +kernel, rfl⟩
theorem d_M_keeps_21 : vm_B q_M_keeps.2.1 21 24 28 (fun o => .ifCond .ne o) := ⟨7, by decide +kernel, rfl, by decide⟩
theorem d_M_keeps_29 : vm_D q_M_keeps.2.1 29 1 30 (.iconst 2) := ⟨by decide +kernel, rfl⟩
theorem d_M_keeps_30 : vm_D q_M_keeps.2.1 30 3 33 (.invokevirtual 180) := ⟨by decide +kernel, rfl⟩
theorem d_M_keeps_33 : vm_B q_M_keeps.2.1 33 36 38 (fun o => .ifCond .eq o) := ⟨5, by decide +kernel, rfl, by decide⟩
theorem d_M_keeps_38 : vm_D q_M_keeps.2.1 38 1 39 (.aload_n 0) := ⟨by decide +kernel, rfl⟩
theorem d_M_keeps_39 : vm_D q_M_keeps.2.1 39 1 40 (.iload_n 1) := ⟨by decide +kernel, rfl⟩
theorem d_M_keeps_40 : vm_D q_M_keeps.2.1 40 1 41 (.iload_n 2) := ⟨by decide +kernel, rfl⟩
theorem d_M_keeps_41 : vm_D q_M_keeps.2.1 41 3 44 (.invokevirtual 340) := ⟨by decide +kernel, rfl⟩
theorem d_M_keeps_44 : vm_D q_M_keeps.2.1 44 1 45 (.aload_n 0) := ⟨by decide +kernel, rfl⟩
theorem d_M_keeps_45 : vm_D q_M_keeps.2.1 45 3 48 (.getfield 265) := ⟨by decide +kernel, rfl⟩
theorem d_M_keeps_48 : vm_B q_M_keeps.2.1 48 51 56 (fun o => .ifCond .eq o) := ⟨8, by decide +kernel, rfl, by decide⟩
theorem d_M_keeps_56 : vm_D q_M_keeps.2.1 56 1 57 (.aload_n 0) := ⟨by decide +kernel, rfl⟩
theorem d_M_keeps_57 : vm_D q_M_keeps.2.1 57 3 60 (.getfield 271) := ⟨by decide +kernel, rfl⟩
theorem d_M_keeps_60 : vm_B q_M_keeps.2.1 60 63 67 (fun o => .ifCond .eq o) := ⟨7, by decide +kernel, rfl, by decide⟩
theorem d_M_keeps_67 : vm_D q_M_keeps.2.1 67 1 68 (.iconst 1) := ⟨by decide +kernel, rfl⟩
theorem d_M_keeps_68 : vm_D q_M_keeps.2.1 68 1 69 (.ireturn) := ⟨by decide +kernel, rfl⟩
theorem d_M_keeps_63 : vm_D q_M_keeps.2.1 63 1 64 (.iconst 0) := ⟨by decide +kernel, rfl⟩
theorem d_M_keeps_64 : ∃ off : Int, decode q_M_keeps.2.1 64 = .ok (.goto off, 3) ∧ ((64 : Nat) : Int) + off = ((68 : Nat) : Int) := ⟨4, by decide +kernel, by decide⟩
theorem d_M_keeps_51 : vm_D q_M_keeps.2.1 51 2 53 (.bipush (-2)) := ⟨by decide +kernel, rfl⟩
theorem d_M_keeps_53 : ∃ off : Int, decode q_M_keeps.2.1 53 = .ok (.goto off, 3) ∧ ((53 : Nat) : Int) + off = ((68 : Nat) : Int) := ⟨15, by decide +kernel, by decide⟩
theorem d_M_keeps_28 : vm_D q_M_keeps.2.1 28 1 29 (.iconst 0) := ⟨by decide +kernel, rfl⟩
theorem d_M_keeps_24 : vm_D q_M_keeps.2.1 24 1 25 (.iconst 1) := ⟨by decide +kernel, rfl⟩
theorem d_M_keeps_25 : ∃ off : Int, decode q_M_keeps.2.1 25 = .ok (.goto off, 3) ∧ ((25 : Nat) : Int) + off = ((29 : Nat) : Int) := ⟨4, by decide +kernel, by decide⟩
def q_M_breaks : vm_Y := ("RepeatFreeModel", cX11_breaks, 5, false, [])
theorem d_M_breaks_0 : vm_D q_M_breaks.2.1 0 1 1 (.aload_n 0) := ⟨by decide +kernel, rfl⟩
theorem d_M_breaks_1 : vm_D q_M_breaks.2.1 1 1 2 (.iconst 0) := ⟨by decide +kernel, rfl⟩
theorem d_M_breaks_2 : vm_D q_M_breaks.2.1 2 3 5 (.putfield 3) := ⟨by decide +kernel, rfl⟩
theorem d_M_breaks_5 : vm_D q_M_breaks.2.1 5 1 6 (.aload_n 0) := ⟨by decide +kernel, rfl⟩
theorem d_M_breaks_6 : vm_D q_M_breaks.2.1 6 1 7 (.iload_n 1) := ⟨by decide +kernel, rfl⟩
theorem d_M_breaks_7 : vm_D q_M_breaks.2.1 7 3 10 (.invokevirtual 319) := ⟨by decide +kernel, rfl⟩
theorem d_M_breaks_10 : vm_B q_M_breaks.2.1 10 13 36 (fun o => .ifCond .ne o) := ⟨26, by decide +kernel, rfl, by decide⟩
theorem d_M_breaks_36 : vm_D q_M_breaks.2.1 36 1 37 (.iconst 0) := ⟨by decide +kernel, rfl⟩
theorem d_M_breaks_37 : vm_D q_M_breaks.2.1 37 1 38 (.ireturn) := ⟨by decide +kernel, rfl⟩
theorem d_M_breaks_13 : vm_D q_M_breaks.2.1 13 1 14 (.aload_n 0) := ⟨by decide +kernel, rfl⟩
theorem d_M_breaks_14 : vm_D q_M_breaks.2.1 14 1 15 (.iload_n 2) := ⟨by decide +kernel, rfl⟩
theorem d_M_breaks_15 : vm_D q_M_breaks.2.1 15 1 16 (.iconst 1) := ⟨by decide +kernel, rfl⟩
theorem d_M_breaks_16 : vm_D q_M_breaks.2.1 16 2 18 (.bipush 6) := ⟨by decide +kernel, rfl⟩
theorem d_M_breaks_18 : vm_D q_M_breaks.2.1 18 3 21 (.invokestatic 65) := ⟨by decide +kernel, rfl⟩
theorem d_M_breaks_21 : vm_B q_M_breaks.2.1 21 24 28 (fun o => .ifCond .ne o) := ⟨7, by decide +kernel, rfl, by decide⟩
theorem d_M_breaks_29 : vm_D q_M_breaks.2.1 29 1 30 (.iconst 2) := ⟨by decide +kernel, rfl⟩
theorem d_M_breaks_30 : vm_D q_M_breaks.2.1 30 3 33 (.invokevirtual 180) := ⟨by decide +kernel, rfl⟩
theorem d_M_breaks_33 : vm_B q_M_breaks.2.1 33 36 38 (fun o => .ifCond .eq o) := ⟨5, by decide +kernel, rfl, by decide⟩
theorem d_M_breaks_38 : vm_D q_M_breaks.2.1 38 1 39 (.aload_n 0) := ⟨by decide +kernel, rfl⟩
theorem d_M_breaks_39 : vm_D q_M_breaks.2.1 39 1 40 (.iload_n 1) := ⟨by decide +kernel, rfl⟩
theorem d_M_breaks_40 : vm_D q_M_breaks.2.1 40 1 41 (.iload_n 2) := ⟨by decide +kernel, rfl⟩
theorem d_M_breaks_41 : vm_D q_M_breaks.2.1 41 3 44 (.invokevirtual 340) := ⟨by decide +kernel, rfl⟩
theorem d_M_breaks_44 : vm_D q_M_breaks.2.1 44 1 45 (.aload_n 0) := ⟨by decide +kernel, rfl⟩
theorem d_M_breaks_45 : vm_D q_M_breaks.2.1 45 3 48 (.getfield 265) := ⟨by decide +kernel, rfl⟩
theorem d_M_breaks_48 : vm_B q_M_breaks.2.1 48 51 58 (fun o => .ifCond .ne o) := ⟨10, by decide +kernel, rfl, by decide⟩
theorem d_M_breaks_58 : vm_D q_M_breaks.2.1 58 1 59 (.aload_n 0) := ⟨by decide +kernel, rfl⟩
theorem d_M_breaks_59 : vm_D q_M_breaks.2.1 59 3 62 (.getfield 265) := ⟨by decide +kernel, rfl⟩
theorem d_M_breaks_62 : vm_B q_M_breaks.2.1 62 65 70 (fun o => .ifCond .eq o) := ⟨8, by decide +kernel, rfl, by decide⟩
theorem d_M_breaks_70 : vm_D q_M_breaks.2.1 70 1 71 (.iconst (-1)) := ⟨by decide +kernel, rfl⟩
theorem d_M_breaks_71 : vm_D q_M_breaks.2.1 71 1 72 (.ireturn) := ⟨by decide +kernel, rfl⟩
theorem d_M_breaks_65 : vm_D q_M_breaks.2.1 65 2 67 (.bipush (-2)) := ⟨by decide +kernel, rfl⟩
theorem d_M_breaks_67 : ∃ off : Int, decode q_M_breaks.2.1 67 = .ok (.goto off, 3) ∧ ((67 : Nat) : Int) + off = ((71 : Nat) : Int) := ⟨4, by decide +kernel, by decide⟩
theorem d_M_breaks_51 : vm_D q_M_breaks.2.1 51 1 52 (.aload_n 0) := ⟨by decide +kernel, rfl⟩
theorem d_M_breaks_52 : vm_D q_M_breaks.2.1 52 3 55 (.getfield 271) := ⟨by decide +kernel, rfl⟩
theorem d_M_breaks_55 : vm_B q_M_breaks.2.1 55 58 72 (fun o => .ifCond .ne o) := ⟨17, by decide +kernel, rfl, by decide⟩
theorem d_M_breaks_72 : vm_D q_M_breaks.2.1 72 1 73 (.iconst 0) := ⟨by decide +kernel, rfl⟩
theorem d_M_breaks_73 : vm_D q_M_breaks.2.1 73 1 74 (.istore_n 3) := ⟨by decide +kernel, rfl⟩
theorem d_M_breaks_74 : vm_D q_M_breaks.2.1 74 1 75 (.iconst 0) := ⟨by decide +kernel, rfl⟩
theorem d_M_breaks_75 : vm_D q_M_breaks.2.1 75 2 77 (.istore 4) := ⟨by decide +kernel, rfl⟩
theorem d_M_breaks_77 : vm_D q_M_breaks.2.1 77 2 79 (.iload 4) := ⟨by decide +kernel, rfl⟩
theorem d_M_breaks_79 : vm_D q_M_breaks.2.1 79 1 80 (.aload_n 0) := ⟨by decide +kernel, rfl⟩
theorem d_M_breaks_80 : vm_D q_M_breaks.2.1 80 3 83 (.getfield 284) := ⟨by decide +kernel, rfl⟩
theorem d_M_breaks_83 : vm_B q_M_breaks.2.1 83 86 107 (fun o => .if_icmp .ge o) := ⟨24, by decide +kernel, rfl, by decide⟩
theorem d_M_breaks_86 : vm_D q_M_breaks.2.1 86 2 88 (.bipush 10) := ⟨by decide +kernel, rfl⟩
theorem d_M_breaks_88 : vm_D q_M_breaks.2.1 88 1 89 (.iload_n 3) := ⟨by decide +kernel, rfl⟩
theorem d_M_breaks_89 : vm_D q_M_breaks.2.1 89 1 90 (.imul) := ⟨by decide +kernel, rfl⟩
theorem d_M_breaks_90 : vm_D q_M_breaks.2.1 90 1 91 (.aload_n 0) := ⟨by decide +kernel, rfl⟩
theorem d_M_breaks_91 : vm_D q_M_breaks.2.1 91 3 94 (.getfield 98) := ⟨by decide +kernel, rfl⟩
theorem d_M_breaks_94 : vm_D q_M_breaks.2.1 94 2 96 (.iload 4) := ⟨by decide +kernel, rfl⟩
theorem d_M_breaks_96 : vm_D q_M_breaks.2.1 96 1 97 (.iaload) := ⟨by decide +kernel, rfl⟩
theorem d_M_breaks_97 : vm_D q_M_breaks.2.1 97 1 98 (.iadd) := ⟨by decide +kernel, rfl⟩
theorem d_M_breaks_98 : vm_D q_M_breaks.2.1 98 1 99 (.iconst 1) := ⟨by decide +kernel, rfl⟩
theorem d_M_breaks_99 : vm_D q_M_breaks.2.1 99 1 100 (.iadd) := ⟨by decide +kernel, rfl⟩
theorem d_M_breaks_100 : vm_D q_M_breaks.2.1 100 1 101 (.istore_n 3) := ⟨by decide +kernel, rfl⟩
theorem d_M_breaks_101 : vm_D q_M_breaks.2.1 101 3 104 (.iinc 4 1) := ⟨by decide +kernel, rfl⟩
theorem d_M_breaks_104 : ∃ off : Int, decode q_M_breaks.2.1 104 = .ok (.goto off, 3) ∧ ((104 : Nat) : Int) + off = ((77 : Nat) : Int) := ⟨-27, by decide +kernel, by decide⟩
theorem d_M_breaks_107 : vm_D q_M_breaks.2.1 107 1 108 (.iload_n 3) := ⟨by decide +kernel, rfl⟩
theorem d_M_breaks_108 : vm_D q_M_breaks.2.1 108 1 109 (.ireturn) := ⟨by decide +kernel, rfl⟩
theorem d_M_breaks_28 : vm_D q_M_breaks.2.1 28 1 29 (.iconst 0) := ⟨by decide +kernel, rfl⟩
theorem d_M_breaks_24 : vm_D q_M_breaks.2.1 24 1 25 (.iconst 1) := ⟨by decide +kernel, rfl⟩
theorem d_M_breaks_25 : ∃ off : Int, decode q_M_breaks.2.1 25 = .ok (.goto off, 3) ∧ ((25 : Nat) : Int) + off = ((29 : Nat) : Int) := ⟨4, by decide +kernel, by decide⟩
def q_M_doesGrow : vm_Y := ("RepeatFreeModel", cX11_doesGrow, 3, false, [])
theorem d_M_doesGrow_0 : vm_D q_M_doesGrow.2.1 0 1 1 (.aload_n 0) := ⟨by decide +kernel, rfl⟩
theorem d_M_doesGrow_1 : vm_D q_M_doesGrow.2.1 1 1 2 (.iload_n 1) := ⟨by decide +kernel, rfl⟩
theorem d_M_doesGrow_2 : vm_D q_M_doesGrow.2.1 2 1 3 (.iload_n 2) := ⟨by decide +kernel, rfl⟩
theorem d_M_doesGrow_3 : vm_D q_M_doesGrow.2.1 3 3 6 (.invokevirtual 305) := ⟨by decide +kernel, rfl⟩
theorem d_M_doesGrow_6 : vm_D q_M_doesGrow.2.1 6 1 7 (.iconst 1) := ⟨by decide +kernel, rfl⟩
theorem d_M_doesGrow_7 : vm_B q_M_doesGrow.2.1 7 10 25 (fun o => .if_icmp .le o) := ⟨18, by decide +kernel, rfl, by decide⟩
theorem d_M_doesGrow_25 : vm_D q_M_doesGrow.2.1 25 1 26 (.iconst 0) := ⟨by decide +kernel, rfl⟩
theorem d_M_doesGrow_26 : vm_D q_M_doesGrow.2.1 26 1 27 (.ireturn) := ⟨by decide +kernel, rfl⟩
theorem d_M_doesGrow_10 : vm_D q_M_doesGrow.2.1 10 1 11 (.aload_n 0) := ⟨by decide +kernel, rfl⟩
theorem d_M_doesGrow_11 : vm_D q_M_doesGrow.2.1 11 1 12 (.iload_n 1) := ⟨by decide +kernel, rfl⟩
theorem d_M_doesGrow_12 : vm_D q_M_doesGrow.2.1 12 1 13 (.iload_n 2) := ⟨by decide +kernel, rfl⟩
theorem d_M_doesGrow_13 : vm_D q_M_doesGrow.2.1 13 1 14 (.iconst 0) := ⟨by decide +kernel, rfl⟩
theorem d_M_doesGrow_14 : vm_D q_M_doesGrow.2.1 14 3 17 (.invokevirtual 308) := ⟨by decide +kernel, rfl⟩
theorem d_M_doesGrow_17 : vm_D q_M_doesGrow.2.1 17 1 18 (.iload_n 2) := ⟨by decide +kernel, rfl⟩
theorem d_M_doesGrow_18 : vm_B q_M_doesGrow.2.1 18 21 25 (fun o => .if_icmp .ne o) := ⟨7, by decide +kernel, rfl, by decide⟩
theorem d_M_doesGrow_21 : vm_D q_M_doesGrow.2.1 21 1 22 (.iconst 1) := ⟨by decide +kernel, rfl⟩
theorem d_M_doesGrow_22 : ∃ off : Int, decode q_M_doesGrow.2.1 22 = .ok (.goto off, 3) ∧ ((22 : Nat) : Int) + off = ((26 : Nat) : Int) := ⟨4, by decide +kernel, by decide⟩
def q_M_grows : vm_Y := ("RepeatFreeModel", cX11_grows, 4, false, [])
theorem d_M_grows_0 : vm_D q_M_grows.2.1 0 1 1 (.aload_n 0) := ⟨by decide +kernel, rfl⟩
theorem d_M_grows_1 : vm_D q_M_grows.2.1 1 1 2 (.iconst 0) := ⟨by decide +kernel, rfl⟩
theorem d_M_grows_2 : vm_D q_M_grows.2.1 2 3 5 (.putfield 3) := ⟨by decide +kernel, rfl⟩
theorem d_M_grows_5 : vm_D q_M_grows.2.1 5 1 6 (.aload_n 0) := ⟨by decide +kernel, rfl⟩
theorem d_M_grows_6 : vm_D q_M_grows.2.1 6 1 7 (.iload_n 1) := ⟨by decide +kernel, rfl⟩
theorem d_M_grows_7 : vm_D q_M_grows.2.1 7 3 10 (.invokevirtual 319) := ⟨by decide +kernel, rfl⟩
theorem d_M_grows_10 : vm_B q_M_grows.2.1 10 13 15 (fun o => .ifCond .eq o) := ⟨5, by decide +kernel, rfl, by decide⟩
theorem d_M_grows_15 : vm_D q_M_grows.2.1 15 1 16 (.iconst 0) := ⟨by decide +kernel, rfl⟩
theorem d_M_grows_16 : vm_D q_M_grows.2.1 16 1 17 (.istore_n 2) := ⟨by decide +kernel, rfl⟩
theorem d_M_grows_17 : vm_D q_M_grows.2.1 17 1 18 (.iconst 0) := ⟨by decide +kernel, rfl⟩
theorem d_M_grows_18 : vm_D q_M_grows.2.1 18 1 19 (.istore_n 3) := ⟨by decide +kernel, rfl⟩
theorem d_M_grows_19 : vm_D q_M_grows.2.1 19 1 20 (.iload_n 3) := ⟨by decide +kernel, rfl⟩
theorem d_M_grows_20 : vm_D q_M_grows.2.1 20 1 21 (.aload_n 0) := ⟨by decide +kernel, rfl⟩
theorem d_M_grows_21 : vm_D q_M_grows.2.1 21 3 24 (.getfield 77) := ⟨by decide +kernel, rfl⟩
theorem d_M_grows_24 : vm_D q_M_grows.2.1 24 1 25 (.iconst 0) := ⟨by decide +kernel, rfl⟩
theorem d_M_grows_25 : vm_D q_M_grows.2.1 25 1 26 (.iaload) := ⟨by decide +kernel, rfl⟩
theorem d_M_grows_26 : vm_B q_M_grows.2.1 26 29 54 (fun o => .if_icmp .ge o) := ⟨28, by decide +kernel, rfl, by decide⟩
theorem d_M_grows_29 : vm_D q_M_grows.2.1 29 1 30 (.iload_n 2) := ⟨by decide +kernel, rfl⟩
theorem d_M_grows_30 : vm_D q_M_grows.2.1 30 1 31 (.aload_n 0) := ⟨by decide +kernel, rfl⟩
theorem d_M_grows_31 : vm_D q_M_grows.2.1 31 1 32 (.iload_n 1) := ⟨by decide +kernel, rfl⟩
theorem d_M_grows_32 : vm_D q_M_grows.2.1 32 1 33 (.iload_n 3) := ⟨by decide +kernel, rfl⟩
theorem d_M_grows_33 : vm_D q_M_grows.2.1 33 3 36 (.invokevirtual 343) := ⟨by decide +kernel, rfl⟩
theorem d_M_grows_36 : vm_B q_M_grows.2.1 36 39 45 (fun o => .ifCond .eq o) := ⟨9, by decide +kernel, rfl, by decide⟩
theorem d_M_grows_46 : vm_D q_M_grows.2.1 46 1 47 (.ior) := ⟨by decide +kernel, rfl⟩
theorem d_M_grows_47 : vm_D q_M_grows.2.1 47 1 48 (.istore_n 2) := ⟨by decide +kernel, rfl⟩
theorem d_M_grows_48 : vm_D q_M_grows.2.1 48 3 51 (.iinc 3 1) := ⟨by decide +kernel, rfl⟩
theorem d_M_grows_51 : ∃ off : Int, decode q_M_grows.2.1 51 = .ok (.goto off, 3) ∧ ((51 : Nat) : Int) + off = ((19 : Nat) : Int) := ⟨-32, by decide +kernel, by decide⟩
theorem d_M_grows_45 : vm_D q_M_grows.2.1 45 1 46 (.iconst 0) := ⟨by decide +kernel, rfl⟩
theorem d_M_grows_39 : vm_D q_M_grows.2.1 39 1 40 (.iconst 1) := ⟨by decide +kernel, rfl⟩
theorem d_M_grows_40 : vm_D q_M_grows.2.1 40 1 41 (.iload_n 3) := ⟨by decide +kernel, rfl⟩
theorem d_M_grows_41 : vm_D q_M_grows.2.1 41 1 42 (.ishl) := ⟨by decide +kernel, rfl⟩
theorem d_M_grows_42 : ∃ off : Int, decode q_M_grows.2.1 42 = .ok (.goto off, 3) ∧ ((42 : Nat) : Int) + off = ((46 : Nat) : Int) := ⟨4, by decide +kernel, by decide⟩
theorem d_M_grows_54 : vm_D q_M_grows.2.1 54 1 55 (.iload_n 2) := ⟨by decide +kernel, rfl⟩
theorem d_M_grows_55 : vm_D q_M_grows.2.1 55 1 56 (.ireturn) := ⟨by decide +kernel, rfl⟩
theorem d_M_grows_13 : vm_D q_M_grows.2.1 13 1 14 (.iconst 0) := ⟨by decide +kernel, rfl⟩
theorem d_M_grows_14 : vm_D q_M_grows.2.1 14 1 15 (.ireturn) := ⟨by decide +kernel, rfl⟩
def q_M_uniform : vm_Y := ("RepeatFreeModel", cX11_uniform, 3, false, [])
theorem d_M_uniform_0 : vm_D q_M_uniform.2.1 0 1 1 (.aload_n 0) := ⟨by decide +kernel, rfl⟩
theorem d_M_uniform_1 : vm_D q_M_uniform.2.1 1 1 2 (.iconst 0) := ⟨by decide +kernel, rfl⟩
theorem d_M_uniform_2 : vm_D q_M_uniform.2.1 2 3 5 (.putfield 3) := ⟨by decide +kernel, rfl⟩
theorem d_M_uniform_5 : vm_D q_M_uniform.2.1 5 1 6 (.aload_n 0) := ⟨by decide +kernel, rfl⟩
theorem d_M_uniform_6 : vm_D q_M_uniform.2.1 6 1 7 (.iload_n 1) := ⟨by decide +kernel, rfl⟩
theorem d_M_uniform_7 : vm_D q_M_uniform.2.1 7 3 10 (.invokevirtual 319) := ⟨by decide +kernel, rfl⟩
theorem d_M_uniform_10 : vm_B q_M_uniform.2.1 10 13 15 (fun o => .ifCond .eq o) := ⟨5, by decide +kernel, rfl, by decide⟩
theorem d_M_uniform_15 : vm_D q_M_uniform.2.1 15 1 16 (.iconst 1) := ⟨by decide +kernel, rfl⟩
theorem d_M_uniform_16 : vm_D q_M_uniform.2.1 16 1 17 (.istore_n 2) := ⟨by decide +kernel, rfl⟩
theorem d_M_uniform_17 : vm_D q_M_uniform.2.1 17 1 18 (.iload_n 2) := ⟨by decide +kernel, rfl⟩
theorem d_M_uniform_18 : vm_D q_M_uniform.2.1 18 1 19 (.aload_n 0) := ⟨by decide +kernel, rfl⟩
theorem d_M_uniform_19 : vm_D q_M_uniform.2.1 19 3 22 (.getfield 77) := ⟨by decide +kernel, rfl⟩
theorem d_M_uniform_22 : vm_D q_M_uniform.2.1 22 1 23 (.iconst 0) := ⟨by decide +kernel, rfl⟩
theorem d_M_uniform_23 : vm_D q_M_uniform.2.1 23 1 24 (.iaload) := ⟨by decide +kernel, rfl⟩
theorem d_M_uniform_24 : vm_B q_M_uniform.2.1 24 27 50 (fun o => .if_icmp .ge o) := ⟨26, by decide +kernel, rfl, by decide⟩
theorem d_M_uniform_27 : vm_D q_M_uniform.2.1 27 1 28 (.aload_n 0) := ⟨by decide +kernel, rfl⟩
theorem d_M_uniform_28 : vm_D q_M_uniform.2.1 28 1 29 (.iload_n 1) := ⟨by decide +kernel, rfl⟩
theorem d_M_uniform_29 : vm_D q_M_uniform.2.1 29 1 30 (.iload_n 2) := ⟨by decide +kernel, rfl⟩
theorem d_M_uniform_30 : vm_D q_M_uniform.2.1 30 3 33 (.invokevirtual 305) := ⟨by decide +kernel, rfl⟩
theorem d_M_uniform_33 : vm_D q_M_uniform.2.1 33 1 34 (.aload_n 0) := ⟨by decide +kernel, rfl⟩
theorem d_M_uniform_34 : vm_D q_M_uniform.2.1 34 1 35 (.iload_n 1) := ⟨by decide +kernel, rfl⟩
theorem d_M_uniform_35 : vm_D q_M_uniform.2.1 35 1 36 (.iconst 0) := ⟨by decide +kernel, rfl⟩
theorem d_M_uniform_36 : vm_D q_M_uniform.2.1 36 3 39 (.invokevirtual 305) := ⟨by decide +kernel, rfl⟩
theorem d_M_uniform_39 : vm_B q_M_uniform.2.1 39 42 44 (fun o => .if_icmp .eq o) := ⟨5, by decide +kernel, rfl, by decide⟩
theorem d_M_uniform_44 : vm_D q_M_uniform.2.1 44 3 47 (.iinc 2 1) := ⟨by decide +kernel, rfl⟩
theorem d_M_uniform_47 : ∃ off : Int, decode q_M_uniform.2.1 47 = .ok (.goto off, 3) ∧ ((47 : Nat) : Int) + off = ((17 : Nat) : Int) := ⟨-30, by decide +kernel, by decide⟩
theorem d_M_uniform_42 : vm_D q_M_uniform.2.1 42 1 43 (.iconst (-1)) := ⟨by decide +kernel, rfl⟩
theorem d_M_uniform_43 : vm_D q_M_uniform.2.1 43 1 44 (.ireturn) := ⟨by decide +kernel, rfl⟩
theorem d_M_uniform_50 : vm_D q_M_uniform.2.1 50 1 51 (.aload_n 0) := ⟨by decide +kernel, rfl⟩
theorem d_M_uniform_51 : vm_D q_M_uniform.2.1 51 1 52 (.iload_n 1) := ⟨by decide +kernel, rfl⟩
theorem d_M_uniform_52 : vm_D q_M_uniform.2.1 52 1 53 (.iconst 0) := ⟨by decide +kernel, rfl⟩
theorem d_M_uniform_53 : vm_D q_M_uniform.2.1 53 3 56 (.invokevirtual 305) := ⟨by decide +kernel, rfl⟩
theorem d_M_uniform_56 : vm_D q_M_uniform.2.1 56 1 57 (.ireturn) := ⟨by decide +kernel, rfl⟩
theorem d_M_uniform_13 : vm_D q_M_uniform.2.1 13 1 14 (.iconst 0) := ⟨by decide +kernel, rfl⟩
theorem d_M_uniform_14 : vm_D q_M_uniform.2.1 14 1 15 (.ireturn) := ⟨by decide +kernel, rfl⟩
def q_M_fill : vm_Y := ("RepeatFreeModel", cX11_fill, 7, false, [])
theorem d_M_fill_0 : vm_D q_M_fill.2.1 0 1 1 (.aload_n 0) := ⟨by decide +kernel, rfl⟩
theorem d_M_fill_1 : vm_D q_M_fill.2.1 1 1 2 (.iconst 0) := ⟨by decide +kernel, rfl⟩
theorem d_M_fill_2 : vm_D q_M_fill.2.1 2 3 5 (.putfield 3) := ⟨by decide +kernel, rfl⟩
theorem d_M_fill_5 : vm_D q_M_fill.2.1 5 1 6 (.aload_n 0) := ⟨by decide +kernel, rfl⟩
theorem d_M_fill_6 : vm_D q_M_fill.2.1 6 1 7 (.iload_n 1) := ⟨by decide +kernel, rfl⟩
theorem d_M_fill_7 : vm_D q_M_fill.2.1 7 3 10 (.invokevirtual 319) := ⟨by decide +kernel, rfl⟩
theorem d_M_fill_10 : vm_B q_M_fill.2.1 10 13 67 (fun o => .ifCond .ne o) := ⟨57, by decide +kernel, rfl, by decide⟩
theorem d_M_fill_67 : vm_D q_M_fill.2.1 67 1 68 (.iconst 0) := ⟨by decide +kernel, rfl⟩
theorem d_M_fill_68 : vm_D q_M_fill.2.1 68 1 69 (.ireturn) := ⟨by decide +kernel, rfl⟩
theorem d_M_fill_13 : vm_D q_M_fill.2.1 13 1 14 (.aload_n 0) := ⟨by decide +kernel, rfl⟩
theorem d_M_fill_14 : vm_D q_M_fill.2.1 14 1 15 (.iload_n 2) := ⟨by decide +kernel, rfl⟩
theorem d_M_fill_15 : vm_D q_M_fill.2.1 15 1 16 (.iconst 2) := ⟨by decide +kernel, rfl⟩
theorem d_M_fill_16 : vm_D q_M_fill.2.1 16 3 19 (.invokevirtual 196) := ⟨by decide +kernel, rfl⟩
theorem d_M_fill_19 : vm_B q_M_fill.2.1 19 22 67 (fun o => .ifCond .ne o) := ⟨48, by decide +kernel, rfl, by decide⟩
theorem d_M_fill_22 : vm_D q_M_fill.2.1 22 1 23 (.aload_n 0) := ⟨by decide +kernel, rfl⟩
theorem d_M_fill_23 : vm_D q_M_fill.2.1 23 1 24 (.iload_n 3) := ⟨by decide +kernel, rfl⟩
theorem d_M_fill_24 : vm_D q_M_fill.2.1 24 1 25 (.iconst 1) := ⟨by decide +kernel, rfl⟩
theorem d_M_fill_25 : vm_D q_M_fill.2.1 25 2 27 (.bipush 64) := ⟨by decide +kernel, rfl⟩
theorem d_M_fill_27 : vm_D q_M_fill.2.1 27 3 30 (.invokestatic 65) := ⟨by decide +kernel, rfl⟩
theorem d_M_fill_30 : vm_B q_M_fill.2.1 30 33 37 (fun o => .ifCond .ne o) := ⟨7, by decide +kernel, rfl, by decide⟩
theorem d_M_fill_38 : vm_D q_M_fill.2.1 38 1 39 (.iconst 2) := ⟨by decide +kernel, rfl⟩
theorem d_M_fill_39 : vm_D q_M_fill.2.1 39 3 42 (.invokevirtual 180) := ⟨by decide +kernel, rfl⟩
theorem d_M_fill_42 : vm_B q_M_fill.2.1 42 45 67 (fun o => .ifCond .ne o) := ⟨25, by decide +kernel, rfl, by decide⟩
theorem d_M_fill_45 : vm_D q_M_fill.2.1 45 1 46 (.aload_n 0) := ⟨by decide +kernel, rfl⟩
theorem d_M_fill_46 : vm_D q_M_fill.2.1 46 1 47 (.aload_n 0) := ⟨by decide +kernel, rfl⟩
theorem d_M_fill_47 : vm_D q_M_fill.2.1 47 1 48 (.iload_n 1) := ⟨by decide +kernel, rfl⟩
theorem d_M_fill_48 : vm_D q_M_fill.2.1 48 1 49 (.iload_n 2) := ⟨by decide +kernel, rfl⟩
theorem d_M_fill_49 : vm_D q_M_fill.2.1 49 3 52 (.invokevirtual 343) := ⟨by decide +kernel, rfl⟩
theorem d_M_fill_52 : vm_B q_M_fill.2.1 52 55 59 (fun o => .ifCond .ne o) := ⟨7, by decide +kernel, rfl, by decide⟩
theorem d_M_fill_60 : vm_D q_M_fill.2.1 60 1 61 (.iconst 3) := ⟨by decide +kernel, rfl⟩
theorem d_M_fill_61 : vm_D q_M_fill.2.1 61 3 64 (.invokevirtual 180) := ⟨by decide +kernel, rfl⟩
theorem d_M_fill_64 : vm_B q_M_fill.2.1 64 67 69 (fun o => .ifCond .eq o) := ⟨5, by decide +kernel, rfl, by decide⟩
theorem d_M_fill_69 : vm_D q_M_fill.2.1 69 1 70 (.aload_n 0) := ⟨by decide +kernel, rfl⟩
theorem d_M_fill_70 : vm_D q_M_fill.2.1 70 3 73 (.getfield 86) := ⟨by decide +kernel, rfl⟩
theorem d_M_fill_73 : vm_D q_M_fill.2.1 73 1 74 (.iconst 0) := ⟨by decide +kernel, rfl⟩
theorem d_M_fill_74 : vm_D q_M_fill.2.1 74 1 75 (.iload_n 2) := ⟨by decide +kernel, rfl⟩
theorem d_M_fill_75 : vm_D q_M_fill.2.1 75 1 76 (.iastore) := ⟨by decide +kernel, rfl⟩
theorem d_M_fill_76 : vm_D q_M_fill.2.1 76 1 77 (.iconst 1) := ⟨by decide +kernel, rfl⟩
theorem d_M_fill_77 : vm_D q_M_fill.2.1 77 2 79 (.istore 4) := ⟨by decide +kernel, rfl⟩
theorem d_M_fill_79 : vm_D q_M_fill.2.1 79 1 80 (.iconst 0) := ⟨by decide +kernel, rfl⟩
theorem d_M_fill_80 : vm_D q_M_fill.2.1 80 2 82 (.istore 5) := ⟨by decide +kernel, rfl⟩
theorem d_M_fill_82 : vm_D q_M_fill.2.1 82 2 84 (.iload 4) := ⟨by decide +kernel, rfl⟩
theorem d_M_fill_84 : vm_D q_M_fill.2.1 84 1 85 (.iload_n 3) := ⟨by decide +kernel, rfl⟩
theorem d_M_fill_85 : vm_B q_M_fill.2.1 85 88 159 (fun o => .if_icmp .ge o) := ⟨74, by decide +kernel, rfl, by decide⟩
theorem d_M_fill_88 : vm_D q_M_fill.2.1 88 2 90 (.iload 5) := ⟨by decide +kernel, rfl⟩
theorem d_M_fill_90 : vm_B q_M_fill.2.1 90 93 97 (fun o => .ifCond .ne o) := ⟨7, by decide +kernel, rfl, by decide⟩
theorem d_M_fill_98 : vm_D q_M_fill.2.1 98 2 100 (.istore 6) := ⟨by decide +kernel, rfl⟩
theorem d_M_fill_100 : vm_D q_M_fill.2.1 100 2 102 (.iload 6) := ⟨by decide +kernel, rfl⟩
theorem d_M_fill_102 : vm_D q_M_fill.2.1 102 1 103 (.aload_n 0) := ⟨by decide +kernel, rfl⟩
theorem d_M_fill_103 : vm_D q_M_fill.2.1 103 1 104 (.iload_n 1) := ⟨by decide +kernel, rfl⟩
theorem d_M_fill_104 : vm_D q_M_fill.2.1 104 1 105 (.aload_n 0) := ⟨by decide +kernel, rfl⟩
theorem d_M_fill_105 : vm_D q_M_fill.2.1 105 3 108 (.getfield 86) := ⟨by decide +kernel, rfl⟩
theorem d_M_fill_108 : vm_D q_M_fill.2.1 108 2 110 (.iload 5) := ⟨by decide +kernel, rfl⟩
theorem d_M_fill_110 : vm_D q_M_fill.2.1 110 1 111 (.iaload) := ⟨by decide +kernel, rfl⟩
theorem d_M_fill_111 : vm_D q_M_fill.2.1 111 3 114 (.invokevirtual 305) := ⟨by decide +kernel, rfl⟩
theorem d_M_fill_114 : vm_B q_M_fill.2.1 114 117 153 (fun o => .if_icmp .ge o) := ⟨39, by decide +kernel, rfl, by decide⟩
theorem d_M_fill_117 : vm_D q_M_fill.2.1 117 2 119 (.iload 4) := ⟨by decide +kernel, rfl⟩
theorem d_M_fill_119 : vm_D q_M_fill.2.1 119 1 120 (.iload_n 3) := ⟨by decide +kernel, rfl⟩
theorem d_M_fill_120 : vm_B q_M_fill.2.1 120 123 153 (fun o => .if_icmp .ge o) := ⟨33, by decide +kernel, rfl, by decide⟩
theorem d_M_fill_123 : vm_D q_M_fill.2.1 123 1 124 (.aload_n 0) := ⟨by decide +kernel, rfl⟩
theorem d_M_fill_124 : vm_D q_M_fill.2.1 124 3 127 (.getfield 86) := ⟨by decide +kernel, rfl⟩
theorem d_M_fill_127 : vm_D q_M_fill.2.1 127 2 129 (.iload 4) := ⟨by decide +kernel, rfl⟩
theorem d_M_fill_129 : vm_D q_M_fill.2.1 129 3 132 (.iinc 4 1) := ⟨by decide +kernel, rfl⟩
theorem d_M_fill_132 : vm_D q_M_fill.2.1 132 1 133 (.aload_n 0) := ⟨by decide +kernel, rfl⟩
theorem d_M_fill_133 : vm_D q_M_fill.2.1 133 1 134 (.iload_n 1) := ⟨by decide +kernel, rfl⟩
theorem d_M_fill_134 : vm_D q_M_fill.2.1 134 1 135 (.aload_n 0) := ⟨by decide +kernel, rfl⟩
theorem d_M_fill_135 : vm_D q_M_fill.2.1 135 3 138 (.getfield 86) := ⟨by decide +kernel, rfl⟩
theorem d_M_fill_138 : vm_D q_M_fill.2.1 138 2 140 (.iload 5) := ⟨by decide +kernel, rfl⟩
theorem d_M_fill_140 : vm_D q_M_fill.2.1 140 1 141 (.iaload) := ⟨by decide +kernel, rfl⟩
theorem d_M_fill_141 : vm_D q_M_fill.2.1 141 2 143 (.iload 6) := ⟨by decide +kernel, rfl⟩
theorem d_M_fill_143 : vm_D q_M_fill.2.1 143 3 146 (.invokevirtual 308) := ⟨by decide +kernel, rfl⟩
theorem d_M_fill_146 : vm_D q_M_fill.2.1 146 1 147 (.iastore) := ⟨by decide +kernel, rfl⟩
theorem d_M_fill_147 : vm_D q_M_fill.2.1 147 3 150 (.iinc 6 1) := ⟨by decide +kernel, rfl⟩
theorem d_M_fill_150 : ∃ off : Int, decode q_M_fill.2.1 150 = .ok (.goto off, 3) ∧ ((150 : Nat) : Int) + off = ((100 : Nat) : Int) := ⟨-50, by decide +kernel, by decide⟩
theorem d_M_fill_153 : vm_D q_M_fill.2.1 153 3 156 (.iinc 5 1) := ⟨by decide +kernel, rfl⟩
theorem d_M_fill_156 : ∃ off : Int, decode q_M_fill.2.1 156 = .ok (.goto off, 3) ∧ ((156 : Nat) : Int) + off = ((82 : Nat) : Int) := ⟨-74, by decide +kernel, by decide⟩
theorem d_M_fill_97 : vm_D q_M_fill.2.1 97 1 98 (.iconst 0) := ⟨by decide +kernel, rfl⟩
theorem d_M_fill_93 : vm_D q_M_fill.2.1 93 1 94 (.iconst 1) := ⟨by decide +kernel, rfl⟩
theorem d_M_fill_94 : ∃ off : Int, decode q_M_fill.2.1 94 = .ok (.goto off, 3) ∧ ((94 : Nat) : Int) + off = ((98 : Nat) : Int) := ⟨4, by decide +kernel, by decide⟩
theorem d_M_fill_159 : vm_D q_M_fill.2.1 159 1 160 (.aload_n 0) := ⟨by decide +kernel, rfl⟩
theorem d_M_fill_160 : vm_D q_M_fill.2.1 160 1 161 (.iload_n 3) := ⟨by decide +kernel, rfl⟩
theorem d_M_fill_161 : vm_D q_M_fill.2.1 161 3 164 (.invokevirtual 193) := ⟨by decide +kernel, rfl⟩
theorem d_M_fill_164 : vm_D q_M_fill.2.1 164 1 165 (.aload_n 0) := ⟨by decide +kernel, rfl⟩
theorem d_M_fill_165 : vm_D q_M_fill.2.1 165 3 168 (.invokevirtual 239) := ⟨by decide +kernel, rfl⟩
theorem d_M_fill_168 : vm_D q_M_fill.2.1 168 1 169 (.ireturn) := ⟨by decide +kernel, rfl⟩
theorem d_M_fill_59 : vm_D q_M_fill.2.1 59 1 60 (.iconst 0) := ⟨by decide +kernel, rfl⟩
theorem d_M_fill_55 : vm_D q_M_fill.2.1 55 1 56 (.iconst 1) := ⟨by decide +kernel, rfl⟩
theorem d_M_fill_56 : ∃ off : Int, decode q_M_fill.2.1 56 = .ok (.goto off, 3) ∧ ((56 : Nat) : Int) + off = ((60 : Nat) : Int) := ⟨4, by decide +kernel, by decide⟩
theorem d_M_fill_37 : vm_D q_M_fill.2.1 37 1 38 (.iconst 0) := ⟨by decide +kernel, rfl⟩
theorem d_M_fill_33 : vm_D q_M_fill.2.1 33 1 34 (.iconst 1) := ⟨by decide +kernel, rfl⟩
theorem d_M_fill_34 : ∃ off : Int, decode q_M_fill.2.1 34 = .ok (.goto off, 3) ∧ ((34 : Nat) : Int) + off = ((38 : Nat) : Int) := ⟨4, by decide +kernel, by decide⟩
def q_M_sources : vm_Y := ("RepeatFreeModel", cX11_sources, 7, false, [])
theorem d_M_sources_0 : vm_D q_M_sources.2.1 0 1 1 (.aload_n 0) := ⟨by decide +kernel, rfl⟩
theorem d_M_sources_1 : vm_D q_M_sources.2.1 1 1 2 (.iconst 0) := ⟨by decide +kernel, rfl⟩
theorem d_M_sources_2 : vm_D q_M_sources.2.1 2 3 5 (.putfield 3) := ⟨by decide +kernel, rfl⟩
theorem d_M_sources_5 : vm_D q_M_sources.2.1 5 1 6 (.aload_n 0) := ⟨by decide +kernel, rfl⟩
theorem d_M_sources_6 : vm_D q_M_sources.2.1 6 1 7 (.iload_n 1) := ⟨by decide +kernel, rfl⟩
theorem d_M_sources_7 : vm_D q_M_sources.2.1 7 3 10 (.invokevirtual 319) := ⟨by decide +kernel, rfl⟩
theorem d_M_sources_10 : vm_B q_M_sources.2.1 10 13 15 (fun o => .ifCond .eq o) := ⟨5, by decide +kernel, rfl, by decide⟩
theorem d_M_sources_15 : vm_D q_M_sources.2.1 15 1 16 (.aload_n 0) := ⟨by decide +kernel, rfl⟩
theorem d_M_sources_16 : vm_D q_M_sources.2.1 16 3 19 (.getfield 108) := ⟨by decide +kernel, rfl⟩
theorem d_M_sources_19 : vm_D q_M_sources.2.1 19 1 20 (.iconst 0) := ⟨by decide +kernel, rfl⟩
theorem d_M_sources_20 : vm_D q_M_sources.2.1 20 1 21 (.lconst 1) := ⟨by decide +kernel, rfl⟩
theorem d_M_sources_21 : vm_D q_M_sources.2.1 21 1 22 (.lastore) := ⟨by decide +kernel, rfl⟩
theorem d_M_sources_22 : vm_D q_M_sources.2.1 22 1 23 (.iconst 1) := ⟨by decide +kernel, rfl⟩
theorem d_M_sources_23 : vm_D q_M_sources.2.1 23 1 24 (.istore_n 2) := ⟨by decide +kernel, rfl⟩
theorem d_M_sources_24 : vm_D q_M_sources.2.1 24 1 25 (.iload_n 2) := ⟨by decide +kernel, rfl⟩
theorem d_M_sources_25 : vm_D q_M_sources.2.1 25 1 26 (.aload_n 0) := ⟨by decide +kernel, rfl⟩
theorem d_M_sources_26 : vm_D q_M_sources.2.1 26 3 29 (.getfield 184) := ⟨by decide +kernel, rfl⟩
theorem d_M_sources_29 : vm_B q_M_sources.2.1 29 32 158 (fun o => .if_icmp .gt o) := ⟨129, by decide +kernel, rfl, by decide⟩
theorem d_M_sources_32 : vm_D q_M_sources.2.1 32 1 33 (.aload_n 0) := ⟨by decide +kernel, rfl⟩
theorem d_M_sources_33 : vm_D q_M_sources.2.1 33 3 36 (.getfield 108) := ⟨by decide +kernel, rfl⟩
theorem d_M_sources_36 : vm_D q_M_sources.2.1 36 1 37 (.iload_n 2) := ⟨by decide +kernel, rfl⟩
theorem d_M_sources_37 : vm_D q_M_sources.2.1 37 1 38 (.lconst 0) := ⟨by decide +kernel, rfl⟩
theorem d_M_sources_38 : vm_D q_M_sources.2.1 38 1 39 (.lastore) := ⟨by decide +kernel, rfl⟩
theorem d_M_sources_39 : vm_D q_M_sources.2.1 39 1 40 (.iconst 0) := ⟨by decide +kernel, rfl⟩
theorem d_M_sources_40 : vm_D q_M_sources.2.1 40 1 41 (.istore_n 3) := ⟨by decide +kernel, rfl⟩
theorem d_M_sources_41 : vm_D q_M_sources.2.1 41 1 42 (.iload_n 3) := ⟨by decide +kernel, rfl⟩
theorem d_M_sources_42 : vm_D q_M_sources.2.1 42 1 43 (.aload_n 0) := ⟨by decide +kernel, rfl⟩
theorem d_M_sources_43 : vm_D q_M_sources.2.1 43 3 46 (.getfield 77) := ⟨by decide +kernel, rfl⟩
theorem d_M_sources_46 : vm_D q_M_sources.2.1 46 1 47 (.iconst 0) := ⟨by decide +kernel, rfl⟩
theorem d_M_sources_47 : vm_D q_M_sources.2.1 47 1 48 (.iaload) := ⟨by decide +kernel, rfl⟩
theorem d_M_sources_48 : vm_B q_M_sources.2.1 48 51 152 (fun o => .if_icmp .ge o) := ⟨104, by decide +kernel, rfl, by decide⟩
theorem d_M_sources_51 : vm_D q_M_sources.2.1 51 1 52 (.aload_n 0) := ⟨by decide +kernel, rfl⟩
theorem d_M_sources_52 : vm_D q_M_sources.2.1 52 1 53 (.iload_n 1) := ⟨by decide +kernel, rfl⟩
theorem d_M_sources_53 : vm_D q_M_sources.2.1 53 1 54 (.iload_n 3) := ⟨by decide +kernel, rfl⟩
theorem d_M_sources_54 : vm_D q_M_sources.2.1 54 3 57 (.invokevirtual 305) := ⟨by decide +kernel, rfl⟩
theorem d_M_sources_57 : vm_D q_M_sources.2.1 57 2 59 (.istore 4) := ⟨by decide +kernel, rfl⟩
theorem d_M_sources_59 : vm_D q_M_sources.2.1 59 2 61 (.iload 4) := ⟨by decide +kernel, rfl⟩
theorem d_M_sources_61 : vm_D q_M_sources.2.1 61 1 62 (.iload_n 2) := ⟨by decide +kernel, rfl⟩
theorem d_M_sources_62 : vm_B q_M_sources.2.1 62 65 69 (fun o => .if_icmp .gt o) := ⟨7, by decide +kernel, rfl, by decide⟩
theorem d_M_sources_70 : vm_D q_M_sources.2.1 70 2 72 (.istore 5) := ⟨by decide +kernel, rfl⟩
theorem d_M_sources_72 : vm_D q_M_sources.2.1 72 1 73 (.iconst 0) := ⟨by decide +kernel, rfl⟩
theorem d_M_sources_73 : vm_D q_M_sources.2.1 73 2 75 (.istore 6) := ⟨by decide +kernel, rfl⟩
theorem d_M_sources_75 : vm_D q_M_sources.2.1 75 2 77 (.iload 6) := ⟨by decide +kernel, rfl⟩
theorem d_M_sources_77 : vm_D q_M_sources.2.1 77 2 79 (.iload 4) := ⟨by decide +kernel, rfl⟩
theorem d_M_sources_79 : vm_B q_M_sources.2.1 79 82 123 (fun o => .if_icmp .ge o) := ⟨44, by decide +kernel, rfl, by decide⟩
theorem d_M_sources_82 : vm_D q_M_sources.2.1 82 2 84 (.iload 5) := ⟨by decide +kernel, rfl⟩
theorem d_M_sources_84 : vm_B q_M_sources.2.1 84 87 123 (fun o => .ifCond .eq o) := ⟨39, by decide +kernel, rfl, by decide⟩
theorem d_M_sources_87 : vm_D q_M_sources.2.1 87 1 88 (.aload_n 0) := ⟨by decide +kernel, rfl⟩
theorem d_M_sources_88 : vm_D q_M_sources.2.1 88 3 91 (.getfield 83) := ⟨by decide +kernel, rfl⟩
theorem d_M_sources_91 : vm_D q_M_sources.2.1 91 1 92 (.iload_n 2) := ⟨by decide +kernel, rfl⟩
theorem d_M_sources_92 : vm_D q_M_sources.2.1 92 2 94 (.iload 4) := ⟨by decide +kernel, rfl⟩
theorem d_M_sources_94 : vm_D q_M_sources.2.1 94 1 95 (.isub) := ⟨by decide +kernel, rfl⟩
theorem d_M_sources_95 : vm_D q_M_sources.2.1 95 2 97 (.iload 6) := ⟨by decide +kernel, rfl⟩
theorem d_M_sources_97 : vm_D q_M_sources.2.1 97 1 98 (.iadd) := ⟨by decide +kernel, rfl⟩
theorem d_M_sources_98 : vm_D q_M_sources.2.1 98 1 99 (.iaload) := ⟨by decide +kernel, rfl⟩
theorem d_M_sources_99 : vm_D q_M_sources.2.1 99 1 100 (.aload_n 0) := ⟨by decide +kernel, rfl⟩
theorem d_M_sources_100 : vm_D q_M_sources.2.1 100 1 101 (.iload_n 1) := ⟨by decide +kernel, rfl⟩
theorem d_M_sources_101 : vm_D q_M_sources.2.1 101 1 102 (.iload_n 3) := ⟨by decide +kernel, rfl⟩
theorem d_M_sources_102 : vm_D q_M_sources.2.1 102 2 104 (.iload 6) := ⟨by decide +kernel, rfl⟩
theorem d_M_sources_104 : vm_D q_M_sources.2.1 104 3 107 (.invokevirtual 308) := ⟨by decide +kernel, rfl⟩
theorem d_M_sources_107 : vm_B q_M_sources.2.1 107 110 114 (fun o => .if_icmp .ne o) := ⟨7, by decide +kernel, rfl, by decide⟩
theorem d_M_sources_115 : vm_D q_M_sources.2.1 115 2 117 (.istore 5) := ⟨by decide +kernel, rfl⟩
theorem d_M_sources_117 : vm_D q_M_sources.2.1 117 3 120 (.iinc 6 1) := ⟨by decide +kernel, rfl⟩
theorem d_M_sources_120 : ∃ off : Int, decode q_M_sources.2.1 120 = .ok (.goto off, 3) ∧ ((120 : Nat) : Int) + off = ((75 : Nat) : Int) := ⟨-45, by decide +kernel, by decide⟩
theorem d_M_sources_114 : vm_D q_M_sources.2.1 114 1 115 (.iconst 0) := ⟨by decide +kernel, rfl⟩
theorem d_M_sources_110 : vm_D q_M_sources.2.1 110 1 111 (.iconst 1) := ⟨by decide +kernel, rfl⟩
theorem d_M_sources_111 : ∃ off : Int, decode q_M_sources.2.1 111 = .ok (.goto off, 3) ∧ ((111 : Nat) : Int) + off = ((115 : Nat) : Int) := ⟨4, by decide +kernel, by decide⟩
theorem d_M_sources_123 : vm_D q_M_sources.2.1 123 2 125 (.iload 5) := ⟨by decide +kernel, rfl⟩
theorem d_M_sources_125 : vm_B q_M_sources.2.1 125 128 146 (fun o => .ifCond .eq o) := ⟨21, by decide +kernel, rfl, by decide⟩
theorem d_M_sources_146 : vm_D q_M_sources.2.1 146 3 149 (.iinc 3 1) := ⟨by decide +kernel, rfl⟩
theorem d_M_sources_149 : ∃ off : Int, decode q_M_sources.2.1 149 = .ok (.goto off, 3) ∧ ((149 : Nat) : Int) + off = ((41 : Nat) : Int) := ⟨-108, by decide +kernel, by decide⟩
theorem d_M_sources_128 : vm_D q_M_sources.2.1 128 1 129 (.aload_n 0) := ⟨by decide +kernel, rfl⟩
theorem d_M_sources_129 : vm_D q_M_sources.2.1 129 3 132 (.getfield 108) := ⟨by decide +kernel, rfl⟩
theorem d_M_sources_132 : vm_D q_M_sources.2.1 132 1 133 (.iload_n 2) := ⟨by decide +kernel, rfl⟩
theorem d_M_sources_133 : vm_D q_M_sources.2.1 133 1 134 (.dup2) := ⟨by decide +kernel, rfl⟩
theorem d_M_sources_134 : vm_D q_M_sources.2.1 134 1 135 (.laload) := ⟨by decide +kernel, rfl⟩
theorem d_M_sources_135 : vm_D q_M_sources.2.1 135 1 136 (.aload_n 0) := ⟨by decide +kernel, rfl⟩
theorem d_M_sources_136 : vm_D q_M_sources.2.1 136 3 139 (.getfield 108) := ⟨by decide +kernel, rfl⟩
theorem d_M_sources_139 : vm_D q_M_sources.2.1 139 1 140 (.iload_n 2) := ⟨by decide +kernel, rfl⟩
theorem d_M_sources_140 : vm_D q_M_sources.2.1 140 2 142 (.iload 4) := ⟨by decide +kernel, rfl⟩
theorem d_M_sources_142 : vm_D q_M_sources.2.1 142 1 143 (.isub) := ⟨by decide +kernel, rfl⟩
theorem d_M_sources_143 : vm_D q_M_sources.2.1 143 1 144 (.laload) := ⟨by decide +kernel, rfl⟩
theorem d_M_sources_144 : vm_D q_M_sources.2.1 144 1 145 (.ladd) := ⟨by decide +kernel, rfl⟩
theorem d_M_sources_145 : vm_D q_M_sources.2.1 145 1 146 (.lastore) := ⟨by decide +kernel, rfl⟩
theorem d_M_sources_69 : vm_D q_M_sources.2.1 69 1 70 (.iconst 0) := ⟨by decide +kernel, rfl⟩
theorem d_M_sources_65 : vm_D q_M_sources.2.1 65 1 66 (.iconst 1) := ⟨by decide +kernel, rfl⟩
theorem d_M_sources_66 : ∃ off : Int, decode q_M_sources.2.1 66 = .ok (.goto off, 3) ∧ ((66 : Nat) : Int) + off = ((70 : Nat) : Int) := ⟨4, by decide +kernel, by decide⟩
theorem d_M_sources_152 : vm_D q_M_sources.2.1 152 3 155 (.iinc 2 1) := ⟨by decide +kernel, rfl⟩
theorem d_M_sources_155 : ∃ off : Int, decode q_M_sources.2.1 155 = .ok (.goto off, 3) ∧ ((155 : Nat) : Int) + off = ((24 : Nat) : Int) := ⟨-131, by decide +kernel, by decide⟩
theorem d_M_sources_158 : vm_D q_M_sources.2.1 158 1 159 (.aload_n 0) := ⟨by decide +kernel, rfl⟩
theorem d_M_sources_159 : vm_D q_M_sources.2.1 159 3 162 (.getfield 108) := ⟨by decide +kernel, rfl⟩
theorem d_M_sources_162 : vm_D q_M_sources.2.1 162 1 163 (.aload_n 0) := ⟨by decide +kernel, rfl⟩
theorem d_M_sources_163 : vm_D q_M_sources.2.1 163 3 166 (.getfield 184) := ⟨by decide +kernel, rfl⟩
theorem d_M_sources_166 : vm_D q_M_sources.2.1 166 1 167 (.laload) := ⟨by decide +kernel, rfl⟩
theorem d_M_sources_167 : vm_D q_M_sources.2.1 167 1 168 (.lreturn) := ⟨by decide +kernel, rfl⟩
theorem d_M_sources_13 : vm_D q_M_sources.2.1 13 1 14 (.lconst 0) := ⟨by decide +kernel, rfl⟩
theorem d_M_sources_14 : vm_D q_M_sources.2.1 14 1 15 (.lreturn) := ⟨by decide +kernel, rfl⟩
def q_M_against : vm_Y := ("RepeatFreeModel", cX11_against, 9, false, [])
theorem d_M_against_0 : vm_D q_M_against.2.1 0 1 1 (.aload_n 0) := ⟨by decide +kernel, rfl⟩
theorem d_M_against_1 : vm_D q_M_against.2.1 1 1 2 (.iload_n 1) := ⟨by decide +kernel, rfl⟩
theorem d_M_against_2 : vm_D q_M_against.2.1 2 1 3 (.iload_n 2) := ⟨by decide +kernel, rfl⟩
theorem d_M_against_3 : vm_D q_M_against.2.1 3 3 6 (.invokevirtual 305) := ⟨by decide +kernel, rfl⟩
theorem d_M_against_6 : vm_D q_M_against.2.1 6 1 7 (.iload_n 3) := ⟨by decide +kernel, rfl⟩
theorem d_M_against_7 : vm_D q_M_against.2.1 7 1 8 (.isub) := ⟨by decide +kernel, rfl⟩
theorem d_M_against_8 : vm_D q_M_against.2.1 8 2 10 (.istore 5) := ⟨by decide +kernel, rfl⟩
theorem d_M_against_10 : vm_D q_M_against.2.1 10 2 12 (.iload 5) := ⟨by decide +kernel, rfl⟩
theorem d_M_against_12 : vm_D q_M_against.2.1 12 1 13 (.aload_n 0) := ⟨by decide +kernel, rfl⟩
theorem d_M_against_13 : vm_D q_M_against.2.1 13 1 14 (.iload_n 1) := ⟨by decide +kernel, rfl⟩
theorem d_M_against_14 : vm_D q_M_against.2.1 14 2 16 (.iload 4) := ⟨by decide +kernel, rfl⟩
theorem d_M_against_16 : vm_D q_M_against.2.1 16 3 19 (.invokevirtual 305) := ⟨by decide +kernel, rfl⟩
theorem d_M_against_19 : vm_D q_M_against.2.1 19 3 22 (.invokestatic 302) := ⟨by decide +kernel, rfl⟩
theorem d_M_against_22 : vm_D q_M_against.2.1 22 2 24 (.istore 6) := ⟨by decide +kernel, rfl⟩
theorem d_M_against_24 : vm_D q_M_against.2.1 24 1 25 (.iconst 0) := ⟨by decide +kernel, rfl⟩
theorem d_M_against_25 : vm_D q_M_against.2.1 25 2 27 (.istore 7) := ⟨by decide +kernel, rfl⟩
theorem d_M_against_27 : vm_D q_M_against.2.1 27 2 29 (.iload 7) := ⟨by decide +kernel, rfl⟩
theorem d_M_against_29 : vm_D q_M_against.2.1 29 2 31 (.iload 6) := ⟨by decide +kernel, rfl⟩
theorem d_M_against_31 : vm_B q_M_against.2.1 31 34 64 (fun o => .if_icmp .ge o) := ⟨33, by decide +kernel, rfl, by decide⟩
theorem d_M_against_34 : vm_D q_M_against.2.1 34 1 35 (.aload_n 0) := ⟨by decide +kernel, rfl⟩
theorem d_M_against_35 : vm_D q_M_against.2.1 35 1 36 (.iload_n 1) := ⟨by decide +kernel, rfl⟩
theorem d_M_against_36 : vm_D q_M_against.2.1 36 1 37 (.iload_n 2) := ⟨by decide +kernel, rfl⟩
theorem d_M_against_37 : vm_D q_M_against.2.1 37 1 38 (.iload_n 3) := ⟨by decide +kernel, rfl⟩
theorem d_M_against_38 : vm_D q_M_against.2.1 38 2 40 (.iload 7) := ⟨by decide +kernel, rfl⟩
theorem d_M_against_40 : vm_D q_M_against.2.1 40 1 41 (.iadd) := ⟨by decide +kernel, rfl⟩
theorem d_M_against_41 : vm_D q_M_against.2.1 41 3 44 (.invokevirtual 308) := ⟨by decide +kernel, rfl⟩
theorem d_M_against_44 : vm_D q_M_against.2.1 44 1 45 (.aload_n 0) := ⟨by decide +kernel, rfl⟩
theorem d_M_against_45 : vm_D q_M_against.2.1 45 1 46 (.iload_n 1) := ⟨by decide +kernel, rfl⟩
theorem d_M_against_46 : vm_D q_M_against.2.1 46 2 48 (.iload 4) := ⟨by decide +kernel, rfl⟩
theorem d_M_against_48 : vm_D q_M_against.2.1 48 2 50 (.iload 7) := ⟨by decide +kernel, rfl⟩
theorem d_M_against_50 : vm_D q_M_against.2.1 50 3 53 (.invokevirtual 308) := ⟨by decide +kernel, rfl⟩
theorem d_M_against_53 : vm_B q_M_against.2.1 53 56 58 (fun o => .if_icmp .eq o) := ⟨5, by decide +kernel, rfl, by decide⟩
theorem d_M_against_58 : vm_D q_M_against.2.1 58 3 61 (.iinc 7 1) := ⟨by decide +kernel, rfl⟩
theorem d_M_against_61 : ∃ off : Int, decode q_M_against.2.1 61 = .ok (.goto off, 3) ∧ ((61 : Nat) : Int) + off = ((27 : Nat) : Int) := ⟨-34, by decide +kernel, by decide⟩
theorem d_M_against_56 : vm_D q_M_against.2.1 56 1 57 (.iconst 0) := ⟨by decide +kernel, rfl⟩
theorem d_M_against_57 : vm_D q_M_against.2.1 57 1 58 (.ireturn) := ⟨by decide +kernel, rfl⟩
theorem d_M_against_64 : vm_D q_M_against.2.1 64 2 66 (.iload 5) := ⟨by decide +kernel, rfl⟩
theorem d_M_against_66 : vm_D q_M_against.2.1 66 1 67 (.aload_n 0) := ⟨by decide +kernel, rfl⟩
theorem d_M_against_67 : vm_D q_M_against.2.1 67 1 68 (.iload_n 1) := ⟨by decide +kernel, rfl⟩
theorem d_M_against_68 : vm_D q_M_against.2.1 68 2 70 (.iload 4) := ⟨by decide +kernel, rfl⟩
theorem d_M_against_70 : vm_D q_M_against.2.1 70 3 73 (.invokevirtual 305) := ⟨by decide +kernel, rfl⟩
theorem d_M_against_73 : vm_B q_M_against.2.1 73 76 83 (fun o => .if_icmp .ne o) := ⟨10, by decide +kernel, rfl, by decide⟩
theorem d_M_against_83 : vm_D q_M_against.2.1 83 2 85 (.iload 5) := ⟨by decide +kernel, rfl⟩
theorem d_M_against_85 : vm_D q_M_against.2.1 85 2 87 (.iload 6) := ⟨by decide +kernel, rfl⟩
theorem d_M_against_87 : vm_B q_M_against.2.1 87 90 102 (fun o => .if_icmp .le o) := ⟨15, by decide +kernel, rfl, by decide⟩
theorem d_M_against_110 : vm_D q_M_against.2.1 110 2 112 (.istore 7) := ⟨by decide +kernel, rfl⟩
theorem d_M_against_112 : vm_D q_M_against.2.1 112 1 113 (.aload_n 0) := ⟨by decide +kernel, rfl⟩
theorem d_M_against_113 : vm_D q_M_against.2.1 113 3 116 (.getfield 111) := ⟨by decide +kernel, rfl⟩
theorem d_M_against_116 : vm_D q_M_against.2.1 116 2 118 (.iload 7) := ⟨by decide +kernel, rfl⟩
theorem d_M_against_118 : vm_D q_M_against.2.1 118 1 119 (.baload) := ⟨by decide +kernel, rfl⟩
theorem d_M_against_119 : vm_B q_M_against.2.1 119 122 126 (fun o => .ifCond .ne o) := ⟨7, by decide +kernel, rfl, by decide⟩
theorem d_M_against_127 : vm_D q_M_against.2.1 127 2 129 (.istore 8) := ⟨by decide +kernel, rfl⟩
theorem d_M_against_129 : vm_D q_M_against.2.1 129 1 130 (.aload_n 0) := ⟨by decide +kernel, rfl⟩
theorem d_M_against_130 : vm_D q_M_against.2.1 130 3 133 (.getfield 111) := ⟨by decide +kernel, rfl⟩
theorem d_M_against_133 : vm_D q_M_against.2.1 133 2 135 (.iload 7) := ⟨by decide +kernel, rfl⟩
theorem d_M_against_135 : vm_D q_M_against.2.1 135 1 136 (.iconst 1) := ⟨by decide +kernel, rfl⟩
theorem d_M_against_136 : vm_D q_M_against.2.1 136 1 137 (.bastore) := ⟨by decide +kernel, rfl⟩
theorem d_M_against_137 : vm_D q_M_against.2.1 137 2 139 (.iload 8) := ⟨by decide +kernel, rfl⟩
theorem d_M_against_139 : vm_D q_M_against.2.1 139 1 140 (.ireturn) := ⟨by decide +kernel, rfl⟩
theorem d_M_against_126 : vm_D q_M_against.2.1 126 1 127 (.iconst 0) := ⟨by decide +kernel, rfl⟩
theorem d_M_against_122 : vm_D q_M_against.2.1 122 1 123 (.iconst 1) := ⟨by decide +kernel, rfl⟩
theorem d_M_against_123 : ∃ off : Int, decode q_M_against.2.1 123 = .ok (.goto off, 3) ∧ ((123 : Nat) : Int) + off = ((127 : Nat) : Int) := ⟨4, by decide +kernel, by decide⟩
theorem d_M_against_102 : vm_D q_M_against.2.1 102 2 104 (.bipush 6) := ⟨by decide +kernel, rfl⟩
theorem d_M_against_104 : vm_D q_M_against.2.1 104 2 106 (.iload 4) := ⟨by decide +kernel, rfl⟩
theorem d_M_against_106 : vm_D q_M_against.2.1 106 1 107 (.imul) := ⟨by decide +kernel, rfl⟩
theorem d_M_against_107 : vm_D q_M_against.2.1 107 2 109 (.iload 6) := ⟨by decide +kernel, rfl⟩
theorem d_M_against_109 : vm_D q_M_against.2.1 109 1 110 (.iadd) := ⟨by decide +kernel, rfl⟩
theorem d_M_against_90 : vm_D q_M_against.2.1 90 2 92 (.bipush 6) := ⟨by decide +kernel, rfl⟩
theorem d_M_against_92 : vm_D q_M_against.2.1 92 1 93 (.iload_n 2) := ⟨by decide +kernel, rfl⟩
theorem d_M_against_93 : vm_D q_M_against.2.1 93 1 94 (.imul) := ⟨by decide +kernel, rfl⟩
theorem d_M_against_94 : vm_D q_M_against.2.1 94 1 95 (.iload_n 3) := ⟨by decide +kernel, rfl⟩
theorem d_M_against_95 : vm_D q_M_against.2.1 95 1 96 (.iadd) := ⟨by decide +kernel, rfl⟩
theorem d_M_against_96 : vm_D q_M_against.2.1 96 2 98 (.iload 6) := ⟨by decide +kernel, rfl⟩
theorem d_M_against_98 : vm_D q_M_against.2.1 98 1 99 (.iadd) := ⟨by decide +kernel, rfl⟩
theorem d_M_against_99 : ∃ off : Int, decode q_M_against.2.1 99 = .ok (.goto off, 3) ∧ ((99 : Nat) : Int) + off = ((110 : Nat) : Int) := ⟨11, by decide +kernel, by decide⟩
theorem d_M_against_76 : vm_D q_M_against.2.1 76 1 77 (.aload_n 0) := ⟨by decide +kernel, rfl⟩
theorem d_M_against_77 : vm_D q_M_against.2.1 77 1 78 (.iconst 1) := ⟨by decide +kernel, rfl⟩
theorem d_M_against_78 : vm_D q_M_against.2.1 78 3 81 (.putfield 346) := ⟨by decide +kernel, rfl⟩
theorem d_M_against_81 : vm_D q_M_against.2.1 81 1 82 (.iconst 0) := ⟨by decide +kernel, rfl⟩
theorem d_M_against_82 : vm_D q_M_against.2.1 82 1 83 (.ireturn) := ⟨by decide +kernel, rfl⟩
def q_M_code : vm_Y := ("RepeatFreeModel", cX11_code, 6, false, [])
theorem d_M_code_0 : vm_D q_M_code.2.1 0 1 1 (.aload_n 0) := ⟨by decide +kernel, rfl⟩
theorem d_M_code_1 : vm_D q_M_code.2.1 1 1 2 (.iconst 0) := ⟨by decide +kernel, rfl⟩
theorem d_M_code_2 : vm_D q_M_code.2.1 2 3 5 (.putfield 3) := ⟨by decide +kernel, rfl⟩
theorem d_M_code_5 : vm_D q_M_code.2.1 5 1 6 (.aload_n 0) := ⟨by decide +kernel, rfl⟩
theorem d_M_code_6 : vm_D q_M_code.2.1 6 1 7 (.iload_n 1) := ⟨by decide +kernel, rfl⟩
theorem d_M_code_7 : vm_D q_M_code.2.1 7 3 10 (.invokevirtual 319) := ⟨by decide +kernel, rfl⟩
theorem d_M_code_10 : vm_B q_M_code.2.1 10 13 15 (fun o => .ifCond .eq o) := ⟨5, by decide +kernel, rfl, by decide⟩
theorem d_M_code_15 : vm_D q_M_code.2.1 15 1 16 (.aload_n 0) := ⟨by decide +kernel, rfl⟩
theorem d_M_code_16 : vm_D q_M_code.2.1 16 1 17 (.iconst 0) := ⟨by decide +kernel, rfl⟩
theorem d_M_code_17 : vm_D q_M_code.2.1 17 3 20 (.putfield 346) := ⟨by decide +kernel, rfl⟩
theorem d_M_code_20 : vm_D q_M_code.2.1 20 1 21 (.iconst 0) := ⟨by decide +kernel, rfl⟩
theorem d_M_code_21 : vm_D q_M_code.2.1 21 1 22 (.istore_n 2) := ⟨by decide +kernel, rfl⟩
theorem d_M_code_22 : vm_D q_M_code.2.1 22 1 23 (.iload_n 2) := ⟨by decide +kernel, rfl⟩
theorem d_M_code_23 : vm_D q_M_code.2.1 23 1 24 (.aload_n 0) := ⟨by decide +kernel, rfl⟩
theorem d_M_code_24 : vm_D q_M_code.2.1 24 3 27 (.getfield 111) := ⟨by decide +kernel, rfl⟩
theorem d_M_code_27 : vm_D q_M_code.2.1 27 1 28 (.arraylength) := ⟨by decide +kernel, rfl⟩
theorem d_M_code_28 : vm_B q_M_code.2.1 28 31 44 (fun o => .if_icmp .ge o) := ⟨16, by decide +kernel, rfl, by decide⟩
theorem d_M_code_31 : vm_D q_M_code.2.1 31 1 32 (.aload_n 0) := ⟨by decide +kernel, rfl⟩
theorem d_M_code_32 : vm_D q_M_code.2.1 32 3 35 (.getfield 111) := ⟨by decide +kernel, rfl⟩
theorem d_M_code_35 : vm_D q_M_code.2.1 35 1 36 (.iload_n 2) := ⟨by decide +kernel, rfl⟩
theorem d_M_code_36 : vm_D q_M_code.2.1 36 1 37 (.iconst 0) := ⟨by decide +kernel, rfl⟩
theorem d_M_code_37 : vm_D q_M_code.2.1 37 1 38 (.bastore) := ⟨by decide +kernel, rfl⟩
theorem d_M_code_38 : vm_D q_M_code.2.1 38 3 41 (.iinc 2 1) := ⟨by decide +kernel, rfl⟩
theorem d_M_code_41 : ∃ off : Int, decode q_M_code.2.1 41 = .ok (.goto off, 3) ∧ ((41 : Nat) : Int) + off = ((22 : Nat) : Int) := ⟨-19, by decide +kernel, by decide⟩
theorem d_M_code_44 : vm_D q_M_code.2.1 44 1 45 (.iconst 1) := ⟨by decide +kernel, rfl⟩
theorem d_M_code_45 : vm_D q_M_code.2.1 45 1 46 (.istore_n 2) := ⟨by decide +kernel, rfl⟩
theorem d_M_code_46 : vm_D q_M_code.2.1 46 1 47 (.iconst 0) := ⟨by decide +kernel, rfl⟩
theorem d_M_code_47 : vm_D q_M_code.2.1 47 1 48 (.istore_n 3) := ⟨by decide +kernel, rfl⟩
theorem d_M_code_48 : vm_D q_M_code.2.1 48 1 49 (.iload_n 3) := ⟨by decide +kernel, rfl⟩
theorem d_M_code_49 : vm_D q_M_code.2.1 49 1 50 (.aload_n 0) := ⟨by decide +kernel, rfl⟩
theorem d_M_code_50 : vm_D q_M_code.2.1 50 3 53 (.getfield 77) := ⟨by decide +kernel, rfl⟩
theorem d_M_code_53 : vm_D q_M_code.2.1 53 1 54 (.iconst 0) := ⟨by decide +kernel, rfl⟩
theorem d_M_code_54 : vm_D q_M_code.2.1 54 1 55 (.iaload) := ⟨by decide +kernel, rfl⟩
theorem d_M_code_55 : vm_B q_M_code.2.1 55 58 102 (fun o => .if_icmp .ge o) := ⟨47, by decide +kernel, rfl, by decide⟩
theorem d_M_code_58 : vm_D q_M_code.2.1 58 1 59 (.iconst 0) := ⟨by decide +kernel, rfl⟩
theorem d_M_code_59 : vm_D q_M_code.2.1 59 2 61 (.istore 4) := ⟨by decide +kernel, rfl⟩
theorem d_M_code_61 : vm_D q_M_code.2.1 61 2 63 (.iload 4) := ⟨by decide +kernel, rfl⟩
theorem d_M_code_63 : vm_D q_M_code.2.1 63 1 64 (.aload_n 0) := ⟨by decide +kernel, rfl⟩
theorem d_M_code_64 : vm_D q_M_code.2.1 64 3 67 (.getfield 77) := ⟨by decide +kernel, rfl⟩
theorem d_M_code_67 : vm_D q_M_code.2.1 67 1 68 (.iconst 0) := ⟨by decide +kernel, rfl⟩
theorem d_M_code_68 : vm_D q_M_code.2.1 68 1 69 (.iaload) := ⟨by decide +kernel, rfl⟩
theorem d_M_code_69 : vm_B q_M_code.2.1 69 72 96 (fun o => .if_icmp .ge o) := ⟨27, by decide +kernel, rfl, by decide⟩
theorem d_M_code_72 : vm_D q_M_code.2.1 72 1 73 (.iload_n 3) := ⟨by decide +kernel, rfl⟩
theorem d_M_code_73 : vm_D q_M_code.2.1 73 2 75 (.iload 4) := ⟨by decide +kernel, rfl⟩
theorem d_M_code_75 : vm_B q_M_code.2.1 75 78 90 (fun o => .if_icmp .eq o) := ⟨15, by decide +kernel, rfl, by decide⟩
theorem d_M_code_90 : vm_D q_M_code.2.1 90 3 93 (.iinc 4 1) := ⟨by decide +kernel, rfl⟩
theorem d_M_code_93 : ∃ off : Int, decode q_M_code.2.1 93 = .ok (.goto off, 3) ∧ ((93 : Nat) : Int) + off = ((61 : Nat) : Int) := ⟨-32, by decide +kernel, by decide⟩
theorem d_M_code_78 : vm_D q_M_code.2.1 78 1 79 (.iload_n 2) := ⟨by decide +kernel, rfl⟩
theorem d_M_code_79 : vm_D q_M_code.2.1 79 1 80 (.aload_n 0) := ⟨by decide +kernel, rfl⟩
theorem d_M_code_80 : vm_D q_M_code.2.1 80 1 81 (.iload_n 1) := ⟨by decide +kernel, rfl⟩
theorem d_M_code_81 : vm_D q_M_code.2.1 81 1 82 (.iload_n 3) := ⟨by decide +kernel, rfl⟩
theorem d_M_code_82 : vm_D q_M_code.2.1 82 1 83 (.iconst 0) := ⟨by decide +kernel, rfl⟩
theorem d_M_code_83 : vm_D q_M_code.2.1 83 2 85 (.iload 4) := ⟨by decide +kernel, rfl⟩
theorem d_M_code_85 : vm_D q_M_code.2.1 85 3 88 (.invokevirtual 349) := ⟨by decide +kernel, rfl⟩
theorem d_M_code_88 : vm_D q_M_code.2.1 88 1 89 (.ior) := ⟨by decide +kernel, rfl⟩
theorem d_M_code_89 : vm_D q_M_code.2.1 89 1 90 (.istore_n 2) := ⟨by decide +kernel, rfl⟩
theorem d_M_code_96 : vm_D q_M_code.2.1 96 3 99 (.iinc 3 1) := ⟨by decide +kernel, rfl⟩
theorem d_M_code_99 : ∃ off : Int, decode q_M_code.2.1 99 = .ok (.goto off, 3) ∧ ((99 : Nat) : Int) + off = ((48 : Nat) : Int) := ⟨-51, by decide +kernel, by decide⟩
theorem d_M_code_102 : vm_D q_M_code.2.1 102 1 103 (.iload_n 2) := ⟨by decide +kernel, rfl⟩
theorem d_M_code_103 : vm_B q_M_code.2.1 103 106 207 (fun o => .ifCond .eq o) := ⟨104, by decide +kernel, rfl, by decide⟩
theorem d_M_code_106 : vm_D q_M_code.2.1 106 1 107 (.aload_n 0) := ⟨by decide +kernel, rfl⟩
theorem d_M_code_107 : vm_D q_M_code.2.1 107 3 110 (.getfield 346) := ⟨by decide +kernel, rfl⟩
theorem d_M_code_110 : vm_B q_M_code.2.1 110 113 207 (fun o => .ifCond .ne o) := ⟨97, by decide +kernel, rfl, by decide⟩
theorem d_M_code_113 : vm_D q_M_code.2.1 113 1 114 (.iconst 0) := ⟨by decide +kernel, rfl⟩
theorem d_M_code_114 : vm_D q_M_code.2.1 114 1 115 (.istore_n 2) := ⟨by decide +kernel, rfl⟩
theorem d_M_code_115 : vm_D q_M_code.2.1 115 1 116 (.iconst 0) := ⟨by decide +kernel, rfl⟩
theorem d_M_code_116 : vm_D q_M_code.2.1 116 1 117 (.istore_n 3) := ⟨by decide +kernel, rfl⟩
theorem d_M_code_117 : vm_D q_M_code.2.1 117 1 118 (.iload_n 3) := ⟨by decide +kernel, rfl⟩
theorem d_M_code_118 : vm_D q_M_code.2.1 118 1 119 (.aload_n 0) := ⟨by decide +kernel, rfl⟩
theorem d_M_code_119 : vm_D q_M_code.2.1 119 3 122 (.getfield 77) := ⟨by decide +kernel, rfl⟩
theorem d_M_code_122 : vm_D q_M_code.2.1 122 1 123 (.iconst 0) := ⟨by decide +kernel, rfl⟩
theorem d_M_code_123 : vm_D q_M_code.2.1 123 1 124 (.iaload) := ⟨by decide +kernel, rfl⟩
theorem d_M_code_124 : vm_B q_M_code.2.1 124 127 204 (fun o => .if_icmp .ge o) := ⟨80, by decide +kernel, rfl, by decide⟩
theorem d_M_code_127 : vm_D q_M_code.2.1 127 1 128 (.iconst 1) := ⟨by decide +kernel, rfl⟩
theorem d_M_code_128 : vm_D q_M_code.2.1 128 2 130 (.istore 4) := ⟨by decide +kernel, rfl⟩
theorem d_M_code_130 : vm_D q_M_code.2.1 130 2 132 (.iload 4) := ⟨by decide +kernel, rfl⟩
theorem d_M_code_132 : vm_D q_M_code.2.1 132 1 133 (.aload_n 0) := ⟨by decide +kernel, rfl⟩
theorem d_M_code_133 : vm_D q_M_code.2.1 133 1 134 (.iload_n 1) := ⟨by decide +kernel, rfl⟩
theorem d_M_code_134 : vm_D q_M_code.2.1 134 1 135 (.iload_n 3) := ⟨by decide +kernel, rfl⟩
theorem d_M_code_135 : vm_D q_M_code.2.1 135 3 138 (.invokevirtual 305) := ⟨by decide +kernel, rfl⟩
theorem d_M_code_138 : vm_B q_M_code.2.1 138 141 198 (fun o => .if_icmp .ge o) := ⟨60, by decide +kernel, rfl, by decide⟩
theorem d_M_code_141 : vm_D q_M_code.2.1 141 1 142 (.aload_n 0) := ⟨by decide +kernel, rfl⟩
theorem d_M_code_142 : vm_D q_M_code.2.1 142 3 145 (.getfield 111) := ⟨by decide +kernel, rfl⟩
theorem d_M_code_145 : vm_D q_M_code.2.1 145 2 147 (.bipush 6) := ⟨by decide +kernel, rfl⟩
theorem d_M_code_147 : vm_D q_M_code.2.1 147 1 148 (.iload_n 3) := ⟨by decide +kernel, rfl⟩
theorem d_M_code_148 : vm_D q_M_code.2.1 148 1 149 (.imul) := ⟨by decide +kernel, rfl⟩
theorem d_M_code_149 : vm_D q_M_code.2.1 149 2 151 (.iload 4) := ⟨by decide +kernel, rfl⟩
theorem d_M_code_151 : vm_D q_M_code.2.1 151 1 152 (.iadd) := ⟨by decide +kernel, rfl⟩
theorem d_M_code_152 : vm_D q_M_code.2.1 152 1 153 (.baload) := ⟨by decide +kernel, rfl⟩
theorem d_M_code_153 : vm_B q_M_code.2.1 153 156 159 (fun o => .ifCond .ne o) := ⟨6, by decide +kernel, rfl, by decide⟩
theorem d_M_code_192 : vm_D q_M_code.2.1 192 3 195 (.iinc 4 1) := ⟨by decide +kernel, rfl⟩
theorem d_M_code_195 : ∃ off : Int, decode q_M_code.2.1 195 = .ok (.goto off, 3) ∧ ((195 : Nat) : Int) + off = ((130 : Nat) : Int) := ⟨-65, by decide +kernel, by decide⟩
theorem d_M_code_159 : vm_D q_M_code.2.1 159 1 160 (.iconst 0) := ⟨by decide +kernel, rfl⟩
theorem d_M_code_160 : vm_D q_M_code.2.1 160 2 162 (.istore 5) := ⟨by decide +kernel, rfl⟩
theorem d_M_code_162 : vm_D q_M_code.2.1 162 2 164 (.iload 5) := ⟨by decide +kernel, rfl⟩
theorem d_M_code_164 : vm_D q_M_code.2.1 164 1 165 (.aload_n 0) := ⟨by decide +kernel, rfl⟩
theorem d_M_code_165 : vm_D q_M_code.2.1 165 3 168 (.getfield 77) := ⟨by decide +kernel, rfl⟩
theorem d_M_code_168 : vm_D q_M_code.2.1 168 1 169 (.iconst 0) := ⟨by decide +kernel, rfl⟩
theorem d_M_code_169 : vm_D q_M_code.2.1 169 1 170 (.iaload) := ⟨by decide +kernel, rfl⟩
theorem d_M_code_170 : vm_B q_M_code.2.1 170 173 192 (fun o => .if_icmp .ge o) := ⟨22, by decide +kernel, rfl, by decide⟩
theorem d_M_code_173 : vm_D q_M_code.2.1 173 1 174 (.iload_n 2) := ⟨by decide +kernel, rfl⟩
theorem d_M_code_174 : vm_D q_M_code.2.1 174 1 175 (.aload_n 0) := ⟨by decide +kernel, rfl⟩
theorem d_M_code_175 : vm_D q_M_code.2.1 175 1 176 (.iload_n 1) := ⟨by decide +kernel, rfl⟩
theorem d_M_code_176 : vm_D q_M_code.2.1 176 1 177 (.iload_n 3) := ⟨by decide +kernel, rfl⟩
theorem d_M_code_177 : vm_D q_M_code.2.1 177 2 179 (.iload 4) := ⟨by decide +kernel, rfl⟩
theorem d_M_code_179 : vm_D q_M_code.2.1 179 2 181 (.iload 5) := ⟨by decide +kernel, rfl⟩
theorem d_M_code_181 : vm_D q_M_code.2.1 181 3 184 (.invokevirtual 349) := ⟨by decide +kernel, rfl⟩
theorem d_M_code_184 : vm_D q_M_code.2.1 184 1 185 (.ior) := ⟨by decide +kernel, rfl⟩
theorem d_M_code_185 : vm_D q_M_code.2.1 185 1 186 (.istore_n 2) := ⟨by decide +kernel, rfl⟩
theorem d_M_code_186 : vm_D q_M_code.2.1 186 3 189 (.iinc 5 1) := ⟨by decide +kernel, rfl⟩
theorem d_M_code_189 : ∃ off : Int, decode q_M_code.2.1 189 = .ok (.goto off, 3) ∧ ((189 : Nat) : Int) + off = ((162 : Nat) : Int) := ⟨-27, by decide +kernel, by decide⟩
theorem d_M_code_156 : ∃ off : Int, decode q_M_code.2.1 156 = .ok (.goto off, 3) ∧ ((156 : Nat) : Int) + off = ((192 : Nat) : Int) := ⟨36, by decide +kernel, by decide⟩
theorem d_M_code_198 : vm_D q_M_code.2.1 198 3 201 (.iinc 3 1) := ⟨by decide +kernel, rfl⟩
theorem d_M_code_201 : ∃ off : Int, decode q_M_code.2.1 201 = .ok (.goto off, 3) ∧ ((201 : Nat) : Int) + off = ((117 : Nat) : Int) := ⟨-84, by decide +kernel, by decide⟩
theorem d_M_code_204 : ∃ off : Int, decode q_M_code.2.1 204 = .ok (.goto off, 3) ∧ ((204 : Nat) : Int) + off = ((102 : Nat) : Int) := ⟨-102, by decide +kernel, by decide⟩
theorem d_M_code_207 : vm_D q_M_code.2.1 207 1 208 (.aload_n 0) := ⟨by decide +kernel, rfl⟩
theorem d_M_code_208 : vm_D q_M_code.2.1 208 3 211 (.getfield 346) := ⟨by decide +kernel, rfl⟩
theorem d_M_code_211 : vm_B q_M_code.2.1 211 214 218 (fun o => .ifCond .ne o) := ⟨7, by decide +kernel, rfl, by decide⟩
theorem d_M_code_218 : vm_D q_M_code.2.1 218 1 219 (.iconst 0) := ⟨by decide +kernel, rfl⟩
theorem d_M_code_219 : vm_D q_M_code.2.1 219 1 220 (.ireturn) := ⟨by decide +kernel, rfl⟩
theorem d_M_code_214 : vm_D q_M_code.2.1 214 1 215 (.iconst 1) := ⟨by decide +kernel, rfl⟩
theorem d_M_code_215 : ∃ off : Int, decode q_M_code.2.1 215 = .ok (.goto off, 3) ∧ ((215 : Nat) : Int) + off = ((219 : Nat) : Int) := ⟨4, by decide +kernel, by decide⟩
theorem d_M_code_13 : vm_D q_M_code.2.1 13 1 14 (.iconst 0) := ⟨by decide +kernel, rfl⟩
theorem d_M_code_14 : vm_D q_M_code.2.1 14 1 15 (.ireturn) := ⟨by decide +kernel, rfl⟩
def q_M_noPattern : vm_Y := ("RepeatFreeModel", cX11_noPattern, 2, false, [])
theorem d_M_noPattern_0 : vm_D q_M_noPattern.2.1 0 1 1 (.aload_n 0) := ⟨by decide +kernel, rfl⟩
theorem d_M_noPattern_1 : vm_D q_M_noPattern.2.1 1 1 2 (.iload_n 1) := ⟨by decide +kernel, rfl⟩
theorem d_M_noPattern_2 : vm_D q_M_noPattern.2.1 2 1 3 (.iconst 0) := ⟨by decide +kernel, rfl⟩
theorem d_M_noPattern_3 : vm_D q_M_noPattern.2.1 3 1 4 (.aload_n 0) := ⟨by decide +kernel, rfl⟩
theorem d_M_noPattern_4 : vm_D q_M_noPattern.2.1 4 3 7 (.getfield 77) := ⟨by decide +kernel, rfl⟩
theorem d_M_noPattern_7 : vm_D q_M_noPattern.2.1 7 1 8 (.iconst 5) := ⟨by decide +kernel, rfl⟩
theorem d_M_noPattern_8 : vm_D q_M_noPattern.2.1 8 1 9 (.iaload) := ⟨by decide +kernel, rfl⟩
theorem d_M_noPattern_9 : vm_D q_M_noPattern.2.1 9 1 10 (.iconst 1) := ⟨by decide +kernel, rfl⟩
theorem d_M_noPattern_10 : vm_D q_M_noPattern.2.1 10 1 11 (.isub) := ⟨by decide +kernel, rfl⟩
theorem d_M_noPattern_11 : vm_D q_M_noPattern.2.1 11 3 14 (.invokestatic 65) := ⟨by decide +kernel, rfl⟩
theorem d_M_noPattern_14 : vm_B q_M_noPattern.2.1 14 17 21 (fun o => .ifCond .ne o) := ⟨7, by decide +kernel, rfl, by decide⟩
theorem d_M_noPattern_22 : vm_D q_M_noPattern.2.1 22 1 23 (.iconst 1) := ⟨by decide +kernel, rfl⟩
theorem d_M_noPattern_23 : vm_D q_M_noPattern.2.1 23 3 26 (.invokevirtual 180) := ⟨by decide +kernel, rfl⟩
theorem d_M_noPattern_26 : vm_D q_M_noPattern.2.1 26 1 27 (.ireturn) := ⟨by decide +kernel, rfl⟩
theorem d_M_noPattern_21 : vm_D q_M_noPattern.2.1 21 1 22 (.iconst 0) := ⟨by decide +kernel, rfl⟩
theorem d_M_noPattern_17 : vm_D q_M_noPattern.2.1 17 1 18 (.iconst 1) := ⟨by decide +kernel, rfl⟩
theorem d_M_noPattern_18 : ∃ off : Int, decode q_M_noPattern.2.1 18 = .ok (.goto off, 3) ∧ ((18 : Nat) : Int) + off = ((22 : Nat) : Int) := ⟨4, by decide +kernel, by decide⟩
def q_M_met : vm_Y := ("RepeatFreeModel", cX11_met, 5, false, [])
theorem d_M_met_0 : vm_D q_M_met.2.1 0 1 1 (.aload_n 0) := ⟨by decide +kernel, rfl⟩
theorem d_M_met_1 : vm_D q_M_met.2.1 1 1 2 (.iconst 0) := ⟨by decide +kernel, rfl⟩
theorem d_M_met_2 : vm_D q_M_met.2.1 2 3 5 (.putfield 3) := ⟨by decide +kernel, rfl⟩
theorem d_M_met_5 : vm_D q_M_met.2.1 5 1 6 (.aload_n 0) := ⟨by decide +kernel, rfl⟩
theorem d_M_met_6 : vm_D q_M_met.2.1 6 1 7 (.iload_n 1) := ⟨by decide +kernel, rfl⟩
theorem d_M_met_7 : vm_D q_M_met.2.1 7 3 10 (.invokevirtual 353) := ⟨by decide +kernel, rfl⟩
theorem d_M_met_10 : vm_B q_M_met.2.1 10 13 35 (fun o => .ifCond .ne o) := ⟨25, by decide +kernel, rfl, by decide⟩
theorem d_M_met_35 : vm_D q_M_met.2.1 35 1 36 (.iconst 0) := ⟨by decide +kernel, rfl⟩
theorem d_M_met_36 : vm_D q_M_met.2.1 36 1 37 (.ireturn) := ⟨by decide +kernel, rfl⟩
theorem d_M_met_13 : vm_D q_M_met.2.1 13 1 14 (.aload_n 0) := ⟨by decide +kernel, rfl⟩
theorem d_M_met_14 : vm_D q_M_met.2.1 14 1 15 (.iload_n 2) := ⟨by decide +kernel, rfl⟩
theorem d_M_met_15 : vm_D q_M_met.2.1 15 1 16 (.iconst 0) := ⟨by decide +kernel, rfl⟩
theorem d_M_met_16 : vm_D q_M_met.2.1 16 1 17 (.iconst 3) := ⟨by decide +kernel, rfl⟩
theorem d_M_met_17 : vm_D q_M_met.2.1 17 3 20 (.invokestatic 65) := ⟨by decide +kernel, rfl⟩
theorem d_M_met_20 : vm_B q_M_met.2.1 20 23 27 (fun o => .ifCond .ne o) := ⟨7, by decide +kernel, rfl, by decide⟩
theorem d_M_met_28 : vm_D q_M_met.2.1 28 1 29 (.iconst 2) := ⟨by decide +kernel, rfl⟩
theorem d_M_met_29 : vm_D q_M_met.2.1 29 3 32 (.invokevirtual 180) := ⟨by decide +kernel, rfl⟩
theorem d_M_met_32 : vm_B q_M_met.2.1 32 35 37 (fun o => .ifCond .eq o) := ⟨5, by decide +kernel, rfl, by decide⟩
theorem d_M_met_37 : vm_D q_M_met.2.1 37 1 38 (.iconst 0) := ⟨by decide +kernel, rfl⟩
theorem d_M_met_38 : vm_D q_M_met.2.1 38 1 39 (.istore_n 3) := ⟨by decide +kernel, rfl⟩
theorem d_M_met_39 : vm_D q_M_met.2.1 39 1 40 (.iload_n 3) := ⟨by decide +kernel, rfl⟩
theorem d_M_met_40 : vm_D q_M_met.2.1 40 1 41 (.aload_n 0) := ⟨by decide +kernel, rfl⟩
theorem d_M_met_41 : vm_D q_M_met.2.1 41 3 44 (.getfield 184) := ⟨by decide +kernel, rfl⟩
theorem d_M_met_44 : vm_B q_M_met.2.1 44 47 117 (fun o => .if_icmp .ge o) := ⟨73, by decide +kernel, rfl, by decide⟩
theorem d_M_met_47 : vm_D q_M_met.2.1 47 1 48 (.aload_n 0) := ⟨by decide +kernel, rfl⟩
theorem d_M_met_48 : vm_D q_M_met.2.1 48 1 49 (.iload_n 1) := ⟨by decide +kernel, rfl⟩
theorem d_M_met_49 : vm_D q_M_met.2.1 49 1 50 (.aload_n 0) := ⟨by decide +kernel, rfl⟩
theorem d_M_met_50 : vm_D q_M_met.2.1 50 3 53 (.getfield 184) := ⟨by decide +kernel, rfl⟩
theorem d_M_met_53 : vm_D q_M_met.2.1 53 1 54 (.iload_n 3) := ⟨by decide +kernel, rfl⟩
theorem d_M_met_54 : vm_D q_M_met.2.1 54 1 55 (.isub) := ⟨by decide +kernel, rfl⟩
theorem d_M_met_55 : vm_D q_M_met.2.1 55 3 58 (.invokevirtual 212) := ⟨by decide +kernel, rfl⟩
theorem d_M_met_58 : vm_D q_M_met.2.1 58 2 60 (.istore 4) := ⟨by decide +kernel, rfl⟩
theorem d_M_met_60 : vm_D q_M_met.2.1 60 2 62 (.iload 4) := ⟨by decide +kernel, rfl⟩
theorem d_M_met_62 : vm_B q_M_met.2.1 62 65 111 (fun o => .ifCond .eq o) := ⟨49, by decide +kernel, rfl, by decide⟩
theorem d_M_met_65 : vm_D q_M_met.2.1 65 1 66 (.aload_n 0) := ⟨by decide +kernel, rfl⟩
theorem d_M_met_66 : vm_D q_M_met.2.1 66 1 67 (.aload_n 0) := ⟨by decide +kernel, rfl⟩
theorem d_M_met_67 : vm_D q_M_met.2.1 67 3 70 (.getfield 83) := ⟨by decide +kernel, rfl⟩
theorem d_M_met_70 : vm_D q_M_met.2.1 70 1 71 (.iload_n 3) := ⟨by decide +kernel, rfl⟩
theorem d_M_met_71 : vm_D q_M_met.2.1 71 1 72 (.iload_n 1) := ⟨by decide +kernel, rfl⟩
theorem d_M_met_72 : vm_D q_M_met.2.1 72 3 75 (.invokevirtual 215) := ⟨by decide +kernel, rfl⟩
theorem d_M_met_75 : vm_B q_M_met.2.1 75 78 95 (fun o => .ifCond .eq o) := ⟨20, by decide +kernel, rfl, by decide⟩
theorem d_M_met_95 : vm_D q_M_met.2.1 95 1 96 (.aload_n 0) := ⟨by decide +kernel, rfl⟩
theorem d_M_met_96 : vm_D q_M_met.2.1 96 1 97 (.iload_n 1) := ⟨by decide +kernel, rfl⟩
theorem d_M_met_97 : vm_D q_M_met.2.1 97 1 98 (.aload_n 0) := ⟨by decide +kernel, rfl⟩
theorem d_M_met_98 : vm_D q_M_met.2.1 98 3 101 (.getfield 184) := ⟨by decide +kernel, rfl⟩
theorem d_M_met_101 : vm_D q_M_met.2.1 101 1 102 (.iload_n 3) := ⟨by decide +kernel, rfl⟩
theorem d_M_met_102 : vm_D q_M_met.2.1 102 1 103 (.isub) := ⟨by decide +kernel, rfl⟩
theorem d_M_met_103 : vm_D q_M_met.2.1 103 3 106 (.invokevirtual 219) := ⟨by decide +kernel, rfl⟩
theorem d_M_met_106 : vm_D q_M_met.2.1 106 2 108 (.istore 4) := ⟨by decide +kernel, rfl⟩
theorem d_M_met_108 : ∃ off : Int, decode q_M_met.2.1 108 = .ok (.goto off, 3) ∧ ((108 : Nat) : Int) + off = ((60 : Nat) : Int) := ⟨-48, by decide +kernel, by decide⟩
theorem d_M_met_78 : vm_D q_M_met.2.1 78 1 79 (.iload_n 2) := ⟨by decide +kernel, rfl⟩
theorem d_M_met_79 : vm_B q_M_met.2.1 79 82 86 (fun o => .ifCond .ne o) := ⟨7, by decide +kernel, rfl, by decide⟩
theorem d_M_met_86 : vm_D q_M_met.2.1 86 1 87 (.aload_n 0) := ⟨by decide +kernel, rfl⟩
theorem d_M_met_87 : vm_D q_M_met.2.1 87 3 90 (.getfield 92) := ⟨by decide +kernel, rfl⟩
theorem d_M_met_90 : vm_D q_M_met.2.1 90 1 91 (.iload_n 2) := ⟨by decide +kernel, rfl⟩
theorem d_M_met_91 : vm_D q_M_met.2.1 91 1 92 (.iconst 1) := ⟨by decide +kernel, rfl⟩
theorem d_M_met_92 : vm_D q_M_met.2.1 92 1 93 (.isub) := ⟨by decide +kernel, rfl⟩
theorem d_M_met_93 : vm_D q_M_met.2.1 93 1 94 (.iaload) := ⟨by decide +kernel, rfl⟩
theorem d_M_met_94 : vm_D q_M_met.2.1 94 1 95 (.ireturn) := ⟨by decide +kernel, rfl⟩
theorem d_M_met_82 : vm_D q_M_met.2.1 82 1 83 (.iload_n 3) := ⟨by decide +kernel, rfl⟩
theorem d_M_met_83 : ∃ off : Int, decode q_M_met.2.1 83 = .ok (.goto off, 3) ∧ ((83 : Nat) : Int) + off = ((94 : Nat) : Int) := ⟨11, by decide +kernel, by decide⟩
theorem d_M_met_111 : vm_D q_M_met.2.1 111 3 114 (.iinc 3 1) := ⟨by decide +kernel, rfl⟩
theorem d_M_met_114 : ∃ off : Int, decode q_M_met.2.1 114 = .ok (.goto off, 3) ∧ ((114 : Nat) : Int) + off = ((39 : Nat) : Int) := ⟨-75, by decide +kernel, by decide⟩
theorem d_M_met_117 : vm_D q_M_met.2.1 117 1 118 (.iconst (-1)) := ⟨by decide +kernel, rfl⟩
theorem d_M_met_118 : vm_D q_M_met.2.1 118 1 119 (.ireturn) := ⟨by decide +kernel, rfl⟩
theorem d_M_met_27 : vm_D q_M_met.2.1 27 1 28 (.iconst 0) := ⟨by decide +kernel, rfl⟩
theorem d_M_met_23 : vm_D q_M_met.2.1 23 1 24 (.iconst 1) := ⟨by decide +kernel, rfl⟩
theorem d_M_met_24 : ∃ off : Int, decode q_M_met.2.1 24 = .ok (.goto off, 3) ∧ ((24 : Nat) : Int) + off = ((28 : Nat) : Int) := ⟨4, by decide +kernel, by decide⟩
def q_M_whole : vm_Y := ("RepeatFreeModel", cX11_whole, 6, false, [])
theorem d_M_whole_0 : vm_D q_M_whole.2.1 0 1 1 (.aload_n 0) := ⟨by decide +kernel, rfl⟩
theorem d_M_whole_1 : vm_D q_M_whole.2.1 1 1 2 (.iconst 0) := ⟨by decide +kernel, rfl⟩
theorem d_M_whole_2 : vm_D q_M_whole.2.1 2 3 5 (.putfield 3) := ⟨by decide +kernel, rfl⟩
theorem d_M_whole_5 : vm_D q_M_whole.2.1 5 1 6 (.aload_n 0) := ⟨by decide +kernel, rfl⟩
theorem d_M_whole_6 : vm_D q_M_whole.2.1 6 1 7 (.iload_n 1) := ⟨by decide +kernel, rfl⟩
theorem d_M_whole_7 : vm_D q_M_whole.2.1 7 3 10 (.invokevirtual 353) := ⟨by decide +kernel, rfl⟩
theorem d_M_whole_10 : vm_B q_M_whole.2.1 10 13 35 (fun o => .ifCond .ne o) := ⟨25, by decide +kernel, rfl, by decide⟩
theorem d_M_whole_35 : vm_D q_M_whole.2.1 35 1 36 (.iconst 0) := ⟨by decide +kernel, rfl⟩
theorem d_M_whole_36 : vm_D q_M_whole.2.1 36 1 37 (.ireturn) := ⟨by decide +kernel, rfl⟩
theorem d_M_whole_13 : vm_D q_M_whole.2.1 13 1 14 (.aload_n 0) := ⟨by decide +kernel, rfl⟩
theorem d_M_whole_14 : vm_D q_M_whole.2.1 14 1 15 (.iload_n 3) := ⟨by decide +kernel, rfl⟩
theorem d_M_whole_15 : vm_D q_M_whole.2.1 15 1 16 (.iconst 0) := ⟨by decide +kernel, rfl⟩
theorem d_M_whole_16 : vm_D q_M_whole.2.1 16 1 17 (.iconst 2) := ⟨by decide +kernel, rfl⟩
theorem d_M_whole_17 : vm_D q_M_whole.2.1 17 3 20 (.invokestatic 65) := ⟨by decide +kernel, rfl⟩
theorem d_M_whole_20 : vm_B q_M_whole.2.1 20 23 27 (fun o => .ifCond .ne o) := ⟨7, by decide +kernel, rfl, by decide⟩
theorem d_M_whole_28 : vm_D q_M_whole.2.1 28 1 29 (.iconst 2) := ⟨by decide +kernel, rfl⟩
theorem d_M_whole_29 : vm_D q_M_whole.2.1 29 3 32 (.invokevirtual 180) := ⟨by decide +kernel, rfl⟩
theorem d_M_whole_32 : vm_B q_M_whole.2.1 32 35 37 (fun o => .ifCond .eq o) := ⟨5, by decide +kernel, rfl, by decide⟩
theorem d_M_whole_37 : vm_D q_M_whole.2.1 37 1 38 (.iconst 0) := ⟨by decide +kernel, rfl⟩
theorem d_M_whole_38 : vm_D q_M_whole.2.1 38 2 40 (.istore 4) := ⟨by decide +kernel, rfl⟩
theorem d_M_whole_40 : vm_D q_M_whole.2.1 40 1 41 (.aload_n 0) := ⟨by decide +kernel, rfl⟩
theorem d_M_whole_41 : vm_D q_M_whole.2.1 41 1 42 (.iload_n 1) := ⟨by decide +kernel, rfl⟩
theorem d_M_whole_42 : vm_D q_M_whole.2.1 42 1 43 (.aload_n 0) := ⟨by decide +kernel, rfl⟩
theorem d_M_whole_43 : vm_D q_M_whole.2.1 43 3 46 (.getfield 184) := ⟨by decide +kernel, rfl⟩
theorem d_M_whole_46 : vm_D q_M_whole.2.1 46 3 49 (.invokevirtual 212) := ⟨by decide +kernel, rfl⟩
theorem d_M_whole_49 : vm_D q_M_whole.2.1 49 2 51 (.istore 5) := ⟨by decide +kernel, rfl⟩
theorem d_M_whole_51 : vm_D q_M_whole.2.1 51 2 53 (.iload 5) := ⟨by decide +kernel, rfl⟩
theorem d_M_whole_53 : vm_B q_M_whole.2.1 53 56 111 (fun o => .ifCond .eq o) := ⟨58, by decide +kernel, rfl, by decide⟩
theorem d_M_whole_56 : vm_D q_M_whole.2.1 56 1 57 (.aload_n 0) := ⟨by decide +kernel, rfl⟩
theorem d_M_whole_57 : vm_D q_M_whole.2.1 57 1 58 (.iload_n 1) := ⟨by decide +kernel, rfl⟩
theorem d_M_whole_58 : vm_D q_M_whole.2.1 58 3 61 (.invokevirtual 208) := ⟨by decide +kernel, rfl⟩
theorem d_M_whole_61 : vm_D q_M_whole.2.1 61 1 62 (.aload_n 0) := ⟨by decide +kernel, rfl⟩
theorem d_M_whole_62 : vm_D q_M_whole.2.1 62 3 65 (.getfield 184) := ⟨by decide +kernel, rfl⟩
theorem d_M_whole_65 : vm_B q_M_whole.2.1 65 68 97 (fun o => .if_icmp .ne o) := ⟨32, by decide +kernel, rfl, by decide⟩
theorem d_M_whole_97 : vm_D q_M_whole.2.1 97 1 98 (.aload_n 0) := ⟨by decide +kernel, rfl⟩
theorem d_M_whole_98 : vm_D q_M_whole.2.1 98 1 99 (.iload_n 1) := ⟨by decide +kernel, rfl⟩
theorem d_M_whole_99 : vm_D q_M_whole.2.1 99 1 100 (.aload_n 0) := ⟨by decide +kernel, rfl⟩
theorem d_M_whole_100 : vm_D q_M_whole.2.1 100 3 103 (.getfield 184) := ⟨by decide +kernel, rfl⟩
theorem d_M_whole_103 : vm_D q_M_whole.2.1 103 3 106 (.invokevirtual 219) := ⟨by decide +kernel, rfl⟩
theorem d_M_whole_106 : vm_D q_M_whole.2.1 106 2 108 (.istore 5) := ⟨by decide +kernel, rfl⟩
theorem d_M_whole_108 : ∃ off : Int, decode q_M_whole.2.1 108 = .ok (.goto off, 3) ∧ ((108 : Nat) : Int) + off = ((51 : Nat) : Int) := ⟨-57, by decide +kernel, by decide⟩
theorem d_M_whole_68 : vm_D q_M_whole.2.1 68 1 69 (.aload_n 0) := ⟨by decide +kernel, rfl⟩
theorem d_M_whole_69 : vm_D q_M_whole.2.1 69 1 70 (.aload_n 0) := ⟨by decide +kernel, rfl⟩
theorem d_M_whole_70 : vm_D q_M_whole.2.1 70 3 73 (.getfield 83) := ⟨by decide +kernel, rfl⟩
theorem d_M_whole_73 : vm_D q_M_whole.2.1 73 1 74 (.iconst 0) := ⟨by decide +kernel, rfl⟩
theorem d_M_whole_74 : vm_D q_M_whole.2.1 74 1 75 (.iload_n 1) := ⟨by decide +kernel, rfl⟩
theorem d_M_whole_75 : vm_D q_M_whole.2.1 75 3 78 (.invokevirtual 215) := ⟨by decide +kernel, rfl⟩
theorem d_M_whole_78 : vm_B q_M_whole.2.1 78 81 97 (fun o => .ifCond .eq o) := ⟨19, by decide +kernel, rfl, by decide⟩
theorem d_M_whole_81 : vm_D q_M_whole.2.1 81 2 83 (.iload 4) := ⟨by decide +kernel, rfl⟩
theorem d_M_whole_83 : vm_D q_M_whole.2.1 83 1 84 (.iload_n 2) := ⟨by decide +kernel, rfl⟩
theorem d_M_whole_84 : vm_B q_M_whole.2.1 84 87 94 (fun o => .if_icmp .ne o) := ⟨10, by decide +kernel, rfl, by decide⟩
theorem d_M_whole_94 : vm_D q_M_whole.2.1 94 3 97 (.iinc 4 1) := ⟨by decide +kernel, rfl⟩
theorem d_M_whole_87 : vm_D q_M_whole.2.1 87 1 88 (.aload_n 0) := ⟨by decide +kernel, rfl⟩
theorem d_M_whole_88 : vm_D q_M_whole.2.1 88 3 91 (.getfield 92) := ⟨by decide +kernel, rfl⟩
theorem d_M_whole_91 : vm_D q_M_whole.2.1 91 1 92 (.iload_n 3) := ⟨by decide +kernel, rfl⟩
theorem d_M_whole_92 : vm_D q_M_whole.2.1 92 1 93 (.iaload) := ⟨by decide +kernel, rfl⟩
theorem d_M_whole_93 : vm_D q_M_whole.2.1 93 1 94 (.ireturn) := ⟨by decide +kernel, rfl⟩
theorem d_M_whole_111 : vm_D q_M_whole.2.1 111 1 112 (.iload_n 2) := ⟨by decide +kernel, rfl⟩
theorem d_M_whole_112 : vm_D q_M_whole.2.1 112 1 113 (.iconst (-1)) := ⟨by decide +kernel, rfl⟩
theorem d_M_whole_113 : vm_B q_M_whole.2.1 113 116 121 (fun o => .if_icmp .ne o) := ⟨8, by decide +kernel, rfl, by decide⟩
theorem d_M_whole_121 : vm_D q_M_whole.2.1 121 1 122 (.iconst (-1)) := ⟨by decide +kernel, rfl⟩
theorem d_M_whole_122 : vm_D q_M_whole.2.1 122 1 123 (.ireturn) := ⟨by decide +kernel, rfl⟩
theorem d_M_whole_116 : vm_D q_M_whole.2.1 116 2 118 (.iload 4) := ⟨by decide +kernel, rfl⟩
theorem d_M_whole_118 : ∃ off : Int, decode q_M_whole.2.1 118 = .ok (.goto off, 3) ∧ ((118 : Nat) : Int) + off = ((122 : Nat) : Int) := ⟨4, by decide +kernel, by decide⟩
theorem d_M_whole_27 : vm_D q_M_whole.2.1 27 1 28 (.iconst 0) := ⟨by decide +kernel, rfl⟩
theorem d_M_whole_23 : vm_D q_M_whole.2.1 23 1 24 (.iconst 1) := ⟨by decide +kernel, rfl⟩
theorem d_M_whole_24 : ∃ off : Int, decode q_M_whole.2.1 24 = .ok (.goto off, 3) ∧ ((24 : Nat) : Int) + off = ((28 : Nat) : Int) := ⟨4, by decide +kernel, by decide⟩
def q_M_lettersOf : vm_Y := ("RepeatFreeModel", cX11_lettersOf, 4, false, [])
theorem d_M_lettersOf_0 : vm_D q_M_lettersOf.2.1 0 1 1 (.iconst 0) := ⟨by decide +kernel, rfl⟩
theorem d_M_lettersOf_1 : vm_D q_M_lettersOf.2.1 1 1 2 (.istore_n 2) := ⟨by decide +kernel, rfl⟩
theorem d_M_lettersOf_2 : vm_D q_M_lettersOf.2.1 2 1 3 (.iconst 0) := ⟨by decide +kernel, rfl⟩
theorem d_M_lettersOf_3 : vm_D q_M_lettersOf.2.1 3 1 4 (.istore_n 3) := ⟨by decide +kernel, rfl⟩
theorem d_M_lettersOf_4 : vm_D q_M_lettersOf.2.1 4 1 5 (.iload_n 3) := ⟨by decide +kernel, rfl⟩
theorem d_M_lettersOf_5 : vm_D q_M_lettersOf.2.1 5 1 6 (.iconst 3) := ⟨by decide +kernel, rfl⟩
theorem d_M_lettersOf_6 : vm_B q_M_lettersOf.2.1 6 9 34 (fun o => .if_icmp .ge o) := ⟨28, by decide +kernel, rfl, by decide⟩
theorem d_M_lettersOf_9 : vm_D q_M_lettersOf.2.1 9 1 10 (.iload_n 2) := ⟨by decide +kernel, rfl⟩
theorem d_M_lettersOf_10 : vm_D q_M_lettersOf.2.1 10 1 11 (.aload_n 0) := ⟨by decide +kernel, rfl⟩
theorem d_M_lettersOf_11 : vm_D q_M_lettersOf.2.1 11 1 12 (.iload_n 1) := ⟨by decide +kernel, rfl⟩
theorem d_M_lettersOf_12 : vm_D q_M_lettersOf.2.1 12 1 13 (.iload_n 3) := ⟨by decide +kernel, rfl⟩
theorem d_M_lettersOf_13 : vm_D q_M_lettersOf.2.1 13 3 16 (.invokevirtual 205) := ⟨by decide +kernel, rfl⟩
theorem d_M_lettersOf_16 : vm_B q_M_lettersOf.2.1 16 19 25 (fun o => .ifCond .eq o) := ⟨9, by decide +kernel, rfl, by decide⟩
theorem d_M_lettersOf_26 : vm_D q_M_lettersOf.2.1 26 1 27 (.ior) := ⟨by decide +kernel, rfl⟩
theorem d_M_lettersOf_27 : vm_D q_M_lettersOf.2.1 27 1 28 (.istore_n 2) := ⟨by decide +kernel, rfl⟩
theorem d_M_lettersOf_28 : vm_D q_M_lettersOf.2.1 28 3 31 (.iinc 3 1) := ⟨by decide +kernel, rfl⟩
theorem d_M_lettersOf_31 : ∃ off : Int, decode q_M_lettersOf.2.1 31 = .ok (.goto off, 3) ∧ ((31 : Nat) : Int) + off = ((4 : Nat) : Int) := ⟨-27, by decide +kernel, by decide⟩
theorem d_M_lettersOf_25 : vm_D q_M_lettersOf.2.1 25 1 26 (.iconst 0) := ⟨by decide +kernel, rfl⟩
theorem d_M_lettersOf_19 : vm_D q_M_lettersOf.2.1 19 1 20 (.iconst 1) := ⟨by decide +kernel, rfl⟩
theorem d_M_lettersOf_20 : vm_D q_M_lettersOf.2.1 20 1 21 (.iload_n 3) := ⟨by decide +kernel, rfl⟩
theorem d_M_lettersOf_21 : vm_D q_M_lettersOf.2.1 21 1 22 (.ishl) := ⟨by decide +kernel, rfl⟩
theorem d_M_lettersOf_22 : ∃ off : Int, decode q_M_lettersOf.2.1 22 = .ok (.goto off, 3) ∧ ((22 : Nat) : Int) + off = ((26 : Nat) : Int) := ⟨4, by decide +kernel, by decide⟩
theorem d_M_lettersOf_34 : vm_D q_M_lettersOf.2.1 34 1 35 (.iload_n 2) := ⟨by decide +kernel, rfl⟩
theorem d_M_lettersOf_35 : vm_D q_M_lettersOf.2.1 35 1 36 (.ireturn) := ⟨by decide +kernel, rfl⟩
def q_M_endOf : vm_Y := ("RepeatFreeModel", cX11_endOf, 3, false, [])
theorem d_M_endOf_0 : vm_D q_M_endOf.2.1 0 1 1 (.iload_n 1) := ⟨by decide +kernel, rfl⟩
theorem d_M_endOf_1 : vm_D q_M_endOf.2.1 1 1 2 (.istore_n 2) := ⟨by decide +kernel, rfl⟩
theorem d_M_endOf_2 : vm_D q_M_endOf.2.1 2 1 3 (.aload_n 0) := ⟨by decide +kernel, rfl⟩
theorem d_M_endOf_3 : vm_D q_M_endOf.2.1 3 3 6 (.getfield 115) := ⟨by decide +kernel, rfl⟩
theorem d_M_endOf_6 : vm_D q_M_endOf.2.1 6 1 7 (.iload_n 2) := ⟨by decide +kernel, rfl⟩
theorem d_M_endOf_7 : vm_D q_M_endOf.2.1 7 1 8 (.iaload) := ⟨by decide +kernel, rfl⟩
theorem d_M_endOf_8 : vm_D q_M_endOf.2.1 8 1 9 (.iload_n 2) := ⟨by decide +kernel, rfl⟩
theorem d_M_endOf_9 : vm_B q_M_endOf.2.1 9 12 22 (fun o => .if_icmp .eq o) := ⟨13, by decide +kernel, rfl, by decide⟩
theorem d_M_endOf_12 : vm_D q_M_endOf.2.1 12 1 13 (.aload_n 0) := ⟨by decide +kernel, rfl⟩
theorem d_M_endOf_13 : vm_D q_M_endOf.2.1 13 3 16 (.getfield 115) := ⟨by decide +kernel, rfl⟩
theorem d_M_endOf_16 : vm_D q_M_endOf.2.1 16 1 17 (.iload_n 2) := ⟨by decide +kernel, rfl⟩
theorem d_M_endOf_17 : vm_D q_M_endOf.2.1 17 1 18 (.iaload) := ⟨by decide +kernel, rfl⟩
theorem d_M_endOf_18 : vm_D q_M_endOf.2.1 18 1 19 (.istore_n 2) := ⟨by decide +kernel, rfl⟩
theorem d_M_endOf_19 : ∃ off : Int, decode q_M_endOf.2.1 19 = .ok (.goto off, 3) ∧ ((19 : Nat) : Int) + off = ((2 : Nat) : Int) := ⟨-17, by decide +kernel, by decide⟩
theorem d_M_endOf_22 : vm_D q_M_endOf.2.1 22 1 23 (.iload_n 2) := ⟨by decide +kernel, rfl⟩
theorem d_M_endOf_23 : vm_D q_M_endOf.2.1 23 1 24 (.ireturn) := ⟨by decide +kernel, rfl⟩
def q_M_isLoose : vm_Y := ("RepeatFreeModel", cX11_isLoose, 7, false, [])
theorem d_M_isLoose_0 : vm_D q_M_isLoose.2.1 0 1 1 (.iconst 0) := ⟨by decide +kernel, rfl⟩
theorem d_M_isLoose_1 : vm_D q_M_isLoose.2.1 1 2 3 (.istore 4) := ⟨by decide +kernel, rfl⟩
theorem d_M_isLoose_3 : vm_D q_M_isLoose.2.1 3 2 5 (.iload 4) := ⟨by decide +kernel, rfl⟩
theorem d_M_isLoose_5 : vm_D q_M_isLoose.2.1 5 2 7 (.bipush 6) := ⟨by decide +kernel, rfl⟩
theorem d_M_isLoose_7 : vm_B q_M_isLoose.2.1 7 10 25 (fun o => .if_icmp .ge o) := ⟨18, by decide +kernel, rfl, by decide⟩
theorem d_M_isLoose_10 : vm_D q_M_isLoose.2.1 10 1 11 (.aload_n 0) := ⟨by decide +kernel, rfl⟩
theorem d_M_isLoose_11 : vm_D q_M_isLoose.2.1 11 3 14 (.getfield 115) := ⟨by decide +kernel, rfl⟩
theorem d_M_isLoose_14 : vm_D q_M_isLoose.2.1 14 2 16 (.iload 4) := ⟨by decide +kernel, rfl⟩
theorem d_M_isLoose_16 : vm_D q_M_isLoose.2.1 16 2 18 (.iload 4) := ⟨by decide +kernel, rfl⟩
theorem d_M_isLoose_18 : vm_D q_M_isLoose.2.1 18 1 19 (.iastore) := ⟨by decide +kernel, rfl⟩
theorem d_M_isLoose_19 : vm_D q_M_isLoose.2.1 19 3 22 (.iinc 4 1) := ⟨by decide +kernel, rfl⟩
theorem d_M_isLoose_22 : ∃ off : Int, decode q_M_isLoose.2.1 22 = .ok (.goto off, 3) ∧ ((22 : Nat) : Int) + off = ((3 : Nat) : Int) := ⟨-19, by decide +kernel, by decide⟩
theorem d_M_isLoose_25 : vm_D q_M_isLoose.2.1 25 1 26 (.iconst (-1)) := ⟨by decide +kernel, rfl⟩
theorem d_M_isLoose_26 : vm_D q_M_isLoose.2.1 26 2 28 (.istore 4) := ⟨by decide +kernel, rfl⟩
theorem d_M_isLoose_28 : vm_D q_M_isLoose.2.1 28 1 29 (.iconst 0) := ⟨by decide +kernel, rfl⟩
theorem d_M_isLoose_29 : vm_D q_M_isLoose.2.1 29 2 31 (.istore 5) := ⟨by decide +kernel, rfl⟩
theorem d_M_isLoose_31 : vm_D q_M_isLoose.2.1 31 2 33 (.iload 5) := ⟨by decide +kernel, rfl⟩
theorem d_M_isLoose_33 : vm_D q_M_isLoose.2.1 33 1 34 (.aload_n 0) := ⟨by decide +kernel, rfl⟩
theorem d_M_isLoose_34 : vm_D q_M_isLoose.2.1 34 3 37 (.getfield 77) := ⟨by decide +kernel, rfl⟩
theorem d_M_isLoose_37 : vm_D q_M_isLoose.2.1 37 3 40 (.sipush 166) := ⟨by decide +kernel, rfl⟩
theorem d_M_isLoose_40 : vm_D q_M_isLoose.2.1 40 1 41 (.iload_n 1) := ⟨by decide +kernel, rfl⟩
theorem d_M_isLoose_41 : vm_D q_M_isLoose.2.1 41 1 42 (.iadd) := ⟨by decide +kernel, rfl⟩
theorem d_M_isLoose_42 : vm_D q_M_isLoose.2.1 42 1 43 (.iaload) := ⟨by decide +kernel, rfl⟩
theorem d_M_isLoose_43 : vm_B q_M_isLoose.2.1 43 46 103 (fun o => .if_icmp .ge o) := ⟨60, by decide +kernel, rfl, by decide⟩
theorem d_M_isLoose_46 : vm_D q_M_isLoose.2.1 46 1 47 (.aload_n 0) := ⟨by decide +kernel, rfl⟩
theorem d_M_isLoose_47 : vm_D q_M_isLoose.2.1 47 1 48 (.iload_n 1) := ⟨by decide +kernel, rfl⟩
theorem d_M_isLoose_48 : vm_D q_M_isLoose.2.1 48 2 50 (.iload 5) := ⟨by decide +kernel, rfl⟩
theorem d_M_isLoose_50 : vm_D q_M_isLoose.2.1 50 3 53 (.invokevirtual 202) := ⟨by decide +kernel, rfl⟩
theorem d_M_isLoose_53 : vm_D q_M_isLoose.2.1 53 2 55 (.istore 6) := ⟨by decide +kernel, rfl⟩
theorem d_M_isLoose_55 : vm_D q_M_isLoose.2.1 55 1 56 (.iload_n 2) := ⟨by decide +kernel, rfl⟩
theorem d_M_isLoose_56 : vm_D q_M_isLoose.2.1 56 2 58 (.iload 6) := ⟨by decide +kernel, rfl⟩
theorem d_M_isLoose_58 : vm_D q_M_isLoose.2.1 58 1 59 (.ishr) := ⟨by decide +kernel, rfl⟩
theorem d_M_isLoose_59 : vm_D q_M_isLoose.2.1 59 1 60 (.iconst 1) := ⟨by decide +kernel, rfl⟩
theorem d_M_isLoose_60 : vm_D q_M_isLoose.2.1 60 1 61 (.iand) := ⟨by decide +kernel, rfl⟩
theorem d_M_isLoose_61 : vm_D q_M_isLoose.2.1 61 1 62 (.iconst 1) := ⟨by decide +kernel, rfl⟩
theorem d_M_isLoose_62 : vm_B q_M_isLoose.2.1 62 65 68 (fun o => .if_icmp .ne o) := ⟨6, by decide +kernel, rfl, by decide⟩
theorem d_M_isLoose_97 : vm_D q_M_isLoose.2.1 97 3 100 (.iinc 5 1) := ⟨by decide +kernel, rfl⟩
theorem d_M_isLoose_100 : ∃ off : Int, decode q_M_isLoose.2.1 100 = .ok (.goto off, 3) ∧ ((100 : Nat) : Int) + off = ((31 : Nat) : Int) := ⟨-69, by decide +kernel, by decide⟩
theorem d_M_isLoose_68 : vm_D q_M_isLoose.2.1 68 2 70 (.iload 4) := ⟨by decide +kernel, rfl⟩
theorem d_M_isLoose_70 : vm_D q_M_isLoose.2.1 70 1 71 (.iconst (-1)) := ⟨by decide +kernel, rfl⟩
theorem d_M_isLoose_71 : vm_B q_M_isLoose.2.1 71 74 93 (fun o => .if_icmp .eq o) := ⟨22, by decide +kernel, rfl, by decide⟩
theorem d_M_isLoose_93 : vm_D q_M_isLoose.2.1 93 2 95 (.iload 6) := ⟨by decide +kernel, rfl⟩
theorem d_M_isLoose_95 : vm_D q_M_isLoose.2.1 95 2 97 (.istore 4) := ⟨by decide +kernel, rfl⟩
theorem d_M_isLoose_74 : vm_D q_M_isLoose.2.1 74 1 75 (.aload_n 0) := ⟨by decide +kernel, rfl⟩
theorem d_M_isLoose_75 : vm_D q_M_isLoose.2.1 75 3 78 (.getfield 115) := ⟨by decide +kernel, rfl⟩
theorem d_M_isLoose_78 : vm_D q_M_isLoose.2.1 78 1 79 (.aload_n 0) := ⟨by decide +kernel, rfl⟩
theorem d_M_isLoose_79 : vm_D q_M_isLoose.2.1 79 2 81 (.iload 4) := ⟨by decide +kernel, rfl⟩
theorem d_M_isLoose_81 : vm_D q_M_isLoose.2.1 81 3 84 (.invokevirtual 356) := ⟨by decide +kernel, rfl⟩
theorem d_M_isLoose_84 : vm_D q_M_isLoose.2.1 84 1 85 (.aload_n 0) := ⟨by decide +kernel, rfl⟩
theorem d_M_isLoose_85 : vm_D q_M_isLoose.2.1 85 1 86 (.iconst 3) := ⟨by decide +kernel, rfl⟩
theorem d_M_isLoose_86 : vm_D q_M_isLoose.2.1 86 2 88 (.iload 6) := ⟨by decide +kernel, rfl⟩
theorem d_M_isLoose_88 : vm_D q_M_isLoose.2.1 88 1 89 (.iadd) := ⟨by decide +kernel, rfl⟩
theorem d_M_isLoose_89 : vm_D q_M_isLoose.2.1 89 3 92 (.invokevirtual 356) := ⟨by decide +kernel, rfl⟩
theorem d_M_isLoose_92 : vm_D q_M_isLoose.2.1 92 1 93 (.iastore) := ⟨by decide +kernel, rfl⟩
theorem d_M_isLoose_65 : ∃ off : Int, decode q_M_isLoose.2.1 65 = .ok (.goto off, 3) ∧ ((65 : Nat) : Int) + off = ((97 : Nat) : Int) := ⟨32, by decide +kernel, by decide⟩
theorem d_M_isLoose_103 : vm_D q_M_isLoose.2.1 103 1 104 (.iconst 0) := ⟨by decide +kernel, rfl⟩
theorem d_M_isLoose_104 : vm_D q_M_isLoose.2.1 104 2 106 (.istore 5) := ⟨by decide +kernel, rfl⟩
theorem d_M_isLoose_106 : vm_D q_M_isLoose.2.1 106 2 108 (.iload 5) := ⟨by decide +kernel, rfl⟩
theorem d_M_isLoose_108 : vm_D q_M_isLoose.2.1 108 1 109 (.iconst 3) := ⟨by decide +kernel, rfl⟩
theorem d_M_isLoose_109 : vm_B q_M_isLoose.2.1 109 112 172 (fun o => .if_icmp .ge o) := ⟨63, by decide +kernel, rfl, by decide⟩
theorem d_M_isLoose_112 : vm_D q_M_isLoose.2.1 112 1 113 (.iconst 0) := ⟨by decide +kernel, rfl⟩
theorem d_M_isLoose_113 : vm_D q_M_isLoose.2.1 113 2 115 (.istore 6) := ⟨by decide +kernel, rfl⟩
theorem d_M_isLoose_115 : vm_D q_M_isLoose.2.1 115 2 117 (.iload 6) := ⟨by decide +kernel, rfl⟩
theorem d_M_isLoose_117 : vm_D q_M_isLoose.2.1 117 1 118 (.iconst 3) := ⟨by decide +kernel, rfl⟩
theorem d_M_isLoose_118 : vm_B q_M_isLoose.2.1 118 121 166 (fun o => .if_icmp .ge o) := ⟨48, by decide +kernel, rfl, by decide⟩
theorem d_M_isLoose_121 : vm_D q_M_isLoose.2.1 121 1 122 (.iload_n 3) := ⟨by decide +kernel, rfl⟩
theorem d_M_isLoose_122 : vm_D q_M_isLoose.2.1 122 2 124 (.iload 5) := ⟨by decide +kernel, rfl⟩
theorem d_M_isLoose_124 : vm_D q_M_isLoose.2.1 124 1 125 (.ishr) := ⟨by decide +kernel, rfl⟩
theorem d_M_isLoose_125 : vm_D q_M_isLoose.2.1 125 1 126 (.iconst 1) := ⟨by decide +kernel, rfl⟩
theorem d_M_isLoose_126 : vm_D q_M_isLoose.2.1 126 1 127 (.iand) := ⟨by decide +kernel, rfl⟩
theorem d_M_isLoose_127 : vm_D q_M_isLoose.2.1 127 1 128 (.iconst 1) := ⟨by decide +kernel, rfl⟩
theorem d_M_isLoose_128 : vm_B q_M_isLoose.2.1 128 131 160 (fun o => .if_icmp .ne o) := ⟨32, by decide +kernel, rfl, by decide⟩
theorem d_M_isLoose_160 : vm_D q_M_isLoose.2.1 160 3 163 (.iinc 6 1) := ⟨by decide +kernel, rfl⟩
theorem d_M_isLoose_163 : ∃ off : Int, decode q_M_isLoose.2.1 163 = .ok (.goto off, 3) ∧ ((163 : Nat) : Int) + off = ((115 : Nat) : Int) := ⟨-48, by decide +kernel, by decide⟩
theorem d_M_isLoose_131 : vm_D q_M_isLoose.2.1 131 1 132 (.iload_n 3) := ⟨by decide +kernel, rfl⟩
theorem d_M_isLoose_132 : vm_D q_M_isLoose.2.1 132 2 134 (.iload 6) := ⟨by decide +kernel, rfl⟩
theorem d_M_isLoose_134 : vm_D q_M_isLoose.2.1 134 1 135 (.ishr) := ⟨by decide +kernel, rfl⟩
theorem d_M_isLoose_135 : vm_D q_M_isLoose.2.1 135 1 136 (.iconst 1) := ⟨by decide +kernel, rfl⟩
theorem d_M_isLoose_136 : vm_D q_M_isLoose.2.1 136 1 137 (.iand) := ⟨by decide +kernel, rfl⟩
theorem d_M_isLoose_137 : vm_D q_M_isLoose.2.1 137 1 138 (.iconst 1) := ⟨by decide +kernel, rfl⟩
theorem d_M_isLoose_138 : vm_B q_M_isLoose.2.1 138 141 160 (fun o => .if_icmp .ne o) := ⟨22, by decide +kernel, rfl, by decide⟩
theorem d_M_isLoose_141 : vm_D q_M_isLoose.2.1 141 1 142 (.aload_n 0) := ⟨by decide +kernel, rfl⟩
theorem d_M_isLoose_142 : vm_D q_M_isLoose.2.1 142 2 144 (.iload 5) := ⟨by decide +kernel, rfl⟩
theorem d_M_isLoose_144 : vm_D q_M_isLoose.2.1 144 3 147 (.invokevirtual 356) := ⟨by decide +kernel, rfl⟩
theorem d_M_isLoose_147 : vm_D q_M_isLoose.2.1 147 1 148 (.aload_n 0) := ⟨by decide +kernel, rfl⟩
theorem d_M_isLoose_148 : vm_D q_M_isLoose.2.1 148 1 149 (.iconst 3) := ⟨by decide +kernel, rfl⟩
theorem d_M_isLoose_149 : vm_D q_M_isLoose.2.1 149 2 151 (.iload 6) := ⟨by decide +kernel, rfl⟩
theorem d_M_isLoose_151 : vm_D q_M_isLoose.2.1 151 1 152 (.iadd) := ⟨by decide +kernel, rfl⟩
theorem d_M_isLoose_152 : vm_D q_M_isLoose.2.1 152 3 155 (.invokevirtual 356) := ⟨by decide +kernel, rfl⟩
theorem d_M_isLoose_155 : vm_B q_M_isLoose.2.1 155 158 160 (fun o => .if_icmp .ne o) := ⟨5, by decide +kernel, rfl, by decide⟩
theorem d_M_isLoose_158 : vm_D q_M_isLoose.2.1 158 1 159 (.iconst 0) := ⟨by decide +kernel, rfl⟩
theorem d_M_isLoose_159 : vm_D q_M_isLoose.2.1 159 1 160 (.ireturn) := ⟨by decide +kernel, rfl⟩
theorem d_M_isLoose_166 : vm_D q_M_isLoose.2.1 166 3 169 (.iinc 5 1) := ⟨by decide +kernel, rfl⟩
theorem d_M_isLoose_169 : ∃ off : Int, decode q_M_isLoose.2.1 169 = .ok (.goto off, 3) ∧ ((169 : Nat) : Int) + off = ((106 : Nat) : Int) := ⟨-63, by decide +kernel, by decide⟩
theorem d_M_isLoose_172 : vm_D q_M_isLoose.2.1 172 1 173 (.iconst 1) := ⟨by decide +kernel, rfl⟩
theorem d_M_isLoose_173 : vm_D q_M_isLoose.2.1 173 1 174 (.ireturn) := ⟨by decide +kernel, rfl⟩
def q_M_cannotBe : vm_Y := ("RepeatFreeModel", cX11_cannotBe, 6, false, [])
theorem d_M_cannotBe_0 : vm_D q_M_cannotBe.2.1 0 1 1 (.iconst 0) := ⟨by decide +kernel, rfl⟩
theorem d_M_cannotBe_1 : vm_D q_M_cannotBe.2.1 1 1 2 (.istore_n 3) := ⟨by decide +kernel, rfl⟩
theorem d_M_cannotBe_2 : vm_D q_M_cannotBe.2.1 2 1 3 (.iconst 0) := ⟨by decide +kernel, rfl⟩
theorem d_M_cannotBe_3 : vm_D q_M_cannotBe.2.1 3 2 5 (.istore 4) := ⟨by decide +kernel, rfl⟩
theorem d_M_cannotBe_5 : vm_D q_M_cannotBe.2.1 5 2 7 (.iload 4) := ⟨by decide +kernel, rfl⟩
theorem d_M_cannotBe_7 : vm_D q_M_cannotBe.2.1 7 1 8 (.aload_n 0) := ⟨by decide +kernel, rfl⟩
theorem d_M_cannotBe_8 : vm_D q_M_cannotBe.2.1 8 3 11 (.getfield 77) := ⟨by decide +kernel, rfl⟩
theorem d_M_cannotBe_11 : vm_D q_M_cannotBe.2.1 11 3 14 (.sipush 166) := ⟨by decide +kernel, rfl⟩
theorem d_M_cannotBe_14 : vm_D q_M_cannotBe.2.1 14 1 15 (.iload_n 1) := ⟨by decide +kernel, rfl⟩
theorem d_M_cannotBe_15 : vm_D q_M_cannotBe.2.1 15 1 16 (.iadd) := ⟨by decide +kernel, rfl⟩
theorem d_M_cannotBe_16 : vm_D q_M_cannotBe.2.1 16 1 17 (.iaload) := ⟨by decide +kernel, rfl⟩
theorem d_M_cannotBe_17 : vm_B q_M_cannotBe.2.1 17 20 48 (fun o => .if_icmp .ge o) := ⟨31, by decide +kernel, rfl, by decide⟩
theorem d_M_cannotBe_20 : vm_D q_M_cannotBe.2.1 20 1 21 (.iload_n 3) := ⟨by decide +kernel, rfl⟩
theorem d_M_cannotBe_21 : vm_D q_M_cannotBe.2.1 21 1 22 (.iload_n 2) := ⟨by decide +kernel, rfl⟩
theorem d_M_cannotBe_22 : vm_D q_M_cannotBe.2.1 22 1 23 (.aload_n 0) := ⟨by decide +kernel, rfl⟩
theorem d_M_cannotBe_23 : vm_D q_M_cannotBe.2.1 23 1 24 (.iload_n 1) := ⟨by decide +kernel, rfl⟩
theorem d_M_cannotBe_24 : vm_D q_M_cannotBe.2.1 24 2 26 (.iload 4) := ⟨by decide +kernel, rfl⟩
theorem d_M_cannotBe_26 : vm_D q_M_cannotBe.2.1 26 3 29 (.invokevirtual 202) := ⟨by decide +kernel, rfl⟩
theorem d_M_cannotBe_29 : vm_D q_M_cannotBe.2.1 29 1 30 (.ishr) := ⟨by decide +kernel, rfl⟩
theorem d_M_cannotBe_30 : vm_D q_M_cannotBe.2.1 30 1 31 (.iconst 1) := ⟨by decide +kernel, rfl⟩
theorem d_M_cannotBe_31 : vm_D q_M_cannotBe.2.1 31 1 32 (.iand) := ⟨by decide +kernel, rfl⟩
theorem d_M_cannotBe_32 : vm_B q_M_cannotBe.2.1 32 35 39 (fun o => .ifCond .ne o) := ⟨7, by decide +kernel, rfl, by decide⟩
theorem d_M_cannotBe_40 : vm_D q_M_cannotBe.2.1 40 1 41 (.iadd) := ⟨by decide +kernel, rfl⟩
theorem d_M_cannotBe_41 : vm_D q_M_cannotBe.2.1 41 1 42 (.istore_n 3) := ⟨by decide +kernel, rfl⟩
theorem d_M_cannotBe_42 : vm_D q_M_cannotBe.2.1 42 3 45 (.iinc 4 1) := ⟨by decide +kernel, rfl⟩
theorem d_M_cannotBe_45 : ∃ off : Int, decode q_M_cannotBe.2.1 45 = .ok (.goto off, 3) ∧ ((45 : Nat) : Int) + off = ((5 : Nat) : Int) := ⟨-40, by decide +kernel, by decide⟩
theorem d_M_cannotBe_39 : vm_D q_M_cannotBe.2.1 39 1 40 (.iconst 0) := ⟨by decide +kernel, rfl⟩
theorem d_M_cannotBe_35 : vm_D q_M_cannotBe.2.1 35 1 36 (.iconst 1) := ⟨by decide +kernel, rfl⟩
theorem d_M_cannotBe_36 : ∃ off : Int, decode q_M_cannotBe.2.1 36 = .ok (.goto off, 3) ∧ ((36 : Nat) : Int) + off = ((40 : Nat) : Int) := ⟨4, by decide +kernel, by decide⟩
theorem d_M_cannotBe_48 : vm_D q_M_cannotBe.2.1 48 1 49 (.iload_n 3) := ⟨by decide +kernel, rfl⟩
theorem d_M_cannotBe_49 : vm_D q_M_cannotBe.2.1 49 1 50 (.iconst 1) := ⟨by decide +kernel, rfl⟩
theorem d_M_cannotBe_50 : vm_B q_M_cannotBe.2.1 50 53 55 (fun o => .if_icmp .ne o) := ⟨5, by decide +kernel, rfl, by decide⟩
theorem d_M_cannotBe_55 : vm_D q_M_cannotBe.2.1 55 1 56 (.aload_n 0) := ⟨by decide +kernel, rfl⟩
theorem d_M_cannotBe_56 : vm_D q_M_cannotBe.2.1 56 1 57 (.iload_n 1) := ⟨by decide +kernel, rfl⟩
theorem d_M_cannotBe_57 : vm_D q_M_cannotBe.2.1 57 3 60 (.invokevirtual 359) := ⟨by decide +kernel, rfl⟩
theorem d_M_cannotBe_60 : vm_D q_M_cannotBe.2.1 60 1 61 (.iload_n 2) := ⟨by decide +kernel, rfl⟩
theorem d_M_cannotBe_61 : vm_D q_M_cannotBe.2.1 61 1 62 (.iconst (-1)) := ⟨by decide +kernel, rfl⟩
theorem d_M_cannotBe_62 : vm_D q_M_cannotBe.2.1 62 1 63 (.ixor) := ⟨by decide +kernel, rfl⟩
theorem d_M_cannotBe_63 : vm_D q_M_cannotBe.2.1 63 1 64 (.iand) := ⟨by decide +kernel, rfl⟩
theorem d_M_cannotBe_64 : vm_D q_M_cannotBe.2.1 64 2 66 (.istore 4) := ⟨by decide +kernel, rfl⟩
theorem d_M_cannotBe_66 : vm_D q_M_cannotBe.2.1 66 1 67 (.iconst 1) := ⟨by decide +kernel, rfl⟩
theorem d_M_cannotBe_67 : vm_D q_M_cannotBe.2.1 67 2 69 (.istore 5) := ⟨by decide +kernel, rfl⟩
theorem d_M_cannotBe_69 : vm_D q_M_cannotBe.2.1 69 2 71 (.iload 5) := ⟨by decide +kernel, rfl⟩
theorem d_M_cannotBe_71 : vm_D q_M_cannotBe.2.1 71 2 73 (.iload 4) := ⟨by decide +kernel, rfl⟩
theorem d_M_cannotBe_73 : vm_B q_M_cannotBe.2.1 73 76 117 (fun o => .if_icmp .ge o) := ⟨44, by decide +kernel, rfl, by decide⟩
theorem d_M_cannotBe_76 : vm_D q_M_cannotBe.2.1 76 2 78 (.iload 5) := ⟨by decide +kernel, rfl⟩
theorem d_M_cannotBe_78 : vm_D q_M_cannotBe.2.1 78 2 80 (.iload 4) := ⟨by decide +kernel, rfl⟩
theorem d_M_cannotBe_80 : vm_D q_M_cannotBe.2.1 80 1 81 (.iconst (-1)) := ⟨by decide +kernel, rfl⟩
theorem d_M_cannotBe_81 : vm_D q_M_cannotBe.2.1 81 1 82 (.ixor) := ⟨by decide +kernel, rfl⟩
theorem d_M_cannotBe_82 : vm_D q_M_cannotBe.2.1 82 1 83 (.iand) := ⟨by decide +kernel, rfl⟩
theorem d_M_cannotBe_83 : vm_B q_M_cannotBe.2.1 83 86 111 (fun o => .ifCond .ne o) := ⟨28, by decide +kernel, rfl, by decide⟩
theorem d_M_cannotBe_111 : vm_D q_M_cannotBe.2.1 111 3 114 (.iinc 5 1) := ⟨by decide +kernel, rfl⟩
theorem d_M_cannotBe_114 : ∃ off : Int, decode q_M_cannotBe.2.1 114 = .ok (.goto off, 3) ∧ ((114 : Nat) : Int) + off = ((69 : Nat) : Int) := ⟨-45, by decide +kernel, by decide⟩
theorem d_M_cannotBe_86 : vm_D q_M_cannotBe.2.1 86 1 87 (.aload_n 0) := ⟨by decide +kernel, rfl⟩
theorem d_M_cannotBe_87 : vm_D q_M_cannotBe.2.1 87 1 88 (.iload_n 1) := ⟨by decide +kernel, rfl⟩
theorem d_M_cannotBe_88 : vm_D q_M_cannotBe.2.1 88 1 89 (.iload_n 2) := ⟨by decide +kernel, rfl⟩
theorem d_M_cannotBe_89 : vm_D q_M_cannotBe.2.1 89 2 91 (.iload 5) := ⟨by decide +kernel, rfl⟩
theorem d_M_cannotBe_91 : vm_D q_M_cannotBe.2.1 91 3 94 (.invokevirtual 362) := ⟨by decide +kernel, rfl⟩
theorem d_M_cannotBe_94 : vm_B q_M_cannotBe.2.1 94 97 111 (fun o => .ifCond .eq o) := ⟨17, by decide +kernel, rfl, by decide⟩
theorem d_M_cannotBe_97 : vm_D q_M_cannotBe.2.1 97 1 98 (.aload_n 0) := ⟨by decide +kernel, rfl⟩
theorem d_M_cannotBe_98 : vm_D q_M_cannotBe.2.1 98 1 99 (.iload_n 1) := ⟨by decide +kernel, rfl⟩
theorem d_M_cannotBe_99 : vm_D q_M_cannotBe.2.1 99 1 100 (.iload_n 2) := ⟨by decide +kernel, rfl⟩
theorem d_M_cannotBe_100 : vm_D q_M_cannotBe.2.1 100 2 102 (.iload 5) := ⟨by decide +kernel, rfl⟩
theorem d_M_cannotBe_102 : vm_D q_M_cannotBe.2.1 102 1 103 (.ior) := ⟨by decide +kernel, rfl⟩
theorem d_M_cannotBe_103 : vm_D q_M_cannotBe.2.1 103 3 106 (.invokevirtual 365) := ⟨by decide +kernel, rfl⟩
theorem d_M_cannotBe_106 : vm_B q_M_cannotBe.2.1 106 109 111 (fun o => .ifCond .eq o) := ⟨5, by decide +kernel, rfl, by decide⟩
theorem d_M_cannotBe_109 : vm_D q_M_cannotBe.2.1 109 1 110 (.iconst 1) := ⟨by decide +kernel, rfl⟩
theorem d_M_cannotBe_110 : vm_D q_M_cannotBe.2.1 110 1 111 (.ireturn) := ⟨by decide +kernel, rfl⟩
theorem d_M_cannotBe_117 : vm_D q_M_cannotBe.2.1 117 1 118 (.iconst 0) := ⟨by decide +kernel, rfl⟩
theorem d_M_cannotBe_118 : vm_D q_M_cannotBe.2.1 118 1 119 (.ireturn) := ⟨by decide +kernel, rfl⟩
theorem d_M_cannotBe_53 : vm_D q_M_cannotBe.2.1 53 1 54 (.iconst 1) := ⟨by decide +kernel, rfl⟩
theorem d_M_cannotBe_54 : vm_D q_M_cannotBe.2.1 54 1 55 (.ireturn) := ⟨by decide +kernel, rfl⟩
def q_M_cannot : vm_Y := ("RepeatFreeModel", cX11_cannot, 2, false, [])
theorem d_M_cannot_0 : vm_D q_M_cannot.2.1 0 1 1 (.aload_n 0) := ⟨by decide +kernel, rfl⟩
theorem d_M_cannot_1 : vm_D q_M_cannot.2.1 1 1 2 (.iconst 0) := ⟨by decide +kernel, rfl⟩
theorem d_M_cannot_2 : vm_D q_M_cannot.2.1 2 3 5 (.putfield 3) := ⟨by decide +kernel, rfl⟩
theorem d_M_cannot_5 : vm_D q_M_cannot.2.1 5 1 6 (.aload_n 0) := ⟨by decide +kernel, rfl⟩
theorem d_M_cannot_6 : vm_D q_M_cannot.2.1 6 1 7 (.iload_n 1) := ⟨by decide +kernel, rfl⟩
theorem d_M_cannot_7 : vm_D q_M_cannot.2.1 7 3 10 (.invokevirtual 353) := ⟨by decide +kernel, rfl⟩
theorem d_M_cannot_10 : vm_B q_M_cannot.2.1 10 13 26 (fun o => .ifCond .ne o) := ⟨16, by decide +kernel, rfl, by decide⟩
theorem d_M_cannot_26 : vm_D q_M_cannot.2.1 26 1 27 (.iconst 0) := ⟨by decide +kernel, rfl⟩
theorem d_M_cannot_27 : vm_D q_M_cannot.2.1 27 1 28 (.ireturn) := ⟨by decide +kernel, rfl⟩
theorem d_M_cannot_13 : vm_D q_M_cannot.2.1 13 1 14 (.aload_n 0) := ⟨by decide +kernel, rfl⟩
theorem d_M_cannot_14 : vm_D q_M_cannot.2.1 14 1 15 (.iload_n 1) := ⟨by decide +kernel, rfl⟩
theorem d_M_cannot_15 : vm_D q_M_cannot.2.1 15 1 16 (.iconst 0) := ⟨by decide +kernel, rfl⟩
theorem d_M_cannot_16 : vm_D q_M_cannot.2.1 16 3 19 (.invokevirtual 365) := ⟨by decide +kernel, rfl⟩
theorem d_M_cannot_19 : vm_B q_M_cannot.2.1 19 22 26 (fun o => .ifCond .eq o) := ⟨7, by decide +kernel, rfl, by decide⟩
theorem d_M_cannot_22 : vm_D q_M_cannot.2.1 22 1 23 (.iconst 1) := ⟨by decide +kernel, rfl⟩
theorem d_M_cannot_23 : ∃ off : Int, decode q_M_cannot.2.1 23 = .ok (.goto off, 3) ∧ ((23 : Nat) : Int) + off = ((27 : Nat) : Int) := ⟨4, by decide +kernel, by decide⟩
def q_M_loose : vm_Y := ("RepeatFreeModel", cX11_loose, 5, false, [])
theorem d_M_loose_0 : vm_D q_M_loose.2.1 0 1 1 (.aload_n 0) := ⟨by decide +kernel, rfl⟩
theorem d_M_loose_1 : vm_D q_M_loose.2.1 1 1 2 (.iconst 0) := ⟨by decide +kernel, rfl⟩
theorem d_M_loose_2 : vm_D q_M_loose.2.1 2 3 5 (.putfield 3) := ⟨by decide +kernel, rfl⟩
theorem d_M_loose_5 : vm_D q_M_loose.2.1 5 1 6 (.aload_n 0) := ⟨by decide +kernel, rfl⟩
theorem d_M_loose_6 : vm_D q_M_loose.2.1 6 1 7 (.iload_n 1) := ⟨by decide +kernel, rfl⟩
theorem d_M_loose_7 : vm_D q_M_loose.2.1 7 3 10 (.invokevirtual 353) := ⟨by decide +kernel, rfl⟩
theorem d_M_loose_10 : vm_B q_M_loose.2.1 10 13 15 (fun o => .ifCond .eq o) := ⟨5, by decide +kernel, rfl, by decide⟩
theorem d_M_loose_15 : vm_D q_M_loose.2.1 15 1 16 (.iconst 0) := ⟨by decide +kernel, rfl⟩
theorem d_M_loose_16 : vm_D q_M_loose.2.1 16 1 17 (.istore_n 3) := ⟨by decide +kernel, rfl⟩
theorem d_M_loose_17 : vm_D q_M_loose.2.1 17 1 18 (.iconst 1) := ⟨by decide +kernel, rfl⟩
theorem d_M_loose_18 : vm_D q_M_loose.2.1 18 2 20 (.istore 4) := ⟨by decide +kernel, rfl⟩
theorem d_M_loose_20 : vm_D q_M_loose.2.1 20 2 22 (.iload 4) := ⟨by decide +kernel, rfl⟩
theorem d_M_loose_22 : vm_D q_M_loose.2.1 22 2 24 (.bipush 8) := ⟨by decide +kernel, rfl⟩
theorem d_M_loose_24 : vm_B q_M_loose.2.1 24 27 71 (fun o => .if_icmp .ge o) := ⟨47, by decide +kernel, rfl, by decide⟩
theorem d_M_loose_27 : vm_D q_M_loose.2.1 27 2 29 (.iload 4) := ⟨by decide +kernel, rfl⟩
theorem d_M_loose_29 : vm_D q_M_loose.2.1 29 1 30 (.aload_n 0) := ⟨by decide +kernel, rfl⟩
theorem d_M_loose_30 : vm_D q_M_loose.2.1 30 1 31 (.iload_n 1) := ⟨by decide +kernel, rfl⟩
theorem d_M_loose_31 : vm_D q_M_loose.2.1 31 3 34 (.invokevirtual 359) := ⟨by decide +kernel, rfl⟩
theorem d_M_loose_34 : vm_D q_M_loose.2.1 34 1 35 (.iconst (-1)) := ⟨by decide +kernel, rfl⟩
theorem d_M_loose_35 : vm_D q_M_loose.2.1 35 1 36 (.ixor) := ⟨by decide +kernel, rfl⟩
theorem d_M_loose_36 : vm_D q_M_loose.2.1 36 1 37 (.iand) := ⟨by decide +kernel, rfl⟩
theorem d_M_loose_37 : vm_B q_M_loose.2.1 37 40 65 (fun o => .ifCond .ne o) := ⟨28, by decide +kernel, rfl, by decide⟩
theorem d_M_loose_65 : vm_D q_M_loose.2.1 65 3 68 (.iinc 4 1) := ⟨by decide +kernel, rfl⟩
theorem d_M_loose_68 : ∃ off : Int, decode q_M_loose.2.1 68 = .ok (.goto off, 3) ∧ ((68 : Nat) : Int) + off = ((20 : Nat) : Int) := ⟨-48, by decide +kernel, by decide⟩
theorem d_M_loose_40 : vm_D q_M_loose.2.1 40 1 41 (.aload_n 0) := ⟨by decide +kernel, rfl⟩
theorem d_M_loose_41 : vm_D q_M_loose.2.1 41 1 42 (.iload_n 1) := ⟨by decide +kernel, rfl⟩
theorem d_M_loose_42 : vm_D q_M_loose.2.1 42 1 43 (.iconst 0) := ⟨by decide +kernel, rfl⟩
theorem d_M_loose_43 : vm_D q_M_loose.2.1 43 2 45 (.iload 4) := ⟨by decide +kernel, rfl⟩
theorem d_M_loose_45 : vm_D q_M_loose.2.1 45 3 48 (.invokevirtual 362) := ⟨by decide +kernel, rfl⟩
theorem d_M_loose_48 : vm_B q_M_loose.2.1 48 51 54 (fun o => .ifCond .ne o) := ⟨6, by decide +kernel, rfl, by decide⟩
theorem d_M_loose_54 : vm_D q_M_loose.2.1 54 1 55 (.iload_n 3) := ⟨by decide +kernel, rfl⟩
theorem d_M_loose_55 : vm_D q_M_loose.2.1 55 1 56 (.iload_n 2) := ⟨by decide +kernel, rfl⟩
theorem d_M_loose_56 : vm_B q_M_loose.2.1 56 59 62 (fun o => .if_icmp .ne o) := ⟨6, by decide +kernel, rfl, by decide⟩
theorem d_M_loose_62 : vm_D q_M_loose.2.1 62 3 65 (.iinc 3 1) := ⟨by decide +kernel, rfl⟩
theorem d_M_loose_59 : vm_D q_M_loose.2.1 59 2 61 (.iload 4) := ⟨by decide +kernel, rfl⟩
theorem d_M_loose_61 : vm_D q_M_loose.2.1 61 1 62 (.ireturn) := ⟨by decide +kernel, rfl⟩
theorem d_M_loose_51 : ∃ off : Int, decode q_M_loose.2.1 51 = .ok (.goto off, 3) ∧ ((51 : Nat) : Int) + off = ((65 : Nat) : Int) := ⟨14, by decide +kernel, by decide⟩
theorem d_M_loose_71 : vm_D q_M_loose.2.1 71 1 72 (.iload_n 2) := ⟨by decide +kernel, rfl⟩
theorem d_M_loose_72 : vm_D q_M_loose.2.1 72 1 73 (.iconst (-1)) := ⟨by decide +kernel, rfl⟩
theorem d_M_loose_73 : vm_B q_M_loose.2.1 73 76 80 (fun o => .if_icmp .ne o) := ⟨7, by decide +kernel, rfl, by decide⟩
theorem d_M_loose_80 : vm_D q_M_loose.2.1 80 1 81 (.iconst (-1)) := ⟨by decide +kernel, rfl⟩
theorem d_M_loose_81 : vm_D q_M_loose.2.1 81 1 82 (.ireturn) := ⟨by decide +kernel, rfl⟩
theorem d_M_loose_76 : vm_D q_M_loose.2.1 76 1 77 (.iload_n 3) := ⟨by decide +kernel, rfl⟩
theorem d_M_loose_77 : ∃ off : Int, decode q_M_loose.2.1 77 = .ok (.goto off, 3) ∧ ((77 : Nat) : Int) + off = ((81 : Nat) : Int) := ⟨4, by decide +kernel, by decide⟩
theorem d_M_loose_13 : vm_D q_M_loose.2.1 13 1 14 (.iconst 0) := ⟨by decide +kernel, rfl⟩
theorem d_M_loose_14 : vm_D q_M_loose.2.1 14 1 15 (.ireturn) := ⟨by decide +kernel, rfl⟩
def q_M_pattern : vm_Y := ("RepeatFreeModel", cX11_pattern, 3, false, [])
theorem d_M_pattern_0 : vm_D q_M_pattern.2.1 0 1 1 (.aload_n 0) := ⟨by decide +kernel, rfl⟩
theorem d_M_pattern_1 : vm_D q_M_pattern.2.1 1 1 2 (.iconst 0) := ⟨by decide +kernel, rfl⟩
theorem d_M_pattern_2 : vm_D q_M_pattern.2.1 2 3 5 (.putfield 3) := ⟨by decide +kernel, rfl⟩
theorem d_M_pattern_5 : vm_D q_M_pattern.2.1 5 1 6 (.aload_n 0) := ⟨by decide +kernel, rfl⟩
theorem d_M_pattern_6 : vm_D q_M_pattern.2.1 6 1 7 (.iload_n 1) := ⟨by decide +kernel, rfl⟩
theorem d_M_pattern_7 : vm_D q_M_pattern.2.1 7 3 10 (.invokevirtual 353) := ⟨by decide +kernel, rfl⟩
theorem d_M_pattern_10 : vm_B q_M_pattern.2.1 10 13 35 (fun o => .ifCond .ne o) := ⟨25, by decide +kernel, rfl, by decide⟩
theorem d_M_pattern_35 : vm_D q_M_pattern.2.1 35 1 36 (.iconst 0) := ⟨by decide +kernel, rfl⟩
theorem d_M_pattern_36 : vm_D q_M_pattern.2.1 36 1 37 (.ireturn) := ⟨by decide +kernel, rfl⟩
theorem d_M_pattern_13 : vm_D q_M_pattern.2.1 13 1 14 (.aload_n 0) := ⟨by decide +kernel, rfl⟩
theorem d_M_pattern_14 : vm_D q_M_pattern.2.1 14 1 15 (.iload_n 2) := ⟨by decide +kernel, rfl⟩
theorem d_M_pattern_15 : vm_D q_M_pattern.2.1 15 1 16 (.iconst 0) := ⟨by decide +kernel, rfl⟩
theorem d_M_pattern_16 : vm_D q_M_pattern.2.1 16 1 17 (.iconst 2) := ⟨by decide +kernel, rfl⟩
theorem d_M_pattern_17 : vm_D q_M_pattern.2.1 17 3 20 (.invokestatic 65) := ⟨by decide +kernel, rfl⟩
theorem d_M_pattern_20 : vm_B q_M_pattern.2.1 20 23 27 (fun o => .ifCond .ne o) := ⟨7, by decide +kernel, rfl, by decide⟩
theorem d_M_pattern_28 : vm_D q_M_pattern.2.1 28 1 29 (.iconst 2) := ⟨by decide +kernel, rfl⟩
theorem d_M_pattern_29 : vm_D q_M_pattern.2.1 29 3 32 (.invokevirtual 180) := ⟨by decide +kernel, rfl⟩
theorem d_M_pattern_32 : vm_B q_M_pattern.2.1 32 35 37 (fun o => .ifCond .eq o) := ⟨5, by decide +kernel, rfl, by decide⟩
theorem d_M_pattern_37 : vm_D q_M_pattern.2.1 37 1 38 (.iload_n 2) := ⟨by decide +kernel, rfl⟩
theorem d_M_pattern_38 : vm_B q_M_pattern.2.1 38 41 54 (fun o => .ifCond .ne o) := ⟨16, by decide +kernel, rfl, by decide⟩
theorem d_M_pattern_54 : vm_D q_M_pattern.2.1 54 1 55 (.iload_n 2) := ⟨by decide +kernel, rfl⟩
theorem d_M_pattern_55 : vm_D q_M_pattern.2.1 55 1 56 (.iconst 1) := ⟨by decide +kernel, rfl⟩
theorem d_M_pattern_56 : vm_B q_M_pattern.2.1 56 59 67 (fun o => .if_icmp .ne o) := ⟨11, by decide +kernel, rfl, by decide⟩
theorem d_M_pattern_67 : vm_D q_M_pattern.2.1 67 1 68 (.aload_n 0) := ⟨by decide +kernel, rfl⟩
theorem d_M_pattern_68 : vm_D q_M_pattern.2.1 68 3 71 (.getfield 77) := ⟨by decide +kernel, rfl⟩
theorem d_M_pattern_71 : vm_D q_M_pattern.2.1 71 3 74 (.sipush 194) := ⟨by decide +kernel, rfl⟩
theorem d_M_pattern_74 : vm_D q_M_pattern.2.1 74 1 75 (.iload_n 1) := ⟨by decide +kernel, rfl⟩
theorem d_M_pattern_75 : vm_D q_M_pattern.2.1 75 1 76 (.iadd) := ⟨by decide +kernel, rfl⟩
theorem d_M_pattern_76 : vm_D q_M_pattern.2.1 76 1 77 (.iaload) := ⟨by decide +kernel, rfl⟩
theorem d_M_pattern_77 : vm_D q_M_pattern.2.1 77 1 78 (.ireturn) := ⟨by decide +kernel, rfl⟩
theorem d_M_pattern_59 : vm_D q_M_pattern.2.1 59 1 60 (.aload_n 0) := ⟨by decide +kernel, rfl⟩
theorem d_M_pattern_60 : vm_D q_M_pattern.2.1 60 1 61 (.iload_n 1) := ⟨by decide +kernel, rfl⟩
theorem d_M_pattern_61 : vm_D q_M_pattern.2.1 61 3 64 (.invokevirtual 359) := ⟨by decide +kernel, rfl⟩
theorem d_M_pattern_64 : ∃ off : Int, decode q_M_pattern.2.1 64 = .ok (.goto off, 3) ∧ ((64 : Nat) : Int) + off = ((77 : Nat) : Int) := ⟨13, by decide +kernel, by decide⟩
theorem d_M_pattern_41 : vm_D q_M_pattern.2.1 41 1 42 (.aload_n 0) := ⟨by decide +kernel, rfl⟩
theorem d_M_pattern_42 : vm_D q_M_pattern.2.1 42 3 45 (.getfield 77) := ⟨by decide +kernel, rfl⟩
theorem d_M_pattern_45 : vm_D q_M_pattern.2.1 45 3 48 (.sipush 166) := ⟨by decide +kernel, rfl⟩
theorem d_M_pattern_48 : vm_D q_M_pattern.2.1 48 1 49 (.iload_n 1) := ⟨by decide +kernel, rfl⟩
theorem d_M_pattern_49 : vm_D q_M_pattern.2.1 49 1 50 (.iadd) := ⟨by decide +kernel, rfl⟩
theorem d_M_pattern_50 : vm_D q_M_pattern.2.1 50 1 51 (.iaload) := ⟨by decide +kernel, rfl⟩
theorem d_M_pattern_51 : ∃ off : Int, decode q_M_pattern.2.1 51 = .ok (.goto off, 3) ∧ ((51 : Nat) : Int) + off = ((77 : Nat) : Int) := ⟨26, by decide +kernel, by decide⟩
theorem d_M_pattern_27 : vm_D q_M_pattern.2.1 27 1 28 (.iconst 0) := ⟨by decide +kernel, rfl⟩
theorem d_M_pattern_23 : vm_D q_M_pattern.2.1 23 1 24 (.iconst 1) := ⟨by decide +kernel, rfl⟩
theorem d_M_pattern_24 : ∃ off : Int, decode q_M_pattern.2.1 24 = .ok (.goto off, 3) ∧ ((24 : Nat) : Int) + off = ((28 : Nat) : Int) := ⟨4, by decide +kernel, by decide⟩
def q_M_limit : vm_Y := ("RepeatFreeModel", cX11_limit, 5, false, [])
theorem d_M_limit_0 : vm_D q_M_limit.2.1 0 1 1 (.aload_n 0) := ⟨by decide +kernel, rfl⟩
theorem d_M_limit_1 : vm_D q_M_limit.2.1 1 1 2 (.iconst 0) := ⟨by decide +kernel, rfl⟩
theorem d_M_limit_2 : vm_D q_M_limit.2.1 2 3 5 (.putfield 3) := ⟨by decide +kernel, rfl⟩
theorem d_M_limit_5 : vm_D q_M_limit.2.1 5 1 6 (.aload_n 0) := ⟨by decide +kernel, rfl⟩
theorem d_M_limit_6 : vm_D q_M_limit.2.1 6 1 7 (.iload_n 1) := ⟨by decide +kernel, rfl⟩
theorem d_M_limit_7 : vm_D q_M_limit.2.1 7 1 8 (.iconst 0) := ⟨by decide +kernel, rfl⟩
theorem d_M_limit_8 : vm_D q_M_limit.2.1 8 1 9 (.iconst 2) := ⟨by decide +kernel, rfl⟩
theorem d_M_limit_9 : vm_D q_M_limit.2.1 9 3 12 (.invokestatic 65) := ⟨by decide +kernel, rfl⟩
theorem d_M_limit_12 : vm_B q_M_limit.2.1 12 15 35 (fun o => .ifCond .eq o) := ⟨23, by decide +kernel, rfl, by decide⟩
theorem d_M_limit_40 : vm_D q_M_limit.2.1 40 1 41 (.iconst 1) := ⟨by decide +kernel, rfl⟩
theorem d_M_limit_41 : vm_D q_M_limit.2.1 41 3 44 (.invokevirtual 180) := ⟨by decide +kernel, rfl⟩
theorem d_M_limit_44 : vm_B q_M_limit.2.1 44 47 49 (fun o => .ifCond .eq o) := ⟨5, by decide +kernel, rfl, by decide⟩
theorem d_M_limit_49 : vm_D q_M_limit.2.1 49 1 50 (.aload_n 0) := ⟨by decide +kernel, rfl⟩
theorem d_M_limit_50 : vm_D q_M_limit.2.1 50 3 53 (.getfield 77) := ⟨by decide +kernel, rfl⟩
theorem d_M_limit_53 : vm_D q_M_limit.2.1 53 1 54 (.iconst 1) := ⟨by decide +kernel, rfl⟩
theorem d_M_limit_54 : vm_D q_M_limit.2.1 54 1 55 (.iaload) := ⟨by decide +kernel, rfl⟩
theorem d_M_limit_55 : vm_D q_M_limit.2.1 55 2 57 (.istore 4) := ⟨by decide +kernel, rfl⟩
theorem d_M_limit_57 : vm_D q_M_limit.2.1 57 1 58 (.aload_n 0) := ⟨by decide +kernel, rfl⟩
theorem d_M_limit_58 : vm_D q_M_limit.2.1 58 3 61 (.getfield 77) := ⟨by decide +kernel, rfl⟩
theorem d_M_limit_61 : vm_D q_M_limit.2.1 61 1 62 (.iconst 1) := ⟨by decide +kernel, rfl⟩
theorem d_M_limit_62 : vm_D q_M_limit.2.1 62 1 63 (.iload_n 1) := ⟨by decide +kernel, rfl⟩
theorem d_M_limit_63 : vm_D q_M_limit.2.1 63 1 64 (.iastore) := ⟨by decide +kernel, rfl⟩
theorem d_M_limit_64 : vm_D q_M_limit.2.1 64 1 65 (.aload_n 0) := ⟨by decide +kernel, rfl⟩
theorem d_M_limit_65 : vm_D q_M_limit.2.1 65 3 68 (.getfield 77) := ⟨by decide +kernel, rfl⟩
theorem d_M_limit_68 : vm_D q_M_limit.2.1 68 1 69 (.iconst 2) := ⟨by decide +kernel, rfl⟩
theorem d_M_limit_69 : vm_D q_M_limit.2.1 69 1 70 (.iload_n 1) := ⟨by decide +kernel, rfl⟩
theorem d_M_limit_70 : vm_B q_M_limit.2.1 70 73 77 (fun o => .ifCond .ne o) := ⟨7, by decide +kernel, rfl, by decide⟩
theorem d_M_limit_78 : vm_D q_M_limit.2.1 78 1 79 (.iastore) := ⟨by decide +kernel, rfl⟩
theorem d_M_limit_79 : vm_D q_M_limit.2.1 79 1 80 (.aload_n 0) := ⟨by decide +kernel, rfl⟩
theorem d_M_limit_80 : vm_D q_M_limit.2.1 80 3 83 (.getfield 77) := ⟨by decide +kernel, rfl⟩
theorem d_M_limit_83 : vm_D q_M_limit.2.1 83 1 84 (.iconst 3) := ⟨by decide +kernel, rfl⟩
theorem d_M_limit_84 : vm_D q_M_limit.2.1 84 1 85 (.iload_n 1) := ⟨by decide +kernel, rfl⟩
theorem d_M_limit_85 : vm_B q_M_limit.2.1 85 88 92 (fun o => .ifCond .ne o) := ⟨7, by decide +kernel, rfl, by decide⟩
theorem d_M_limit_93 : vm_D q_M_limit.2.1 93 1 94 (.iastore) := ⟨by decide +kernel, rfl⟩
theorem d_M_limit_94 : vm_D q_M_limit.2.1 94 2 96 (.iload 4) := ⟨by decide +kernel, rfl⟩
theorem d_M_limit_96 : vm_D q_M_limit.2.1 96 1 97 (.ireturn) := ⟨by decide +kernel, rfl⟩
theorem d_M_limit_92 : vm_D q_M_limit.2.1 92 1 93 (.iload_n 3) := ⟨by decide +kernel, rfl⟩
theorem d_M_limit_88 : vm_D q_M_limit.2.1 88 1 89 (.iconst 0) := ⟨by decide +kernel, rfl⟩
theorem d_M_limit_89 : ∃ off : Int, decode q_M_limit.2.1 89 = .ok (.goto off, 3) ∧ ((89 : Nat) : Int) + off = ((93 : Nat) : Int) := ⟨4, by decide +kernel, by decide⟩
theorem d_M_limit_77 : vm_D q_M_limit.2.1 77 1 78 (.iload_n 2) := ⟨by decide +kernel, rfl⟩
theorem d_M_limit_73 : vm_D q_M_limit.2.1 73 1 74 (.iconst 0) := ⟨by decide +kernel, rfl⟩
theorem d_M_limit_74 : ∃ off : Int, decode q_M_limit.2.1 74 = .ok (.goto off, 3) ∧ ((74 : Nat) : Int) + off = ((78 : Nat) : Int) := ⟨4, by decide +kernel, by decide⟩
theorem d_M_limit_47 : vm_D q_M_limit.2.1 47 1 48 (.iconst 0) := ⟨by decide +kernel, rfl⟩
theorem d_M_limit_48 : vm_D q_M_limit.2.1 48 1 49 (.ireturn) := ⟨by decide +kernel, rfl⟩
theorem d_M_limit_35 : vm_D q_M_limit.2.1 35 1 36 (.iconst 1) := ⟨by decide +kernel, rfl⟩
theorem d_M_limit_36 : ∃ off : Int, decode q_M_limit.2.1 36 = .ok (.goto off, 3) ∧ ((36 : Nat) : Int) + off = ((40 : Nat) : Int) := ⟨4, by decide +kernel, by decide⟩
theorem d_M_limit_15 : vm_D q_M_limit.2.1 15 1 16 (.iload_n 2) := ⟨by decide +kernel, rfl⟩
theorem d_M_limit_16 : vm_D q_M_limit.2.1 16 1 17 (.iconst 1) := ⟨by decide +kernel, rfl⟩
theorem d_M_limit_17 : vm_D q_M_limit.2.1 17 2 19 (.bipush 99) := ⟨by decide +kernel, rfl⟩
theorem d_M_limit_19 : vm_D q_M_limit.2.1 19 3 22 (.invokestatic 65) := ⟨by decide +kernel, rfl⟩
theorem d_M_limit_22 : vm_B q_M_limit.2.1 22 25 35 (fun o => .ifCond .eq o) := ⟨13, by decide +kernel, rfl, by decide⟩
theorem d_M_limit_25 : vm_D q_M_limit.2.1 25 1 26 (.iload_n 3) := ⟨by decide +kernel, rfl⟩
theorem d_M_limit_26 : vm_D q_M_limit.2.1 26 1 27 (.iconst 1) := ⟨by decide +kernel, rfl⟩
theorem d_M_limit_27 : vm_D q_M_limit.2.1 27 2 29 (.bipush 9) := ⟨by decide +kernel, rfl⟩
theorem d_M_limit_29 : vm_D q_M_limit.2.1 29 3 32 (.invokestatic 65) := ⟨by decide +kernel, rfl⟩
theorem d_M_limit_32 : vm_B q_M_limit.2.1 32 35 39 (fun o => .ifCond .ne o) := ⟨7, by decide +kernel, rfl, by decide⟩
theorem d_M_limit_39 : vm_D q_M_limit.2.1 39 1 40 (.iconst 0) := ⟨by decide +kernel, rfl⟩
def q_M_avoid : vm_Y := ("RepeatFreeModel", cX11_avoid, 4, false, [])
theorem d_M_avoid_0 : vm_D q_M_avoid.2.1 0 1 1 (.aload_n 0) := ⟨by decide +kernel, rfl⟩
theorem d_M_avoid_1 : vm_D q_M_avoid.2.1 1 1 2 (.iconst 0) := ⟨by decide +kernel, rfl⟩
theorem d_M_avoid_2 : vm_D q_M_avoid.2.1 2 3 5 (.putfield 3) := ⟨by decide +kernel, rfl⟩
theorem d_M_avoid_5 : vm_D q_M_avoid.2.1 5 1 6 (.aload_n 0) := ⟨by decide +kernel, rfl⟩
theorem d_M_avoid_6 : vm_D q_M_avoid.2.1 6 1 7 (.iload_n 1) := ⟨by decide +kernel, rfl⟩
theorem d_M_avoid_7 : vm_D q_M_avoid.2.1 7 3 10 (.invokevirtual 353) := ⟨by decide +kernel, rfl⟩
theorem d_M_avoid_10 : vm_B q_M_avoid.2.1 10 13 15 (fun o => .ifCond .eq o) := ⟨5, by decide +kernel, rfl, by decide⟩
theorem d_M_avoid_15 : vm_D q_M_avoid.2.1 15 1 16 (.aload_n 0) := ⟨by decide +kernel, rfl⟩
theorem d_M_avoid_16 : vm_D q_M_avoid.2.1 16 3 19 (.getfield 77) := ⟨by decide +kernel, rfl⟩
theorem d_M_avoid_19 : vm_D q_M_avoid.2.1 19 3 22 (.sipush 194) := ⟨by decide +kernel, rfl⟩
theorem d_M_avoid_22 : vm_D q_M_avoid.2.1 22 1 23 (.iload_n 1) := ⟨by decide +kernel, rfl⟩
theorem d_M_avoid_23 : vm_D q_M_avoid.2.1 23 1 24 (.iadd) := ⟨by decide +kernel, rfl⟩
theorem d_M_avoid_24 : vm_D q_M_avoid.2.1 24 1 25 (.iaload) := ⟨by decide +kernel, rfl⟩
theorem d_M_avoid_25 : vm_D q_M_avoid.2.1 25 1 26 (.iconst 1) := ⟨by decide +kernel, rfl⟩
theorem d_M_avoid_26 : vm_B q_M_avoid.2.1 26 29 33 (fun o => .if_icmp .ne o) := ⟨7, by decide +kernel, rfl, by decide⟩
theorem d_M_avoid_34 : vm_D q_M_avoid.2.1 34 1 35 (.istore_n 3) := ⟨by decide +kernel, rfl⟩
theorem d_M_avoid_35 : vm_D q_M_avoid.2.1 35 1 36 (.aload_n 0) := ⟨by decide +kernel, rfl⟩
theorem d_M_avoid_36 : vm_D q_M_avoid.2.1 36 3 39 (.getfield 77) := ⟨by decide +kernel, rfl⟩
theorem d_M_avoid_39 : vm_D q_M_avoid.2.1 39 3 42 (.sipush 194) := ⟨by decide +kernel, rfl⟩
theorem d_M_avoid_42 : vm_D q_M_avoid.2.1 42 1 43 (.iload_n 1) := ⟨by decide +kernel, rfl⟩
theorem d_M_avoid_43 : vm_D q_M_avoid.2.1 43 1 44 (.iadd) := ⟨by decide +kernel, rfl⟩
theorem d_M_avoid_44 : vm_D q_M_avoid.2.1 44 1 45 (.iload_n 2) := ⟨by decide +kernel, rfl⟩
theorem d_M_avoid_45 : vm_B q_M_avoid.2.1 45 48 52 (fun o => .ifCond .eq o) := ⟨7, by decide +kernel, rfl, by decide⟩
theorem d_M_avoid_53 : vm_D q_M_avoid.2.1 53 1 54 (.iastore) := ⟨by decide +kernel, rfl⟩
theorem d_M_avoid_54 : vm_D q_M_avoid.2.1 54 1 55 (.iload_n 3) := ⟨by decide +kernel, rfl⟩
theorem d_M_avoid_55 : vm_D q_M_avoid.2.1 55 1 56 (.ireturn) := ⟨by decide +kernel, rfl⟩
theorem d_M_avoid_52 : vm_D q_M_avoid.2.1 52 1 53 (.iconst 0) := ⟨by decide +kernel, rfl⟩
theorem d_M_avoid_48 : vm_D q_M_avoid.2.1 48 1 49 (.iconst 1) := ⟨by decide +kernel, rfl⟩
theorem d_M_avoid_49 : ∃ off : Int, decode q_M_avoid.2.1 49 = .ok (.goto off, 3) ∧ ((49 : Nat) : Int) + off = ((53 : Nat) : Int) := ⟨4, by decide +kernel, by decide⟩
theorem d_M_avoid_33 : vm_D q_M_avoid.2.1 33 1 34 (.iconst 0) := ⟨by decide +kernel, rfl⟩
theorem d_M_avoid_29 : vm_D q_M_avoid.2.1 29 1 30 (.iconst 1) := ⟨by decide +kernel, rfl⟩
theorem d_M_avoid_30 : ∃ off : Int, decode q_M_avoid.2.1 30 = .ok (.goto off, 3) ∧ ((30 : Nat) : Int) + off = ((34 : Nat) : Int) := ⟨4, by decide +kernel, by decide⟩
theorem d_M_avoid_13 : vm_D q_M_avoid.2.1 13 1 14 (.iconst 0) := ⟨by decide +kernel, rfl⟩
theorem d_M_avoid_14 : vm_D q_M_avoid.2.1 14 1 15 (.ireturn) := ⟨by decide +kernel, rfl⟩
def q_M_count : vm_Y := ("RepeatFreeModel", cX11_count, 4, false, [])
theorem d_M_count_0 : vm_D q_M_count.2.1 0 1 1 (.aload_n 0) := ⟨by decide +kernel, rfl⟩
theorem d_M_count_1 : vm_D q_M_count.2.1 1 1 2 (.iconst 0) := ⟨by decide +kernel, rfl⟩
theorem d_M_count_2 : vm_D q_M_count.2.1 2 3 5 (.putfield 3) := ⟨by decide +kernel, rfl⟩
theorem d_M_count_5 : vm_D q_M_count.2.1 5 1 6 (.iconst 0) := ⟨by decide +kernel, rfl⟩
theorem d_M_count_6 : vm_D q_M_count.2.1 6 1 7 (.istore_n 2) := ⟨by decide +kernel, rfl⟩
theorem d_M_count_7 : vm_D q_M_count.2.1 7 1 8 (.iconst 0) := ⟨by decide +kernel, rfl⟩
theorem d_M_count_8 : vm_D q_M_count.2.1 8 1 9 (.istore_n 3) := ⟨by decide +kernel, rfl⟩
theorem d_M_count_9 : vm_D q_M_count.2.1 9 1 10 (.iload_n 3) := ⟨by decide +kernel, rfl⟩
theorem d_M_count_10 : vm_D q_M_count.2.1 10 1 11 (.aload_n 0) := ⟨by decide +kernel, rfl⟩
theorem d_M_count_11 : vm_D q_M_count.2.1 11 3 14 (.getfield 77) := ⟨by decide +kernel, rfl⟩
theorem d_M_count_14 : vm_D q_M_count.2.1 14 1 15 (.iconst 5) := ⟨by decide +kernel, rfl⟩
theorem d_M_count_15 : vm_D q_M_count.2.1 15 1 16 (.iaload) := ⟨by decide +kernel, rfl⟩
theorem d_M_count_16 : vm_B q_M_count.2.1 16 19 38 (fun o => .if_icmp .ge o) := ⟨22, by decide +kernel, rfl, by decide⟩
theorem d_M_count_19 : vm_D q_M_count.2.1 19 1 20 (.iload_n 2) := ⟨by decide +kernel, rfl⟩
theorem d_M_count_20 : vm_D q_M_count.2.1 20 1 21 (.aload_n 0) := ⟨by decide +kernel, rfl⟩
theorem d_M_count_21 : vm_D q_M_count.2.1 21 3 24 (.getfield 77) := ⟨by decide +kernel, rfl⟩
theorem d_M_count_24 : vm_D q_M_count.2.1 24 3 27 (.sipush 194) := ⟨by decide +kernel, rfl⟩
theorem d_M_count_27 : vm_D q_M_count.2.1 27 1 28 (.iload_n 3) := ⟨by decide +kernel, rfl⟩
theorem d_M_count_28 : vm_D q_M_count.2.1 28 1 29 (.iadd) := ⟨by decide +kernel, rfl⟩
theorem d_M_count_29 : vm_D q_M_count.2.1 29 1 30 (.iaload) := ⟨by decide +kernel, rfl⟩
theorem d_M_count_30 : vm_D q_M_count.2.1 30 1 31 (.iadd) := ⟨by decide +kernel, rfl⟩
theorem d_M_count_31 : vm_D q_M_count.2.1 31 1 32 (.istore_n 2) := ⟨by decide +kernel, rfl⟩
theorem d_M_count_32 : vm_D q_M_count.2.1 32 3 35 (.iinc 3 1) := ⟨by decide +kernel, rfl⟩
theorem d_M_count_35 : ∃ off : Int, decode q_M_count.2.1 35 = .ok (.goto off, 3) ∧ ((35 : Nat) : Int) + off = ((9 : Nat) : Int) := ⟨-26, by decide +kernel, by decide⟩
theorem d_M_count_38 : vm_D q_M_count.2.1 38 1 39 (.iload_n 1) := ⟨by decide +kernel, rfl⟩
theorem d_M_count_39 : decode q_M_count.2.1 39 = .ok (.tableswitch 103 0 8 #[49, 56, 63, 70, 72, 77, 82, 89, 96], 49) := by decide +kernel
theorem d_M_count_39_o : ∀ i, i < 9 → ∃ off : Int, (#[49, 56, 63, 70, 72, 77, 82, 89, 96] : Array Int)[i]? = some off ∧ ((39 : Nat) : Int) + off = ((([88, 95, 102, 109, 111, 116, 121, 128, 135] : List Nat).getD i 0 : Nat) : Int) := by
  intro i hi
  match i, hi with
  | 0, _ => exact ⟨_, rfl, rfl⟩
  | 1, _ => exact ⟨_, rfl, rfl⟩
  | 2, _ => exact ⟨_, rfl, rfl⟩
  | 3, _ => exact ⟨_, rfl, rfl⟩
  | 4, _ => exact ⟨_, rfl, rfl⟩
  | 5, _ => exact ⟨_, rfl, rfl⟩
  | 6, _ => exact ⟨_, rfl, rfl⟩
  | 7, _ => exact ⟨_, rfl, rfl⟩
  | 8, _ => exact ⟨_, rfl, rfl⟩
  | k + 9, hi => exact absurd hi (by omega)
theorem d_M_count_142 : vm_D q_M_count.2.1 142 1 143 (.iconst (-1)) := ⟨by decide +kernel, rfl⟩
theorem d_M_count_143 : vm_D q_M_count.2.1 143 1 144 (.ireturn) := ⟨by decide +kernel, rfl⟩
theorem d_M_count_88 : vm_D q_M_count.2.1 88 1 89 (.aload_n 0) := ⟨by decide +kernel, rfl⟩
theorem d_M_count_89 : vm_D q_M_count.2.1 89 3 92 (.getfield 77) := ⟨by decide +kernel, rfl⟩
theorem d_M_count_92 : vm_D q_M_count.2.1 92 1 93 (.iconst 0) := ⟨by decide +kernel, rfl⟩
theorem d_M_count_93 : vm_D q_M_count.2.1 93 1 94 (.iaload) := ⟨by decide +kernel, rfl⟩
theorem d_M_count_94 : vm_D q_M_count.2.1 94 1 95 (.ireturn) := ⟨by decide +kernel, rfl⟩
theorem d_M_count_95 : vm_D q_M_count.2.1 95 1 96 (.aload_n 0) := ⟨by decide +kernel, rfl⟩
theorem d_M_count_96 : vm_D q_M_count.2.1 96 3 99 (.getfield 77) := ⟨by decide +kernel, rfl⟩
theorem d_M_count_99 : vm_D q_M_count.2.1 99 1 100 (.iconst 4) := ⟨by decide +kernel, rfl⟩
theorem d_M_count_100 : vm_D q_M_count.2.1 100 1 101 (.iaload) := ⟨by decide +kernel, rfl⟩
theorem d_M_count_101 : vm_D q_M_count.2.1 101 1 102 (.ireturn) := ⟨by decide +kernel, rfl⟩
theorem d_M_count_102 : vm_D q_M_count.2.1 102 1 103 (.aload_n 0) := ⟨by decide +kernel, rfl⟩
theorem d_M_count_103 : vm_D q_M_count.2.1 103 3 106 (.getfield 77) := ⟨by decide +kernel, rfl⟩
theorem d_M_count_106 : vm_D q_M_count.2.1 106 1 107 (.iconst 5) := ⟨by decide +kernel, rfl⟩
theorem d_M_count_107 : vm_D q_M_count.2.1 107 1 108 (.iaload) := ⟨by decide +kernel, rfl⟩
theorem d_M_count_108 : vm_D q_M_count.2.1 108 1 109 (.ireturn) := ⟨by decide +kernel, rfl⟩
theorem d_M_count_109 : vm_D q_M_count.2.1 109 1 110 (.iload_n 2) := ⟨by decide +kernel, rfl⟩
theorem d_M_count_110 : vm_D q_M_count.2.1 110 1 111 (.ireturn) := ⟨by decide +kernel, rfl⟩
theorem d_M_count_111 : vm_D q_M_count.2.1 111 1 112 (.aload_n 0) := ⟨by decide +kernel, rfl⟩
theorem d_M_count_112 : vm_D q_M_count.2.1 112 3 115 (.getfield 184) := ⟨by decide +kernel, rfl⟩
theorem d_M_count_115 : vm_D q_M_count.2.1 115 1 116 (.ireturn) := ⟨by decide +kernel, rfl⟩
theorem d_M_count_116 : vm_D q_M_count.2.1 116 1 117 (.aload_n 0) := ⟨by decide +kernel, rfl⟩
theorem d_M_count_117 : vm_D q_M_count.2.1 117 3 120 (.getfield 187) := ⟨by decide +kernel, rfl⟩
theorem d_M_count_120 : vm_D q_M_count.2.1 120 1 121 (.ireturn) := ⟨by decide +kernel, rfl⟩
theorem d_M_count_121 : vm_D q_M_count.2.1 121 1 122 (.aload_n 0) := ⟨by decide +kernel, rfl⟩
theorem d_M_count_122 : vm_D q_M_count.2.1 122 3 125 (.getfield 77) := ⟨by decide +kernel, rfl⟩
theorem d_M_count_125 : vm_D q_M_count.2.1 125 1 126 (.iconst 2) := ⟨by decide +kernel, rfl⟩
theorem d_M_count_126 : vm_D q_M_count.2.1 126 1 127 (.iaload) := ⟨by decide +kernel, rfl⟩
theorem d_M_count_127 : vm_D q_M_count.2.1 127 1 128 (.ireturn) := ⟨by decide +kernel, rfl⟩
theorem d_M_count_128 : vm_D q_M_count.2.1 128 1 129 (.aload_n 0) := ⟨by decide +kernel, rfl⟩
theorem d_M_count_129 : vm_D q_M_count.2.1 129 3 132 (.getfield 77) := ⟨by decide +kernel, rfl⟩
theorem d_M_count_132 : vm_D q_M_count.2.1 132 1 133 (.iconst 3) := ⟨by decide +kernel, rfl⟩
theorem d_M_count_133 : vm_D q_M_count.2.1 133 1 134 (.iaload) := ⟨by decide +kernel, rfl⟩
theorem d_M_count_134 : vm_D q_M_count.2.1 134 1 135 (.ireturn) := ⟨by decide +kernel, rfl⟩
theorem d_M_count_135 : vm_D q_M_count.2.1 135 1 136 (.aload_n 0) := ⟨by decide +kernel, rfl⟩
theorem d_M_count_136 : vm_D q_M_count.2.1 136 3 139 (.getfield 77) := ⟨by decide +kernel, rfl⟩
theorem d_M_count_139 : vm_D q_M_count.2.1 139 1 140 (.iconst 1) := ⟨by decide +kernel, rfl⟩
theorem d_M_count_140 : vm_D q_M_count.2.1 140 1 141 (.iaload) := ⟨by decide +kernel, rfl⟩
theorem d_M_count_141 : vm_D q_M_count.2.1 141 1 142 (.ireturn) := ⟨by decide +kernel, rfl⟩
