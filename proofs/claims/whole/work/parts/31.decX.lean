def q_X_init : vm_Y := ("RepeatFree", cX10_init, 1, true, [])
theorem d_X_init_0 : vm_D q_X_init.2.1 0 1 1 (.aload_n 0) := ⟨by decide +kernel, rfl⟩
theorem d_X_init_1 : vm_D q_X_init.2.1 1 3 4 (.invokespecial 1) := ⟨by decide +kernel, rfl⟩
theorem d_X_init_4 : vm_D q_X_init.2.1 4 1 5 (.aload_n 0) := ⟨by decide +kernel, rfl⟩
theorem d_X_init_5 : vm_D q_X_init.2.1 5 3 8 (.new 7) := ⟨by decide +kernel, rfl⟩
theorem d_X_init_8 : vm_D q_X_init.2.1 8 1 9 (.dup) := ⟨by decide +kernel, rfl⟩
theorem d_X_init_9 : vm_D q_X_init.2.1 9 3 12 (.invokespecial 9) := ⟨by decide +kernel, rfl⟩
theorem d_X_init_12 : vm_D q_X_init.2.1 12 3 15 (.putfield 10) := ⟨by decide +kernel, rfl⟩
theorem d_X_init_15 : vm_D q_X_init.2.1 15 1 16 (.aload_n 0) := ⟨by decide +kernel, rfl⟩
theorem d_X_init_16 : vm_D q_X_init.2.1 16 3 19 (.new 16) := ⟨by decide +kernel, rfl⟩
theorem d_X_init_19 : vm_D q_X_init.2.1 19 1 20 (.dup) := ⟨by decide +kernel, rfl⟩
theorem d_X_init_20 : vm_D q_X_init.2.1 20 3 23 (.invokespecial 18) := ⟨by decide +kernel, rfl⟩
theorem d_X_init_23 : vm_D q_X_init.2.1 23 3 26 (.putfield 19) := ⟨by decide +kernel, rfl⟩
theorem d_X_init_26 : vm_D q_X_init.2.1 26 1 27 (.aload_n 0) := ⟨by decide +kernel, rfl⟩
theorem d_X_init_27 : vm_D q_X_init.2.1 27 3 30 (.new 16) := ⟨by decide +kernel, rfl⟩
theorem d_X_init_30 : vm_D q_X_init.2.1 30 1 31 (.dup) := ⟨by decide +kernel, rfl⟩
theorem d_X_init_31 : vm_D q_X_init.2.1 31 3 34 (.invokespecial 18) := ⟨by decide +kernel, rfl⟩
theorem d_X_init_34 : vm_D q_X_init.2.1 34 3 37 (.putfield 23) := ⟨by decide +kernel, rfl⟩
theorem d_X_init_37 : vm_D q_X_init.2.1 37 1 38 (.aload_n 0) := ⟨by decide +kernel, rfl⟩
theorem d_X_init_38 : vm_D q_X_init.2.1 38 3 41 (.new 26) := ⟨by decide +kernel, rfl⟩
theorem d_X_init_41 : vm_D q_X_init.2.1 41 1 42 (.dup) := ⟨by decide +kernel, rfl⟩
theorem d_X_init_42 : vm_D q_X_init.2.1 42 3 45 (.invokespecial 28) := ⟨by decide +kernel, rfl⟩
theorem d_X_init_45 : vm_D q_X_init.2.1 45 3 48 (.putfield 29) := ⟨by decide +kernel, rfl⟩
theorem d_X_init_48 : vm_D q_X_init.2.1 48 1 49 (.aload_n 0) := ⟨by decide +kernel, rfl⟩
theorem d_X_init_49 : vm_D q_X_init.2.1 49 3 52 (.new 33) := ⟨by decide +kernel, rfl⟩
theorem d_X_init_52 : vm_D q_X_init.2.1 52 1 53 (.dup) := ⟨by decide +kernel, rfl⟩
theorem d_X_init_53 : vm_D q_X_init.2.1 53 3 56 (.invokespecial 35) := ⟨by decide +kernel, rfl⟩
theorem d_X_init_56 : vm_D q_X_init.2.1 56 3 59 (.putfield 36) := ⟨by decide +kernel, rfl⟩
theorem d_X_init_59 : vm_D q_X_init.2.1 59 1 60 (.aload_n 0) := ⟨by decide +kernel, rfl⟩
theorem d_X_init_60 : vm_D q_X_init.2.1 60 3 63 (.new 33) := ⟨by decide +kernel, rfl⟩
theorem d_X_init_63 : vm_D q_X_init.2.1 63 1 64 (.dup) := ⟨by decide +kernel, rfl⟩
theorem d_X_init_64 : vm_D q_X_init.2.1 64 3 67 (.invokespecial 35) := ⟨by decide +kernel, rfl⟩
theorem d_X_init_67 : vm_D q_X_init.2.1 67 3 70 (.putfield 40) := ⟨by decide +kernel, rfl⟩
theorem d_X_init_70 : vm_D q_X_init.2.1 70 1 71 (.aload_n 0) := ⟨by decide +kernel, rfl⟩
theorem d_X_init_71 : vm_D q_X_init.2.1 71 3 74 (.new 43) := ⟨by decide +kernel, rfl⟩
theorem d_X_init_74 : vm_D q_X_init.2.1 74 1 75 (.dup) := ⟨by decide +kernel, rfl⟩
theorem d_X_init_75 : vm_D q_X_init.2.1 75 3 78 (.invokespecial 45) := ⟨by decide +kernel, rfl⟩
theorem d_X_init_78 : vm_D q_X_init.2.1 78 3 81 (.putfield 46) := ⟨by decide +kernel, rfl⟩
theorem d_X_init_81 : vm_D q_X_init.2.1 81 1 82 (.aload_n 0) := ⟨by decide +kernel, rfl⟩
theorem d_X_init_82 : vm_D q_X_init.2.1 82 3 85 (.new 50) := ⟨by decide +kernel, rfl⟩
theorem d_X_init_85 : vm_D q_X_init.2.1 85 1 86 (.dup) := ⟨by decide +kernel, rfl⟩
theorem d_X_init_86 : vm_D q_X_init.2.1 86 3 89 (.invokespecial 52) := ⟨by decide +kernel, rfl⟩
theorem d_X_init_89 : vm_D q_X_init.2.1 89 3 92 (.putfield 53) := ⟨by decide +kernel, rfl⟩
theorem d_X_init_92 : vm_D q_X_init.2.1 92 1 93 (.aload_n 0) := ⟨by decide +kernel, rfl⟩
theorem d_X_init_93 : vm_D q_X_init.2.1 93 2 95 (.bipush 13) := ⟨by decide +kernel, rfl⟩
theorem d_X_init_95 : vm_D q_X_init.2.1 95 1 96 (.iconst 4) := ⟨by decide +kernel, rfl⟩
theorem d_X_init_96 : vm_D q_X_init.2.1 96 4 100 (.multianewarray 57 2) := ⟨by decide +kernel, rfl⟩
theorem d_X_init_100 : vm_D q_X_init.2.1 100 3 103 (.putfield 59) := ⟨by decide +kernel, rfl⟩
theorem d_X_init_103 : vm_D q_X_init.2.1 103 1 104 (.aload_n 0) := ⟨by decide +kernel, rfl⟩
theorem d_X_init_104 : vm_D q_X_init.2.1 104 2 106 (.bipush 65) := ⟨by decide +kernel, rfl⟩
theorem d_X_init_106 : vm_D q_X_init.2.1 106 2 108 (.newarray .long) := ⟨by decide +kernel, rfl⟩
theorem d_X_init_108 : vm_D q_X_init.2.1 108 3 111 (.putfield 62) := ⟨by decide +kernel, rfl⟩
theorem d_X_init_111 : vm_D q_X_init.2.1 111 1 112 (.return_) := ⟨by decide +kernel, rfl⟩
def q_X_feed : vm_Y := ("RepeatFree", cX10_feed, 7, false, [])
theorem d_X_feed_0 : vm_D q_X_feed.2.1 0 1 1 (.aload_n 0) := ⟨by decide +kernel, rfl⟩
theorem d_X_feed_1 : vm_D q_X_feed.2.1 1 3 4 (.getfield 10) := ⟨by decide +kernel, rfl⟩
theorem d_X_feed_4 : vm_D q_X_feed.2.1 4 3 7 (.getfield 66) := ⟨by decide +kernel, rfl⟩
theorem d_X_feed_7 : vm_D q_X_feed.2.1 7 2 9 (.astore 6) := ⟨by decide +kernel, rfl⟩
theorem d_X_feed_9 : vm_D q_X_feed.2.1 9 2 11 (.aload 6) := ⟨by decide +kernel, rfl⟩
theorem d_X_feed_11 : vm_D q_X_feed.2.1 11 3 14 (.getfield 70) := ⟨by decide +kernel, rfl⟩
theorem d_X_feed_14 : vm_D q_X_feed.2.1 14 2 16 (.bipush 20) := ⟨by decide +kernel, rfl⟩
theorem d_X_feed_16 : vm_D q_X_feed.2.1 16 1 17 (.iadd) := ⟨by decide +kernel, rfl⟩
theorem d_X_feed_17 : vm_D q_X_feed.2.1 17 3 20 (.sipush 400) := ⟨by decide +kernel, rfl⟩
theorem d_X_feed_20 : vm_B q_X_feed.2.1 20 23 25 (fun o => .if_icmp .le o) := ⟨5, by decide +kernel, rfl, by decide⟩
theorem d_X_feed_25 : vm_D q_X_feed.2.1 25 2 27 (.aload 6) := ⟨by decide +kernel, rfl⟩
theorem d_X_feed_27 : vm_D q_X_feed.2.1 27 1 28 (.iload_n 1) := ⟨by decide +kernel, rfl⟩
theorem d_X_feed_28 : vm_D q_X_feed.2.1 28 3 31 (.invokevirtual 76) := ⟨by decide +kernel, rfl⟩
theorem d_X_feed_31 : vm_D q_X_feed.2.1 31 2 33 (.aload 6) := ⟨by decide +kernel, rfl⟩
theorem d_X_feed_33 : vm_D q_X_feed.2.1 33 1 34 (.iload_n 2) := ⟨by decide +kernel, rfl⟩
theorem d_X_feed_34 : vm_D q_X_feed.2.1 34 3 37 (.invokevirtual 76) := ⟨by decide +kernel, rfl⟩
theorem d_X_feed_37 : vm_D q_X_feed.2.1 37 2 39 (.aload 6) := ⟨by decide +kernel, rfl⟩
theorem d_X_feed_39 : vm_D q_X_feed.2.1 39 1 40 (.iload_n 3) := ⟨by decide +kernel, rfl⟩
theorem d_X_feed_40 : vm_D q_X_feed.2.1 40 3 43 (.invokevirtual 76) := ⟨by decide +kernel, rfl⟩
theorem d_X_feed_43 : vm_D q_X_feed.2.1 43 2 45 (.aload 6) := ⟨by decide +kernel, rfl⟩
theorem d_X_feed_45 : vm_D q_X_feed.2.1 45 2 47 (.iload 4) := ⟨by decide +kernel, rfl⟩
theorem d_X_feed_47 : vm_D q_X_feed.2.1 47 3 50 (.invokevirtual 76) := ⟨by decide +kernel, rfl⟩
theorem d_X_feed_50 : vm_D q_X_feed.2.1 50 2 52 (.aload 6) := ⟨by decide +kernel, rfl⟩
theorem d_X_feed_52 : vm_D q_X_feed.2.1 52 2 54 (.iload 5) := ⟨by decide +kernel, rfl⟩
theorem d_X_feed_54 : vm_D q_X_feed.2.1 54 3 57 (.invokevirtual 76) := ⟨by decide +kernel, rfl⟩
theorem d_X_feed_57 : vm_D q_X_feed.2.1 57 2 59 (.aload 6) := ⟨by decide +kernel, rfl⟩
theorem d_X_feed_59 : vm_D q_X_feed.2.1 59 3 62 (.getfield 70) := ⟨by decide +kernel, rfl⟩
theorem d_X_feed_62 : vm_D q_X_feed.2.1 62 1 63 (.ireturn) := ⟨by decide +kernel, rfl⟩
theorem d_X_feed_23 : vm_D q_X_feed.2.1 23 1 24 (.iconst (-1)) := ⟨by decide +kernel, rfl⟩
theorem d_X_feed_24 : vm_D q_X_feed.2.1 24 1 25 (.ireturn) := ⟨by decide +kernel, rfl⟩
def q_X_end : vm_Y := ("RepeatFree", cX10_end, 2, false, [])
theorem d_X_end_0 : vm_D q_X_end.2.1 0 1 1 (.iload_n 1) := ⟨by decide +kernel, rfl⟩
theorem d_X_end_1 : vm_B q_X_end.2.1 1 4 18 (fun o => .ifCond .lt o) := ⟨17, by decide +kernel, rfl, by decide⟩
theorem d_X_end_18 : vm_D q_X_end.2.1 18 1 19 (.iconst 0) := ⟨by decide +kernel, rfl⟩
theorem d_X_end_19 : vm_D q_X_end.2.1 19 1 20 (.ireturn) := ⟨by decide +kernel, rfl⟩
theorem d_X_end_4 : vm_D q_X_end.2.1 4 1 5 (.iload_n 1) := ⟨by decide +kernel, rfl⟩
theorem d_X_end_5 : vm_D q_X_end.2.1 5 1 6 (.aload_n 0) := ⟨by decide +kernel, rfl⟩
theorem d_X_end_6 : vm_D q_X_end.2.1 6 3 9 (.getfield 10) := ⟨by decide +kernel, rfl⟩
theorem d_X_end_9 : vm_D q_X_end.2.1 9 3 12 (.getfield 66) := ⟨by decide +kernel, rfl⟩
theorem d_X_end_12 : vm_D q_X_end.2.1 12 3 15 (.getfield 70) := ⟨by decide +kernel, rfl⟩
theorem d_X_end_15 : vm_B q_X_end.2.1 15 18 20 (fun o => .if_icmp .le o) := ⟨5, by decide +kernel, rfl, by decide⟩
theorem d_X_end_20 : vm_D q_X_end.2.1 20 1 21 (.aload_n 0) := ⟨by decide +kernel, rfl⟩
theorem d_X_end_21 : vm_D q_X_end.2.1 21 3 24 (.getfield 10) := ⟨by decide +kernel, rfl⟩
theorem d_X_end_24 : vm_D q_X_end.2.1 24 3 27 (.getfield 66) := ⟨by decide +kernel, rfl⟩
theorem d_X_end_27 : vm_D q_X_end.2.1 27 1 28 (.iload_n 1) := ⟨by decide +kernel, rfl⟩
theorem d_X_end_28 : vm_D q_X_end.2.1 28 3 31 (.putfield 70) := ⟨by decide +kernel, rfl⟩
theorem d_X_end_31 : vm_D q_X_end.2.1 31 1 32 (.iconst 1) := ⟨by decide +kernel, rfl⟩
theorem d_X_end_32 : vm_D q_X_end.2.1 32 1 33 (.ireturn) := ⟨by decide +kernel, rfl⟩
def q_X_read : vm_Y := ("RepeatFree", cX10_read, 3, false, [])
theorem d_X_read_0 : vm_D q_X_read.2.1 0 1 1 (.aload_n 0) := ⟨by decide +kernel, rfl⟩
theorem d_X_read_1 : vm_D q_X_read.2.1 1 3 4 (.getfield 10) := ⟨by decide +kernel, rfl⟩
theorem d_X_read_4 : vm_D q_X_read.2.1 4 1 5 (.aload_n 0) := ⟨by decide +kernel, rfl⟩
theorem d_X_read_5 : vm_D q_X_read.2.1 5 3 8 (.getfield 23) := ⟨by decide +kernel, rfl⟩
theorem d_X_read_8 : vm_D q_X_read.2.1 8 3 11 (.invokevirtual 80) := ⟨by decide +kernel, rfl⟩
theorem d_X_read_11 : vm_D q_X_read.2.1 11 1 12 (.istore_n 1) := ⟨by decide +kernel, rfl⟩
theorem d_X_read_12 : vm_D q_X_read.2.1 12 1 13 (.aload_n 0) := ⟨by decide +kernel, rfl⟩
theorem d_X_read_13 : vm_D q_X_read.2.1 13 3 16 (.getfield 10) := ⟨by decide +kernel, rfl⟩
theorem d_X_read_16 : vm_D q_X_read.2.1 16 3 19 (.getfield 66) := ⟨by decide +kernel, rfl⟩
theorem d_X_read_19 : vm_D q_X_read.2.1 19 1 20 (.iconst 0) := ⟨by decide +kernel, rfl⟩
theorem d_X_read_20 : vm_D q_X_read.2.1 20 3 23 (.putfield 70) := ⟨by decide +kernel, rfl⟩
theorem d_X_read_23 : vm_D q_X_read.2.1 23 1 24 (.iload_n 1) := ⟨by decide +kernel, rfl⟩
theorem d_X_read_24 : vm_B q_X_read.2.1 24 27 35 (fun o => .ifCond .ne o) := ⟨11, by decide +kernel, rfl, by decide⟩
theorem d_X_read_35 : vm_D q_X_read.2.1 35 1 36 (.aload_n 0) := ⟨by decide +kernel, rfl⟩
theorem d_X_read_36 : vm_D q_X_read.2.1 36 3 39 (.getfield 19) := ⟨by decide +kernel, rfl⟩
theorem d_X_read_39 : vm_D q_X_read.2.1 39 1 40 (.astore_n 2) := ⟨by decide +kernel, rfl⟩
theorem d_X_read_40 : vm_D q_X_read.2.1 40 1 41 (.aload_n 0) := ⟨by decide +kernel, rfl⟩
theorem d_X_read_41 : vm_D q_X_read.2.1 41 1 42 (.aload_n 0) := ⟨by decide +kernel, rfl⟩
theorem d_X_read_42 : vm_D q_X_read.2.1 42 3 45 (.getfield 23) := ⟨by decide +kernel, rfl⟩
theorem d_X_read_45 : vm_D q_X_read.2.1 45 3 48 (.putfield 19) := ⟨by decide +kernel, rfl⟩
theorem d_X_read_48 : vm_D q_X_read.2.1 48 1 49 (.aload_n 0) := ⟨by decide +kernel, rfl⟩
theorem d_X_read_49 : vm_D q_X_read.2.1 49 1 50 (.aload_n 2) := ⟨by decide +kernel, rfl⟩
theorem d_X_read_50 : vm_D q_X_read.2.1 50 3 53 (.putfield 23) := ⟨by decide +kernel, rfl⟩
theorem d_X_read_53 : vm_D q_X_read.2.1 53 1 54 (.aload_n 0) := ⟨by decide +kernel, rfl⟩
theorem d_X_read_54 : vm_D q_X_read.2.1 54 3 57 (.getfield 36) := ⟨by decide +kernel, rfl⟩
theorem d_X_read_57 : vm_D q_X_read.2.1 57 3 60 (.invokevirtual 87) := ⟨by decide +kernel, rfl⟩
theorem d_X_read_60 : vm_D q_X_read.2.1 60 1 61 (.aload_n 0) := ⟨by decide +kernel, rfl⟩
theorem d_X_read_61 : vm_D q_X_read.2.1 61 3 64 (.getfield 53) := ⟨by decide +kernel, rfl⟩
theorem d_X_read_64 : vm_D q_X_read.2.1 64 3 67 (.invokevirtual 90) := ⟨by decide +kernel, rfl⟩
theorem d_X_read_67 : vm_D q_X_read.2.1 67 1 68 (.aload_n 0) := ⟨by decide +kernel, rfl⟩
theorem d_X_read_68 : vm_D q_X_read.2.1 68 3 71 (.getfield 19) := ⟨by decide +kernel, rfl⟩
theorem d_X_read_71 : vm_D q_X_read.2.1 71 3 74 (.getfield 91) := ⟨by decide +kernel, rfl⟩
theorem d_X_read_74 : vm_D q_X_read.2.1 74 1 75 (.ireturn) := ⟨by decide +kernel, rfl⟩
theorem d_X_read_27 : vm_D q_X_read.2.1 27 3 30 (.new 84) := ⟨by decide +kernel, rfl⟩
theorem d_X_read_30 : vm_D q_X_read.2.1 30 1 31 (.dup) := ⟨by decide +kernel, rfl⟩
theorem d_X_read_31 : vm_D q_X_read.2.1 31 3 34 (.invokespecial 86) := ⟨by decide +kernel, rfl⟩
theorem d_X_read_34 : vm_D q_X_read.2.1 34 1 35 (.athrow) := ⟨by decide +kernel, rfl⟩
def q_X_become : vm_Y := ("RepeatFree", cX10_become, 2, false, [])
theorem d_X_become_0 : vm_D q_X_become.2.1 0 1 1 (.aload_n 0) := ⟨by decide +kernel, rfl⟩
theorem d_X_become_1 : vm_D q_X_become.2.1 1 3 4 (.getfield 53) := ⟨by decide +kernel, rfl⟩
theorem d_X_become_4 : vm_D q_X_become.2.1 4 1 5 (.aload_n 0) := ⟨by decide +kernel, rfl⟩
theorem d_X_become_5 : vm_D q_X_become.2.1 5 3 8 (.getfield 36) := ⟨by decide +kernel, rfl⟩
theorem d_X_become_8 : vm_D q_X_become.2.1 8 3 11 (.invokevirtual 116) := ⟨by decide +kernel, rfl⟩
theorem d_X_become_11 : vm_D q_X_become.2.1 11 1 12 (.aload_n 0) := ⟨by decide +kernel, rfl⟩
theorem d_X_become_12 : vm_D q_X_become.2.1 12 3 15 (.getfield 36) := ⟨by decide +kernel, rfl⟩
theorem d_X_become_15 : vm_D q_X_become.2.1 15 1 16 (.aload_n 1) := ⟨by decide +kernel, rfl⟩
theorem d_X_become_16 : vm_D q_X_become.2.1 16 1 17 (.aload_n 1) := ⟨by decide +kernel, rfl⟩
theorem d_X_become_17 : vm_D q_X_become.2.1 17 3 20 (.getfield 102) := ⟨by decide +kernel, rfl⟩
theorem d_X_become_20 : vm_D q_X_become.2.1 20 3 23 (.invokevirtual 131) := ⟨by decide +kernel, rfl⟩
theorem d_X_become_23 : vm_D q_X_become.2.1 23 1 24 (.return_) := ⟨by decide +kernel, rfl⟩
def q_X_word : vm_Y := ("RepeatFree", cX10_word, 2, false, [])
theorem d_X_word_0 : vm_D q_X_word.2.1 0 1 1 (.aload_n 0) := ⟨by decide +kernel, rfl⟩
theorem d_X_word_1 : vm_D q_X_word.2.1 1 3 4 (.getfield 10) := ⟨by decide +kernel, rfl⟩
theorem d_X_word_4 : vm_D q_X_word.2.1 4 1 5 (.aload_n 0) := ⟨by decide +kernel, rfl⟩
theorem d_X_word_5 : vm_D q_X_word.2.1 5 3 8 (.getfield 19) := ⟨by decide +kernel, rfl⟩
theorem d_X_word_8 : vm_D q_X_word.2.1 8 3 11 (.getfield 91) := ⟨by decide +kernel, rfl⟩
theorem d_X_word_11 : vm_D q_X_word.2.1 11 1 12 (.aload_n 0) := ⟨by decide +kernel, rfl⟩
theorem d_X_word_12 : vm_D q_X_word.2.1 12 3 15 (.getfield 40) := ⟨by decide +kernel, rfl⟩
theorem d_X_word_15 : vm_D q_X_word.2.1 15 3 18 (.invokevirtual 94) := ⟨by decide +kernel, rfl⟩
theorem d_X_word_18 : vm_D q_X_word.2.1 18 1 19 (.istore_n 1) := ⟨by decide +kernel, rfl⟩
theorem d_X_word_19 : vm_D q_X_word.2.1 19 1 20 (.aload_n 0) := ⟨by decide +kernel, rfl⟩
theorem d_X_word_20 : vm_D q_X_word.2.1 20 3 23 (.getfield 10) := ⟨by decide +kernel, rfl⟩
theorem d_X_word_23 : vm_D q_X_word.2.1 23 3 26 (.getfield 66) := ⟨by decide +kernel, rfl⟩
theorem d_X_word_26 : vm_D q_X_word.2.1 26 1 27 (.iconst 0) := ⟨by decide +kernel, rfl⟩
theorem d_X_word_27 : vm_D q_X_word.2.1 27 3 30 (.putfield 70) := ⟨by decide +kernel, rfl⟩
theorem d_X_word_30 : vm_D q_X_word.2.1 30 1 31 (.iload_n 1) := ⟨by decide +kernel, rfl⟩
theorem d_X_word_31 : vm_B q_X_word.2.1 31 34 42 (fun o => .ifCond .ne o) := ⟨11, by decide +kernel, rfl, by decide⟩
theorem d_X_word_42 : vm_D q_X_word.2.1 42 1 43 (.aload_n 0) := ⟨by decide +kernel, rfl⟩
theorem d_X_word_43 : vm_D q_X_word.2.1 43 1 44 (.aload_n 0) := ⟨by decide +kernel, rfl⟩
theorem d_X_word_44 : vm_D q_X_word.2.1 44 3 47 (.getfield 40) := ⟨by decide +kernel, rfl⟩
theorem d_X_word_47 : vm_D q_X_word.2.1 47 3 50 (.invokevirtual 98) := ⟨by decide +kernel, rfl⟩
theorem d_X_word_50 : vm_D q_X_word.2.1 50 1 51 (.aload_n 0) := ⟨by decide +kernel, rfl⟩
theorem d_X_word_51 : vm_D q_X_word.2.1 51 3 54 (.getfield 36) := ⟨by decide +kernel, rfl⟩
theorem d_X_word_54 : vm_D q_X_word.2.1 54 3 57 (.getfield 102) := ⟨by decide +kernel, rfl⟩
theorem d_X_word_57 : vm_D q_X_word.2.1 57 1 58 (.ireturn) := ⟨by decide +kernel, rfl⟩
theorem d_X_word_34 : vm_D q_X_word.2.1 34 3 37 (.new 84) := ⟨by decide +kernel, rfl⟩
theorem d_X_word_37 : vm_D q_X_word.2.1 37 1 38 (.dup) := ⟨by decide +kernel, rfl⟩
theorem d_X_word_38 : vm_D q_X_word.2.1 38 3 41 (.invokespecial 86) := ⟨by decide +kernel, rfl⟩
theorem d_X_word_41 : vm_D q_X_word.2.1 41 1 42 (.athrow) := ⟨by decide +kernel, rfl⟩
def q_X_fault : vm_Y := ("RepeatFree", cX10_fault, 1, false, [])
theorem d_X_fault_0 : vm_D q_X_fault.2.1 0 1 1 (.aload_n 0) := ⟨by decide +kernel, rfl⟩
theorem d_X_fault_1 : vm_D q_X_fault.2.1 1 3 4 (.getfield 10) := ⟨by decide +kernel, rfl⟩
theorem d_X_fault_4 : vm_D q_X_fault.2.1 4 3 7 (.getfield 103) := ⟨by decide +kernel, rfl⟩
theorem d_X_fault_7 : vm_D q_X_fault.2.1 7 1 8 (.ireturn) := ⟨by decide +kernel, rfl⟩
def q_X_letter : vm_Y := ("RepeatFree", cX10_letter, 2, false, [])
theorem d_X_letter_0 : vm_D q_X_letter.2.1 0 1 1 (.aload_n 0) := ⟨by decide +kernel, rfl⟩
theorem d_X_letter_1 : vm_D q_X_letter.2.1 1 3 4 (.getfield 36) := ⟨by decide +kernel, rfl⟩
theorem d_X_letter_4 : vm_D q_X_letter.2.1 4 1 5 (.iload_n 1) := ⟨by decide +kernel, rfl⟩
theorem d_X_letter_5 : vm_D q_X_letter.2.1 5 3 8 (.invokevirtual 106) := ⟨by decide +kernel, rfl⟩
theorem d_X_letter_8 : vm_D q_X_letter.2.1 8 1 9 (.ireturn) := ⟨by decide +kernel, rfl⟩
def q_X_checkLetter : vm_Y := ("RepeatFree", cX10_checkLetter, 2, false, [])
theorem d_X_checkLetter_0 : vm_D q_X_checkLetter.2.1 0 1 1 (.iload_n 1) := ⟨by decide +kernel, rfl⟩
theorem d_X_checkLetter_1 : vm_B q_X_checkLetter.2.1 1 4 15 (fun o => .ifCond .lt o) := ⟨14, by decide +kernel, rfl, by decide⟩
theorem d_X_checkLetter_15 : vm_D q_X_checkLetter.2.1 15 3 18 (.new 84) := ⟨by decide +kernel, rfl⟩
theorem d_X_checkLetter_18 : vm_D q_X_checkLetter.2.1 18 1 19 (.dup) := ⟨by decide +kernel, rfl⟩
theorem d_X_checkLetter_19 : vm_D q_X_checkLetter.2.1 19 3 22 (.invokespecial 86) := ⟨by decide +kernel, rfl⟩
theorem d_X_checkLetter_22 : vm_D q_X_checkLetter.2.1 22 1 23 (.athrow) := ⟨by decide +kernel, rfl⟩
theorem d_X_checkLetter_4 : vm_D q_X_checkLetter.2.1 4 1 5 (.iload_n 1) := ⟨by decide +kernel, rfl⟩
theorem d_X_checkLetter_5 : vm_D q_X_checkLetter.2.1 5 1 6 (.aload_n 0) := ⟨by decide +kernel, rfl⟩
theorem d_X_checkLetter_6 : vm_D q_X_checkLetter.2.1 6 3 9 (.getfield 19) := ⟨by decide +kernel, rfl⟩
theorem d_X_checkLetter_9 : vm_D q_X_checkLetter.2.1 9 3 12 (.getfield 91) := ⟨by decide +kernel, rfl⟩
theorem d_X_checkLetter_12 : vm_B q_X_checkLetter.2.1 12 15 23 (fun o => .if_icmp .lt o) := ⟨11, by decide +kernel, rfl, by decide⟩
theorem d_X_checkLetter_23 : vm_D q_X_checkLetter.2.1 23 1 24 (.return_) := ⟨by decide +kernel, rfl⟩
def q_X_push : vm_Y := ("RepeatFree", cX10_push, 2, false, [])
theorem d_X_push_0 : vm_D q_X_push.2.1 0 1 1 (.aload_n 0) := ⟨by decide +kernel, rfl⟩
theorem d_X_push_1 : vm_D q_X_push.2.1 1 1 2 (.iload_n 1) := ⟨by decide +kernel, rfl⟩
theorem d_X_push_2 : vm_D q_X_push.2.1 2 3 5 (.invokevirtual 110) := ⟨by decide +kernel, rfl⟩
theorem d_X_push_5 : vm_D q_X_push.2.1 5 1 6 (.aload_n 0) := ⟨by decide +kernel, rfl⟩
theorem d_X_push_6 : vm_D q_X_push.2.1 6 3 9 (.getfield 36) := ⟨by decide +kernel, rfl⟩
theorem d_X_push_9 : vm_D q_X_push.2.1 9 3 12 (.getfield 102) := ⟨by decide +kernel, rfl⟩
theorem d_X_push_12 : vm_D q_X_push.2.1 12 2 14 (.bipush 64) := ⟨by decide +kernel, rfl⟩
theorem d_X_push_14 : vm_B q_X_push.2.1 14 17 25 (fun o => .if_icmp .lt o) := ⟨11, by decide +kernel, rfl, by decide⟩
theorem d_X_push_25 : vm_D q_X_push.2.1 25 1 26 (.aload_n 0) := ⟨by decide +kernel, rfl⟩
theorem d_X_push_26 : vm_D q_X_push.2.1 26 3 29 (.getfield 53) := ⟨by decide +kernel, rfl⟩
theorem d_X_push_29 : vm_D q_X_push.2.1 29 1 30 (.aload_n 0) := ⟨by decide +kernel, rfl⟩
theorem d_X_push_30 : vm_D q_X_push.2.1 30 3 33 (.getfield 36) := ⟨by decide +kernel, rfl⟩
theorem d_X_push_33 : vm_D q_X_push.2.1 33 3 36 (.invokevirtual 116) := ⟨by decide +kernel, rfl⟩
theorem d_X_push_36 : vm_D q_X_push.2.1 36 1 37 (.aload_n 0) := ⟨by decide +kernel, rfl⟩
theorem d_X_push_37 : vm_D q_X_push.2.1 37 3 40 (.getfield 36) := ⟨by decide +kernel, rfl⟩
theorem d_X_push_40 : vm_D q_X_push.2.1 40 1 41 (.iload_n 1) := ⟨by decide +kernel, rfl⟩
theorem d_X_push_41 : vm_D q_X_push.2.1 41 3 44 (.invokevirtual 119) := ⟨by decide +kernel, rfl⟩
theorem d_X_push_44 : vm_D q_X_push.2.1 44 1 45 (.aload_n 0) := ⟨by decide +kernel, rfl⟩
theorem d_X_push_45 : vm_D q_X_push.2.1 45 3 48 (.getfield 36) := ⟨by decide +kernel, rfl⟩
theorem d_X_push_48 : vm_D q_X_push.2.1 48 3 51 (.getfield 102) := ⟨by decide +kernel, rfl⟩
theorem d_X_push_51 : vm_D q_X_push.2.1 51 1 52 (.ireturn) := ⟨by decide +kernel, rfl⟩
theorem d_X_push_17 : vm_D q_X_push.2.1 17 3 20 (.new 113) := ⟨by decide +kernel, rfl⟩
theorem d_X_push_20 : vm_D q_X_push.2.1 20 1 21 (.dup) := ⟨by decide +kernel, rfl⟩
theorem d_X_push_21 : vm_D q_X_push.2.1 21 3 24 (.invokespecial 115) := ⟨by decide +kernel, rfl⟩
theorem d_X_push_24 : vm_D q_X_push.2.1 24 1 25 (.athrow) := ⟨by decide +kernel, rfl⟩
def q_X_pop : vm_Y := ("RepeatFree", cX10_pop, 1, false, [])
theorem d_X_pop_0 : vm_D q_X_pop.2.1 0 1 1 (.aload_n 0) := ⟨by decide +kernel, rfl⟩
theorem d_X_pop_1 : vm_D q_X_pop.2.1 1 3 4 (.getfield 36) := ⟨by decide +kernel, rfl⟩
theorem d_X_pop_4 : vm_D q_X_pop.2.1 4 3 7 (.getfield 102) := ⟨by decide +kernel, rfl⟩
theorem d_X_pop_7 : vm_B q_X_pop.2.1 7 10 18 (fun o => .ifCond .ne o) := ⟨11, by decide +kernel, rfl, by decide⟩
theorem d_X_pop_18 : vm_D q_X_pop.2.1 18 1 19 (.aload_n 0) := ⟨by decide +kernel, rfl⟩
theorem d_X_pop_19 : vm_D q_X_pop.2.1 19 3 22 (.getfield 53) := ⟨by decide +kernel, rfl⟩
theorem d_X_pop_22 : vm_D q_X_pop.2.1 22 1 23 (.aload_n 0) := ⟨by decide +kernel, rfl⟩
theorem d_X_pop_23 : vm_D q_X_pop.2.1 23 3 26 (.getfield 36) := ⟨by decide +kernel, rfl⟩
theorem d_X_pop_26 : vm_D q_X_pop.2.1 26 3 29 (.invokevirtual 116) := ⟨by decide +kernel, rfl⟩
theorem d_X_pop_29 : vm_D q_X_pop.2.1 29 1 30 (.aload_n 0) := ⟨by decide +kernel, rfl⟩
theorem d_X_pop_30 : vm_D q_X_pop.2.1 30 3 33 (.getfield 36) := ⟨by decide +kernel, rfl⟩
theorem d_X_pop_33 : vm_D q_X_pop.2.1 33 3 36 (.invokevirtual 120) := ⟨by decide +kernel, rfl⟩
theorem d_X_pop_36 : vm_D q_X_pop.2.1 36 1 37 (.ireturn) := ⟨by decide +kernel, rfl⟩
theorem d_X_pop_10 : vm_D q_X_pop.2.1 10 3 13 (.new 113) := ⟨by decide +kernel, rfl⟩
theorem d_X_pop_13 : vm_D q_X_pop.2.1 13 1 14 (.dup) := ⟨by decide +kernel, rfl⟩
theorem d_X_pop_14 : vm_D q_X_pop.2.1 14 3 17 (.invokespecial 115) := ⟨by decide +kernel, rfl⟩
theorem d_X_pop_17 : vm_D q_X_pop.2.1 17 1 18 (.athrow) := ⟨by decide +kernel, rfl⟩
def q_X_undo : vm_Y := ("RepeatFree", cX10_undo, 1, false, [])
theorem d_X_undo_0 : vm_D q_X_undo.2.1 0 1 1 (.aload_n 0) := ⟨by decide +kernel, rfl⟩
theorem d_X_undo_1 : vm_D q_X_undo.2.1 1 3 4 (.getfield 53) := ⟨by decide +kernel, rfl⟩
theorem d_X_undo_4 : vm_D q_X_undo.2.1 4 1 5 (.aload_n 0) := ⟨by decide +kernel, rfl⟩
theorem d_X_undo_5 : vm_D q_X_undo.2.1 5 3 8 (.getfield 36) := ⟨by decide +kernel, rfl⟩
theorem d_X_undo_8 : vm_D q_X_undo.2.1 8 3 11 (.invokevirtual 124) := ⟨by decide +kernel, rfl⟩
theorem d_X_undo_11 : vm_B q_X_undo.2.1 11 14 24 (fun o => .ifCond .eq o) := ⟨13, by decide +kernel, rfl, by decide⟩
theorem d_X_undo_24 : vm_D q_X_undo.2.1 24 1 25 (.iconst (-1)) := ⟨by decide +kernel, rfl⟩
theorem d_X_undo_25 : vm_D q_X_undo.2.1 25 1 26 (.ireturn) := ⟨by decide +kernel, rfl⟩
theorem d_X_undo_14 : vm_D q_X_undo.2.1 14 1 15 (.aload_n 0) := ⟨by decide +kernel, rfl⟩
theorem d_X_undo_15 : vm_D q_X_undo.2.1 15 3 18 (.getfield 53) := ⟨by decide +kernel, rfl⟩
theorem d_X_undo_18 : vm_D q_X_undo.2.1 18 3 21 (.getfield 128) := ⟨by decide +kernel, rfl⟩
theorem d_X_undo_21 : ∃ off : Int, decode q_X_undo.2.1 21 = .ok (.goto off, 3) ∧ ((21 : Nat) : Int) + off = ((25 : Nat) : Int) := ⟨4, by decide +kernel, by decide⟩
def q_X_checkRange : vm_Y := ("RepeatFree", cX10_checkRange, 4, false, [])
theorem d_X_checkRange_0 : vm_D q_X_checkRange.2.1 0 1 1 (.iload_n 1) := ⟨by decide +kernel, rfl⟩
theorem d_X_checkRange_1 : vm_D q_X_checkRange.2.1 1 1 2 (.iload_n 2) := ⟨by decide +kernel, rfl⟩
theorem d_X_checkRange_2 : vm_B q_X_checkRange.2.1 2 5 10 (fun o => .if_icmp .lt o) := ⟨8, by decide +kernel, rfl, by decide⟩
theorem d_X_checkRange_10 : vm_D q_X_checkRange.2.1 10 3 13 (.new 84) := ⟨by decide +kernel, rfl⟩
theorem d_X_checkRange_13 : vm_D q_X_checkRange.2.1 13 1 14 (.dup) := ⟨by decide +kernel, rfl⟩
theorem d_X_checkRange_14 : vm_D q_X_checkRange.2.1 14 3 17 (.invokespecial 86) := ⟨by decide +kernel, rfl⟩
theorem d_X_checkRange_17 : vm_D q_X_checkRange.2.1 17 1 18 (.athrow) := ⟨by decide +kernel, rfl⟩
theorem d_X_checkRange_5 : vm_D q_X_checkRange.2.1 5 1 6 (.iload_n 1) := ⟨by decide +kernel, rfl⟩
theorem d_X_checkRange_6 : vm_D q_X_checkRange.2.1 6 1 7 (.iload_n 3) := ⟨by decide +kernel, rfl⟩
theorem d_X_checkRange_7 : vm_B q_X_checkRange.2.1 7 10 18 (fun o => .if_icmp .le o) := ⟨11, by decide +kernel, rfl, by decide⟩
theorem d_X_checkRange_18 : vm_D q_X_checkRange.2.1 18 1 19 (.return_) := ⟨by decide +kernel, rfl⟩
def q_X_checkWhat : vm_Y := ("RepeatFree", cX10_checkWhat, 3, false, [])
theorem d_X_checkWhat_0 : vm_D q_X_checkWhat.2.1 0 1 1 (.iload_n 1) := ⟨by decide +kernel, rfl⟩
theorem d_X_checkWhat_1 : vm_B q_X_checkWhat.2.1 1 4 9 (fun o => .ifCond .lt o) := ⟨8, by decide +kernel, rfl, by decide⟩
theorem d_X_checkWhat_9 : vm_D q_X_checkWhat.2.1 9 3 12 (.new 135) := ⟨by decide +kernel, rfl⟩
theorem d_X_checkWhat_12 : vm_D q_X_checkWhat.2.1 12 1 13 (.dup) := ⟨by decide +kernel, rfl⟩
theorem d_X_checkWhat_13 : vm_D q_X_checkWhat.2.1 13 3 16 (.invokespecial 137) := ⟨by decide +kernel, rfl⟩
theorem d_X_checkWhat_16 : vm_D q_X_checkWhat.2.1 16 1 17 (.athrow) := ⟨by decide +kernel, rfl⟩
theorem d_X_checkWhat_4 : vm_D q_X_checkWhat.2.1 4 1 5 (.iload_n 1) := ⟨by decide +kernel, rfl⟩
theorem d_X_checkWhat_5 : vm_D q_X_checkWhat.2.1 5 1 6 (.iload_n 2) := ⟨by decide +kernel, rfl⟩
theorem d_X_checkWhat_6 : vm_B q_X_checkWhat.2.1 6 9 17 (fun o => .if_icmp .le o) := ⟨11, by decide +kernel, rfl, by decide⟩
theorem d_X_checkWhat_17 : vm_D q_X_checkWhat.2.1 17 1 18 (.return_) := ⟨by decide +kernel, rfl⟩
def q_X_mapOf : vm_Y := ("RepeatFree", cX10_mapOf, 3, false, [])
theorem d_X_mapOf_0 : vm_D q_X_mapOf.2.1 0 1 1 (.iload_n 1) := ⟨by decide +kernel, rfl⟩
theorem d_X_mapOf_1 : vm_D q_X_mapOf.2.1 1 1 2 (.aload_n 0) := ⟨by decide +kernel, rfl⟩
theorem d_X_mapOf_2 : vm_D q_X_mapOf.2.1 2 3 5 (.getfield 19) := ⟨by decide +kernel, rfl⟩
theorem d_X_mapOf_5 : vm_D q_X_mapOf.2.1 5 3 8 (.getfield 138) := ⟨by decide +kernel, rfl⟩
theorem d_X_mapOf_8 : vm_B q_X_mapOf.2.1 8 11 22 (fun o => .if_icmp .ge o) := ⟨14, by decide +kernel, rfl, by decide⟩
theorem d_X_mapOf_23 : vm_D q_X_mapOf.2.1 23 1 24 (.astore_n 2) := ⟨by decide +kernel, rfl⟩
theorem d_X_mapOf_24 : vm_D q_X_mapOf.2.1 24 1 25 (.aload_n 2) := ⟨by decide +kernel, rfl⟩
theorem d_X_mapOf_25 : vm_B q_X_mapOf.2.1 25 28 36 (fun o => .ifnonnull o) := ⟨11, by decide +kernel, rfl, by decide⟩
theorem d_X_mapOf_36 : vm_D q_X_mapOf.2.1 36 1 37 (.aload_n 2) := ⟨by decide +kernel, rfl⟩
theorem d_X_mapOf_37 : vm_D q_X_mapOf.2.1 37 1 38 (.areturn) := ⟨by decide +kernel, rfl⟩
theorem d_X_mapOf_28 : vm_D q_X_mapOf.2.1 28 3 31 (.new 145) := ⟨by decide +kernel, rfl⟩
theorem d_X_mapOf_31 : vm_D q_X_mapOf.2.1 31 1 32 (.dup) := ⟨by decide +kernel, rfl⟩
theorem d_X_mapOf_32 : vm_D q_X_mapOf.2.1 32 3 35 (.invokespecial 147) := ⟨by decide +kernel, rfl⟩
theorem d_X_mapOf_35 : vm_D q_X_mapOf.2.1 35 1 36 (.athrow) := ⟨by decide +kernel, rfl⟩
theorem d_X_mapOf_22 : vm_D q_X_mapOf.2.1 22 1 23 (.aconst_null) := ⟨by decide +kernel, rfl⟩
theorem d_X_mapOf_11 : vm_D q_X_mapOf.2.1 11 1 12 (.aload_n 0) := ⟨by decide +kernel, rfl⟩
theorem d_X_mapOf_12 : vm_D q_X_mapOf.2.1 12 3 15 (.getfield 19) := ⟨by decide +kernel, rfl⟩
theorem d_X_mapOf_15 : vm_D q_X_mapOf.2.1 15 1 16 (.iload_n 1) := ⟨by decide +kernel, rfl⟩
theorem d_X_mapOf_16 : vm_D q_X_mapOf.2.1 16 3 19 (.invokevirtual 141) := ⟨by decide +kernel, rfl⟩
theorem d_X_mapOf_19 : ∃ off : Int, decode q_X_mapOf.2.1 19 = .ok (.goto off, 3) ∧ ((19 : Nat) : Int) + off = ((23 : Nat) : Int) := ⟨4, by decide +kernel, by decide⟩
def q_X_shapeOf : vm_Y := ("RepeatFree", cX10_shapeOf, 3, false, [])
theorem d_X_shapeOf_0 : vm_D q_X_shapeOf.2.1 0 1 1 (.iload_n 1) := ⟨by decide +kernel, rfl⟩
theorem d_X_shapeOf_1 : vm_D q_X_shapeOf.2.1 1 1 2 (.aload_n 0) := ⟨by decide +kernel, rfl⟩
theorem d_X_shapeOf_2 : vm_D q_X_shapeOf.2.1 2 3 5 (.getfield 19) := ⟨by decide +kernel, rfl⟩
theorem d_X_shapeOf_5 : vm_D q_X_shapeOf.2.1 5 3 8 (.getfield 148) := ⟨by decide +kernel, rfl⟩
theorem d_X_shapeOf_8 : vm_B q_X_shapeOf.2.1 8 11 22 (fun o => .if_icmp .ge o) := ⟨14, by decide +kernel, rfl, by decide⟩
theorem d_X_shapeOf_23 : vm_D q_X_shapeOf.2.1 23 1 24 (.astore_n 2) := ⟨by decide +kernel, rfl⟩
theorem d_X_shapeOf_24 : vm_D q_X_shapeOf.2.1 24 1 25 (.aload_n 2) := ⟨by decide +kernel, rfl⟩
theorem d_X_shapeOf_25 : vm_B q_X_shapeOf.2.1 25 28 36 (fun o => .ifnonnull o) := ⟨11, by decide +kernel, rfl, by decide⟩
theorem d_X_shapeOf_36 : vm_D q_X_shapeOf.2.1 36 1 37 (.aload_n 2) := ⟨by decide +kernel, rfl⟩
theorem d_X_shapeOf_37 : vm_D q_X_shapeOf.2.1 37 1 38 (.areturn) := ⟨by decide +kernel, rfl⟩
theorem d_X_shapeOf_28 : vm_D q_X_shapeOf.2.1 28 3 31 (.new 145) := ⟨by decide +kernel, rfl⟩
theorem d_X_shapeOf_31 : vm_D q_X_shapeOf.2.1 31 1 32 (.dup) := ⟨by decide +kernel, rfl⟩
theorem d_X_shapeOf_32 : vm_D q_X_shapeOf.2.1 32 3 35 (.invokespecial 147) := ⟨by decide +kernel, rfl⟩
theorem d_X_shapeOf_35 : vm_D q_X_shapeOf.2.1 35 1 36 (.athrow) := ⟨by decide +kernel, rfl⟩
theorem d_X_shapeOf_22 : vm_D q_X_shapeOf.2.1 22 1 23 (.aconst_null) := ⟨by decide +kernel, rfl⟩
theorem d_X_shapeOf_11 : vm_D q_X_shapeOf.2.1 11 1 12 (.aload_n 0) := ⟨by decide +kernel, rfl⟩
theorem d_X_shapeOf_12 : vm_D q_X_shapeOf.2.1 12 3 15 (.getfield 19) := ⟨by decide +kernel, rfl⟩
theorem d_X_shapeOf_15 : vm_D q_X_shapeOf.2.1 15 1 16 (.iload_n 1) := ⟨by decide +kernel, rfl⟩
theorem d_X_shapeOf_16 : vm_D q_X_shapeOf.2.1 16 3 19 (.invokevirtual 151) := ⟨by decide +kernel, rfl⟩
theorem d_X_shapeOf_19 : ∃ off : Int, decode q_X_shapeOf.2.1 19 = .ok (.goto off, 3) ∧ ((19 : Nat) : Int) + off = ((23 : Nat) : Int) := ⟨4, by decide +kernel, by decide⟩
def q_X_free : vm_Y := ("RepeatFree", cX10_free, 1, false, [])
theorem d_X_free_0 : vm_D q_X_free.2.1 0 1 1 (.aload_n 0) := ⟨by decide +kernel, rfl⟩
theorem d_X_free_1 : vm_D q_X_free.2.1 1 3 4 (.getfield 36) := ⟨by decide +kernel, rfl⟩
theorem d_X_free_4 : vm_D q_X_free.2.1 4 1 5 (.aload_n 0) := ⟨by decide +kernel, rfl⟩
theorem d_X_free_5 : vm_D q_X_free.2.1 5 3 8 (.getfield 19) := ⟨by decide +kernel, rfl⟩
theorem d_X_free_8 : vm_D q_X_free.2.1 8 3 11 (.invokevirtual 155) := ⟨by decide +kernel, rfl⟩
theorem d_X_free_11 : vm_D q_X_free.2.1 11 1 12 (.iconst (-1)) := ⟨by decide +kernel, rfl⟩
theorem d_X_free_12 : vm_B q_X_free.2.1 12 15 19 (fun o => .if_icmp .ne o) := ⟨7, by decide +kernel, rfl, by decide⟩
theorem d_X_free_19 : vm_D q_X_free.2.1 19 1 20 (.iconst 0) := ⟨by decide +kernel, rfl⟩
theorem d_X_free_20 : vm_D q_X_free.2.1 20 1 21 (.ireturn) := ⟨by decide +kernel, rfl⟩
theorem d_X_free_15 : vm_D q_X_free.2.1 15 1 16 (.iconst 1) := ⟨by decide +kernel, rfl⟩
theorem d_X_free_16 : ∃ off : Int, decode q_X_free.2.1 16 = .ok (.goto off, 3) ∧ ((16 : Nat) : Int) + off = ((20 : Nat) : Int) := ⟨4, by decide +kernel, by decide⟩
def q_X_ends : vm_Y := ("RepeatFree", cX10_ends, 1, false, [])
theorem d_X_ends_0 : vm_D q_X_ends.2.1 0 1 1 (.aload_n 0) := ⟨by decide +kernel, rfl⟩
theorem d_X_ends_1 : vm_D q_X_ends.2.1 1 3 4 (.getfield 36) := ⟨by decide +kernel, rfl⟩
theorem d_X_ends_4 : vm_D q_X_ends.2.1 4 1 5 (.aload_n 0) := ⟨by decide +kernel, rfl⟩
theorem d_X_ends_5 : vm_D q_X_ends.2.1 5 3 8 (.getfield 19) := ⟨by decide +kernel, rfl⟩
theorem d_X_ends_8 : vm_D q_X_ends.2.1 8 3 11 (.invokevirtual 155) := ⟨by decide +kernel, rfl⟩
theorem d_X_ends_11 : vm_D q_X_ends.2.1 11 1 12 (.ireturn) := ⟨by decide +kernel, rfl⟩
def q_X_greatest : vm_Y := ("RepeatFree", cX10_greatest, 11, false, [])
theorem d_X_greatest_0 : vm_D q_X_greatest.2.1 0 1 1 (.aload_n 0) := ⟨by decide +kernel, rfl⟩
theorem d_X_greatest_1 : vm_D q_X_greatest.2.1 1 1 2 (.iload_n 1) := ⟨by decide +kernel, rfl⟩
theorem d_X_greatest_2 : vm_D q_X_greatest.2.1 2 1 3 (.iconst 2) := ⟨by decide +kernel, rfl⟩
theorem d_X_greatest_3 : vm_D q_X_greatest.2.1 3 3 6 (.invokevirtual 159) := ⟨by decide +kernel, rfl⟩
theorem d_X_greatest_6 : vm_D q_X_greatest.2.1 6 1 7 (.iconst (-1)) := ⟨by decide +kernel, rfl⟩
theorem d_X_greatest_7 : vm_D q_X_greatest.2.1 7 1 8 (.istore_n 2) := ⟨by decide +kernel, rfl⟩
theorem d_X_greatest_8 : vm_D q_X_greatest.2.1 8 1 9 (.iconst (-1)) := ⟨by decide +kernel, rfl⟩
theorem d_X_greatest_9 : vm_D q_X_greatest.2.1 9 1 10 (.istore_n 3) := ⟨by decide +kernel, rfl⟩
theorem d_X_greatest_10 : vm_D q_X_greatest.2.1 10 1 11 (.iconst (-1)) := ⟨by decide +kernel, rfl⟩
theorem d_X_greatest_11 : vm_D q_X_greatest.2.1 11 2 13 (.istore 4) := ⟨by decide +kernel, rfl⟩
theorem d_X_greatest_13 : vm_D q_X_greatest.2.1 13 1 14 (.iconst 0) := ⟨by decide +kernel, rfl⟩
theorem d_X_greatest_14 : vm_D q_X_greatest.2.1 14 2 16 (.istore 5) := ⟨by decide +kernel, rfl⟩
theorem d_X_greatest_16 : vm_D q_X_greatest.2.1 16 2 18 (.iload 5) := ⟨by decide +kernel, rfl⟩
theorem d_X_greatest_18 : vm_D q_X_greatest.2.1 18 1 19 (.aload_n 0) := ⟨by decide +kernel, rfl⟩
theorem d_X_greatest_19 : vm_D q_X_greatest.2.1 19 3 22 (.getfield 36) := ⟨by decide +kernel, rfl⟩
theorem d_X_greatest_22 : vm_D q_X_greatest.2.1 22 3 25 (.getfield 102) := ⟨by decide +kernel, rfl⟩
theorem d_X_greatest_25 : vm_B q_X_greatest.2.1 25 28 152 (fun o => .if_icmp .ge o) := ⟨127, by decide +kernel, rfl, by decide⟩
theorem d_X_greatest_28 : vm_D q_X_greatest.2.1 28 1 29 (.iconst 1) := ⟨by decide +kernel, rfl⟩
theorem d_X_greatest_29 : vm_D q_X_greatest.2.1 29 2 31 (.istore 6) := ⟨by decide +kernel, rfl⟩
theorem d_X_greatest_31 : vm_D q_X_greatest.2.1 31 2 33 (.iload 6) := ⟨by decide +kernel, rfl⟩
theorem d_X_greatest_33 : vm_D q_X_greatest.2.1 33 2 35 (.iload 5) := ⟨by decide +kernel, rfl⟩
theorem d_X_greatest_35 : vm_D q_X_greatest.2.1 35 1 36 (.iconst 1) := ⟨by decide +kernel, rfl⟩
theorem d_X_greatest_36 : vm_D q_X_greatest.2.1 36 1 37 (.iadd) := ⟨by decide +kernel, rfl⟩
theorem d_X_greatest_37 : vm_B q_X_greatest.2.1 37 40 146 (fun o => .if_icmp .gt o) := ⟨109, by decide +kernel, rfl, by decide⟩
theorem d_X_greatest_40 : vm_D q_X_greatest.2.1 40 2 42 (.iload 6) := ⟨by decide +kernel, rfl⟩
theorem d_X_greatest_42 : vm_D q_X_greatest.2.1 42 1 43 (.aload_n 0) := ⟨by decide +kernel, rfl⟩
theorem d_X_greatest_43 : vm_D q_X_greatest.2.1 43 3 46 (.getfield 36) := ⟨by decide +kernel, rfl⟩
theorem d_X_greatest_46 : vm_D q_X_greatest.2.1 46 2 48 (.iload 5) := ⟨by decide +kernel, rfl⟩
theorem d_X_greatest_48 : vm_D q_X_greatest.2.1 48 2 50 (.iload 5) := ⟨by decide +kernel, rfl⟩
theorem d_X_greatest_50 : vm_D q_X_greatest.2.1 50 2 52 (.iload 6) := ⟨by decide +kernel, rfl⟩
theorem d_X_greatest_52 : vm_D q_X_greatest.2.1 52 1 53 (.isub) := ⟨by decide +kernel, rfl⟩
theorem d_X_greatest_53 : vm_D q_X_greatest.2.1 53 3 56 (.invokevirtual 163) := ⟨by decide +kernel, rfl⟩
theorem d_X_greatest_56 : vm_D q_X_greatest.2.1 56 1 57 (.iadd) := ⟨by decide +kernel, rfl⟩
theorem d_X_greatest_57 : vm_D q_X_greatest.2.1 57 2 59 (.istore 7) := ⟨by decide +kernel, rfl⟩
theorem d_X_greatest_59 : vm_D q_X_greatest.2.1 59 2 61 (.iload 5) := ⟨by decide +kernel, rfl⟩
theorem d_X_greatest_61 : vm_D q_X_greatest.2.1 61 2 63 (.iload 7) := ⟨by decide +kernel, rfl⟩
theorem d_X_greatest_63 : vm_D q_X_greatest.2.1 63 1 64 (.isub) := ⟨by decide +kernel, rfl⟩
theorem d_X_greatest_64 : vm_D q_X_greatest.2.1 64 1 65 (.iconst 1) := ⟨by decide +kernel, rfl⟩
theorem d_X_greatest_65 : vm_D q_X_greatest.2.1 65 1 66 (.iadd) := ⟨by decide +kernel, rfl⟩
theorem d_X_greatest_66 : vm_D q_X_greatest.2.1 66 2 68 (.istore 8) := ⟨by decide +kernel, rfl⟩
theorem d_X_greatest_68 : vm_D q_X_greatest.2.1 68 1 69 (.iload_n 2) := ⟨by decide +kernel, rfl⟩
theorem d_X_greatest_69 : vm_D q_X_greatest.2.1 69 1 70 (.iconst (-1)) := ⟨by decide +kernel, rfl⟩
theorem d_X_greatest_70 : vm_B q_X_greatest.2.1 70 73 77 (fun o => .if_icmp .ne o) := ⟨7, by decide +kernel, rfl, by decide⟩
theorem d_X_greatest_86 : vm_D q_X_greatest.2.1 86 2 88 (.istore 9) := ⟨by decide +kernel, rfl⟩
theorem d_X_greatest_88 : vm_D q_X_greatest.2.1 88 2 90 (.iload 8) := ⟨by decide +kernel, rfl⟩
theorem d_X_greatest_90 : vm_D q_X_greatest.2.1 90 2 92 (.iload 4) := ⟨by decide +kernel, rfl⟩
theorem d_X_greatest_92 : vm_B q_X_greatest.2.1 92 95 108 (fun o => .if_icmp .lt o) := ⟨16, by decide +kernel, rfl, by decide⟩
theorem d_X_greatest_113 : vm_D q_X_greatest.2.1 113 2 115 (.istore 10) := ⟨by decide +kernel, rfl⟩
theorem d_X_greatest_115 : vm_D q_X_greatest.2.1 115 2 117 (.iload 9) := ⟨by decide +kernel, rfl⟩
theorem d_X_greatest_117 : vm_B q_X_greatest.2.1 117 120 130 (fun o => .ifCond .gt o) := ⟨13, by decide +kernel, rfl, by decide⟩
theorem d_X_greatest_140 : vm_D q_X_greatest.2.1 140 3 143 (.iinc 6 1) := ⟨by decide +kernel, rfl⟩
theorem d_X_greatest_143 : ∃ off : Int, decode q_X_greatest.2.1 143 = .ok (.goto off, 3) ∧ ((143 : Nat) : Int) + off = ((31 : Nat) : Int) := ⟨-112, by decide +kernel, by decide⟩
theorem d_X_greatest_130 : vm_D q_X_greatest.2.1 130 2 132 (.iload 7) := ⟨by decide +kernel, rfl⟩
theorem d_X_greatest_132 : vm_D q_X_greatest.2.1 132 1 133 (.istore_n 2) := ⟨by decide +kernel, rfl⟩
theorem d_X_greatest_133 : vm_D q_X_greatest.2.1 133 2 135 (.iload 6) := ⟨by decide +kernel, rfl⟩
theorem d_X_greatest_135 : vm_D q_X_greatest.2.1 135 1 136 (.istore_n 3) := ⟨by decide +kernel, rfl⟩
theorem d_X_greatest_136 : vm_D q_X_greatest.2.1 136 2 138 (.iload 8) := ⟨by decide +kernel, rfl⟩
theorem d_X_greatest_138 : vm_D q_X_greatest.2.1 138 2 140 (.istore 4) := ⟨by decide +kernel, rfl⟩
theorem d_X_greatest_120 : vm_D q_X_greatest.2.1 120 2 122 (.iload 9) := ⟨by decide +kernel, rfl⟩
theorem d_X_greatest_122 : vm_B q_X_greatest.2.1 122 125 140 (fun o => .ifCond .ne o) := ⟨18, by decide +kernel, rfl, by decide⟩
theorem d_X_greatest_125 : vm_D q_X_greatest.2.1 125 2 127 (.iload 10) := ⟨by decide +kernel, rfl⟩
theorem d_X_greatest_127 : vm_B q_X_greatest.2.1 127 130 140 (fun o => .ifCond .eq o) := ⟨13, by decide +kernel, rfl, by decide⟩
theorem d_X_greatest_108 : vm_D q_X_greatest.2.1 108 1 109 (.iconst 1) := ⟨by decide +kernel, rfl⟩
theorem d_X_greatest_109 : ∃ off : Int, decode q_X_greatest.2.1 109 = .ok (.goto off, 3) ∧ ((109 : Nat) : Int) + off = ((113 : Nat) : Int) := ⟨4, by decide +kernel, by decide⟩
theorem d_X_greatest_95 : vm_D q_X_greatest.2.1 95 2 97 (.iload 8) := ⟨by decide +kernel, rfl⟩
theorem d_X_greatest_97 : vm_D q_X_greatest.2.1 97 2 99 (.iload 4) := ⟨by decide +kernel, rfl⟩
theorem d_X_greatest_99 : vm_B q_X_greatest.2.1 99 102 112 (fun o => .if_icmp .ne o) := ⟨13, by decide +kernel, rfl, by decide⟩
theorem d_X_greatest_112 : vm_D q_X_greatest.2.1 112 1 113 (.iconst 0) := ⟨by decide +kernel, rfl⟩
theorem d_X_greatest_102 : vm_D q_X_greatest.2.1 102 2 104 (.iload 7) := ⟨by decide +kernel, rfl⟩
theorem d_X_greatest_104 : vm_D q_X_greatest.2.1 104 1 105 (.iload_n 2) := ⟨by decide +kernel, rfl⟩
theorem d_X_greatest_105 : vm_B q_X_greatest.2.1 105 108 112 (fun o => .if_icmp .le o) := ⟨7, by decide +kernel, rfl, by decide⟩
theorem d_X_greatest_77 : vm_D q_X_greatest.2.1 77 2 79 (.iload 7) := ⟨by decide +kernel, rfl⟩
theorem d_X_greatest_79 : vm_D q_X_greatest.2.1 79 1 80 (.iload_n 3) := ⟨by decide +kernel, rfl⟩
theorem d_X_greatest_80 : vm_D q_X_greatest.2.1 80 1 81 (.imul) := ⟨by decide +kernel, rfl⟩
theorem d_X_greatest_81 : vm_D q_X_greatest.2.1 81 1 82 (.iload_n 2) := ⟨by decide +kernel, rfl⟩
theorem d_X_greatest_82 : vm_D q_X_greatest.2.1 82 2 84 (.iload 6) := ⟨by decide +kernel, rfl⟩
theorem d_X_greatest_84 : vm_D q_X_greatest.2.1 84 1 85 (.imul) := ⟨by decide +kernel, rfl⟩
theorem d_X_greatest_85 : vm_D q_X_greatest.2.1 85 1 86 (.isub) := ⟨by decide +kernel, rfl⟩
theorem d_X_greatest_73 : vm_D q_X_greatest.2.1 73 1 74 (.iconst 1) := ⟨by decide +kernel, rfl⟩
theorem d_X_greatest_74 : ∃ off : Int, decode q_X_greatest.2.1 74 = .ok (.goto off, 3) ∧ ((74 : Nat) : Int) + off = ((86 : Nat) : Int) := ⟨12, by decide +kernel, by decide⟩
theorem d_X_greatest_146 : vm_D q_X_greatest.2.1 146 3 149 (.iinc 5 1) := ⟨by decide +kernel, rfl⟩
theorem d_X_greatest_149 : ∃ off : Int, decode q_X_greatest.2.1 149 = .ok (.goto off, 3) ∧ ((149 : Nat) : Int) + off = ((16 : Nat) : Int) := ⟨-133, by decide +kernel, by decide⟩
theorem d_X_greatest_152 : vm_D q_X_greatest.2.1 152 1 153 (.iload_n 1) := ⟨by decide +kernel, rfl⟩
theorem d_X_greatest_153 : vm_B q_X_greatest.2.1 153 156 160 (fun o => .ifCond .ne o) := ⟨7, by decide +kernel, rfl, by decide⟩
theorem d_X_greatest_160 : vm_D q_X_greatest.2.1 160 1 161 (.iload_n 1) := ⟨by decide +kernel, rfl⟩
theorem d_X_greatest_161 : vm_D q_X_greatest.2.1 161 1 162 (.iconst 1) := ⟨by decide +kernel, rfl⟩
theorem d_X_greatest_162 : vm_B q_X_greatest.2.1 162 165 169 (fun o => .if_icmp .ne o) := ⟨7, by decide +kernel, rfl, by decide⟩
theorem d_X_greatest_169 : vm_D q_X_greatest.2.1 169 2 171 (.iload 4) := ⟨by decide +kernel, rfl⟩
theorem d_X_greatest_171 : vm_D q_X_greatest.2.1 171 1 172 (.ireturn) := ⟨by decide +kernel, rfl⟩
theorem d_X_greatest_165 : vm_D q_X_greatest.2.1 165 1 166 (.iload_n 3) := ⟨by decide +kernel, rfl⟩
theorem d_X_greatest_166 : ∃ off : Int, decode q_X_greatest.2.1 166 = .ok (.goto off, 3) ∧ ((166 : Nat) : Int) + off = ((171 : Nat) : Int) := ⟨5, by decide +kernel, by decide⟩
theorem d_X_greatest_156 : vm_D q_X_greatest.2.1 156 1 157 (.iload_n 2) := ⟨by decide +kernel, rfl⟩
theorem d_X_greatest_157 : ∃ off : Int, decode q_X_greatest.2.1 157 = .ok (.goto off, 3) ∧ ((157 : Nat) : Int) + off = ((171 : Nat) : Int) := ⟨14, by decide +kernel, by decide⟩
def q_X_period : vm_Y := ("RepeatFree", cX10_period, 1, false, [])
theorem d_X_period_0 : vm_D q_X_period.2.1 0 1 1 (.aload_n 0) := ⟨by decide +kernel, rfl⟩
theorem d_X_period_1 : vm_D q_X_period.2.1 1 3 4 (.getfield 36) := ⟨by decide +kernel, rfl⟩
theorem d_X_period_4 : vm_D q_X_period.2.1 4 3 7 (.getfield 102) := ⟨by decide +kernel, rfl⟩
theorem d_X_period_7 : vm_B q_X_period.2.1 7 10 14 (fun o => .ifCond .ne o) := ⟨7, by decide +kernel, rfl, by decide⟩
theorem d_X_period_14 : vm_D q_X_period.2.1 14 1 15 (.aload_n 0) := ⟨by decide +kernel, rfl⟩
theorem d_X_period_15 : vm_D q_X_period.2.1 15 3 18 (.getfield 36) := ⟨by decide +kernel, rfl⟩
theorem d_X_period_18 : vm_D q_X_period.2.1 18 1 19 (.iconst 0) := ⟨by decide +kernel, rfl⟩
theorem d_X_period_19 : vm_D q_X_period.2.1 19 1 20 (.aload_n 0) := ⟨by decide +kernel, rfl⟩
theorem d_X_period_20 : vm_D q_X_period.2.1 20 3 23 (.getfield 36) := ⟨by decide +kernel, rfl⟩
theorem d_X_period_23 : vm_D q_X_period.2.1 23 3 26 (.getfield 102) := ⟨by decide +kernel, rfl⟩
theorem d_X_period_26 : vm_D q_X_period.2.1 26 3 29 (.invokevirtual 167) := ⟨by decide +kernel, rfl⟩
theorem d_X_period_29 : vm_D q_X_period.2.1 29 1 30 (.ireturn) := ⟨by decide +kernel, rfl⟩
theorem d_X_period_10 : vm_D q_X_period.2.1 10 1 11 (.iconst (-1)) := ⟨by decide +kernel, rfl⟩
theorem d_X_period_11 : ∃ off : Int, decode q_X_period.2.1 11 = .ok (.goto off, 3) ∧ ((11 : Nat) : Int) + off = ((29 : Nat) : Int) := ⟨18, by decide +kernel, by decide⟩
def q_X_border : vm_Y := ("RepeatFree", cX10_border, 5, false, [])
theorem d_X_border_0 : vm_D q_X_border.2.1 0 1 1 (.aload_n 0) := ⟨by decide +kernel, rfl⟩
theorem d_X_border_1 : vm_D q_X_border.2.1 1 3 4 (.getfield 36) := ⟨by decide +kernel, rfl⟩
theorem d_X_border_4 : vm_D q_X_border.2.1 4 3 7 (.getfield 102) := ⟨by decide +kernel, rfl⟩
theorem d_X_border_7 : vm_D q_X_border.2.1 7 1 8 (.istore_n 2) := ⟨by decide +kernel, rfl⟩
theorem d_X_border_8 : vm_D q_X_border.2.1 8 1 9 (.iconst 0) := ⟨by decide +kernel, rfl⟩
theorem d_X_border_9 : vm_D q_X_border.2.1 9 1 10 (.istore_n 3) := ⟨by decide +kernel, rfl⟩
theorem d_X_border_10 : vm_D q_X_border.2.1 10 1 11 (.iconst 1) := ⟨by decide +kernel, rfl⟩
theorem d_X_border_11 : vm_D q_X_border.2.1 11 2 13 (.istore 4) := ⟨by decide +kernel, rfl⟩
theorem d_X_border_13 : vm_D q_X_border.2.1 13 2 15 (.iload 4) := ⟨by decide +kernel, rfl⟩
theorem d_X_border_15 : vm_D q_X_border.2.1 15 1 16 (.iload_n 2) := ⟨by decide +kernel, rfl⟩
theorem d_X_border_16 : vm_B q_X_border.2.1 16 19 61 (fun o => .if_icmp .ge o) := ⟨45, by decide +kernel, rfl, by decide⟩
theorem d_X_border_19 : vm_D q_X_border.2.1 19 1 20 (.aload_n 0) := ⟨by decide +kernel, rfl⟩
theorem d_X_border_20 : vm_D q_X_border.2.1 20 3 23 (.getfield 36) := ⟨by decide +kernel, rfl⟩
theorem d_X_border_23 : vm_D q_X_border.2.1 23 1 24 (.iload_n 2) := ⟨by decide +kernel, rfl⟩
theorem d_X_border_24 : vm_D q_X_border.2.1 24 1 25 (.iconst 1) := ⟨by decide +kernel, rfl⟩
theorem d_X_border_25 : vm_D q_X_border.2.1 25 1 26 (.isub) := ⟨by decide +kernel, rfl⟩
theorem d_X_border_26 : vm_D q_X_border.2.1 26 1 27 (.iload_n 2) := ⟨by decide +kernel, rfl⟩
theorem d_X_border_27 : vm_D q_X_border.2.1 27 1 28 (.iconst 1) := ⟨by decide +kernel, rfl⟩
theorem d_X_border_28 : vm_D q_X_border.2.1 28 1 29 (.isub) := ⟨by decide +kernel, rfl⟩
theorem d_X_border_29 : vm_D q_X_border.2.1 29 2 31 (.iload 4) := ⟨by decide +kernel, rfl⟩
theorem d_X_border_31 : vm_D q_X_border.2.1 31 1 32 (.isub) := ⟨by decide +kernel, rfl⟩
theorem d_X_border_32 : vm_D q_X_border.2.1 32 3 35 (.invokevirtual 163) := ⟨by decide +kernel, rfl⟩
theorem d_X_border_35 : vm_D q_X_border.2.1 35 1 36 (.iload_n 2) := ⟨by decide +kernel, rfl⟩
theorem d_X_border_36 : vm_D q_X_border.2.1 36 2 38 (.iload 4) := ⟨by decide +kernel, rfl⟩
theorem d_X_border_38 : vm_D q_X_border.2.1 38 1 39 (.isub) := ⟨by decide +kernel, rfl⟩
theorem d_X_border_39 : vm_B q_X_border.2.1 39 42 55 (fun o => .if_icmp .lt o) := ⟨16, by decide +kernel, rfl, by decide⟩
theorem d_X_border_55 : vm_D q_X_border.2.1 55 3 58 (.iinc 4 1) := ⟨by decide +kernel, rfl⟩
theorem d_X_border_58 : ∃ off : Int, decode q_X_border.2.1 58 = .ok (.goto off, 3) ∧ ((58 : Nat) : Int) + off = ((13 : Nat) : Int) := ⟨-45, by decide +kernel, by decide⟩
theorem d_X_border_42 : vm_D q_X_border.2.1 42 1 43 (.iload_n 3) := ⟨by decide +kernel, rfl⟩
theorem d_X_border_43 : vm_D q_X_border.2.1 43 1 44 (.iload_n 1) := ⟨by decide +kernel, rfl⟩
theorem d_X_border_44 : vm_B q_X_border.2.1 44 47 52 (fun o => .if_icmp .ne o) := ⟨8, by decide +kernel, rfl, by decide⟩
theorem d_X_border_52 : vm_D q_X_border.2.1 52 3 55 (.iinc 3 1) := ⟨by decide +kernel, rfl⟩
theorem d_X_border_47 : vm_D q_X_border.2.1 47 1 48 (.iload_n 2) := ⟨by decide +kernel, rfl⟩
theorem d_X_border_48 : vm_D q_X_border.2.1 48 2 50 (.iload 4) := ⟨by decide +kernel, rfl⟩
theorem d_X_border_50 : vm_D q_X_border.2.1 50 1 51 (.isub) := ⟨by decide +kernel, rfl⟩
theorem d_X_border_51 : vm_D q_X_border.2.1 51 1 52 (.ireturn) := ⟨by decide +kernel, rfl⟩
theorem d_X_border_61 : vm_D q_X_border.2.1 61 1 62 (.iconst (-1)) := ⟨by decide +kernel, rfl⟩
theorem d_X_border_62 : vm_D q_X_border.2.1 62 1 63 (.ireturn) := ⟨by decide +kernel, rfl⟩
def q_X_runSize : vm_Y := ("RepeatFree", cX10_runSize, 4, false, [])
theorem d_X_runSize_0 : vm_D q_X_runSize.2.1 0 1 1 (.iload_n 1) := ⟨by decide +kernel, rfl⟩
theorem d_X_runSize_1 : vm_B q_X_runSize.2.1 1 4 31 (fun o => .ifCond .le o) := ⟨30, by decide +kernel, rfl, by decide⟩
theorem d_X_runSize_31 : vm_D q_X_runSize.2.1 31 1 32 (.iload_n 2) := ⟨by decide +kernel, rfl⟩
theorem d_X_runSize_32 : vm_D q_X_runSize.2.1 32 1 33 (.istore_n 3) := ⟨by decide +kernel, rfl⟩
theorem d_X_runSize_33 : vm_D q_X_runSize.2.1 33 1 34 (.iload_n 1) := ⟨by decide +kernel, rfl⟩
theorem d_X_runSize_34 : vm_D q_X_runSize.2.1 34 1 35 (.iload_n 3) := ⟨by decide +kernel, rfl⟩
theorem d_X_runSize_35 : vm_D q_X_runSize.2.1 35 1 36 (.iadd) := ⟨by decide +kernel, rfl⟩
theorem d_X_runSize_36 : vm_D q_X_runSize.2.1 36 1 37 (.aload_n 0) := ⟨by decide +kernel, rfl⟩
theorem d_X_runSize_37 : vm_D q_X_runSize.2.1 37 3 40 (.getfield 36) := ⟨by decide +kernel, rfl⟩
theorem d_X_runSize_40 : vm_D q_X_runSize.2.1 40 3 43 (.getfield 102) := ⟨by decide +kernel, rfl⟩
theorem d_X_runSize_43 : vm_B q_X_runSize.2.1 43 46 77 (fun o => .if_icmp .ge o) := ⟨34, by decide +kernel, rfl, by decide⟩
theorem d_X_runSize_46 : vm_D q_X_runSize.2.1 46 1 47 (.aload_n 0) := ⟨by decide +kernel, rfl⟩
theorem d_X_runSize_47 : vm_D q_X_runSize.2.1 47 3 50 (.getfield 36) := ⟨by decide +kernel, rfl⟩
theorem d_X_runSize_50 : vm_D q_X_runSize.2.1 50 1 51 (.iload_n 1) := ⟨by decide +kernel, rfl⟩
theorem d_X_runSize_51 : vm_D q_X_runSize.2.1 51 1 52 (.iload_n 3) := ⟨by decide +kernel, rfl⟩
theorem d_X_runSize_52 : vm_D q_X_runSize.2.1 52 1 53 (.iadd) := ⟨by decide +kernel, rfl⟩
theorem d_X_runSize_53 : vm_D q_X_runSize.2.1 53 3 56 (.invokevirtual 106) := ⟨by decide +kernel, rfl⟩
theorem d_X_runSize_56 : vm_D q_X_runSize.2.1 56 1 57 (.aload_n 0) := ⟨by decide +kernel, rfl⟩
theorem d_X_runSize_57 : vm_D q_X_runSize.2.1 57 3 60 (.getfield 36) := ⟨by decide +kernel, rfl⟩
theorem d_X_runSize_60 : vm_D q_X_runSize.2.1 60 1 61 (.iload_n 1) := ⟨by decide +kernel, rfl⟩
theorem d_X_runSize_61 : vm_D q_X_runSize.2.1 61 1 62 (.iload_n 3) := ⟨by decide +kernel, rfl⟩
theorem d_X_runSize_62 : vm_D q_X_runSize.2.1 62 1 63 (.iadd) := ⟨by decide +kernel, rfl⟩
theorem d_X_runSize_63 : vm_D q_X_runSize.2.1 63 1 64 (.iload_n 2) := ⟨by decide +kernel, rfl⟩
theorem d_X_runSize_64 : vm_D q_X_runSize.2.1 64 1 65 (.isub) := ⟨by decide +kernel, rfl⟩
theorem d_X_runSize_65 : vm_D q_X_runSize.2.1 65 3 68 (.invokevirtual 106) := ⟨by decide +kernel, rfl⟩
theorem d_X_runSize_68 : vm_B q_X_runSize.2.1 68 71 77 (fun o => .if_icmp .ne o) := ⟨9, by decide +kernel, rfl, by decide⟩
theorem d_X_runSize_71 : vm_D q_X_runSize.2.1 71 3 74 (.iinc 3 1) := ⟨by decide +kernel, rfl⟩
theorem d_X_runSize_74 : ∃ off : Int, decode q_X_runSize.2.1 74 = .ok (.goto off, 3) ∧ ((74 : Nat) : Int) + off = ((33 : Nat) : Int) := ⟨-41, by decide +kernel, by decide⟩
theorem d_X_runSize_77 : vm_D q_X_runSize.2.1 77 1 78 (.iload_n 3) := ⟨by decide +kernel, rfl⟩
theorem d_X_runSize_78 : vm_D q_X_runSize.2.1 78 1 79 (.iconst 2) := ⟨by decide +kernel, rfl⟩
theorem d_X_runSize_79 : vm_D q_X_runSize.2.1 79 1 80 (.iload_n 2) := ⟨by decide +kernel, rfl⟩
theorem d_X_runSize_80 : vm_D q_X_runSize.2.1 80 1 81 (.imul) := ⟨by decide +kernel, rfl⟩
theorem d_X_runSize_81 : vm_B q_X_runSize.2.1 81 84 101 (fun o => .if_icmp .lt o) := ⟨20, by decide +kernel, rfl, by decide⟩
theorem d_X_runSize_101 : vm_D q_X_runSize.2.1 101 1 102 (.iconst 0) := ⟨by decide +kernel, rfl⟩
theorem d_X_runSize_102 : vm_D q_X_runSize.2.1 102 1 103 (.ireturn) := ⟨by decide +kernel, rfl⟩
theorem d_X_runSize_84 : vm_D q_X_runSize.2.1 84 1 85 (.aload_n 0) := ⟨by decide +kernel, rfl⟩
theorem d_X_runSize_85 : vm_D q_X_runSize.2.1 85 3 88 (.getfield 36) := ⟨by decide +kernel, rfl⟩
theorem d_X_runSize_88 : vm_D q_X_runSize.2.1 88 1 89 (.iload_n 1) := ⟨by decide +kernel, rfl⟩
theorem d_X_runSize_89 : vm_D q_X_runSize.2.1 89 1 90 (.iload_n 3) := ⟨by decide +kernel, rfl⟩
theorem d_X_runSize_90 : vm_D q_X_runSize.2.1 90 3 93 (.invokevirtual 167) := ⟨by decide +kernel, rfl⟩
theorem d_X_runSize_93 : vm_D q_X_runSize.2.1 93 1 94 (.iload_n 2) := ⟨by decide +kernel, rfl⟩
theorem d_X_runSize_94 : vm_B q_X_runSize.2.1 94 97 101 (fun o => .if_icmp .ne o) := ⟨7, by decide +kernel, rfl, by decide⟩
theorem d_X_runSize_97 : vm_D q_X_runSize.2.1 97 1 98 (.iload_n 3) := ⟨by decide +kernel, rfl⟩
theorem d_X_runSize_98 : ∃ off : Int, decode q_X_runSize.2.1 98 = .ok (.goto off, 3) ∧ ((98 : Nat) : Int) + off = ((102 : Nat) : Int) := ⟨4, by decide +kernel, by decide⟩
theorem d_X_runSize_4 : vm_D q_X_runSize.2.1 4 1 5 (.aload_n 0) := ⟨by decide +kernel, rfl⟩
theorem d_X_runSize_5 : vm_D q_X_runSize.2.1 5 3 8 (.getfield 36) := ⟨by decide +kernel, rfl⟩
theorem d_X_runSize_8 : vm_D q_X_runSize.2.1 8 1 9 (.iload_n 1) := ⟨by decide +kernel, rfl⟩
theorem d_X_runSize_9 : vm_D q_X_runSize.2.1 9 1 10 (.iconst 1) := ⟨by decide +kernel, rfl⟩
theorem d_X_runSize_10 : vm_D q_X_runSize.2.1 10 1 11 (.isub) := ⟨by decide +kernel, rfl⟩
theorem d_X_runSize_11 : vm_D q_X_runSize.2.1 11 3 14 (.invokevirtual 106) := ⟨by decide +kernel, rfl⟩
theorem d_X_runSize_14 : vm_D q_X_runSize.2.1 14 1 15 (.aload_n 0) := ⟨by decide +kernel, rfl⟩
theorem d_X_runSize_15 : vm_D q_X_runSize.2.1 15 3 18 (.getfield 36) := ⟨by decide +kernel, rfl⟩
theorem d_X_runSize_18 : vm_D q_X_runSize.2.1 18 1 19 (.iload_n 1) := ⟨by decide +kernel, rfl⟩
theorem d_X_runSize_19 : vm_D q_X_runSize.2.1 19 1 20 (.iconst 1) := ⟨by decide +kernel, rfl⟩
theorem d_X_runSize_20 : vm_D q_X_runSize.2.1 20 1 21 (.isub) := ⟨by decide +kernel, rfl⟩
theorem d_X_runSize_21 : vm_D q_X_runSize.2.1 21 1 22 (.iload_n 2) := ⟨by decide +kernel, rfl⟩
theorem d_X_runSize_22 : vm_D q_X_runSize.2.1 22 1 23 (.iadd) := ⟨by decide +kernel, rfl⟩
theorem d_X_runSize_23 : vm_D q_X_runSize.2.1 23 3 26 (.invokevirtual 106) := ⟨by decide +kernel, rfl⟩
theorem d_X_runSize_26 : vm_B q_X_runSize.2.1 26 29 31 (fun o => .if_icmp .ne o) := ⟨5, by decide +kernel, rfl, by decide⟩
theorem d_X_runSize_29 : vm_D q_X_runSize.2.1 29 1 30 (.iconst 0) := ⟨by decide +kernel, rfl⟩
theorem d_X_runSize_30 : vm_D q_X_runSize.2.1 30 1 31 (.ireturn) := ⟨by decide +kernel, rfl⟩
def q_X_run : vm_Y := ("RepeatFree", cX10_run, 7, false, [])
theorem d_X_run_0 : vm_D q_X_run.2.1 0 1 1 (.aload_n 0) := ⟨by decide +kernel, rfl⟩
theorem d_X_run_1 : vm_D q_X_run.2.1 1 1 2 (.iload_n 2) := ⟨by decide +kernel, rfl⟩
theorem d_X_run_2 : vm_D q_X_run.2.1 2 1 3 (.iconst 2) := ⟨by decide +kernel, rfl⟩
theorem d_X_run_3 : vm_D q_X_run.2.1 3 3 6 (.invokevirtual 159) := ⟨by decide +kernel, rfl⟩
theorem d_X_run_6 : vm_D q_X_run.2.1 6 1 7 (.iconst 0) := ⟨by decide +kernel, rfl⟩
theorem d_X_run_7 : vm_D q_X_run.2.1 7 1 8 (.istore_n 3) := ⟨by decide +kernel, rfl⟩
theorem d_X_run_8 : vm_D q_X_run.2.1 8 1 9 (.iconst 0) := ⟨by decide +kernel, rfl⟩
theorem d_X_run_9 : vm_D q_X_run.2.1 9 2 11 (.istore 4) := ⟨by decide +kernel, rfl⟩
theorem d_X_run_11 : vm_D q_X_run.2.1 11 2 13 (.iload 4) := ⟨by decide +kernel, rfl⟩
theorem d_X_run_13 : vm_D q_X_run.2.1 13 1 14 (.aload_n 0) := ⟨by decide +kernel, rfl⟩
theorem d_X_run_14 : vm_D q_X_run.2.1 14 3 17 (.getfield 36) := ⟨by decide +kernel, rfl⟩
theorem d_X_run_17 : vm_D q_X_run.2.1 17 3 20 (.getfield 102) := ⟨by decide +kernel, rfl⟩
theorem d_X_run_20 : vm_B q_X_run.2.1 20 23 103 (fun o => .if_icmp .ge o) := ⟨83, by decide +kernel, rfl, by decide⟩
theorem d_X_run_23 : vm_D q_X_run.2.1 23 1 24 (.iconst 1) := ⟨by decide +kernel, rfl⟩
theorem d_X_run_24 : vm_D q_X_run.2.1 24 2 26 (.istore 5) := ⟨by decide +kernel, rfl⟩
theorem d_X_run_26 : vm_D q_X_run.2.1 26 2 28 (.iload 4) := ⟨by decide +kernel, rfl⟩
theorem d_X_run_28 : vm_D q_X_run.2.1 28 1 29 (.iconst 2) := ⟨by decide +kernel, rfl⟩
theorem d_X_run_29 : vm_D q_X_run.2.1 29 2 31 (.iload 5) := ⟨by decide +kernel, rfl⟩
theorem d_X_run_31 : vm_D q_X_run.2.1 31 1 32 (.imul) := ⟨by decide +kernel, rfl⟩
theorem d_X_run_32 : vm_D q_X_run.2.1 32 1 33 (.iadd) := ⟨by decide +kernel, rfl⟩
theorem d_X_run_33 : vm_D q_X_run.2.1 33 1 34 (.aload_n 0) := ⟨by decide +kernel, rfl⟩
theorem d_X_run_34 : vm_D q_X_run.2.1 34 3 37 (.getfield 36) := ⟨by decide +kernel, rfl⟩
theorem d_X_run_37 : vm_D q_X_run.2.1 37 3 40 (.getfield 102) := ⟨by decide +kernel, rfl⟩
theorem d_X_run_40 : vm_B q_X_run.2.1 40 43 97 (fun o => .if_icmp .gt o) := ⟨57, by decide +kernel, rfl, by decide⟩
theorem d_X_run_43 : vm_D q_X_run.2.1 43 1 44 (.aload_n 0) := ⟨by decide +kernel, rfl⟩
theorem d_X_run_44 : vm_D q_X_run.2.1 44 2 46 (.iload 4) := ⟨by decide +kernel, rfl⟩
theorem d_X_run_46 : vm_D q_X_run.2.1 46 2 48 (.iload 5) := ⟨by decide +kernel, rfl⟩
theorem d_X_run_48 : vm_D q_X_run.2.1 48 3 51 (.invokevirtual 170) := ⟨by decide +kernel, rfl⟩
theorem d_X_run_51 : vm_D q_X_run.2.1 51 2 53 (.istore 6) := ⟨by decide +kernel, rfl⟩
theorem d_X_run_53 : vm_D q_X_run.2.1 53 2 55 (.iload 6) := ⟨by decide +kernel, rfl⟩
theorem d_X_run_55 : vm_B q_X_run.2.1 55 58 61 (fun o => .ifCond .ne o) := ⟨6, by decide +kernel, rfl, by decide⟩
theorem d_X_run_91 : vm_D q_X_run.2.1 91 3 94 (.iinc 5 1) := ⟨by decide +kernel, rfl⟩
theorem d_X_run_94 : ∃ off : Int, decode q_X_run.2.1 94 = .ok (.goto off, 3) ∧ ((94 : Nat) : Int) + off = ((26 : Nat) : Int) := ⟨-68, by decide +kernel, by decide⟩
theorem d_X_run_61 : vm_D q_X_run.2.1 61 1 62 (.iload_n 3) := ⟨by decide +kernel, rfl⟩
theorem d_X_run_62 : vm_D q_X_run.2.1 62 1 63 (.iload_n 1) := ⟨by decide +kernel, rfl⟩
theorem d_X_run_63 : vm_B q_X_run.2.1 63 66 88 (fun o => .if_icmp .ne o) := ⟨25, by decide +kernel, rfl, by decide⟩
theorem d_X_run_88 : vm_D q_X_run.2.1 88 3 91 (.iinc 3 1) := ⟨by decide +kernel, rfl⟩
theorem d_X_run_66 : vm_D q_X_run.2.1 66 1 67 (.iload_n 2) := ⟨by decide +kernel, rfl⟩
theorem d_X_run_67 : vm_B q_X_run.2.1 67 70 75 (fun o => .ifCond .ne o) := ⟨8, by decide +kernel, rfl, by decide⟩
theorem d_X_run_75 : vm_D q_X_run.2.1 75 1 76 (.iload_n 2) := ⟨by decide +kernel, rfl⟩
theorem d_X_run_76 : vm_D q_X_run.2.1 76 1 77 (.iconst 1) := ⟨by decide +kernel, rfl⟩
theorem d_X_run_77 : vm_B q_X_run.2.1 77 80 85 (fun o => .if_icmp .ne o) := ⟨8, by decide +kernel, rfl, by decide⟩
theorem d_X_run_85 : vm_D q_X_run.2.1 85 2 87 (.iload 5) := ⟨by decide +kernel, rfl⟩
theorem d_X_run_87 : vm_D q_X_run.2.1 87 1 88 (.ireturn) := ⟨by decide +kernel, rfl⟩
theorem d_X_run_80 : vm_D q_X_run.2.1 80 2 82 (.iload 6) := ⟨by decide +kernel, rfl⟩
theorem d_X_run_82 : ∃ off : Int, decode q_X_run.2.1 82 = .ok (.goto off, 3) ∧ ((82 : Nat) : Int) + off = ((87 : Nat) : Int) := ⟨5, by decide +kernel, by decide⟩
theorem d_X_run_70 : vm_D q_X_run.2.1 70 2 72 (.iload 4) := ⟨by decide +kernel, rfl⟩
theorem d_X_run_72 : ∃ off : Int, decode q_X_run.2.1 72 = .ok (.goto off, 3) ∧ ((72 : Nat) : Int) + off = ((87 : Nat) : Int) := ⟨15, by decide +kernel, by decide⟩
theorem d_X_run_58 : ∃ off : Int, decode q_X_run.2.1 58 = .ok (.goto off, 3) ∧ ((58 : Nat) : Int) + off = ((91 : Nat) : Int) := ⟨33, by decide +kernel, by decide⟩
theorem d_X_run_97 : vm_D q_X_run.2.1 97 3 100 (.iinc 4 1) := ⟨by decide +kernel, rfl⟩
theorem d_X_run_100 : ∃ off : Int, decode q_X_run.2.1 100 = .ok (.goto off, 3) ∧ ((100 : Nat) : Int) + off = ((11 : Nat) : Int) := ⟨-89, by decide +kernel, by decide⟩
theorem d_X_run_103 : vm_D q_X_run.2.1 103 1 104 (.iload_n 1) := ⟨by decide +kernel, rfl⟩
theorem d_X_run_104 : vm_D q_X_run.2.1 104 1 105 (.iconst (-1)) := ⟨by decide +kernel, rfl⟩
theorem d_X_run_105 : vm_B q_X_run.2.1 105 108 112 (fun o => .if_icmp .ne o) := ⟨7, by decide +kernel, rfl, by decide⟩
theorem d_X_run_112 : vm_D q_X_run.2.1 112 1 113 (.iconst (-1)) := ⟨by decide +kernel, rfl⟩
theorem d_X_run_113 : vm_D q_X_run.2.1 113 1 114 (.ireturn) := ⟨by decide +kernel, rfl⟩
theorem d_X_run_108 : vm_D q_X_run.2.1 108 1 109 (.iload_n 3) := ⟨by decide +kernel, rfl⟩
theorem d_X_run_109 : ∃ off : Int, decode q_X_run.2.1 109 = .ok (.goto off, 3) ∧ ((109 : Nat) : Int) + off = ((113 : Nat) : Int) := ⟨4, by decide +kernel, by decide⟩
def q_X_factors : vm_Y := ("RepeatFree", cX10_factors, 6, false, [])
theorem d_X_factors_0 : vm_D q_X_factors.2.1 0 1 1 (.aload_n 0) := ⟨by decide +kernel, rfl⟩
theorem d_X_factors_1 : vm_D q_X_factors.2.1 1 1 2 (.iload_n 1) := ⟨by decide +kernel, rfl⟩
theorem d_X_factors_2 : vm_D q_X_factors.2.1 2 1 3 (.iconst 1) := ⟨by decide +kernel, rfl⟩
theorem d_X_factors_3 : vm_D q_X_factors.2.1 3 2 5 (.bipush 64) := ⟨by decide +kernel, rfl⟩
theorem d_X_factors_5 : vm_D q_X_factors.2.1 5 3 8 (.invokevirtual 173) := ⟨by decide +kernel, rfl⟩
theorem d_X_factors_8 : vm_D q_X_factors.2.1 8 1 9 (.iconst 0) := ⟨by decide +kernel, rfl⟩
theorem d_X_factors_9 : vm_D q_X_factors.2.1 9 1 10 (.istore_n 2) := ⟨by decide +kernel, rfl⟩
theorem d_X_factors_10 : vm_D q_X_factors.2.1 10 1 11 (.iload_n 1) := ⟨by decide +kernel, rfl⟩
theorem d_X_factors_11 : vm_D q_X_factors.2.1 11 1 12 (.iconst 1) := ⟨by decide +kernel, rfl⟩
theorem d_X_factors_12 : vm_D q_X_factors.2.1 12 1 13 (.isub) := ⟨by decide +kernel, rfl⟩
theorem d_X_factors_13 : vm_D q_X_factors.2.1 13 1 14 (.istore_n 3) := ⟨by decide +kernel, rfl⟩
theorem d_X_factors_14 : vm_D q_X_factors.2.1 14 1 15 (.iload_n 3) := ⟨by decide +kernel, rfl⟩
theorem d_X_factors_15 : vm_D q_X_factors.2.1 15 1 16 (.aload_n 0) := ⟨by decide +kernel, rfl⟩
theorem d_X_factors_16 : vm_D q_X_factors.2.1 16 3 19 (.getfield 36) := ⟨by decide +kernel, rfl⟩
theorem d_X_factors_19 : vm_D q_X_factors.2.1 19 3 22 (.getfield 102) := ⟨by decide +kernel, rfl⟩
theorem d_X_factors_22 : vm_B q_X_factors.2.1 22 25 85 (fun o => .if_icmp .ge o) := ⟨63, by decide +kernel, rfl, by decide⟩
theorem d_X_factors_25 : vm_D q_X_factors.2.1 25 1 26 (.iconst 0) := ⟨by decide +kernel, rfl⟩
theorem d_X_factors_26 : vm_D q_X_factors.2.1 26 2 28 (.istore 4) := ⟨by decide +kernel, rfl⟩
theorem d_X_factors_28 : vm_D q_X_factors.2.1 28 1 29 (.iload_n 1) := ⟨by decide +kernel, rfl⟩
theorem d_X_factors_29 : vm_D q_X_factors.2.1 29 1 30 (.iconst 1) := ⟨by decide +kernel, rfl⟩
theorem d_X_factors_30 : vm_D q_X_factors.2.1 30 1 31 (.isub) := ⟨by decide +kernel, rfl⟩
theorem d_X_factors_31 : vm_D q_X_factors.2.1 31 2 33 (.istore 5) := ⟨by decide +kernel, rfl⟩
theorem d_X_factors_33 : vm_D q_X_factors.2.1 33 2 35 (.iload 5) := ⟨by decide +kernel, rfl⟩
theorem d_X_factors_35 : vm_D q_X_factors.2.1 35 1 36 (.iload_n 3) := ⟨by decide +kernel, rfl⟩
theorem d_X_factors_36 : vm_B q_X_factors.2.1 36 39 71 (fun o => .if_icmp .ge o) := ⟨35, by decide +kernel, rfl, by decide⟩
theorem d_X_factors_39 : vm_D q_X_factors.2.1 39 2 41 (.iload 4) := ⟨by decide +kernel, rfl⟩
theorem d_X_factors_41 : vm_B q_X_factors.2.1 41 44 71 (fun o => .ifCond .ne o) := ⟨30, by decide +kernel, rfl, by decide⟩
theorem d_X_factors_44 : vm_D q_X_factors.2.1 44 1 45 (.aload_n 0) := ⟨by decide +kernel, rfl⟩
theorem d_X_factors_45 : vm_D q_X_factors.2.1 45 3 48 (.getfield 36) := ⟨by decide +kernel, rfl⟩
theorem d_X_factors_48 : vm_D q_X_factors.2.1 48 1 49 (.iload_n 3) := ⟨by decide +kernel, rfl⟩
theorem d_X_factors_49 : vm_D q_X_factors.2.1 49 2 51 (.iload 5) := ⟨by decide +kernel, rfl⟩
theorem d_X_factors_51 : vm_D q_X_factors.2.1 51 3 54 (.invokevirtual 163) := ⟨by decide +kernel, rfl⟩
theorem d_X_factors_54 : vm_D q_X_factors.2.1 54 1 55 (.iload_n 1) := ⟨by decide +kernel, rfl⟩
theorem d_X_factors_55 : vm_B q_X_factors.2.1 55 58 62 (fun o => .if_icmp .lt o) := ⟨7, by decide +kernel, rfl, by decide⟩
theorem d_X_factors_63 : vm_D q_X_factors.2.1 63 2 65 (.istore 4) := ⟨by decide +kernel, rfl⟩
theorem d_X_factors_65 : vm_D q_X_factors.2.1 65 3 68 (.iinc 5 1) := ⟨by decide +kernel, rfl⟩
theorem d_X_factors_68 : ∃ off : Int, decode q_X_factors.2.1 68 = .ok (.goto off, 3) ∧ ((68 : Nat) : Int) + off = ((33 : Nat) : Int) := ⟨-35, by decide +kernel, by decide⟩
theorem d_X_factors_62 : vm_D q_X_factors.2.1 62 1 63 (.iconst 0) := ⟨by decide +kernel, rfl⟩
theorem d_X_factors_58 : vm_D q_X_factors.2.1 58 1 59 (.iconst 1) := ⟨by decide +kernel, rfl⟩
theorem d_X_factors_59 : ∃ off : Int, decode q_X_factors.2.1 59 = .ok (.goto off, 3) ∧ ((59 : Nat) : Int) + off = ((63 : Nat) : Int) := ⟨4, by decide +kernel, by decide⟩
theorem d_X_factors_71 : vm_D q_X_factors.2.1 71 2 73 (.iload 4) := ⟨by decide +kernel, rfl⟩
theorem d_X_factors_73 : vm_B q_X_factors.2.1 73 76 79 (fun o => .ifCond .ne o) := ⟨6, by decide +kernel, rfl, by decide⟩
theorem d_X_factors_79 : vm_D q_X_factors.2.1 79 3 82 (.iinc 3 1) := ⟨by decide +kernel, rfl⟩
theorem d_X_factors_82 : ∃ off : Int, decode q_X_factors.2.1 82 = .ok (.goto off, 3) ∧ ((82 : Nat) : Int) + off = ((14 : Nat) : Int) := ⟨-68, by decide +kernel, by decide⟩
theorem d_X_factors_76 : vm_D q_X_factors.2.1 76 3 79 (.iinc 2 1) := ⟨by decide +kernel, rfl⟩
theorem d_X_factors_85 : vm_D q_X_factors.2.1 85 1 86 (.iload_n 2) := ⟨by decide +kernel, rfl⟩
theorem d_X_factors_86 : vm_D q_X_factors.2.1 86 1 87 (.ireturn) := ⟨by decide +kernel, rfl⟩
def q_X_mirror : vm_Y := ("RepeatFree", cX10_mirror, 5, false, [])
theorem d_X_mirror_0 : vm_D q_X_mirror.2.1 0 1 1 (.iconst 0) := ⟨by decide +kernel, rfl⟩
theorem d_X_mirror_1 : vm_D q_X_mirror.2.1 1 1 2 (.istore_n 1) := ⟨by decide +kernel, rfl⟩
theorem d_X_mirror_2 : vm_D q_X_mirror.2.1 2 1 3 (.iconst 0) := ⟨by decide +kernel, rfl⟩
theorem d_X_mirror_3 : vm_D q_X_mirror.2.1 3 1 4 (.istore_n 2) := ⟨by decide +kernel, rfl⟩
theorem d_X_mirror_4 : vm_D q_X_mirror.2.1 4 1 5 (.iload_n 2) := ⟨by decide +kernel, rfl⟩
theorem d_X_mirror_5 : vm_D q_X_mirror.2.1 5 1 6 (.iconst 2) := ⟨by decide +kernel, rfl⟩
theorem d_X_mirror_6 : vm_D q_X_mirror.2.1 6 1 7 (.aload_n 0) := ⟨by decide +kernel, rfl⟩
theorem d_X_mirror_7 : vm_D q_X_mirror.2.1 7 3 10 (.getfield 36) := ⟨by decide +kernel, rfl⟩
theorem d_X_mirror_10 : vm_D q_X_mirror.2.1 10 3 13 (.getfield 102) := ⟨by decide +kernel, rfl⟩
theorem d_X_mirror_13 : vm_D q_X_mirror.2.1 13 1 14 (.imul) := ⟨by decide +kernel, rfl⟩
theorem d_X_mirror_14 : vm_D q_X_mirror.2.1 14 1 15 (.iconst 1) := ⟨by decide +kernel, rfl⟩
theorem d_X_mirror_15 : vm_D q_X_mirror.2.1 15 1 16 (.isub) := ⟨by decide +kernel, rfl⟩
theorem d_X_mirror_16 : vm_B q_X_mirror.2.1 16 19 92 (fun o => .if_icmp .ge o) := ⟨76, by decide +kernel, rfl, by decide⟩
theorem d_X_mirror_19 : vm_D q_X_mirror.2.1 19 1 20 (.iload_n 2) := ⟨by decide +kernel, rfl⟩
theorem d_X_mirror_20 : vm_D q_X_mirror.2.1 20 1 21 (.iconst 2) := ⟨by decide +kernel, rfl⟩
theorem d_X_mirror_21 : vm_D q_X_mirror.2.1 21 1 22 (.idiv) := ⟨by decide +kernel, rfl⟩
theorem d_X_mirror_22 : vm_D q_X_mirror.2.1 22 1 23 (.istore_n 3) := ⟨by decide +kernel, rfl⟩
theorem d_X_mirror_23 : vm_D q_X_mirror.2.1 23 1 24 (.iload_n 3) := ⟨by decide +kernel, rfl⟩
theorem d_X_mirror_24 : vm_D q_X_mirror.2.1 24 1 25 (.iload_n 2) := ⟨by decide +kernel, rfl⟩
theorem d_X_mirror_25 : vm_D q_X_mirror.2.1 25 1 26 (.iconst 2) := ⟨by decide +kernel, rfl⟩
theorem d_X_mirror_26 : vm_D q_X_mirror.2.1 26 1 27 (.irem) := ⟨by decide +kernel, rfl⟩
theorem d_X_mirror_27 : vm_D q_X_mirror.2.1 27 1 28 (.iadd) := ⟨by decide +kernel, rfl⟩
theorem d_X_mirror_28 : vm_D q_X_mirror.2.1 28 2 30 (.istore 4) := ⟨by decide +kernel, rfl⟩
theorem d_X_mirror_30 : vm_D q_X_mirror.2.1 30 1 31 (.iload_n 3) := ⟨by decide +kernel, rfl⟩
theorem d_X_mirror_31 : vm_B q_X_mirror.2.1 31 34 75 (fun o => .ifCond .lt o) := ⟨44, by decide +kernel, rfl, by decide⟩
theorem d_X_mirror_34 : vm_D q_X_mirror.2.1 34 2 36 (.iload 4) := ⟨by decide +kernel, rfl⟩
theorem d_X_mirror_36 : vm_D q_X_mirror.2.1 36 1 37 (.aload_n 0) := ⟨by decide +kernel, rfl⟩
theorem d_X_mirror_37 : vm_D q_X_mirror.2.1 37 3 40 (.getfield 36) := ⟨by decide +kernel, rfl⟩
theorem d_X_mirror_40 : vm_D q_X_mirror.2.1 40 3 43 (.getfield 102) := ⟨by decide +kernel, rfl⟩
theorem d_X_mirror_43 : vm_B q_X_mirror.2.1 43 46 75 (fun o => .if_icmp .ge o) := ⟨32, by decide +kernel, rfl, by decide⟩
theorem d_X_mirror_46 : vm_D q_X_mirror.2.1 46 1 47 (.aload_n 0) := ⟨by decide +kernel, rfl⟩
theorem d_X_mirror_47 : vm_D q_X_mirror.2.1 47 3 50 (.getfield 36) := ⟨by decide +kernel, rfl⟩
theorem d_X_mirror_50 : vm_D q_X_mirror.2.1 50 1 51 (.iload_n 3) := ⟨by decide +kernel, rfl⟩
theorem d_X_mirror_51 : vm_D q_X_mirror.2.1 51 3 54 (.invokevirtual 106) := ⟨by decide +kernel, rfl⟩
theorem d_X_mirror_54 : vm_D q_X_mirror.2.1 54 1 55 (.aload_n 0) := ⟨by decide +kernel, rfl⟩
theorem d_X_mirror_55 : vm_D q_X_mirror.2.1 55 3 58 (.getfield 36) := ⟨by decide +kernel, rfl⟩
theorem d_X_mirror_58 : vm_D q_X_mirror.2.1 58 2 60 (.iload 4) := ⟨by decide +kernel, rfl⟩
theorem d_X_mirror_60 : vm_D q_X_mirror.2.1 60 3 63 (.invokevirtual 106) := ⟨by decide +kernel, rfl⟩
theorem d_X_mirror_63 : vm_B q_X_mirror.2.1 63 66 75 (fun o => .if_icmp .ne o) := ⟨12, by decide +kernel, rfl, by decide⟩
theorem d_X_mirror_66 : vm_D q_X_mirror.2.1 66 3 69 (.iinc 3 (-1)) := ⟨by decide +kernel, rfl⟩
theorem d_X_mirror_69 : vm_D q_X_mirror.2.1 69 3 72 (.iinc 4 1) := ⟨by decide +kernel, rfl⟩
theorem d_X_mirror_72 : ∃ off : Int, decode q_X_mirror.2.1 72 = .ok (.goto off, 3) ∧ ((72 : Nat) : Int) + off = ((30 : Nat) : Int) := ⟨-42, by decide +kernel, by decide⟩
theorem d_X_mirror_75 : vm_D q_X_mirror.2.1 75 1 76 (.iload_n 1) := ⟨by decide +kernel, rfl⟩
theorem d_X_mirror_76 : vm_D q_X_mirror.2.1 76 2 78 (.iload 4) := ⟨by decide +kernel, rfl⟩
theorem d_X_mirror_78 : vm_D q_X_mirror.2.1 78 1 79 (.iload_n 3) := ⟨by decide +kernel, rfl⟩
theorem d_X_mirror_79 : vm_D q_X_mirror.2.1 79 1 80 (.isub) := ⟨by decide +kernel, rfl⟩
theorem d_X_mirror_80 : vm_D q_X_mirror.2.1 80 1 81 (.iconst 1) := ⟨by decide +kernel, rfl⟩
theorem d_X_mirror_81 : vm_D q_X_mirror.2.1 81 1 82 (.isub) := ⟨by decide +kernel, rfl⟩
theorem d_X_mirror_82 : vm_D q_X_mirror.2.1 82 3 85 (.invokestatic 177) := ⟨by decide +kernel, rfl⟩
theorem d_X_mirror_85 : vm_D q_X_mirror.2.1 85 1 86 (.istore_n 1) := ⟨by decide +kernel, rfl⟩
theorem d_X_mirror_86 : vm_D q_X_mirror.2.1 86 3 89 (.iinc 2 1) := ⟨by decide +kernel, rfl⟩
theorem d_X_mirror_89 : ∃ off : Int, decode q_X_mirror.2.1 89 = .ok (.goto off, 3) ∧ ((89 : Nat) : Int) + off = ((4 : Nat) : Int) := ⟨-85, by decide +kernel, by decide⟩
theorem d_X_mirror_92 : vm_D q_X_mirror.2.1 92 1 93 (.iload_n 1) := ⟨by decide +kernel, rfl⟩
theorem d_X_mirror_93 : vm_D q_X_mirror.2.1 93 1 94 (.ireturn) := ⟨by decide +kernel, rfl⟩
def q_X_lyndon : vm_Y := ("RepeatFree", cX10_lyndon, 5, false, [])
theorem d_X_lyndon_0 : vm_D q_X_lyndon.2.1 0 1 1 (.iconst 0) := ⟨by decide +kernel, rfl⟩
theorem d_X_lyndon_1 : vm_D q_X_lyndon.2.1 1 1 2 (.istore_n 2) := ⟨by decide +kernel, rfl⟩
theorem d_X_lyndon_2 : vm_D q_X_lyndon.2.1 2 1 3 (.iconst 0) := ⟨by decide +kernel, rfl⟩
theorem d_X_lyndon_3 : vm_D q_X_lyndon.2.1 3 1 4 (.istore_n 3) := ⟨by decide +kernel, rfl⟩
theorem d_X_lyndon_4 : vm_D q_X_lyndon.2.1 4 1 5 (.iconst 1) := ⟨by decide +kernel, rfl⟩
theorem d_X_lyndon_5 : vm_D q_X_lyndon.2.1 5 2 7 (.istore 4) := ⟨by decide +kernel, rfl⟩
theorem d_X_lyndon_7 : vm_D q_X_lyndon.2.1 7 2 9 (.iload 4) := ⟨by decide +kernel, rfl⟩
theorem d_X_lyndon_9 : vm_D q_X_lyndon.2.1 9 1 10 (.aload_n 0) := ⟨by decide +kernel, rfl⟩
theorem d_X_lyndon_10 : vm_D q_X_lyndon.2.1 10 3 13 (.getfield 36) := ⟨by decide +kernel, rfl⟩
theorem d_X_lyndon_13 : vm_D q_X_lyndon.2.1 13 3 16 (.getfield 102) := ⟨by decide +kernel, rfl⟩
theorem d_X_lyndon_16 : vm_B q_X_lyndon.2.1 16 19 69 (fun o => .if_icmp .gt o) := ⟨53, by decide +kernel, rfl, by decide⟩
theorem d_X_lyndon_19 : vm_D q_X_lyndon.2.1 19 2 21 (.iload 4) := ⟨by decide +kernel, rfl⟩
theorem d_X_lyndon_21 : vm_D q_X_lyndon.2.1 21 1 22 (.aload_n 0) := ⟨by decide +kernel, rfl⟩
theorem d_X_lyndon_22 : vm_D q_X_lyndon.2.1 22 3 25 (.getfield 36) := ⟨by decide +kernel, rfl⟩
theorem d_X_lyndon_25 : vm_D q_X_lyndon.2.1 25 3 28 (.getfield 102) := ⟨by decide +kernel, rfl⟩
theorem d_X_lyndon_28 : vm_B q_X_lyndon.2.1 28 31 47 (fun o => .if_icmp .ge o) := ⟨19, by decide +kernel, rfl, by decide⟩
theorem d_X_lyndon_63 : vm_D q_X_lyndon.2.1 63 3 66 (.iinc 4 1) := ⟨by decide +kernel, rfl⟩
theorem d_X_lyndon_66 : ∃ off : Int, decode q_X_lyndon.2.1 66 = .ok (.goto off, 3) ∧ ((66 : Nat) : Int) + off = ((7 : Nat) : Int) := ⟨-59, by decide +kernel, by decide⟩
theorem d_X_lyndon_47 : vm_D q_X_lyndon.2.1 47 1 48 (.iload_n 3) := ⟨by decide +kernel, rfl⟩
theorem d_X_lyndon_48 : vm_D q_X_lyndon.2.1 48 1 49 (.iload_n 1) := ⟨by decide +kernel, rfl⟩
theorem d_X_lyndon_49 : vm_B q_X_lyndon.2.1 49 52 57 (fun o => .if_icmp .ne o) := ⟨8, by decide +kernel, rfl, by decide⟩
theorem d_X_lyndon_57 : vm_D q_X_lyndon.2.1 57 3 60 (.iinc 3 1) := ⟨by decide +kernel, rfl⟩
theorem d_X_lyndon_60 : vm_D q_X_lyndon.2.1 60 2 62 (.iload 4) := ⟨by decide +kernel, rfl⟩
theorem d_X_lyndon_62 : vm_D q_X_lyndon.2.1 62 1 63 (.istore_n 2) := ⟨by decide +kernel, rfl⟩
theorem d_X_lyndon_52 : vm_D q_X_lyndon.2.1 52 2 54 (.iload 4) := ⟨by decide +kernel, rfl⟩
theorem d_X_lyndon_54 : vm_D q_X_lyndon.2.1 54 1 55 (.iload_n 2) := ⟨by decide +kernel, rfl⟩
theorem d_X_lyndon_55 : vm_D q_X_lyndon.2.1 55 1 56 (.isub) := ⟨by decide +kernel, rfl⟩
theorem d_X_lyndon_56 : vm_D q_X_lyndon.2.1 56 1 57 (.ireturn) := ⟨by decide +kernel, rfl⟩
theorem d_X_lyndon_31 : vm_D q_X_lyndon.2.1 31 1 32 (.aload_n 0) := ⟨by decide +kernel, rfl⟩
theorem d_X_lyndon_32 : vm_D q_X_lyndon.2.1 32 3 35 (.getfield 36) := ⟨by decide +kernel, rfl⟩
theorem d_X_lyndon_35 : vm_D q_X_lyndon.2.1 35 2 37 (.iload 4) := ⟨by decide +kernel, rfl⟩
theorem d_X_lyndon_37 : vm_D q_X_lyndon.2.1 37 1 38 (.iload_n 2) := ⟨by decide +kernel, rfl⟩
theorem d_X_lyndon_38 : vm_D q_X_lyndon.2.1 38 3 41 (.invokevirtual 182) := ⟨by decide +kernel, rfl⟩
theorem d_X_lyndon_41 : vm_B q_X_lyndon.2.1 41 44 47 (fun o => .ifCond .ne o) := ⟨6, by decide +kernel, rfl, by decide⟩
theorem d_X_lyndon_44 : ∃ off : Int, decode q_X_lyndon.2.1 44 = .ok (.goto off, 3) ∧ ((44 : Nat) : Int) + off = ((63 : Nat) : Int) := ⟨19, by decide +kernel, by decide⟩
theorem d_X_lyndon_69 : vm_D q_X_lyndon.2.1 69 1 70 (.iload_n 1) := ⟨by decide +kernel, rfl⟩
theorem d_X_lyndon_70 : vm_D q_X_lyndon.2.1 70 1 71 (.iconst (-1)) := ⟨by decide +kernel, rfl⟩
theorem d_X_lyndon_71 : vm_B q_X_lyndon.2.1 71 74 78 (fun o => .if_icmp .ne o) := ⟨7, by decide +kernel, rfl, by decide⟩
theorem d_X_lyndon_78 : vm_D q_X_lyndon.2.1 78 1 79 (.iconst (-1)) := ⟨by decide +kernel, rfl⟩
theorem d_X_lyndon_79 : vm_D q_X_lyndon.2.1 79 1 80 (.ireturn) := ⟨by decide +kernel, rfl⟩
theorem d_X_lyndon_74 : vm_D q_X_lyndon.2.1 74 1 75 (.iload_n 3) := ⟨by decide +kernel, rfl⟩
theorem d_X_lyndon_75 : ∃ off : Int, decode q_X_lyndon.2.1 75 = .ok (.goto off, 3) ∧ ((75 : Nat) : Int) + off = ((79 : Nat) : Int) := ⟨4, by decide +kernel, by decide⟩
def q_X_turned : vm_Y := ("RepeatFree", cX10_turned, 3, false, [])
theorem d_X_turned_0 : vm_D q_X_turned.2.1 0 1 1 (.aload_n 0) := ⟨by decide +kernel, rfl⟩
theorem d_X_turned_1 : vm_D q_X_turned.2.1 1 3 4 (.getfield 36) := ⟨by decide +kernel, rfl⟩
theorem d_X_turned_4 : vm_D q_X_turned.2.1 4 3 7 (.getfield 102) := ⟨by decide +kernel, rfl⟩
theorem d_X_turned_7 : vm_B q_X_turned.2.1 7 10 12 (fun o => .ifCond .ne o) := ⟨5, by decide +kernel, rfl, by decide⟩
theorem d_X_turned_12 : vm_D q_X_turned.2.1 12 1 13 (.iconst 0) := ⟨by decide +kernel, rfl⟩
theorem d_X_turned_13 : vm_D q_X_turned.2.1 13 1 14 (.istore_n 1) := ⟨by decide +kernel, rfl⟩
theorem d_X_turned_14 : vm_D q_X_turned.2.1 14 1 15 (.iconst 1) := ⟨by decide +kernel, rfl⟩
theorem d_X_turned_15 : vm_D q_X_turned.2.1 15 1 16 (.istore_n 2) := ⟨by decide +kernel, rfl⟩
theorem d_X_turned_16 : vm_D q_X_turned.2.1 16 1 17 (.iload_n 2) := ⟨by decide +kernel, rfl⟩
theorem d_X_turned_17 : vm_D q_X_turned.2.1 17 1 18 (.aload_n 0) := ⟨by decide +kernel, rfl⟩
theorem d_X_turned_18 : vm_D q_X_turned.2.1 18 3 21 (.getfield 36) := ⟨by decide +kernel, rfl⟩
theorem d_X_turned_21 : vm_D q_X_turned.2.1 21 3 24 (.getfield 102) := ⟨by decide +kernel, rfl⟩
theorem d_X_turned_24 : vm_B q_X_turned.2.1 24 27 47 (fun o => .if_icmp .ge o) := ⟨23, by decide +kernel, rfl, by decide⟩
theorem d_X_turned_27 : vm_D q_X_turned.2.1 27 1 28 (.aload_n 0) := ⟨by decide +kernel, rfl⟩
theorem d_X_turned_28 : vm_D q_X_turned.2.1 28 3 31 (.getfield 36) := ⟨by decide +kernel, rfl⟩
theorem d_X_turned_31 : vm_D q_X_turned.2.1 31 1 32 (.iload_n 2) := ⟨by decide +kernel, rfl⟩
theorem d_X_turned_32 : vm_D q_X_turned.2.1 32 1 33 (.iload_n 1) := ⟨by decide +kernel, rfl⟩
theorem d_X_turned_33 : vm_D q_X_turned.2.1 33 3 36 (.invokevirtual 186) := ⟨by decide +kernel, rfl⟩
theorem d_X_turned_36 : vm_B q_X_turned.2.1 36 39 41 (fun o => .ifCond .eq o) := ⟨5, by decide +kernel, rfl, by decide⟩
theorem d_X_turned_41 : vm_D q_X_turned.2.1 41 3 44 (.iinc 2 1) := ⟨by decide +kernel, rfl⟩
theorem d_X_turned_44 : ∃ off : Int, decode q_X_turned.2.1 44 = .ok (.goto off, 3) ∧ ((44 : Nat) : Int) + off = ((16 : Nat) : Int) := ⟨-28, by decide +kernel, by decide⟩
theorem d_X_turned_39 : vm_D q_X_turned.2.1 39 1 40 (.iload_n 2) := ⟨by decide +kernel, rfl⟩
theorem d_X_turned_40 : vm_D q_X_turned.2.1 40 1 41 (.istore_n 1) := ⟨by decide +kernel, rfl⟩
theorem d_X_turned_47 : vm_D q_X_turned.2.1 47 1 48 (.iload_n 1) := ⟨by decide +kernel, rfl⟩
theorem d_X_turned_48 : vm_D q_X_turned.2.1 48 1 49 (.ireturn) := ⟨by decide +kernel, rfl⟩
theorem d_X_turned_10 : vm_D q_X_turned.2.1 10 1 11 (.iconst (-1)) := ⟨by decide +kernel, rfl⟩
theorem d_X_turned_11 : vm_D q_X_turned.2.1 11 1 12 (.ireturn) := ⟨by decide +kernel, rfl⟩
def q_X_local : vm_Y := ("RepeatFree", cX10_local, 3, false, [])
theorem d_X_local_0 : vm_D q_X_local.2.1 0 1 1 (.aload_n 0) := ⟨by decide +kernel, rfl⟩
theorem d_X_local_1 : vm_D q_X_local.2.1 1 1 2 (.iload_n 1) := ⟨by decide +kernel, rfl⟩
theorem d_X_local_2 : vm_D q_X_local.2.1 2 1 3 (.iconst 1) := ⟨by decide +kernel, rfl⟩
theorem d_X_local_3 : vm_D q_X_local.2.1 3 1 4 (.aload_n 0) := ⟨by decide +kernel, rfl⟩
theorem d_X_local_4 : vm_D q_X_local.2.1 4 3 7 (.getfield 36) := ⟨by decide +kernel, rfl⟩
theorem d_X_local_7 : vm_D q_X_local.2.1 7 3 10 (.getfield 102) := ⟨by decide +kernel, rfl⟩
theorem d_X_local_10 : vm_D q_X_local.2.1 10 1 11 (.iconst 1) := ⟨by decide +kernel, rfl⟩
theorem d_X_local_11 : vm_D q_X_local.2.1 11 1 12 (.isub) := ⟨by decide +kernel, rfl⟩
theorem d_X_local_12 : vm_D q_X_local.2.1 12 3 15 (.invokevirtual 173) := ⟨by decide +kernel, rfl⟩
theorem d_X_local_15 : vm_D q_X_local.2.1 15 1 16 (.iconst 1) := ⟨by decide +kernel, rfl⟩
theorem d_X_local_16 : vm_D q_X_local.2.1 16 1 17 (.istore_n 2) := ⟨by decide +kernel, rfl⟩
theorem d_X_local_17 : vm_D q_X_local.2.1 17 1 18 (.iload_n 2) := ⟨by decide +kernel, rfl⟩
theorem d_X_local_18 : vm_D q_X_local.2.1 18 1 19 (.aload_n 0) := ⟨by decide +kernel, rfl⟩
theorem d_X_local_19 : vm_D q_X_local.2.1 19 3 22 (.getfield 36) := ⟨by decide +kernel, rfl⟩
theorem d_X_local_22 : vm_D q_X_local.2.1 22 3 25 (.getfield 102) := ⟨by decide +kernel, rfl⟩
theorem d_X_local_25 : vm_B q_X_local.2.1 25 28 46 (fun o => .if_icmp .ge o) := ⟨21, by decide +kernel, rfl, by decide⟩
theorem d_X_local_28 : vm_D q_X_local.2.1 28 1 29 (.aload_n 0) := ⟨by decide +kernel, rfl⟩
theorem d_X_local_29 : vm_D q_X_local.2.1 29 3 32 (.getfield 36) := ⟨by decide +kernel, rfl⟩
theorem d_X_local_32 : vm_D q_X_local.2.1 32 1 33 (.iload_n 1) := ⟨by decide +kernel, rfl⟩
theorem d_X_local_33 : vm_D q_X_local.2.1 33 1 34 (.iload_n 2) := ⟨by decide +kernel, rfl⟩
theorem d_X_local_34 : vm_D q_X_local.2.1 34 3 37 (.invokevirtual 189) := ⟨by decide +kernel, rfl⟩
theorem d_X_local_37 : vm_B q_X_local.2.1 37 40 46 (fun o => .ifCond .ne o) := ⟨9, by decide +kernel, rfl, by decide⟩
theorem d_X_local_40 : vm_D q_X_local.2.1 40 3 43 (.iinc 2 1) := ⟨by decide +kernel, rfl⟩
theorem d_X_local_43 : ∃ off : Int, decode q_X_local.2.1 43 = .ok (.goto off, 3) ∧ ((43 : Nat) : Int) + off = ((17 : Nat) : Int) := ⟨-26, by decide +kernel, by decide⟩
theorem d_X_local_46 : vm_D q_X_local.2.1 46 1 47 (.iload_n 2) := ⟨by decide +kernel, rfl⟩
theorem d_X_local_47 : vm_D q_X_local.2.1 47 1 48 (.ireturn) := ⟨by decide +kernel, rfl⟩
def q_X_met : vm_Y := ("RepeatFree", cX10_met, 5, false, [])
theorem d_X_met_0 : vm_D q_X_met.2.1 0 1 1 (.aload_n 0) := ⟨by decide +kernel, rfl⟩
theorem d_X_met_1 : vm_D q_X_met.2.1 1 1 2 (.iload_n 1) := ⟨by decide +kernel, rfl⟩
theorem d_X_met_2 : vm_D q_X_met.2.1 2 3 5 (.invokevirtual 192) := ⟨by decide +kernel, rfl⟩
theorem d_X_met_5 : vm_D q_X_met.2.1 5 1 6 (.astore_n 3) := ⟨by decide +kernel, rfl⟩
theorem d_X_met_6 : vm_D q_X_met.2.1 6 1 7 (.aload_n 0) := ⟨by decide +kernel, rfl⟩
theorem d_X_met_7 : vm_D q_X_met.2.1 7 1 8 (.iload_n 2) := ⟨by decide +kernel, rfl⟩
theorem d_X_met_8 : vm_D q_X_met.2.1 8 1 9 (.iconst 3) := ⟨by decide +kernel, rfl⟩
theorem d_X_met_9 : vm_D q_X_met.2.1 9 3 12 (.invokevirtual 159) := ⟨by decide +kernel, rfl⟩
theorem d_X_met_12 : vm_D q_X_met.2.1 12 1 13 (.iconst 0) := ⟨by decide +kernel, rfl⟩
theorem d_X_met_13 : vm_D q_X_met.2.1 13 2 15 (.istore 4) := ⟨by decide +kernel, rfl⟩
theorem d_X_met_15 : vm_D q_X_met.2.1 15 2 17 (.iload 4) := ⟨by decide +kernel, rfl⟩
theorem d_X_met_17 : vm_D q_X_met.2.1 17 1 18 (.aload_n 3) := ⟨by decide +kernel, rfl⟩
theorem d_X_met_18 : vm_D q_X_met.2.1 18 3 21 (.getfield 195) := ⟨by decide +kernel, rfl⟩
theorem d_X_met_21 : vm_D q_X_met.2.1 21 1 22 (.iadd) := ⟨by decide +kernel, rfl⟩
theorem d_X_met_22 : vm_D q_X_met.2.1 22 1 23 (.aload_n 0) := ⟨by decide +kernel, rfl⟩
theorem d_X_met_23 : vm_D q_X_met.2.1 23 3 26 (.getfield 36) := ⟨by decide +kernel, rfl⟩
theorem d_X_met_26 : vm_D q_X_met.2.1 26 3 29 (.getfield 102) := ⟨by decide +kernel, rfl⟩
theorem d_X_met_29 : vm_B q_X_met.2.1 29 32 94 (fun o => .if_icmp .gt o) := ⟨65, by decide +kernel, rfl, by decide⟩
theorem d_X_met_32 : vm_D q_X_met.2.1 32 1 33 (.aload_n 0) := ⟨by decide +kernel, rfl⟩
theorem d_X_met_33 : vm_D q_X_met.2.1 33 3 36 (.getfield 36) := ⟨by decide +kernel, rfl⟩
theorem d_X_met_36 : vm_D q_X_met.2.1 36 1 37 (.aload_n 3) := ⟨by decide +kernel, rfl⟩
theorem d_X_met_37 : vm_D q_X_met.2.1 37 1 38 (.aload_n 0) := ⟨by decide +kernel, rfl⟩
theorem d_X_met_38 : vm_D q_X_met.2.1 38 3 41 (.getfield 29) := ⟨by decide +kernel, rfl⟩
theorem d_X_met_41 : vm_D q_X_met.2.1 41 1 42 (.iconst 0) := ⟨by decide +kernel, rfl⟩
theorem d_X_met_42 : vm_D q_X_met.2.1 42 2 44 (.iload 4) := ⟨by decide +kernel, rfl⟩
theorem d_X_met_44 : vm_D q_X_met.2.1 44 1 45 (.iconst 1) := ⟨by decide +kernel, rfl⟩
theorem d_X_met_45 : vm_D q_X_met.2.1 45 3 48 (.invokestatic 198) := ⟨by decide +kernel, rfl⟩
theorem d_X_met_48 : vm_B q_X_met.2.1 48 51 88 (fun o => .ifCond .eq o) := ⟨40, by decide +kernel, rfl, by decide⟩
theorem d_X_met_88 : vm_D q_X_met.2.1 88 3 91 (.iinc 4 1) := ⟨by decide +kernel, rfl⟩
theorem d_X_met_91 : ∃ off : Int, decode q_X_met.2.1 91 = .ok (.goto off, 3) ∧ ((91 : Nat) : Int) + off = ((15 : Nat) : Int) := ⟨-76, by decide +kernel, by decide⟩
theorem d_X_met_51 : vm_D q_X_met.2.1 51 1 52 (.aload_n 0) := ⟨by decide +kernel, rfl⟩
theorem d_X_met_52 : vm_D q_X_met.2.1 52 3 55 (.getfield 29) := ⟨by decide +kernel, rfl⟩
theorem d_X_met_55 : vm_D q_X_met.2.1 55 1 56 (.aload_n 0) := ⟨by decide +kernel, rfl⟩
theorem d_X_met_56 : vm_D q_X_met.2.1 56 3 59 (.getfield 36) := ⟨by decide +kernel, rfl⟩
theorem d_X_met_59 : vm_D q_X_met.2.1 59 1 60 (.aload_n 3) := ⟨by decide +kernel, rfl⟩
theorem d_X_met_60 : vm_D q_X_met.2.1 60 2 62 (.iload 4) := ⟨by decide +kernel, rfl⟩
theorem d_X_met_62 : vm_D q_X_met.2.1 62 1 63 (.iconst 0) := ⟨by decide +kernel, rfl⟩
theorem d_X_met_63 : vm_D q_X_met.2.1 63 1 64 (.iconst 0) := ⟨by decide +kernel, rfl⟩
theorem d_X_met_64 : vm_D q_X_met.2.1 64 3 67 (.invokevirtual 202) := ⟨by decide +kernel, rfl⟩
theorem d_X_met_67 : vm_D q_X_met.2.1 67 1 68 (.pop) := ⟨by decide +kernel, rfl⟩
theorem d_X_met_68 : vm_D q_X_met.2.1 68 1 69 (.iload_n 2) := ⟨by decide +kernel, rfl⟩
theorem d_X_met_69 : vm_B q_X_met.2.1 69 72 77 (fun o => .ifCond .ne o) := ⟨8, by decide +kernel, rfl, by decide⟩
theorem d_X_met_77 : vm_D q_X_met.2.1 77 1 78 (.aload_n 0) := ⟨by decide +kernel, rfl⟩
theorem d_X_met_78 : vm_D q_X_met.2.1 78 3 81 (.getfield 29) := ⟨by decide +kernel, rfl⟩
theorem d_X_met_81 : vm_D q_X_met.2.1 81 1 82 (.iload_n 2) := ⟨by decide +kernel, rfl⟩
theorem d_X_met_82 : vm_D q_X_met.2.1 82 1 83 (.iconst 1) := ⟨by decide +kernel, rfl⟩
theorem d_X_met_83 : vm_D q_X_met.2.1 83 1 84 (.isub) := ⟨by decide +kernel, rfl⟩
theorem d_X_met_84 : vm_D q_X_met.2.1 84 3 87 (.invokevirtual 206) := ⟨by decide +kernel, rfl⟩
theorem d_X_met_87 : vm_D q_X_met.2.1 87 1 88 (.ireturn) := ⟨by decide +kernel, rfl⟩
theorem d_X_met_72 : vm_D q_X_met.2.1 72 2 74 (.iload 4) := ⟨by decide +kernel, rfl⟩
theorem d_X_met_74 : ∃ off : Int, decode q_X_met.2.1 74 = .ok (.goto off, 3) ∧ ((74 : Nat) : Int) + off = ((87 : Nat) : Int) := ⟨13, by decide +kernel, by decide⟩
theorem d_X_met_94 : vm_D q_X_met.2.1 94 1 95 (.iconst (-1)) := ⟨by decide +kernel, rfl⟩
theorem d_X_met_95 : vm_D q_X_met.2.1 95 1 96 (.ireturn) := ⟨by decide +kernel, rfl⟩
def q_X_whole : vm_Y := ("RepeatFree", cX10_whole, 6, false, [])
theorem d_X_whole_0 : vm_D q_X_whole.2.1 0 1 1 (.aload_n 0) := ⟨by decide +kernel, rfl⟩
theorem d_X_whole_1 : vm_D q_X_whole.2.1 1 1 2 (.iload_n 1) := ⟨by decide +kernel, rfl⟩
theorem d_X_whole_2 : vm_D q_X_whole.2.1 2 3 5 (.invokevirtual 192) := ⟨by decide +kernel, rfl⟩
theorem d_X_whole_5 : vm_D q_X_whole.2.1 5 2 7 (.astore 4) := ⟨by decide +kernel, rfl⟩
theorem d_X_whole_7 : vm_D q_X_whole.2.1 7 1 8 (.aload_n 0) := ⟨by decide +kernel, rfl⟩
theorem d_X_whole_8 : vm_D q_X_whole.2.1 8 1 9 (.iload_n 3) := ⟨by decide +kernel, rfl⟩
theorem d_X_whole_9 : vm_D q_X_whole.2.1 9 1 10 (.iconst 2) := ⟨by decide +kernel, rfl⟩
theorem d_X_whole_10 : vm_D q_X_whole.2.1 10 3 13 (.invokevirtual 159) := ⟨by decide +kernel, rfl⟩
theorem d_X_whole_13 : vm_D q_X_whole.2.1 13 1 14 (.aload_n 0) := ⟨by decide +kernel, rfl⟩
theorem d_X_whole_14 : vm_D q_X_whole.2.1 14 3 17 (.getfield 29) := ⟨by decide +kernel, rfl⟩
theorem d_X_whole_17 : vm_D q_X_whole.2.1 17 1 18 (.aload_n 0) := ⟨by decide +kernel, rfl⟩
theorem d_X_whole_18 : vm_D q_X_whole.2.1 18 3 21 (.getfield 36) := ⟨by decide +kernel, rfl⟩
theorem d_X_whole_21 : vm_D q_X_whole.2.1 21 2 23 (.aload 4) := ⟨by decide +kernel, rfl⟩
theorem d_X_whole_23 : vm_D q_X_whole.2.1 23 1 24 (.iconst 0) := ⟨by decide +kernel, rfl⟩
theorem d_X_whole_24 : vm_D q_X_whole.2.1 24 1 25 (.iconst 1) := ⟨by decide +kernel, rfl⟩
theorem d_X_whole_25 : vm_D q_X_whole.2.1 25 1 26 (.iload_n 2) := ⟨by decide +kernel, rfl⟩
theorem d_X_whole_26 : vm_D q_X_whole.2.1 26 3 29 (.invokevirtual 202) := ⟨by decide +kernel, rfl⟩
theorem d_X_whole_29 : vm_D q_X_whole.2.1 29 2 31 (.istore 5) := ⟨by decide +kernel, rfl⟩
theorem d_X_whole_31 : vm_D q_X_whole.2.1 31 1 32 (.iload_n 2) := ⟨by decide +kernel, rfl⟩
theorem d_X_whole_32 : vm_D q_X_whole.2.1 32 1 33 (.iconst (-1)) := ⟨by decide +kernel, rfl⟩
theorem d_X_whole_33 : vm_B q_X_whole.2.1 33 36 39 (fun o => .if_icmp .ne o) := ⟨6, by decide +kernel, rfl, by decide⟩
theorem d_X_whole_39 : vm_D q_X_whole.2.1 39 1 40 (.iload_n 2) := ⟨by decide +kernel, rfl⟩
theorem d_X_whole_40 : vm_B q_X_whole.2.1 40 43 60 (fun o => .ifCond .lt o) := ⟨20, by decide +kernel, rfl, by decide⟩
theorem d_X_whole_60 : vm_D q_X_whole.2.1 60 1 61 (.iconst (-1)) := ⟨by decide +kernel, rfl⟩
theorem d_X_whole_61 : vm_D q_X_whole.2.1 61 1 62 (.ireturn) := ⟨by decide +kernel, rfl⟩
theorem d_X_whole_43 : vm_D q_X_whole.2.1 43 1 44 (.iload_n 2) := ⟨by decide +kernel, rfl⟩
theorem d_X_whole_44 : vm_D q_X_whole.2.1 44 2 46 (.iload 5) := ⟨by decide +kernel, rfl⟩
theorem d_X_whole_46 : vm_B q_X_whole.2.1 46 49 60 (fun o => .if_icmp .ge o) := ⟨14, by decide +kernel, rfl, by decide⟩
theorem d_X_whole_49 : vm_D q_X_whole.2.1 49 1 50 (.aload_n 0) := ⟨by decide +kernel, rfl⟩
theorem d_X_whole_50 : vm_D q_X_whole.2.1 50 3 53 (.getfield 29) := ⟨by decide +kernel, rfl⟩
theorem d_X_whole_53 : vm_D q_X_whole.2.1 53 1 54 (.iload_n 3) := ⟨by decide +kernel, rfl⟩
theorem d_X_whole_54 : vm_D q_X_whole.2.1 54 3 57 (.invokevirtual 206) := ⟨by decide +kernel, rfl⟩
theorem d_X_whole_57 : ∃ off : Int, decode q_X_whole.2.1 57 = .ok (.goto off, 3) ∧ ((57 : Nat) : Int) + off = ((61 : Nat) : Int) := ⟨4, by decide +kernel, by decide⟩
theorem d_X_whole_36 : vm_D q_X_whole.2.1 36 2 38 (.iload 5) := ⟨by decide +kernel, rfl⟩
theorem d_X_whole_38 : vm_D q_X_whole.2.1 38 1 39 (.ireturn) := ⟨by decide +kernel, rfl⟩
def q_X_cannot : vm_Y := ("RepeatFree", cX10_cannot, 2, false, [])
theorem d_X_cannot_0 : vm_D q_X_cannot.2.1 0 1 1 (.aload_n 0) := ⟨by decide +kernel, rfl⟩
theorem d_X_cannot_1 : vm_D q_X_cannot.2.1 1 1 2 (.iload_n 1) := ⟨by decide +kernel, rfl⟩
theorem d_X_cannot_2 : vm_D q_X_cannot.2.1 2 3 5 (.invokevirtual 192) := ⟨by decide +kernel, rfl⟩
theorem d_X_cannot_5 : vm_D q_X_cannot.2.1 5 3 8 (.invokevirtual 209) := ⟨by decide +kernel, rfl⟩
theorem d_X_cannot_8 : vm_D q_X_cannot.2.1 8 1 9 (.ireturn) := ⟨by decide +kernel, rfl⟩
def q_X_loose : vm_Y := ("RepeatFree", cX10_loose, 7, false, [])
theorem d_X_loose_0 : vm_D q_X_loose.2.1 0 1 1 (.aload_n 0) := ⟨by decide +kernel, rfl⟩
theorem d_X_loose_1 : vm_D q_X_loose.2.1 1 1 2 (.iload_n 1) := ⟨by decide +kernel, rfl⟩
theorem d_X_loose_2 : vm_D q_X_loose.2.1 2 3 5 (.invokevirtual 192) := ⟨by decide +kernel, rfl⟩
theorem d_X_loose_5 : vm_D q_X_loose.2.1 5 1 6 (.astore_n 3) := ⟨by decide +kernel, rfl⟩
theorem d_X_loose_6 : vm_D q_X_loose.2.1 6 1 7 (.aload_n 3) := ⟨by decide +kernel, rfl⟩
theorem d_X_loose_7 : vm_D q_X_loose.2.1 7 3 10 (.invokevirtual 213) := ⟨by decide +kernel, rfl⟩
theorem d_X_loose_10 : vm_D q_X_loose.2.1 10 2 12 (.istore 4) := ⟨by decide +kernel, rfl⟩
theorem d_X_loose_12 : vm_D q_X_loose.2.1 12 1 13 (.iconst 0) := ⟨by decide +kernel, rfl⟩
theorem d_X_loose_13 : vm_D q_X_loose.2.1 13 2 15 (.istore 5) := ⟨by decide +kernel, rfl⟩
theorem d_X_loose_15 : vm_D q_X_loose.2.1 15 1 16 (.iconst 1) := ⟨by decide +kernel, rfl⟩
theorem d_X_loose_16 : vm_D q_X_loose.2.1 16 2 18 (.istore 6) := ⟨by decide +kernel, rfl⟩
theorem d_X_loose_18 : vm_D q_X_loose.2.1 18 2 20 (.iload 6) := ⟨by decide +kernel, rfl⟩
theorem d_X_loose_20 : vm_D q_X_loose.2.1 20 2 22 (.iload 4) := ⟨by decide +kernel, rfl⟩
theorem d_X_loose_22 : vm_B q_X_loose.2.1 22 25 67 (fun o => .if_icmp .gt o) := ⟨45, by decide +kernel, rfl, by decide⟩
theorem d_X_loose_25 : vm_D q_X_loose.2.1 25 2 27 (.iload 6) := ⟨by decide +kernel, rfl⟩
theorem d_X_loose_27 : vm_D q_X_loose.2.1 27 2 29 (.iload 4) := ⟨by decide +kernel, rfl⟩
theorem d_X_loose_29 : vm_D q_X_loose.2.1 29 1 30 (.iconst (-1)) := ⟨by decide +kernel, rfl⟩
theorem d_X_loose_30 : vm_D q_X_loose.2.1 30 1 31 (.ixor) := ⟨by decide +kernel, rfl⟩
theorem d_X_loose_31 : vm_D q_X_loose.2.1 31 1 32 (.iand) := ⟨by decide +kernel, rfl⟩
theorem d_X_loose_32 : vm_B q_X_loose.2.1 32 35 61 (fun o => .ifCond .ne o) := ⟨29, by decide +kernel, rfl, by decide⟩
theorem d_X_loose_61 : vm_D q_X_loose.2.1 61 3 64 (.iinc 6 1) := ⟨by decide +kernel, rfl⟩
theorem d_X_loose_64 : ∃ off : Int, decode q_X_loose.2.1 64 = .ok (.goto off, 3) ∧ ((64 : Nat) : Int) + off = ((18 : Nat) : Int) := ⟨-46, by decide +kernel, by decide⟩
theorem d_X_loose_35 : vm_D q_X_loose.2.1 35 1 36 (.aload_n 3) := ⟨by decide +kernel, rfl⟩
theorem d_X_loose_36 : vm_D q_X_loose.2.1 36 2 38 (.iload 4) := ⟨by decide +kernel, rfl⟩
theorem d_X_loose_38 : vm_D q_X_loose.2.1 38 2 40 (.iload 6) := ⟨by decide +kernel, rfl⟩
theorem d_X_loose_40 : vm_D q_X_loose.2.1 40 3 43 (.invokevirtual 216) := ⟨by decide +kernel, rfl⟩
theorem d_X_loose_43 : vm_B q_X_loose.2.1 43 46 49 (fun o => .ifCond .ne o) := ⟨6, by decide +kernel, rfl, by decide⟩
theorem d_X_loose_49 : vm_D q_X_loose.2.1 49 2 51 (.iload 5) := ⟨by decide +kernel, rfl⟩
theorem d_X_loose_51 : vm_D q_X_loose.2.1 51 1 52 (.iload_n 2) := ⟨by decide +kernel, rfl⟩
theorem d_X_loose_52 : vm_B q_X_loose.2.1 52 55 58 (fun o => .if_icmp .ne o) := ⟨6, by decide +kernel, rfl, by decide⟩
theorem d_X_loose_58 : vm_D q_X_loose.2.1 58 3 61 (.iinc 5 1) := ⟨by decide +kernel, rfl⟩
theorem d_X_loose_55 : vm_D q_X_loose.2.1 55 2 57 (.iload 6) := ⟨by decide +kernel, rfl⟩
theorem d_X_loose_57 : vm_D q_X_loose.2.1 57 1 58 (.ireturn) := ⟨by decide +kernel, rfl⟩
theorem d_X_loose_46 : ∃ off : Int, decode q_X_loose.2.1 46 = .ok (.goto off, 3) ∧ ((46 : Nat) : Int) + off = ((61 : Nat) : Int) := ⟨15, by decide +kernel, by decide⟩
theorem d_X_loose_67 : vm_D q_X_loose.2.1 67 1 68 (.iload_n 2) := ⟨by decide +kernel, rfl⟩
theorem d_X_loose_68 : vm_D q_X_loose.2.1 68 1 69 (.iconst (-1)) := ⟨by decide +kernel, rfl⟩
theorem d_X_loose_69 : vm_B q_X_loose.2.1 69 72 77 (fun o => .if_icmp .ne o) := ⟨8, by decide +kernel, rfl, by decide⟩
theorem d_X_loose_77 : vm_D q_X_loose.2.1 77 1 78 (.iconst (-1)) := ⟨by decide +kernel, rfl⟩
theorem d_X_loose_78 : vm_D q_X_loose.2.1 78 1 79 (.ireturn) := ⟨by decide +kernel, rfl⟩
theorem d_X_loose_72 : vm_D q_X_loose.2.1 72 2 74 (.iload 5) := ⟨by decide +kernel, rfl⟩
theorem d_X_loose_74 : ∃ off : Int, decode q_X_loose.2.1 74 = .ok (.goto off, 3) ∧ ((74 : Nat) : Int) + off = ((78 : Nat) : Int) := ⟨4, by decide +kernel, by decide⟩
def q_X_pattern : vm_Y := ("RepeatFree", cX10_pattern, 4, false, [])
theorem d_X_pattern_0 : vm_D q_X_pattern.2.1 0 1 1 (.aload_n 0) := ⟨by decide +kernel, rfl⟩
theorem d_X_pattern_1 : vm_D q_X_pattern.2.1 1 1 2 (.iload_n 1) := ⟨by decide +kernel, rfl⟩
theorem d_X_pattern_2 : vm_D q_X_pattern.2.1 2 3 5 (.invokevirtual 192) := ⟨by decide +kernel, rfl⟩
theorem d_X_pattern_5 : vm_D q_X_pattern.2.1 5 1 6 (.astore_n 3) := ⟨by decide +kernel, rfl⟩
theorem d_X_pattern_6 : vm_D q_X_pattern.2.1 6 1 7 (.aload_n 0) := ⟨by decide +kernel, rfl⟩
theorem d_X_pattern_7 : vm_D q_X_pattern.2.1 7 1 8 (.iload_n 2) := ⟨by decide +kernel, rfl⟩
theorem d_X_pattern_8 : vm_D q_X_pattern.2.1 8 1 9 (.iconst 2) := ⟨by decide +kernel, rfl⟩
theorem d_X_pattern_9 : vm_D q_X_pattern.2.1 9 3 12 (.invokevirtual 159) := ⟨by decide +kernel, rfl⟩
theorem d_X_pattern_12 : vm_D q_X_pattern.2.1 12 1 13 (.iload_n 2) := ⟨by decide +kernel, rfl⟩
theorem d_X_pattern_13 : vm_B q_X_pattern.2.1 13 16 23 (fun o => .ifCond .ne o) := ⟨10, by decide +kernel, rfl, by decide⟩
theorem d_X_pattern_23 : vm_D q_X_pattern.2.1 23 1 24 (.iload_n 2) := ⟨by decide +kernel, rfl⟩
theorem d_X_pattern_24 : vm_D q_X_pattern.2.1 24 1 25 (.iconst 1) := ⟨by decide +kernel, rfl⟩
theorem d_X_pattern_25 : vm_B q_X_pattern.2.1 25 28 35 (fun o => .if_icmp .ne o) := ⟨10, by decide +kernel, rfl, by decide⟩
theorem d_X_pattern_35 : vm_D q_X_pattern.2.1 35 1 36 (.aload_n 3) := ⟨by decide +kernel, rfl⟩
theorem d_X_pattern_36 : vm_D q_X_pattern.2.1 36 3 39 (.getfield 219) := ⟨by decide +kernel, rfl⟩
theorem d_X_pattern_39 : vm_B q_X_pattern.2.1 39 42 46 (fun o => .ifCond .eq o) := ⟨7, by decide +kernel, rfl, by decide⟩
theorem d_X_pattern_46 : vm_D q_X_pattern.2.1 46 1 47 (.iconst 0) := ⟨by decide +kernel, rfl⟩
theorem d_X_pattern_47 : vm_D q_X_pattern.2.1 47 1 48 (.ireturn) := ⟨by decide +kernel, rfl⟩
theorem d_X_pattern_42 : vm_D q_X_pattern.2.1 42 1 43 (.iconst 1) := ⟨by decide +kernel, rfl⟩
theorem d_X_pattern_43 : ∃ off : Int, decode q_X_pattern.2.1 43 = .ok (.goto off, 3) ∧ ((43 : Nat) : Int) + off = ((47 : Nat) : Int) := ⟨4, by decide +kernel, by decide⟩
theorem d_X_pattern_28 : vm_D q_X_pattern.2.1 28 1 29 (.aload_n 3) := ⟨by decide +kernel, rfl⟩
theorem d_X_pattern_29 : vm_D q_X_pattern.2.1 29 3 32 (.invokevirtual 213) := ⟨by decide +kernel, rfl⟩
theorem d_X_pattern_32 : ∃ off : Int, decode q_X_pattern.2.1 32 = .ok (.goto off, 3) ∧ ((32 : Nat) : Int) + off = ((47 : Nat) : Int) := ⟨15, by decide +kernel, by decide⟩
theorem d_X_pattern_16 : vm_D q_X_pattern.2.1 16 1 17 (.aload_n 3) := ⟨by decide +kernel, rfl⟩
theorem d_X_pattern_17 : vm_D q_X_pattern.2.1 17 3 20 (.getfield 195) := ⟨by decide +kernel, rfl⟩
theorem d_X_pattern_20 : ∃ off : Int, decode q_X_pattern.2.1 20 = .ok (.goto off, 3) ∧ ((20 : Nat) : Int) + off = ((47 : Nat) : Int) := ⟨27, by decide +kernel, by decide⟩
def q_X_avoid : vm_Y := ("RepeatFree", cX10_avoid, 5, false, [])
theorem d_X_avoid_0 : vm_D q_X_avoid.2.1 0 1 1 (.aload_n 0) := ⟨by decide +kernel, rfl⟩
theorem d_X_avoid_1 : vm_D q_X_avoid.2.1 1 1 2 (.iload_n 1) := ⟨by decide +kernel, rfl⟩
theorem d_X_avoid_2 : vm_D q_X_avoid.2.1 2 3 5 (.invokevirtual 192) := ⟨by decide +kernel, rfl⟩
theorem d_X_avoid_5 : vm_D q_X_avoid.2.1 5 1 6 (.astore_n 3) := ⟨by decide +kernel, rfl⟩
theorem d_X_avoid_6 : vm_D q_X_avoid.2.1 6 1 7 (.aload_n 3) := ⟨by decide +kernel, rfl⟩
theorem d_X_avoid_7 : vm_D q_X_avoid.2.1 7 3 10 (.getfield 219) := ⟨by decide +kernel, rfl⟩
theorem d_X_avoid_10 : vm_D q_X_avoid.2.1 10 2 12 (.istore 4) := ⟨by decide +kernel, rfl⟩
theorem d_X_avoid_12 : vm_D q_X_avoid.2.1 12 1 13 (.aload_n 3) := ⟨by decide +kernel, rfl⟩
theorem d_X_avoid_13 : vm_D q_X_avoid.2.1 13 1 14 (.iload_n 2) := ⟨by decide +kernel, rfl⟩
theorem d_X_avoid_14 : vm_D q_X_avoid.2.1 14 3 17 (.putfield 219) := ⟨by decide +kernel, rfl⟩
theorem d_X_avoid_17 : vm_D q_X_avoid.2.1 17 2 19 (.iload 4) := ⟨by decide +kernel, rfl⟩
theorem d_X_avoid_19 : vm_D q_X_avoid.2.1 19 1 20 (.ireturn) := ⟨by decide +kernel, rfl⟩
def q_X_limit : vm_Y := ("RepeatFree", cX10_limit, 5, false, [])
theorem d_X_limit_0 : vm_D q_X_limit.2.1 0 1 1 (.aload_n 0) := ⟨by decide +kernel, rfl⟩
theorem d_X_limit_1 : vm_D q_X_limit.2.1 1 1 2 (.iload_n 1) := ⟨by decide +kernel, rfl⟩
theorem d_X_limit_2 : vm_D q_X_limit.2.1 2 1 3 (.iconst 0) := ⟨by decide +kernel, rfl⟩
theorem d_X_limit_3 : vm_D q_X_limit.2.1 3 1 4 (.iconst 2) := ⟨by decide +kernel, rfl⟩
theorem d_X_limit_4 : vm_D q_X_limit.2.1 4 3 7 (.invokevirtual 173) := ⟨by decide +kernel, rfl⟩
theorem d_X_limit_7 : vm_D q_X_limit.2.1 7 1 8 (.aload_n 0) := ⟨by decide +kernel, rfl⟩
theorem d_X_limit_8 : vm_D q_X_limit.2.1 8 1 9 (.iload_n 2) := ⟨by decide +kernel, rfl⟩
theorem d_X_limit_9 : vm_D q_X_limit.2.1 9 1 10 (.iconst 1) := ⟨by decide +kernel, rfl⟩
theorem d_X_limit_10 : vm_D q_X_limit.2.1 10 2 12 (.bipush 99) := ⟨by decide +kernel, rfl⟩
theorem d_X_limit_12 : vm_D q_X_limit.2.1 12 3 15 (.invokevirtual 173) := ⟨by decide +kernel, rfl⟩
theorem d_X_limit_15 : vm_D q_X_limit.2.1 15 1 16 (.aload_n 0) := ⟨by decide +kernel, rfl⟩
theorem d_X_limit_16 : vm_D q_X_limit.2.1 16 1 17 (.iload_n 3) := ⟨by decide +kernel, rfl⟩
theorem d_X_limit_17 : vm_D q_X_limit.2.1 17 1 18 (.iconst 1) := ⟨by decide +kernel, rfl⟩
theorem d_X_limit_18 : vm_D q_X_limit.2.1 18 2 20 (.bipush 9) := ⟨by decide +kernel, rfl⟩
theorem d_X_limit_20 : vm_D q_X_limit.2.1 20 3 23 (.invokevirtual 173) := ⟨by decide +kernel, rfl⟩
theorem d_X_limit_23 : vm_D q_X_limit.2.1 23 1 24 (.aload_n 0) := ⟨by decide +kernel, rfl⟩
theorem d_X_limit_24 : vm_D q_X_limit.2.1 24 3 27 (.getfield 19) := ⟨by decide +kernel, rfl⟩
theorem d_X_limit_27 : vm_D q_X_limit.2.1 27 3 30 (.getfield 223) := ⟨by decide +kernel, rfl⟩
theorem d_X_limit_30 : vm_D q_X_limit.2.1 30 2 32 (.istore 4) := ⟨by decide +kernel, rfl⟩
theorem d_X_limit_32 : vm_D q_X_limit.2.1 32 1 33 (.aload_n 0) := ⟨by decide +kernel, rfl⟩
theorem d_X_limit_33 : vm_D q_X_limit.2.1 33 3 36 (.getfield 19) := ⟨by decide +kernel, rfl⟩
theorem d_X_limit_36 : vm_D q_X_limit.2.1 36 1 37 (.iload_n 1) := ⟨by decide +kernel, rfl⟩
theorem d_X_limit_37 : vm_D q_X_limit.2.1 37 1 38 (.iload_n 2) := ⟨by decide +kernel, rfl⟩
theorem d_X_limit_38 : vm_D q_X_limit.2.1 38 1 39 (.iload_n 3) := ⟨by decide +kernel, rfl⟩
theorem d_X_limit_39 : vm_D q_X_limit.2.1 39 3 42 (.invokevirtual 226) := ⟨by decide +kernel, rfl⟩
theorem d_X_limit_42 : vm_D q_X_limit.2.1 42 2 44 (.iload 4) := ⟨by decide +kernel, rfl⟩
theorem d_X_limit_44 : vm_D q_X_limit.2.1 44 1 45 (.ireturn) := ⟨by decide +kernel, rfl⟩
def q_X_goes : vm_Y := ("RepeatFree", cX10_goes, 1, false, [])
theorem d_X_goes_0 : vm_D q_X_goes.2.1 0 1 1 (.aload_n 0) := ⟨by decide +kernel, rfl⟩
theorem d_X_goes_1 : vm_D q_X_goes.2.1 1 3 4 (.getfield 36) := ⟨by decide +kernel, rfl⟩
theorem d_X_goes_4 : vm_D q_X_goes.2.1 4 3 7 (.getfield 102) := ⟨by decide +kernel, rfl⟩
theorem d_X_goes_7 : vm_D q_X_goes.2.1 7 2 9 (.bipush 64) := ⟨by decide +kernel, rfl⟩
theorem d_X_goes_9 : vm_B q_X_goes.2.1 9 12 27 (fun o => .if_icmp .ge o) := ⟨18, by decide +kernel, rfl, by decide⟩
theorem d_X_goes_27 : vm_D q_X_goes.2.1 27 1 28 (.iconst 0) := ⟨by decide +kernel, rfl⟩
theorem d_X_goes_28 : vm_D q_X_goes.2.1 28 1 29 (.ireturn) := ⟨by decide +kernel, rfl⟩
theorem d_X_goes_12 : vm_D q_X_goes.2.1 12 1 13 (.aload_n 0) := ⟨by decide +kernel, rfl⟩
theorem d_X_goes_13 : vm_D q_X_goes.2.1 13 3 16 (.getfield 36) := ⟨by decide +kernel, rfl⟩
theorem d_X_goes_16 : vm_D q_X_goes.2.1 16 1 17 (.aload_n 0) := ⟨by decide +kernel, rfl⟩
theorem d_X_goes_17 : vm_D q_X_goes.2.1 17 3 20 (.getfield 19) := ⟨by decide +kernel, rfl⟩
theorem d_X_goes_20 : vm_D q_X_goes.2.1 20 3 23 (.invokevirtual 155) := ⟨by decide +kernel, rfl⟩
theorem d_X_goes_23 : vm_D q_X_goes.2.1 23 1 24 (.iconst (-1)) := ⟨by decide +kernel, rfl⟩
theorem d_X_goes_24 : vm_B q_X_goes.2.1 24 27 29 (fun o => .if_icmp .eq o) := ⟨5, by decide +kernel, rfl, by decide⟩
theorem d_X_goes_29 : vm_D q_X_goes.2.1 29 1 30 (.aload_n 0) := ⟨by decide +kernel, rfl⟩
theorem d_X_goes_30 : vm_D q_X_goes.2.1 30 3 33 (.getfield 46) := ⟨by decide +kernel, rfl⟩
theorem d_X_goes_33 : vm_D q_X_goes.2.1 33 1 34 (.aload_n 0) := ⟨by decide +kernel, rfl⟩
theorem d_X_goes_34 : vm_D q_X_goes.2.1 34 3 37 (.getfield 19) := ⟨by decide +kernel, rfl⟩
theorem d_X_goes_37 : vm_D q_X_goes.2.1 37 1 38 (.aload_n 0) := ⟨by decide +kernel, rfl⟩
theorem d_X_goes_38 : vm_D q_X_goes.2.1 38 3 41 (.getfield 36) := ⟨by decide +kernel, rfl⟩
theorem d_X_goes_41 : vm_D q_X_goes.2.1 41 3 44 (.invokevirtual 229) := ⟨by decide +kernel, rfl⟩
theorem d_X_goes_44 : vm_D q_X_goes.2.1 44 1 45 (.ireturn) := ⟨by decide +kernel, rfl⟩
def q_X_ahead : vm_Y := ("RepeatFree", cX10_ahead, 4, false, [])
theorem d_X_ahead_0 : vm_D q_X_ahead.2.1 0 1 1 (.aload_n 0) := ⟨by decide +kernel, rfl⟩
theorem d_X_ahead_1 : vm_D q_X_ahead.2.1 1 3 4 (.getfield 36) := ⟨by decide +kernel, rfl⟩
theorem d_X_ahead_4 : vm_D q_X_ahead.2.1 4 3 7 (.getfield 102) := ⟨by decide +kernel, rfl⟩
theorem d_X_ahead_7 : vm_D q_X_ahead.2.1 7 2 9 (.bipush 64) := ⟨by decide +kernel, rfl⟩
theorem d_X_ahead_9 : vm_B q_X_ahead.2.1 9 12 14 (fun o => .if_icmp .lt o) := ⟨5, by decide +kernel, rfl, by decide⟩
theorem d_X_ahead_14 : vm_D q_X_ahead.2.1 14 1 15 (.iconst 0) := ⟨by decide +kernel, rfl⟩
theorem d_X_ahead_15 : vm_D q_X_ahead.2.1 15 1 16 (.istore_n 1) := ⟨by decide +kernel, rfl⟩
theorem d_X_ahead_16 : vm_D q_X_ahead.2.1 16 1 17 (.iconst 0) := ⟨by decide +kernel, rfl⟩
theorem d_X_ahead_17 : vm_D q_X_ahead.2.1 17 1 18 (.istore_n 2) := ⟨by decide +kernel, rfl⟩
theorem d_X_ahead_18 : vm_D q_X_ahead.2.1 18 1 19 (.iload_n 2) := ⟨by decide +kernel, rfl⟩
theorem d_X_ahead_19 : vm_D q_X_ahead.2.1 19 1 20 (.aload_n 0) := ⟨by decide +kernel, rfl⟩
theorem d_X_ahead_20 : vm_D q_X_ahead.2.1 20 3 23 (.getfield 19) := ⟨by decide +kernel, rfl⟩
theorem d_X_ahead_23 : vm_D q_X_ahead.2.1 23 3 26 (.getfield 91) := ⟨by decide +kernel, rfl⟩
theorem d_X_ahead_26 : vm_B q_X_ahead.2.1 26 29 105 (fun o => .if_icmp .ge o) := ⟨79, by decide +kernel, rfl, by decide⟩
theorem d_X_ahead_29 : vm_D q_X_ahead.2.1 29 1 30 (.aload_n 0) := ⟨by decide +kernel, rfl⟩
theorem d_X_ahead_30 : vm_D q_X_ahead.2.1 30 3 33 (.getfield 40) := ⟨by decide +kernel, rfl⟩
theorem d_X_ahead_33 : vm_D q_X_ahead.2.1 33 3 36 (.invokevirtual 87) := ⟨by decide +kernel, rfl⟩
theorem d_X_ahead_36 : vm_D q_X_ahead.2.1 36 1 37 (.aload_n 0) := ⟨by decide +kernel, rfl⟩
theorem d_X_ahead_37 : vm_D q_X_ahead.2.1 37 3 40 (.getfield 40) := ⟨by decide +kernel, rfl⟩
theorem d_X_ahead_40 : vm_D q_X_ahead.2.1 40 1 41 (.iload_n 2) := ⟨by decide +kernel, rfl⟩
theorem d_X_ahead_41 : vm_D q_X_ahead.2.1 41 3 44 (.invokevirtual 119) := ⟨by decide +kernel, rfl⟩
theorem d_X_ahead_44 : vm_D q_X_ahead.2.1 44 1 45 (.iconst 0) := ⟨by decide +kernel, rfl⟩
theorem d_X_ahead_45 : vm_D q_X_ahead.2.1 45 1 46 (.istore_n 3) := ⟨by decide +kernel, rfl⟩
theorem d_X_ahead_46 : vm_D q_X_ahead.2.1 46 1 47 (.iload_n 3) := ⟨by decide +kernel, rfl⟩
theorem d_X_ahead_47 : vm_D q_X_ahead.2.1 47 1 48 (.aload_n 0) := ⟨by decide +kernel, rfl⟩
theorem d_X_ahead_48 : vm_D q_X_ahead.2.1 48 3 51 (.getfield 36) := ⟨by decide +kernel, rfl⟩
theorem d_X_ahead_51 : vm_D q_X_ahead.2.1 51 3 54 (.getfield 102) := ⟨by decide +kernel, rfl⟩
theorem d_X_ahead_54 : vm_B q_X_ahead.2.1 54 57 78 (fun o => .if_icmp .ge o) := ⟨24, by decide +kernel, rfl, by decide⟩
theorem d_X_ahead_57 : vm_D q_X_ahead.2.1 57 1 58 (.aload_n 0) := ⟨by decide +kernel, rfl⟩
theorem d_X_ahead_58 : vm_D q_X_ahead.2.1 58 3 61 (.getfield 40) := ⟨by decide +kernel, rfl⟩
theorem d_X_ahead_61 : vm_D q_X_ahead.2.1 61 1 62 (.aload_n 0) := ⟨by decide +kernel, rfl⟩
theorem d_X_ahead_62 : vm_D q_X_ahead.2.1 62 3 65 (.getfield 36) := ⟨by decide +kernel, rfl⟩
theorem d_X_ahead_65 : vm_D q_X_ahead.2.1 65 1 66 (.iload_n 3) := ⟨by decide +kernel, rfl⟩
theorem d_X_ahead_66 : vm_D q_X_ahead.2.1 66 3 69 (.invokevirtual 106) := ⟨by decide +kernel, rfl⟩
theorem d_X_ahead_69 : vm_D q_X_ahead.2.1 69 3 72 (.invokevirtual 119) := ⟨by decide +kernel, rfl⟩
theorem d_X_ahead_72 : vm_D q_X_ahead.2.1 72 3 75 (.iinc 3 1) := ⟨by decide +kernel, rfl⟩
theorem d_X_ahead_75 : ∃ off : Int, decode q_X_ahead.2.1 75 = .ok (.goto off, 3) ∧ ((75 : Nat) : Int) + off = ((46 : Nat) : Int) := ⟨-29, by decide +kernel, by decide⟩
theorem d_X_ahead_78 : vm_D q_X_ahead.2.1 78 1 79 (.aload_n 0) := ⟨by decide +kernel, rfl⟩
theorem d_X_ahead_79 : vm_D q_X_ahead.2.1 79 3 82 (.getfield 40) := ⟨by decide +kernel, rfl⟩
theorem d_X_ahead_82 : vm_D q_X_ahead.2.1 82 1 83 (.aload_n 0) := ⟨by decide +kernel, rfl⟩
theorem d_X_ahead_83 : vm_D q_X_ahead.2.1 83 3 86 (.getfield 19) := ⟨by decide +kernel, rfl⟩
theorem d_X_ahead_86 : vm_D q_X_ahead.2.1 86 3 89 (.invokevirtual 155) := ⟨by decide +kernel, rfl⟩
theorem d_X_ahead_89 : vm_D q_X_ahead.2.1 89 1 90 (.iconst (-1)) := ⟨by decide +kernel, rfl⟩
theorem d_X_ahead_90 : vm_B q_X_ahead.2.1 90 93 99 (fun o => .if_icmp .ne o) := ⟨9, by decide +kernel, rfl, by decide⟩
theorem d_X_ahead_99 : vm_D q_X_ahead.2.1 99 3 102 (.iinc 2 1) := ⟨by decide +kernel, rfl⟩
theorem d_X_ahead_102 : ∃ off : Int, decode q_X_ahead.2.1 102 = .ok (.goto off, 3) ∧ ((102 : Nat) : Int) + off = ((18 : Nat) : Int) := ⟨-84, by decide +kernel, by decide⟩
theorem d_X_ahead_93 : vm_D q_X_ahead.2.1 93 1 94 (.iload_n 1) := ⟨by decide +kernel, rfl⟩
theorem d_X_ahead_94 : vm_D q_X_ahead.2.1 94 1 95 (.iconst 1) := ⟨by decide +kernel, rfl⟩
theorem d_X_ahead_95 : vm_D q_X_ahead.2.1 95 1 96 (.iload_n 2) := ⟨by decide +kernel, rfl⟩
theorem d_X_ahead_96 : vm_D q_X_ahead.2.1 96 1 97 (.ishl) := ⟨by decide +kernel, rfl⟩
theorem d_X_ahead_97 : vm_D q_X_ahead.2.1 97 1 98 (.ior) := ⟨by decide +kernel, rfl⟩
theorem d_X_ahead_98 : vm_D q_X_ahead.2.1 98 1 99 (.istore_n 1) := ⟨by decide +kernel, rfl⟩
theorem d_X_ahead_105 : vm_D q_X_ahead.2.1 105 1 106 (.iload_n 1) := ⟨by decide +kernel, rfl⟩
theorem d_X_ahead_106 : vm_D q_X_ahead.2.1 106 1 107 (.ireturn) := ⟨by decide +kernel, rfl⟩
theorem d_X_ahead_12 : vm_D q_X_ahead.2.1 12 1 13 (.iconst 0) := ⟨by decide +kernel, rfl⟩
theorem d_X_ahead_13 : vm_D q_X_ahead.2.1 13 1 14 (.ireturn) := ⟨by decide +kernel, rfl⟩
def q_X_further : vm_Y := ("RepeatFree", cX10_further, 2, false, [])
theorem d_X_further_0 : vm_D q_X_further.2.1 0 2 2 (.bipush 20) := ⟨by decide +kernel, rfl⟩
theorem d_X_further_2 : vm_D q_X_further.2.1 2 2 4 (.bipush 64) := ⟨by decide +kernel, rfl⟩
theorem d_X_further_4 : vm_D q_X_further.2.1 4 1 5 (.aload_n 0) := ⟨by decide +kernel, rfl⟩
theorem d_X_further_5 : vm_D q_X_further.2.1 5 3 8 (.getfield 36) := ⟨by decide +kernel, rfl⟩
theorem d_X_further_8 : vm_D q_X_further.2.1 8 3 11 (.getfield 102) := ⟨by decide +kernel, rfl⟩
theorem d_X_further_11 : vm_D q_X_further.2.1 11 1 12 (.isub) := ⟨by decide +kernel, rfl⟩
theorem d_X_further_12 : vm_D q_X_further.2.1 12 3 15 (.invokestatic 233) := ⟨by decide +kernel, rfl⟩
theorem d_X_further_15 : vm_D q_X_further.2.1 15 1 16 (.istore_n 1) := ⟨by decide +kernel, rfl⟩
theorem d_X_further_16 : vm_D q_X_further.2.1 16 1 17 (.iload_n 1) := ⟨by decide +kernel, rfl⟩
theorem d_X_further_17 : vm_B q_X_further.2.1 17 20 35 (fun o => .ifCond .le o) := ⟨18, by decide +kernel, rfl, by decide⟩
theorem d_X_further_35 : vm_D q_X_further.2.1 35 1 36 (.iconst 0) := ⟨by decide +kernel, rfl⟩
theorem d_X_further_36 : vm_D q_X_further.2.1 36 1 37 (.ireturn) := ⟨by decide +kernel, rfl⟩
theorem d_X_further_20 : vm_D q_X_further.2.1 20 1 21 (.aload_n 0) := ⟨by decide +kernel, rfl⟩
theorem d_X_further_21 : vm_D q_X_further.2.1 21 3 24 (.getfield 36) := ⟨by decide +kernel, rfl⟩
theorem d_X_further_24 : vm_D q_X_further.2.1 24 1 25 (.aload_n 0) := ⟨by decide +kernel, rfl⟩
theorem d_X_further_25 : vm_D q_X_further.2.1 25 3 28 (.getfield 19) := ⟨by decide +kernel, rfl⟩
theorem d_X_further_28 : vm_D q_X_further.2.1 28 3 31 (.invokevirtual 155) := ⟨by decide +kernel, rfl⟩
theorem d_X_further_31 : vm_D q_X_further.2.1 31 1 32 (.iconst (-1)) := ⟨by decide +kernel, rfl⟩
theorem d_X_further_32 : vm_B q_X_further.2.1 32 35 37 (fun o => .if_icmp .eq o) := ⟨5, by decide +kernel, rfl, by decide⟩
theorem d_X_further_37 : vm_D q_X_further.2.1 37 1 38 (.aload_n 0) := ⟨by decide +kernel, rfl⟩
theorem d_X_further_38 : vm_D q_X_further.2.1 38 3 41 (.getfield 46) := ⟨by decide +kernel, rfl⟩
theorem d_X_further_41 : vm_D q_X_further.2.1 41 1 42 (.aload_n 0) := ⟨by decide +kernel, rfl⟩
theorem d_X_further_42 : vm_D q_X_further.2.1 42 3 45 (.getfield 19) := ⟨by decide +kernel, rfl⟩
theorem d_X_further_45 : vm_D q_X_further.2.1 45 3 48 (.invokevirtual 236) := ⟨by decide +kernel, rfl⟩
theorem d_X_further_48 : vm_D q_X_further.2.1 48 1 49 (.aload_n 0) := ⟨by decide +kernel, rfl⟩
theorem d_X_further_49 : vm_D q_X_further.2.1 49 3 52 (.getfield 46) := ⟨by decide +kernel, rfl⟩
theorem d_X_further_52 : vm_D q_X_further.2.1 52 1 53 (.aload_n 0) := ⟨by decide +kernel, rfl⟩
theorem d_X_further_53 : vm_D q_X_further.2.1 53 3 56 (.getfield 36) := ⟨by decide +kernel, rfl⟩
theorem d_X_further_56 : vm_D q_X_further.2.1 56 1 57 (.aload_n 0) := ⟨by decide +kernel, rfl⟩
theorem d_X_further_57 : vm_D q_X_further.2.1 57 3 60 (.getfield 36) := ⟨by decide +kernel, rfl⟩
theorem d_X_further_60 : vm_D q_X_further.2.1 60 3 63 (.getfield 102) := ⟨by decide +kernel, rfl⟩
theorem d_X_further_63 : vm_D q_X_further.2.1 63 1 64 (.aload_n 0) := ⟨by decide +kernel, rfl⟩
theorem d_X_further_64 : vm_D q_X_further.2.1 64 3 67 (.getfield 36) := ⟨by decide +kernel, rfl⟩
theorem d_X_further_67 : vm_D q_X_further.2.1 67 3 70 (.getfield 102) := ⟨by decide +kernel, rfl⟩
theorem d_X_further_70 : vm_D q_X_further.2.1 70 1 71 (.aload_n 0) := ⟨by decide +kernel, rfl⟩
theorem d_X_further_71 : vm_D q_X_further.2.1 71 3 74 (.getfield 36) := ⟨by decide +kernel, rfl⟩
theorem d_X_further_74 : vm_D q_X_further.2.1 74 3 77 (.getfield 102) := ⟨by decide +kernel, rfl⟩
theorem d_X_further_77 : vm_D q_X_further.2.1 77 1 78 (.iload_n 1) := ⟨by decide +kernel, rfl⟩
theorem d_X_further_78 : vm_D q_X_further.2.1 78 1 79 (.iadd) := ⟨by decide +kernel, rfl⟩
theorem d_X_further_79 : vm_D q_X_further.2.1 79 3 82 (.invokevirtual 240) := ⟨by decide +kernel, rfl⟩
theorem d_X_further_82 : vm_D q_X_further.2.1 82 1 83 (.aload_n 0) := ⟨by decide +kernel, rfl⟩
theorem d_X_further_83 : vm_D q_X_further.2.1 83 3 86 (.getfield 46) := ⟨by decide +kernel, rfl⟩
theorem d_X_further_86 : vm_D q_X_further.2.1 86 3 89 (.invokevirtual 244) := ⟨by decide +kernel, rfl⟩
theorem d_X_further_89 : vm_D q_X_further.2.1 89 1 90 (.ireturn) := ⟨by decide +kernel, rfl⟩
def q_X_longest : vm_Y := ("RepeatFree", cX10_longest, 1, false, [])
theorem d_X_longest_0 : vm_D q_X_longest.2.1 0 1 1 (.aload_n 0) := ⟨by decide +kernel, rfl⟩
theorem d_X_longest_1 : vm_D q_X_longest.2.1 1 3 4 (.getfield 46) := ⟨by decide +kernel, rfl⟩
theorem d_X_longest_4 : vm_D q_X_longest.2.1 4 1 5 (.aload_n 0) := ⟨by decide +kernel, rfl⟩
theorem d_X_longest_5 : vm_D q_X_longest.2.1 5 3 8 (.getfield 19) := ⟨by decide +kernel, rfl⟩
theorem d_X_longest_8 : vm_D q_X_longest.2.1 8 3 11 (.invokevirtual 236) := ⟨by decide +kernel, rfl⟩
theorem d_X_longest_11 : vm_D q_X_longest.2.1 11 1 12 (.aload_n 0) := ⟨by decide +kernel, rfl⟩
theorem d_X_longest_12 : vm_D q_X_longest.2.1 12 3 15 (.getfield 46) := ⟨by decide +kernel, rfl⟩
theorem d_X_longest_15 : vm_D q_X_longest.2.1 15 1 16 (.aload_n 0) := ⟨by decide +kernel, rfl⟩
theorem d_X_longest_16 : vm_D q_X_longest.2.1 16 3 19 (.getfield 36) := ⟨by decide +kernel, rfl⟩
theorem d_X_longest_19 : vm_D q_X_longest.2.1 19 1 20 (.iconst 0) := ⟨by decide +kernel, rfl⟩
theorem d_X_longest_20 : vm_D q_X_longest.2.1 20 1 21 (.iconst 0) := ⟨by decide +kernel, rfl⟩
theorem d_X_longest_21 : vm_D q_X_longest.2.1 21 2 23 (.bipush 40) := ⟨by decide +kernel, rfl⟩
theorem d_X_longest_23 : vm_D q_X_longest.2.1 23 3 26 (.invokevirtual 240) := ⟨by decide +kernel, rfl⟩
theorem d_X_longest_26 : vm_D q_X_longest.2.1 26 1 27 (.aload_n 0) := ⟨by decide +kernel, rfl⟩
theorem d_X_longest_27 : vm_D q_X_longest.2.1 27 3 30 (.getfield 46) := ⟨by decide +kernel, rfl⟩
theorem d_X_longest_30 : vm_D q_X_longest.2.1 30 3 33 (.invokevirtual 244) := ⟨by decide +kernel, rfl⟩
theorem d_X_longest_33 : vm_D q_X_longest.2.1 33 1 34 (.ireturn) := ⟨by decide +kernel, rfl⟩
def q_X_becomeNth : vm_Y := ("RepeatFree", cX10_becomeNth, 5, false, [])
theorem d_X_becomeNth_0 : vm_D q_X_becomeNth.2.1 0 1 1 (.aload_n 0) := ⟨by decide +kernel, rfl⟩
theorem d_X_becomeNth_1 : vm_D q_X_becomeNth.2.1 1 3 4 (.getfield 46) := ⟨by decide +kernel, rfl⟩
theorem d_X_becomeNth_4 : vm_D q_X_becomeNth.2.1 4 1 5 (.aload_n 0) := ⟨by decide +kernel, rfl⟩
theorem d_X_becomeNth_5 : vm_D q_X_becomeNth.2.1 5 3 8 (.getfield 19) := ⟨by decide +kernel, rfl⟩
theorem d_X_becomeNth_8 : vm_D q_X_becomeNth.2.1 8 3 11 (.invokevirtual 236) := ⟨by decide +kernel, rfl⟩
theorem d_X_becomeNth_11 : vm_D q_X_becomeNth.2.1 11 1 12 (.aload_n 0) := ⟨by decide +kernel, rfl⟩
theorem d_X_becomeNth_12 : vm_D q_X_becomeNth.2.1 12 3 15 (.getfield 46) := ⟨by decide +kernel, rfl⟩
theorem d_X_becomeNth_15 : vm_D q_X_becomeNth.2.1 15 1 16 (.aload_n 0) := ⟨by decide +kernel, rfl⟩
theorem d_X_becomeNth_16 : vm_D q_X_becomeNth.2.1 16 3 19 (.getfield 36) := ⟨by decide +kernel, rfl⟩
theorem d_X_becomeNth_19 : vm_D q_X_becomeNth.2.1 19 1 20 (.iconst 0) := ⟨by decide +kernel, rfl⟩
theorem d_X_becomeNth_20 : vm_D q_X_becomeNth.2.1 20 1 21 (.iconst 0) := ⟨by decide +kernel, rfl⟩
theorem d_X_becomeNth_21 : vm_D q_X_becomeNth.2.1 21 1 22 (.iload_n 1) := ⟨by decide +kernel, rfl⟩
theorem d_X_becomeNth_22 : vm_D q_X_becomeNth.2.1 22 3 25 (.invokevirtual 240) := ⟨by decide +kernel, rfl⟩
theorem d_X_becomeNth_25 : vm_D q_X_becomeNth.2.1 25 1 26 (.aload_n 0) := ⟨by decide +kernel, rfl⟩
theorem d_X_becomeNth_26 : vm_D q_X_becomeNth.2.1 26 3 29 (.getfield 46) := ⟨by decide +kernel, rfl⟩
theorem d_X_becomeNth_29 : vm_D q_X_becomeNth.2.1 29 3 32 (.invokevirtual 250) := ⟨by decide +kernel, rfl⟩
theorem d_X_becomeNth_32 : vm_D q_X_becomeNth.2.1 32 1 33 (.istore_n 3) := ⟨by decide +kernel, rfl⟩
theorem d_X_becomeNth_33 : vm_D q_X_becomeNth.2.1 33 1 34 (.iconst 0) := ⟨by decide +kernel, rfl⟩
theorem d_X_becomeNth_34 : vm_D q_X_becomeNth.2.1 34 2 36 (.istore 4) := ⟨by decide +kernel, rfl⟩
theorem d_X_becomeNth_36 : vm_D q_X_becomeNth.2.1 36 2 38 (.iload 4) := ⟨by decide +kernel, rfl⟩
theorem d_X_becomeNth_38 : vm_D q_X_becomeNth.2.1 38 1 39 (.iload_n 2) := ⟨by decide +kernel, rfl⟩
theorem d_X_becomeNth_39 : vm_B q_X_becomeNth.2.1 39 42 69 (fun o => .if_icmp .ge o) := ⟨30, by decide +kernel, rfl, by decide⟩
theorem d_X_becomeNth_42 : vm_D q_X_becomeNth.2.1 42 2 44 (.iload 4) := ⟨by decide +kernel, rfl⟩
theorem d_X_becomeNth_44 : vm_D q_X_becomeNth.2.1 44 3 47 (.sipush 5000) := ⟨by decide +kernel, rfl⟩
theorem d_X_becomeNth_47 : vm_B q_X_becomeNth.2.1 47 50 69 (fun o => .if_icmp .ge o) := ⟨22, by decide +kernel, rfl, by decide⟩
theorem d_X_becomeNth_50 : vm_D q_X_becomeNth.2.1 50 1 51 (.iload_n 3) := ⟨by decide +kernel, rfl⟩
theorem d_X_becomeNth_51 : vm_D q_X_becomeNth.2.1 51 1 52 (.iconst 1) := ⟨by decide +kernel, rfl⟩
theorem d_X_becomeNth_52 : vm_B q_X_becomeNth.2.1 52 55 69 (fun o => .if_icmp .ne o) := ⟨17, by decide +kernel, rfl, by decide⟩
theorem d_X_becomeNth_55 : vm_D q_X_becomeNth.2.1 55 1 56 (.aload_n 0) := ⟨by decide +kernel, rfl⟩
theorem d_X_becomeNth_56 : vm_D q_X_becomeNth.2.1 56 3 59 (.getfield 46) := ⟨by decide +kernel, rfl⟩
theorem d_X_becomeNth_59 : vm_D q_X_becomeNth.2.1 59 3 62 (.invokevirtual 250) := ⟨by decide +kernel, rfl⟩
theorem d_X_becomeNth_62 : vm_D q_X_becomeNth.2.1 62 1 63 (.istore_n 3) := ⟨by decide +kernel, rfl⟩
theorem d_X_becomeNth_63 : vm_D q_X_becomeNth.2.1 63 3 66 (.iinc 4 1) := ⟨by decide +kernel, rfl⟩
theorem d_X_becomeNth_66 : ∃ off : Int, decode q_X_becomeNth.2.1 66 = .ok (.goto off, 3) ∧ ((66 : Nat) : Int) + off = ((36 : Nat) : Int) := ⟨-30, by decide +kernel, by decide⟩
theorem d_X_becomeNth_69 : vm_D q_X_becomeNth.2.1 69 1 70 (.iload_n 3) := ⟨by decide +kernel, rfl⟩
theorem d_X_becomeNth_70 : vm_D q_X_becomeNth.2.1 70 1 71 (.iconst 1) := ⟨by decide +kernel, rfl⟩
theorem d_X_becomeNth_71 : vm_B q_X_becomeNth.2.1 71 74 76 (fun o => .if_icmp .eq o) := ⟨5, by decide +kernel, rfl, by decide⟩
theorem d_X_becomeNth_76 : vm_D q_X_becomeNth.2.1 76 1 77 (.aload_n 0) := ⟨by decide +kernel, rfl⟩
theorem d_X_becomeNth_77 : vm_D q_X_becomeNth.2.1 77 1 78 (.aload_n 0) := ⟨by decide +kernel, rfl⟩
theorem d_X_becomeNth_78 : vm_D q_X_becomeNth.2.1 78 3 81 (.getfield 46) := ⟨by decide +kernel, rfl⟩
theorem d_X_becomeNth_81 : vm_D q_X_becomeNth.2.1 81 3 84 (.getfield 253) := ⟨by decide +kernel, rfl⟩
theorem d_X_becomeNth_84 : vm_D q_X_becomeNth.2.1 84 3 87 (.invokevirtual 98) := ⟨by decide +kernel, rfl⟩
theorem d_X_becomeNth_87 : vm_D q_X_becomeNth.2.1 87 1 88 (.aload_n 0) := ⟨by decide +kernel, rfl⟩
theorem d_X_becomeNth_88 : vm_D q_X_becomeNth.2.1 88 3 91 (.getfield 46) := ⟨by decide +kernel, rfl⟩
theorem d_X_becomeNth_91 : vm_D q_X_becomeNth.2.1 91 3 94 (.getfield 256) := ⟨by decide +kernel, rfl⟩
theorem d_X_becomeNth_94 : vm_D q_X_becomeNth.2.1 94 1 95 (.ireturn) := ⟨by decide +kernel, rfl⟩
theorem d_X_becomeNth_74 : vm_D q_X_becomeNth.2.1 74 1 75 (.iload_n 3) := ⟨by decide +kernel, rfl⟩
theorem d_X_becomeNth_75 : vm_D q_X_becomeNth.2.1 75 1 76 (.ireturn) := ⟨by decide +kernel, rfl⟩
def q_X_first : vm_Y := ("RepeatFree", cX10_first, 2, false, [])
theorem d_X_first_0 : vm_D q_X_first.2.1 0 1 1 (.aload_n 0) := ⟨by decide +kernel, rfl⟩
theorem d_X_first_1 : vm_D q_X_first.2.1 1 1 2 (.iload_n 1) := ⟨by decide +kernel, rfl⟩
theorem d_X_first_2 : vm_D q_X_first.2.1 2 1 3 (.iconst 1) := ⟨by decide +kernel, rfl⟩
theorem d_X_first_3 : vm_D q_X_first.2.1 3 2 5 (.bipush 40) := ⟨by decide +kernel, rfl⟩
theorem d_X_first_5 : vm_D q_X_first.2.1 5 3 8 (.invokevirtual 173) := ⟨by decide +kernel, rfl⟩
theorem d_X_first_8 : vm_D q_X_first.2.1 8 1 9 (.aload_n 0) := ⟨by decide +kernel, rfl⟩
theorem d_X_first_9 : vm_D q_X_first.2.1 9 1 10 (.iload_n 1) := ⟨by decide +kernel, rfl⟩
theorem d_X_first_10 : vm_D q_X_first.2.1 10 1 11 (.iconst 0) := ⟨by decide +kernel, rfl⟩
theorem d_X_first_11 : vm_D q_X_first.2.1 11 3 14 (.invokevirtual 247) := ⟨by decide +kernel, rfl⟩
theorem d_X_first_14 : vm_D q_X_first.2.1 14 1 15 (.ireturn) := ⟨by decide +kernel, rfl⟩
def q_X_nth : vm_Y := ("RepeatFree", cX10_nth, 3, false, [])
theorem d_X_nth_0 : vm_D q_X_nth.2.1 0 1 1 (.aload_n 0) := ⟨by decide +kernel, rfl⟩
theorem d_X_nth_1 : vm_D q_X_nth.2.1 1 1 2 (.iload_n 1) := ⟨by decide +kernel, rfl⟩
theorem d_X_nth_2 : vm_D q_X_nth.2.1 2 1 3 (.iconst 1) := ⟨by decide +kernel, rfl⟩
theorem d_X_nth_3 : vm_D q_X_nth.2.1 3 2 5 (.bipush 40) := ⟨by decide +kernel, rfl⟩
theorem d_X_nth_5 : vm_D q_X_nth.2.1 5 3 8 (.invokevirtual 173) := ⟨by decide +kernel, rfl⟩
theorem d_X_nth_8 : vm_D q_X_nth.2.1 8 1 9 (.iload_n 2) := ⟨by decide +kernel, rfl⟩
theorem d_X_nth_9 : vm_B q_X_nth.2.1 9 12 20 (fun o => .ifCond .ge o) := ⟨11, by decide +kernel, rfl, by decide⟩
theorem d_X_nth_20 : vm_D q_X_nth.2.1 20 1 21 (.aload_n 0) := ⟨by decide +kernel, rfl⟩
theorem d_X_nth_21 : vm_D q_X_nth.2.1 21 1 22 (.iload_n 1) := ⟨by decide +kernel, rfl⟩
theorem d_X_nth_22 : vm_D q_X_nth.2.1 22 1 23 (.iload_n 2) := ⟨by decide +kernel, rfl⟩
theorem d_X_nth_23 : vm_D q_X_nth.2.1 23 3 26 (.invokevirtual 247) := ⟨by decide +kernel, rfl⟩
theorem d_X_nth_26 : vm_D q_X_nth.2.1 26 1 27 (.ireturn) := ⟨by decide +kernel, rfl⟩
theorem d_X_nth_12 : vm_D q_X_nth.2.1 12 3 15 (.new 84) := ⟨by decide +kernel, rfl⟩
theorem d_X_nth_15 : vm_D q_X_nth.2.1 15 1 16 (.dup) := ⟨by decide +kernel, rfl⟩
theorem d_X_nth_16 : vm_D q_X_nth.2.1 16 3 19 (.invokespecial 86) := ⟨by decide +kernel, rfl⟩
theorem d_X_nth_19 : vm_D q_X_nth.2.1 19 1 20 (.athrow) := ⟨by decide +kernel, rfl⟩
def q_X_checkSearched : vm_Y := ("RepeatFree", cX10_checkSearched, 1, false, [])
theorem d_X_checkSearched_0 : vm_D q_X_checkSearched.2.1 0 1 1 (.aload_n 0) := ⟨by decide +kernel, rfl⟩
theorem d_X_checkSearched_1 : vm_D q_X_checkSearched.2.1 1 3 4 (.getfield 36) := ⟨by decide +kernel, rfl⟩
theorem d_X_checkSearched_4 : vm_D q_X_checkSearched.2.1 4 3 7 (.getfield 102) := ⟨by decide +kernel, rfl⟩
theorem d_X_checkSearched_7 : vm_D q_X_checkSearched.2.1 7 2 9 (.bipush 40) := ⟨by decide +kernel, rfl⟩
theorem d_X_checkSearched_9 : vm_B q_X_checkSearched.2.1 9 12 20 (fun o => .if_icmp .le o) := ⟨11, by decide +kernel, rfl, by decide⟩
theorem d_X_checkSearched_20 : vm_D q_X_checkSearched.2.1 20 1 21 (.return_) := ⟨by decide +kernel, rfl⟩
theorem d_X_checkSearched_12 : vm_D q_X_checkSearched.2.1 12 3 15 (.new 113) := ⟨by decide +kernel, rfl⟩
theorem d_X_checkSearched_15 : vm_D q_X_checkSearched.2.1 15 1 16 (.dup) := ⟨by decide +kernel, rfl⟩
theorem d_X_checkSearched_16 : vm_D q_X_checkSearched.2.1 16 3 19 (.invokespecial 115) := ⟨by decide +kernel, rfl⟩
theorem d_X_checkSearched_19 : vm_D q_X_checkSearched.2.1 19 1 20 (.athrow) := ⟨by decide +kernel, rfl⟩
def q_X_next : vm_Y := ("RepeatFree", cX10_next, 5, false, [])
theorem d_X_next_0 : vm_D q_X_next.2.1 0 1 1 (.aload_n 0) := ⟨by decide +kernel, rfl⟩
theorem d_X_next_1 : vm_D q_X_next.2.1 1 3 4 (.invokevirtual 259) := ⟨by decide +kernel, rfl⟩
theorem d_X_next_4 : vm_D q_X_next.2.1 4 1 5 (.aload_n 0) := ⟨by decide +kernel, rfl⟩
theorem d_X_next_5 : vm_D q_X_next.2.1 5 3 8 (.getfield 36) := ⟨by decide +kernel, rfl⟩
theorem d_X_next_8 : vm_D q_X_next.2.1 8 3 11 (.getfield 102) := ⟨by decide +kernel, rfl⟩
theorem d_X_next_11 : vm_B q_X_next.2.1 11 14 16 (fun o => .ifCond .ne o) := ⟨5, by decide +kernel, rfl, by decide⟩
theorem d_X_next_16 : vm_D q_X_next.2.1 16 1 17 (.aload_n 0) := ⟨by decide +kernel, rfl⟩
theorem d_X_next_17 : vm_D q_X_next.2.1 17 3 20 (.getfield 36) := ⟨by decide +kernel, rfl⟩
theorem d_X_next_20 : vm_D q_X_next.2.1 20 1 21 (.aload_n 0) := ⟨by decide +kernel, rfl⟩
theorem d_X_next_21 : vm_D q_X_next.2.1 21 3 24 (.getfield 19) := ⟨by decide +kernel, rfl⟩
theorem d_X_next_24 : vm_D q_X_next.2.1 24 3 27 (.invokevirtual 155) := ⟨by decide +kernel, rfl⟩
theorem d_X_next_27 : vm_D q_X_next.2.1 27 1 28 (.istore_n 1) := ⟨by decide +kernel, rfl⟩
theorem d_X_next_28 : vm_D q_X_next.2.1 28 1 29 (.iload_n 1) := ⟨by decide +kernel, rfl⟩
theorem d_X_next_29 : vm_D q_X_next.2.1 29 1 30 (.iconst (-1)) := ⟨by decide +kernel, rfl⟩
theorem d_X_next_30 : vm_B q_X_next.2.1 30 33 45 (fun o => .if_icmp .ne o) := ⟨15, by decide +kernel, rfl, by decide⟩
theorem d_X_next_46 : vm_D q_X_next.2.1 46 1 47 (.istore_n 2) := ⟨by decide +kernel, rfl⟩
theorem d_X_next_47 : vm_D q_X_next.2.1 47 1 48 (.aload_n 0) := ⟨by decide +kernel, rfl⟩
theorem d_X_next_48 : vm_D q_X_next.2.1 48 3 51 (.getfield 46) := ⟨by decide +kernel, rfl⟩
theorem d_X_next_51 : vm_D q_X_next.2.1 51 1 52 (.aload_n 0) := ⟨by decide +kernel, rfl⟩
theorem d_X_next_52 : vm_D q_X_next.2.1 52 3 55 (.getfield 19) := ⟨by decide +kernel, rfl⟩
theorem d_X_next_55 : vm_D q_X_next.2.1 55 3 58 (.invokevirtual 236) := ⟨by decide +kernel, rfl⟩
theorem d_X_next_58 : vm_D q_X_next.2.1 58 1 59 (.aload_n 0) := ⟨by decide +kernel, rfl⟩
theorem d_X_next_59 : vm_D q_X_next.2.1 59 3 62 (.getfield 46) := ⟨by decide +kernel, rfl⟩
theorem d_X_next_62 : vm_D q_X_next.2.1 62 1 63 (.aload_n 0) := ⟨by decide +kernel, rfl⟩
theorem d_X_next_63 : vm_D q_X_next.2.1 63 3 66 (.getfield 36) := ⟨by decide +kernel, rfl⟩
theorem d_X_next_66 : vm_D q_X_next.2.1 66 1 67 (.iload_n 2) := ⟨by decide +kernel, rfl⟩
theorem d_X_next_67 : vm_D q_X_next.2.1 67 1 68 (.iconst 0) := ⟨by decide +kernel, rfl⟩
theorem d_X_next_68 : vm_D q_X_next.2.1 68 1 69 (.aload_n 0) := ⟨by decide +kernel, rfl⟩
theorem d_X_next_69 : vm_D q_X_next.2.1 69 3 72 (.getfield 36) := ⟨by decide +kernel, rfl⟩
theorem d_X_next_72 : vm_D q_X_next.2.1 72 3 75 (.getfield 102) := ⟨by decide +kernel, rfl⟩
theorem d_X_next_75 : vm_D q_X_next.2.1 75 3 78 (.invokevirtual 240) := ⟨by decide +kernel, rfl⟩
theorem d_X_next_78 : vm_D q_X_next.2.1 78 1 79 (.aload_n 0) := ⟨by decide +kernel, rfl⟩
theorem d_X_next_79 : vm_D q_X_next.2.1 79 3 82 (.getfield 46) := ⟨by decide +kernel, rfl⟩
theorem d_X_next_82 : vm_D q_X_next.2.1 82 1 83 (.aload_n 0) := ⟨by decide +kernel, rfl⟩
theorem d_X_next_83 : vm_D q_X_next.2.1 83 3 86 (.getfield 36) := ⟨by decide +kernel, rfl⟩
theorem d_X_next_86 : vm_D q_X_next.2.1 86 1 87 (.iload_n 2) := ⟨by decide +kernel, rfl⟩
theorem d_X_next_87 : vm_D q_X_next.2.1 87 3 90 (.invokevirtual 106) := ⟨by decide +kernel, rfl⟩
theorem d_X_next_90 : vm_D q_X_next.2.1 90 1 91 (.iconst 1) := ⟨by decide +kernel, rfl⟩
theorem d_X_next_91 : vm_D q_X_next.2.1 91 1 92 (.iadd) := ⟨by decide +kernel, rfl⟩
theorem d_X_next_92 : vm_D q_X_next.2.1 92 3 95 (.putfield 262) := ⟨by decide +kernel, rfl⟩
theorem d_X_next_95 : vm_D q_X_next.2.1 95 1 96 (.aload_n 0) := ⟨by decide +kernel, rfl⟩
theorem d_X_next_96 : vm_D q_X_next.2.1 96 3 99 (.getfield 46) := ⟨by decide +kernel, rfl⟩
theorem d_X_next_99 : vm_D q_X_next.2.1 99 3 102 (.invokevirtual 250) := ⟨by decide +kernel, rfl⟩
theorem d_X_next_102 : vm_D q_X_next.2.1 102 1 103 (.istore_n 3) := ⟨by decide +kernel, rfl⟩
theorem d_X_next_103 : vm_D q_X_next.2.1 103 1 104 (.iload_n 3) := ⟨by decide +kernel, rfl⟩
theorem d_X_next_104 : vm_D q_X_next.2.1 104 1 105 (.iconst 1) := ⟨by decide +kernel, rfl⟩
theorem d_X_next_105 : vm_B q_X_next.2.1 105 108 110 (fun o => .if_icmp .eq o) := ⟨5, by decide +kernel, rfl, by decide⟩
theorem d_X_next_110 : vm_D q_X_next.2.1 110 1 111 (.aload_n 0) := ⟨by decide +kernel, rfl⟩
theorem d_X_next_111 : vm_D q_X_next.2.1 111 3 114 (.getfield 36) := ⟨by decide +kernel, rfl⟩
theorem d_X_next_114 : vm_D q_X_next.2.1 114 1 115 (.aload_n 0) := ⟨by decide +kernel, rfl⟩
theorem d_X_next_115 : vm_D q_X_next.2.1 115 3 118 (.getfield 46) := ⟨by decide +kernel, rfl⟩
theorem d_X_next_118 : vm_D q_X_next.2.1 118 3 121 (.getfield 253) := ⟨by decide +kernel, rfl⟩
theorem d_X_next_121 : vm_D q_X_next.2.1 121 3 124 (.invokevirtual 265) := ⟨by decide +kernel, rfl⟩
theorem d_X_next_124 : vm_D q_X_next.2.1 124 2 126 (.istore 4) := ⟨by decide +kernel, rfl⟩
theorem d_X_next_126 : vm_D q_X_next.2.1 126 1 127 (.aload_n 0) := ⟨by decide +kernel, rfl⟩
theorem d_X_next_127 : vm_D q_X_next.2.1 127 1 128 (.aload_n 0) := ⟨by decide +kernel, rfl⟩
theorem d_X_next_128 : vm_D q_X_next.2.1 128 3 131 (.getfield 46) := ⟨by decide +kernel, rfl⟩
theorem d_X_next_131 : vm_D q_X_next.2.1 131 3 134 (.getfield 253) := ⟨by decide +kernel, rfl⟩
theorem d_X_next_134 : vm_D q_X_next.2.1 134 3 137 (.invokevirtual 98) := ⟨by decide +kernel, rfl⟩
theorem d_X_next_137 : vm_D q_X_next.2.1 137 2 139 (.iload 4) := ⟨by decide +kernel, rfl⟩
theorem d_X_next_139 : vm_D q_X_next.2.1 139 1 140 (.ireturn) := ⟨by decide +kernel, rfl⟩
theorem d_X_next_108 : vm_D q_X_next.2.1 108 1 109 (.iload_n 3) := ⟨by decide +kernel, rfl⟩
theorem d_X_next_109 : vm_D q_X_next.2.1 109 1 110 (.ireturn) := ⟨by decide +kernel, rfl⟩
theorem d_X_next_45 : vm_D q_X_next.2.1 45 1 46 (.iload_n 1) := ⟨by decide +kernel, rfl⟩
theorem d_X_next_33 : vm_D q_X_next.2.1 33 1 34 (.aload_n 0) := ⟨by decide +kernel, rfl⟩
theorem d_X_next_34 : vm_D q_X_next.2.1 34 3 37 (.getfield 36) := ⟨by decide +kernel, rfl⟩
theorem d_X_next_37 : vm_D q_X_next.2.1 37 3 40 (.getfield 102) := ⟨by decide +kernel, rfl⟩
theorem d_X_next_40 : vm_D q_X_next.2.1 40 1 41 (.iconst 1) := ⟨by decide +kernel, rfl⟩
theorem d_X_next_41 : vm_D q_X_next.2.1 41 1 42 (.isub) := ⟨by decide +kernel, rfl⟩
theorem d_X_next_42 : ∃ off : Int, decode q_X_next.2.1 42 = .ok (.goto off, 3) ∧ ((42 : Nat) : Int) + off = ((46 : Nat) : Int) := ⟨4, by decide +kernel, by decide⟩
theorem d_X_next_14 : vm_D q_X_next.2.1 14 1 15 (.iconst (-1)) := ⟨by decide +kernel, rfl⟩
theorem d_X_next_15 : vm_D q_X_next.2.1 15 1 16 (.ireturn) := ⟨by decide +kernel, rfl⟩
def q_X_howMany : vm_Y := ("RepeatFree", cX10_howMany, 4, false, [])
theorem d_X_howMany_0 : vm_D q_X_howMany.2.1 0 1 1 (.iload_n 1) := ⟨by decide +kernel, rfl⟩
theorem d_X_howMany_1 : vm_B q_X_howMany.2.1 1 4 6 (fun o => .ifCond .ne o) := ⟨5, by decide +kernel, rfl, by decide⟩
theorem d_X_howMany_6 : vm_D q_X_howMany.2.1 6 1 7 (.aload_n 0) := ⟨by decide +kernel, rfl⟩
theorem d_X_howMany_7 : vm_D q_X_howMany.2.1 7 3 10 (.getfield 46) := ⟨by decide +kernel, rfl⟩
theorem d_X_howMany_10 : vm_D q_X_howMany.2.1 10 1 11 (.aload_n 0) := ⟨by decide +kernel, rfl⟩
theorem d_X_howMany_11 : vm_D q_X_howMany.2.1 11 3 14 (.getfield 19) := ⟨by decide +kernel, rfl⟩
theorem d_X_howMany_14 : vm_D q_X_howMany.2.1 14 3 17 (.invokevirtual 236) := ⟨by decide +kernel, rfl⟩
theorem d_X_howMany_17 : vm_D q_X_howMany.2.1 17 1 18 (.aload_n 0) := ⟨by decide +kernel, rfl⟩
theorem d_X_howMany_18 : vm_D q_X_howMany.2.1 18 3 21 (.getfield 46) := ⟨by decide +kernel, rfl⟩
theorem d_X_howMany_21 : vm_D q_X_howMany.2.1 21 1 22 (.aload_n 0) := ⟨by decide +kernel, rfl⟩
theorem d_X_howMany_22 : vm_D q_X_howMany.2.1 22 3 25 (.getfield 36) := ⟨by decide +kernel, rfl⟩
theorem d_X_howMany_25 : vm_D q_X_howMany.2.1 25 1 26 (.iconst 0) := ⟨by decide +kernel, rfl⟩
theorem d_X_howMany_26 : vm_D q_X_howMany.2.1 26 1 27 (.iconst 0) := ⟨by decide +kernel, rfl⟩
theorem d_X_howMany_27 : vm_D q_X_howMany.2.1 27 1 28 (.iload_n 1) := ⟨by decide +kernel, rfl⟩
theorem d_X_howMany_28 : vm_D q_X_howMany.2.1 28 3 31 (.invokevirtual 240) := ⟨by decide +kernel, rfl⟩
theorem d_X_howMany_31 : vm_D q_X_howMany.2.1 31 1 32 (.iconst 0) := ⟨by decide +kernel, rfl⟩
theorem d_X_howMany_32 : vm_D q_X_howMany.2.1 32 1 33 (.istore_n 2) := ⟨by decide +kernel, rfl⟩
theorem d_X_howMany_33 : vm_D q_X_howMany.2.1 33 1 34 (.aload_n 0) := ⟨by decide +kernel, rfl⟩
theorem d_X_howMany_34 : vm_D q_X_howMany.2.1 34 3 37 (.getfield 46) := ⟨by decide +kernel, rfl⟩
theorem d_X_howMany_37 : vm_D q_X_howMany.2.1 37 3 40 (.invokevirtual 250) := ⟨by decide +kernel, rfl⟩
theorem d_X_howMany_40 : vm_D q_X_howMany.2.1 40 1 41 (.istore_n 3) := ⟨by decide +kernel, rfl⟩
theorem d_X_howMany_41 : vm_D q_X_howMany.2.1 41 1 42 (.iload_n 2) := ⟨by decide +kernel, rfl⟩
theorem d_X_howMany_42 : vm_D q_X_howMany.2.1 42 3 45 (.sipush 5000) := ⟨by decide +kernel, rfl⟩
theorem d_X_howMany_45 : vm_B q_X_howMany.2.1 45 48 67 (fun o => .if_icmp .ge o) := ⟨22, by decide +kernel, rfl, by decide⟩
theorem d_X_howMany_48 : vm_D q_X_howMany.2.1 48 1 49 (.iload_n 3) := ⟨by decide +kernel, rfl⟩
theorem d_X_howMany_49 : vm_D q_X_howMany.2.1 49 1 50 (.iconst 1) := ⟨by decide +kernel, rfl⟩
theorem d_X_howMany_50 : vm_B q_X_howMany.2.1 50 53 67 (fun o => .if_icmp .ne o) := ⟨17, by decide +kernel, rfl, by decide⟩
theorem d_X_howMany_53 : vm_D q_X_howMany.2.1 53 1 54 (.aload_n 0) := ⟨by decide +kernel, rfl⟩
theorem d_X_howMany_54 : vm_D q_X_howMany.2.1 54 3 57 (.getfield 46) := ⟨by decide +kernel, rfl⟩
theorem d_X_howMany_57 : vm_D q_X_howMany.2.1 57 3 60 (.invokevirtual 250) := ⟨by decide +kernel, rfl⟩
theorem d_X_howMany_60 : vm_D q_X_howMany.2.1 60 1 61 (.istore_n 3) := ⟨by decide +kernel, rfl⟩
theorem d_X_howMany_61 : vm_D q_X_howMany.2.1 61 3 64 (.iinc 2 1) := ⟨by decide +kernel, rfl⟩
theorem d_X_howMany_64 : ∃ off : Int, decode q_X_howMany.2.1 64 = .ok (.goto off, 3) ∧ ((64 : Nat) : Int) + off = ((41 : Nat) : Int) := ⟨-23, by decide +kernel, by decide⟩
theorem d_X_howMany_67 : vm_D q_X_howMany.2.1 67 1 68 (.iload_n 3) := ⟨by decide +kernel, rfl⟩
theorem d_X_howMany_68 : vm_D q_X_howMany.2.1 68 2 70 (.bipush (-2)) := ⟨by decide +kernel, rfl⟩
theorem d_X_howMany_70 : vm_B q_X_howMany.2.1 70 73 78 (fun o => .if_icmp .ne o) := ⟨8, by decide +kernel, rfl, by decide⟩
theorem d_X_howMany_78 : vm_D q_X_howMany.2.1 78 1 79 (.iload_n 2) := ⟨by decide +kernel, rfl⟩
theorem d_X_howMany_79 : vm_D q_X_howMany.2.1 79 1 80 (.ireturn) := ⟨by decide +kernel, rfl⟩
theorem d_X_howMany_73 : vm_D q_X_howMany.2.1 73 2 75 (.bipush (-2)) := ⟨by decide +kernel, rfl⟩
theorem d_X_howMany_75 : ∃ off : Int, decode q_X_howMany.2.1 75 = .ok (.goto off, 3) ∧ ((75 : Nat) : Int) + off = ((79 : Nat) : Int) := ⟨4, by decide +kernel, by decide⟩
theorem d_X_howMany_4 : vm_D q_X_howMany.2.1 4 1 5 (.iconst 1) := ⟨by decide +kernel, rfl⟩
theorem d_X_howMany_5 : vm_D q_X_howMany.2.1 5 1 6 (.ireturn) := ⟨by decide +kernel, rfl⟩
def q_X_many : vm_Y := ("RepeatFree", cX10_many, 2, false, [])
theorem d_X_many_0 : vm_D q_X_many.2.1 0 1 1 (.aload_n 0) := ⟨by decide +kernel, rfl⟩
theorem d_X_many_1 : vm_D q_X_many.2.1 1 1 2 (.iload_n 1) := ⟨by decide +kernel, rfl⟩
theorem d_X_many_2 : vm_D q_X_many.2.1 2 1 3 (.iconst 0) := ⟨by decide +kernel, rfl⟩
theorem d_X_many_3 : vm_D q_X_many.2.1 3 2 5 (.bipush 40) := ⟨by decide +kernel, rfl⟩
theorem d_X_many_5 : vm_D q_X_many.2.1 5 3 8 (.invokevirtual 173) := ⟨by decide +kernel, rfl⟩
theorem d_X_many_8 : vm_D q_X_many.2.1 8 1 9 (.aload_n 0) := ⟨by decide +kernel, rfl⟩
theorem d_X_many_9 : vm_D q_X_many.2.1 9 1 10 (.iload_n 1) := ⟨by decide +kernel, rfl⟩
theorem d_X_many_10 : vm_D q_X_many.2.1 10 3 13 (.invokevirtual 269) := ⟨by decide +kernel, rfl⟩
theorem d_X_many_13 : vm_D q_X_many.2.1 13 1 14 (.ireturn) := ⟨by decide +kernel, rfl⟩
def q_X_growth : vm_Y := ("RepeatFree", cX10_growth, 4, false, [])
theorem d_X_growth_0 : vm_D q_X_growth.2.1 0 1 1 (.aload_n 0) := ⟨by decide +kernel, rfl⟩
theorem d_X_growth_1 : vm_D q_X_growth.2.1 1 1 2 (.iload_n 1) := ⟨by decide +kernel, rfl⟩
theorem d_X_growth_2 : vm_D q_X_growth.2.1 2 1 3 (.iconst 0) := ⟨by decide +kernel, rfl⟩
theorem d_X_growth_3 : vm_D q_X_growth.2.1 3 2 5 (.bipush 39) := ⟨by decide +kernel, rfl⟩
theorem d_X_growth_5 : vm_D q_X_growth.2.1 5 3 8 (.invokevirtual 173) := ⟨by decide +kernel, rfl⟩
theorem d_X_growth_8 : vm_D q_X_growth.2.1 8 1 9 (.aload_n 0) := ⟨by decide +kernel, rfl⟩
theorem d_X_growth_9 : vm_D q_X_growth.2.1 9 1 10 (.iload_n 1) := ⟨by decide +kernel, rfl⟩
theorem d_X_growth_10 : vm_D q_X_growth.2.1 10 3 13 (.invokevirtual 269) := ⟨by decide +kernel, rfl⟩
theorem d_X_growth_13 : vm_D q_X_growth.2.1 13 1 14 (.istore_n 2) := ⟨by decide +kernel, rfl⟩
theorem d_X_growth_14 : vm_D q_X_growth.2.1 14 1 15 (.iload_n 2) := ⟨by decide +kernel, rfl⟩
theorem d_X_growth_15 : vm_D q_X_growth.2.1 15 2 17 (.bipush (-2)) := ⟨by decide +kernel, rfl⟩
theorem d_X_growth_17 : vm_B q_X_growth.2.1 17 20 23 (fun o => .if_icmp .ne o) := ⟨6, by decide +kernel, rfl, by decide⟩
theorem d_X_growth_23 : vm_D q_X_growth.2.1 23 1 24 (.iload_n 2) := ⟨by decide +kernel, rfl⟩
theorem d_X_growth_24 : vm_B q_X_growth.2.1 24 27 29 (fun o => .ifCond .gt o) := ⟨5, by decide +kernel, rfl, by decide⟩
theorem d_X_growth_29 : vm_D q_X_growth.2.1 29 1 30 (.aload_n 0) := ⟨by decide +kernel, rfl⟩
theorem d_X_growth_30 : vm_D q_X_growth.2.1 30 1 31 (.iload_n 1) := ⟨by decide +kernel, rfl⟩
theorem d_X_growth_31 : vm_D q_X_growth.2.1 31 1 32 (.iconst 1) := ⟨by decide +kernel, rfl⟩
theorem d_X_growth_32 : vm_D q_X_growth.2.1 32 1 33 (.iadd) := ⟨by decide +kernel, rfl⟩
theorem d_X_growth_33 : vm_D q_X_growth.2.1 33 3 36 (.invokevirtual 269) := ⟨by decide +kernel, rfl⟩
theorem d_X_growth_36 : vm_D q_X_growth.2.1 36 1 37 (.istore_n 3) := ⟨by decide +kernel, rfl⟩
theorem d_X_growth_37 : vm_D q_X_growth.2.1 37 1 38 (.iload_n 3) := ⟨by decide +kernel, rfl⟩
theorem d_X_growth_38 : vm_D q_X_growth.2.1 38 2 40 (.bipush (-2)) := ⟨by decide +kernel, rfl⟩
theorem d_X_growth_40 : vm_B q_X_growth.2.1 40 43 48 (fun o => .if_icmp .ne o) := ⟨8, by decide +kernel, rfl, by decide⟩
theorem d_X_growth_48 : vm_D q_X_growth.2.1 48 3 51 (.sipush 1000) := ⟨by decide +kernel, rfl⟩
theorem d_X_growth_51 : vm_D q_X_growth.2.1 51 1 52 (.iload_n 3) := ⟨by decide +kernel, rfl⟩
theorem d_X_growth_52 : vm_D q_X_growth.2.1 52 1 53 (.imul) := ⟨by decide +kernel, rfl⟩
theorem d_X_growth_53 : vm_D q_X_growth.2.1 53 1 54 (.iload_n 2) := ⟨by decide +kernel, rfl⟩
theorem d_X_growth_54 : vm_D q_X_growth.2.1 54 1 55 (.idiv) := ⟨by decide +kernel, rfl⟩
theorem d_X_growth_55 : vm_D q_X_growth.2.1 55 1 56 (.ireturn) := ⟨by decide +kernel, rfl⟩
theorem d_X_growth_43 : vm_D q_X_growth.2.1 43 2 45 (.bipush (-2)) := ⟨by decide +kernel, rfl⟩
theorem d_X_growth_45 : ∃ off : Int, decode q_X_growth.2.1 45 = .ok (.goto off, 3) ∧ ((45 : Nat) : Int) + off = ((55 : Nat) : Int) := ⟨10, by decide +kernel, by decide⟩
theorem d_X_growth_27 : vm_D q_X_growth.2.1 27 1 28 (.iconst (-1)) := ⟨by decide +kernel, rfl⟩
theorem d_X_growth_28 : vm_D q_X_growth.2.1 28 1 29 (.ireturn) := ⟨by decide +kernel, rfl⟩
theorem d_X_growth_20 : vm_D q_X_growth.2.1 20 2 22 (.bipush (-2)) := ⟨by decide +kernel, rfl⟩
theorem d_X_growth_22 : vm_D q_X_growth.2.1 22 1 23 (.ireturn) := ⟨by decide +kernel, rfl⟩
def q_X_stuck : vm_Y := ("RepeatFree", cX10_stuck, 5, false, [])
theorem d_X_stuck_0 : vm_D q_X_stuck.2.1 0 1 1 (.aload_n 0) := ⟨by decide +kernel, rfl⟩
theorem d_X_stuck_1 : vm_D q_X_stuck.2.1 1 1 2 (.iload_n 1) := ⟨by decide +kernel, rfl⟩
theorem d_X_stuck_2 : vm_D q_X_stuck.2.1 2 1 3 (.iconst 0) := ⟨by decide +kernel, rfl⟩
theorem d_X_stuck_3 : vm_D q_X_stuck.2.1 3 2 5 (.bipush 40) := ⟨by decide +kernel, rfl⟩
theorem d_X_stuck_5 : vm_D q_X_stuck.2.1 5 3 8 (.invokevirtual 173) := ⟨by decide +kernel, rfl⟩
theorem d_X_stuck_8 : vm_D q_X_stuck.2.1 8 1 9 (.aload_n 0) := ⟨by decide +kernel, rfl⟩
theorem d_X_stuck_9 : vm_D q_X_stuck.2.1 9 3 12 (.getfield 46) := ⟨by decide +kernel, rfl⟩
theorem d_X_stuck_12 : vm_D q_X_stuck.2.1 12 1 13 (.aload_n 0) := ⟨by decide +kernel, rfl⟩
theorem d_X_stuck_13 : vm_D q_X_stuck.2.1 13 3 16 (.getfield 19) := ⟨by decide +kernel, rfl⟩
theorem d_X_stuck_16 : vm_D q_X_stuck.2.1 16 3 19 (.invokevirtual 236) := ⟨by decide +kernel, rfl⟩
theorem d_X_stuck_19 : vm_D q_X_stuck.2.1 19 1 20 (.aload_n 0) := ⟨by decide +kernel, rfl⟩
theorem d_X_stuck_20 : vm_D q_X_stuck.2.1 20 3 23 (.getfield 46) := ⟨by decide +kernel, rfl⟩
theorem d_X_stuck_23 : vm_D q_X_stuck.2.1 23 1 24 (.aload_n 0) := ⟨by decide +kernel, rfl⟩
theorem d_X_stuck_24 : vm_D q_X_stuck.2.1 24 3 27 (.getfield 36) := ⟨by decide +kernel, rfl⟩
theorem d_X_stuck_27 : vm_D q_X_stuck.2.1 27 1 28 (.iconst 0) := ⟨by decide +kernel, rfl⟩
theorem d_X_stuck_28 : vm_D q_X_stuck.2.1 28 1 29 (.iconst 0) := ⟨by decide +kernel, rfl⟩
theorem d_X_stuck_29 : vm_D q_X_stuck.2.1 29 1 30 (.iload_n 1) := ⟨by decide +kernel, rfl⟩
theorem d_X_stuck_30 : vm_D q_X_stuck.2.1 30 3 33 (.invokevirtual 240) := ⟨by decide +kernel, rfl⟩
theorem d_X_stuck_33 : vm_D q_X_stuck.2.1 33 1 34 (.iload_n 1) := ⟨by decide +kernel, rfl⟩
theorem d_X_stuck_34 : vm_B q_X_stuck.2.1 34 37 64 (fun o => .ifCond .ne o) := ⟨30, by decide +kernel, rfl, by decide⟩
theorem d_X_stuck_64 : vm_D q_X_stuck.2.1 64 1 65 (.iconst 0) := ⟨by decide +kernel, rfl⟩
theorem d_X_stuck_65 : vm_D q_X_stuck.2.1 65 1 66 (.istore_n 2) := ⟨by decide +kernel, rfl⟩
theorem d_X_stuck_66 : vm_D q_X_stuck.2.1 66 1 67 (.aload_n 0) := ⟨by decide +kernel, rfl⟩
theorem d_X_stuck_67 : vm_D q_X_stuck.2.1 67 3 70 (.getfield 46) := ⟨by decide +kernel, rfl⟩
theorem d_X_stuck_70 : vm_D q_X_stuck.2.1 70 3 73 (.invokevirtual 250) := ⟨by decide +kernel, rfl⟩
theorem d_X_stuck_73 : vm_D q_X_stuck.2.1 73 1 74 (.istore_n 3) := ⟨by decide +kernel, rfl⟩
theorem d_X_stuck_74 : vm_D q_X_stuck.2.1 74 1 75 (.iconst 0) := ⟨by decide +kernel, rfl⟩
theorem d_X_stuck_75 : vm_D q_X_stuck.2.1 75 2 77 (.istore 4) := ⟨by decide +kernel, rfl⟩
theorem d_X_stuck_77 : vm_D q_X_stuck.2.1 77 2 79 (.iload 4) := ⟨by decide +kernel, rfl⟩
theorem d_X_stuck_79 : vm_D q_X_stuck.2.1 79 3 82 (.sipush 5000) := ⟨by decide +kernel, rfl⟩
theorem d_X_stuck_82 : vm_B q_X_stuck.2.1 82 85 128 (fun o => .if_icmp .ge o) := ⟨46, by decide +kernel, rfl, by decide⟩
theorem d_X_stuck_85 : vm_D q_X_stuck.2.1 85 1 86 (.iload_n 3) := ⟨by decide +kernel, rfl⟩
theorem d_X_stuck_86 : vm_D q_X_stuck.2.1 86 1 87 (.iconst 1) := ⟨by decide +kernel, rfl⟩
theorem d_X_stuck_87 : vm_B q_X_stuck.2.1 87 90 128 (fun o => .if_icmp .ne o) := ⟨41, by decide +kernel, rfl, by decide⟩
theorem d_X_stuck_90 : vm_D q_X_stuck.2.1 90 1 91 (.aload_n 0) := ⟨by decide +kernel, rfl⟩
theorem d_X_stuck_91 : vm_D q_X_stuck.2.1 91 3 94 (.getfield 46) := ⟨by decide +kernel, rfl⟩
theorem d_X_stuck_94 : vm_D q_X_stuck.2.1 94 1 95 (.aload_n 0) := ⟨by decide +kernel, rfl⟩
theorem d_X_stuck_95 : vm_D q_X_stuck.2.1 95 3 98 (.getfield 19) := ⟨by decide +kernel, rfl⟩
theorem d_X_stuck_98 : vm_D q_X_stuck.2.1 98 1 99 (.aload_n 0) := ⟨by decide +kernel, rfl⟩
theorem d_X_stuck_99 : vm_D q_X_stuck.2.1 99 3 102 (.getfield 46) := ⟨by decide +kernel, rfl⟩
theorem d_X_stuck_102 : vm_D q_X_stuck.2.1 102 3 105 (.getfield 253) := ⟨by decide +kernel, rfl⟩
theorem d_X_stuck_105 : vm_D q_X_stuck.2.1 105 3 108 (.invokevirtual 229) := ⟨by decide +kernel, rfl⟩
theorem d_X_stuck_108 : vm_B q_X_stuck.2.1 108 111 114 (fun o => .ifCond .ne o) := ⟨6, by decide +kernel, rfl, by decide⟩
theorem d_X_stuck_114 : vm_D q_X_stuck.2.1 114 1 115 (.aload_n 0) := ⟨by decide +kernel, rfl⟩
theorem d_X_stuck_115 : vm_D q_X_stuck.2.1 115 3 118 (.getfield 46) := ⟨by decide +kernel, rfl⟩
theorem d_X_stuck_118 : vm_D q_X_stuck.2.1 118 3 121 (.invokevirtual 250) := ⟨by decide +kernel, rfl⟩
theorem d_X_stuck_121 : vm_D q_X_stuck.2.1 121 1 122 (.istore_n 3) := ⟨by decide +kernel, rfl⟩
theorem d_X_stuck_122 : vm_D q_X_stuck.2.1 122 3 125 (.iinc 4 1) := ⟨by decide +kernel, rfl⟩
theorem d_X_stuck_125 : ∃ off : Int, decode q_X_stuck.2.1 125 = .ok (.goto off, 3) ∧ ((125 : Nat) : Int) + off = ((77 : Nat) : Int) := ⟨-48, by decide +kernel, by decide⟩
theorem d_X_stuck_111 : vm_D q_X_stuck.2.1 111 3 114 (.iinc 2 1) := ⟨by decide +kernel, rfl⟩
theorem d_X_stuck_128 : vm_D q_X_stuck.2.1 128 1 129 (.iload_n 3) := ⟨by decide +kernel, rfl⟩
theorem d_X_stuck_129 : vm_D q_X_stuck.2.1 129 2 131 (.bipush (-2)) := ⟨by decide +kernel, rfl⟩
theorem d_X_stuck_131 : vm_B q_X_stuck.2.1 131 134 139 (fun o => .if_icmp .ne o) := ⟨8, by decide +kernel, rfl, by decide⟩
theorem d_X_stuck_139 : vm_D q_X_stuck.2.1 139 1 140 (.iload_n 2) := ⟨by decide +kernel, rfl⟩
theorem d_X_stuck_140 : vm_D q_X_stuck.2.1 140 1 141 (.ireturn) := ⟨by decide +kernel, rfl⟩
theorem d_X_stuck_134 : vm_D q_X_stuck.2.1 134 2 136 (.bipush (-2)) := ⟨by decide +kernel, rfl⟩
theorem d_X_stuck_136 : ∃ off : Int, decode q_X_stuck.2.1 136 = .ok (.goto off, 3) ∧ ((136 : Nat) : Int) + off = ((140 : Nat) : Int) := ⟨4, by decide +kernel, by decide⟩
theorem d_X_stuck_37 : vm_D q_X_stuck.2.1 37 1 38 (.aload_n 0) := ⟨by decide +kernel, rfl⟩
theorem d_X_stuck_38 : vm_D q_X_stuck.2.1 38 3 41 (.getfield 46) := ⟨by decide +kernel, rfl⟩
theorem d_X_stuck_41 : vm_D q_X_stuck.2.1 41 1 42 (.aload_n 0) := ⟨by decide +kernel, rfl⟩
theorem d_X_stuck_42 : vm_D q_X_stuck.2.1 42 3 45 (.getfield 19) := ⟨by decide +kernel, rfl⟩
theorem d_X_stuck_45 : vm_D q_X_stuck.2.1 45 1 46 (.aload_n 0) := ⟨by decide +kernel, rfl⟩
theorem d_X_stuck_46 : vm_D q_X_stuck.2.1 46 3 49 (.getfield 46) := ⟨by decide +kernel, rfl⟩
theorem d_X_stuck_49 : vm_D q_X_stuck.2.1 49 3 52 (.getfield 253) := ⟨by decide +kernel, rfl⟩
theorem d_X_stuck_52 : vm_D q_X_stuck.2.1 52 3 55 (.invokevirtual 229) := ⟨by decide +kernel, rfl⟩
theorem d_X_stuck_55 : vm_B q_X_stuck.2.1 55 58 62 (fun o => .ifCond .ne o) := ⟨7, by decide +kernel, rfl, by decide⟩
theorem d_X_stuck_62 : vm_D q_X_stuck.2.1 62 1 63 (.iconst 0) := ⟨by decide +kernel, rfl⟩
theorem d_X_stuck_63 : vm_D q_X_stuck.2.1 63 1 64 (.ireturn) := ⟨by decide +kernel, rfl⟩
theorem d_X_stuck_58 : vm_D q_X_stuck.2.1 58 1 59 (.iconst 1) := ⟨by decide +kernel, rfl⟩
theorem d_X_stuck_59 : ∃ off : Int, decode q_X_stuck.2.1 59 = .ok (.goto off, 3) ∧ ((59 : Nat) : Int) + off = ((63 : Nat) : Int) := ⟨4, by decide +kernel, by decide⟩
def q_X_rank : vm_Y := ("RepeatFree", cX10_rank, 3, false, [])
theorem d_X_rank_0 : vm_D q_X_rank.2.1 0 1 1 (.aload_n 0) := ⟨by decide +kernel, rfl⟩
theorem d_X_rank_1 : vm_D q_X_rank.2.1 1 3 4 (.invokevirtual 259) := ⟨by decide +kernel, rfl⟩
theorem d_X_rank_4 : vm_D q_X_rank.2.1 4 1 5 (.aload_n 0) := ⟨by decide +kernel, rfl⟩
theorem d_X_rank_5 : vm_D q_X_rank.2.1 5 3 8 (.getfield 36) := ⟨by decide +kernel, rfl⟩
theorem d_X_rank_8 : vm_D q_X_rank.2.1 8 3 11 (.getfield 102) := ⟨by decide +kernel, rfl⟩
theorem d_X_rank_11 : vm_B q_X_rank.2.1 11 14 16 (fun o => .ifCond .ne o) := ⟨5, by decide +kernel, rfl, by decide⟩
theorem d_X_rank_16 : vm_D q_X_rank.2.1 16 1 17 (.aload_n 0) := ⟨by decide +kernel, rfl⟩
theorem d_X_rank_17 : vm_D q_X_rank.2.1 17 3 20 (.getfield 46) := ⟨by decide +kernel, rfl⟩
theorem d_X_rank_20 : vm_D q_X_rank.2.1 20 1 21 (.aload_n 0) := ⟨by decide +kernel, rfl⟩
theorem d_X_rank_21 : vm_D q_X_rank.2.1 21 3 24 (.getfield 19) := ⟨by decide +kernel, rfl⟩
theorem d_X_rank_24 : vm_D q_X_rank.2.1 24 3 27 (.invokevirtual 236) := ⟨by decide +kernel, rfl⟩
theorem d_X_rank_27 : vm_D q_X_rank.2.1 27 1 28 (.aload_n 0) := ⟨by decide +kernel, rfl⟩
theorem d_X_rank_28 : vm_D q_X_rank.2.1 28 3 31 (.getfield 46) := ⟨by decide +kernel, rfl⟩
theorem d_X_rank_31 : vm_D q_X_rank.2.1 31 1 32 (.aload_n 0) := ⟨by decide +kernel, rfl⟩
theorem d_X_rank_32 : vm_D q_X_rank.2.1 32 3 35 (.getfield 36) := ⟨by decide +kernel, rfl⟩
theorem d_X_rank_35 : vm_D q_X_rank.2.1 35 1 36 (.iconst 0) := ⟨by decide +kernel, rfl⟩
theorem d_X_rank_36 : vm_D q_X_rank.2.1 36 1 37 (.iconst 0) := ⟨by decide +kernel, rfl⟩
theorem d_X_rank_37 : vm_D q_X_rank.2.1 37 1 38 (.aload_n 0) := ⟨by decide +kernel, rfl⟩
theorem d_X_rank_38 : vm_D q_X_rank.2.1 38 3 41 (.getfield 36) := ⟨by decide +kernel, rfl⟩
theorem d_X_rank_41 : vm_D q_X_rank.2.1 41 3 44 (.getfield 102) := ⟨by decide +kernel, rfl⟩
theorem d_X_rank_44 : vm_D q_X_rank.2.1 44 3 47 (.invokevirtual 240) := ⟨by decide +kernel, rfl⟩
theorem d_X_rank_47 : vm_D q_X_rank.2.1 47 1 48 (.aload_n 0) := ⟨by decide +kernel, rfl⟩
theorem d_X_rank_48 : vm_D q_X_rank.2.1 48 3 51 (.getfield 46) := ⟨by decide +kernel, rfl⟩
theorem d_X_rank_51 : vm_D q_X_rank.2.1 51 3 54 (.invokevirtual 250) := ⟨by decide +kernel, rfl⟩
theorem d_X_rank_54 : vm_D q_X_rank.2.1 54 1 55 (.istore_n 1) := ⟨by decide +kernel, rfl⟩
theorem d_X_rank_55 : vm_D q_X_rank.2.1 55 1 56 (.iconst 0) := ⟨by decide +kernel, rfl⟩
theorem d_X_rank_56 : vm_D q_X_rank.2.1 56 1 57 (.istore_n 2) := ⟨by decide +kernel, rfl⟩
theorem d_X_rank_57 : vm_D q_X_rank.2.1 57 1 58 (.iload_n 2) := ⟨by decide +kernel, rfl⟩
theorem d_X_rank_58 : vm_D q_X_rank.2.1 58 3 61 (.sipush 5000) := ⟨by decide +kernel, rfl⟩
theorem d_X_rank_61 : vm_B q_X_rank.2.1 61 64 100 (fun o => .if_icmp .ge o) := ⟨39, by decide +kernel, rfl, by decide⟩
theorem d_X_rank_64 : vm_D q_X_rank.2.1 64 1 65 (.iload_n 1) := ⟨by decide +kernel, rfl⟩
theorem d_X_rank_65 : vm_D q_X_rank.2.1 65 1 66 (.iconst 1) := ⟨by decide +kernel, rfl⟩
theorem d_X_rank_66 : vm_B q_X_rank.2.1 66 69 100 (fun o => .if_icmp .ne o) := ⟨34, by decide +kernel, rfl, by decide⟩
theorem d_X_rank_69 : vm_D q_X_rank.2.1 69 1 70 (.aload_n 0) := ⟨by decide +kernel, rfl⟩
theorem d_X_rank_70 : vm_D q_X_rank.2.1 70 3 73 (.getfield 46) := ⟨by decide +kernel, rfl⟩
theorem d_X_rank_73 : vm_D q_X_rank.2.1 73 3 76 (.getfield 253) := ⟨by decide +kernel, rfl⟩
theorem d_X_rank_76 : vm_D q_X_rank.2.1 76 1 77 (.aload_n 0) := ⟨by decide +kernel, rfl⟩
theorem d_X_rank_77 : vm_D q_X_rank.2.1 77 3 80 (.getfield 36) := ⟨by decide +kernel, rfl⟩
theorem d_X_rank_80 : vm_D q_X_rank.2.1 80 3 83 (.invokevirtual 272) := ⟨by decide +kernel, rfl⟩
theorem d_X_rank_83 : vm_B q_X_rank.2.1 83 86 100 (fun o => .ifCond .eq o) := ⟨17, by decide +kernel, rfl, by decide⟩
theorem d_X_rank_86 : vm_D q_X_rank.2.1 86 1 87 (.aload_n 0) := ⟨by decide +kernel, rfl⟩
theorem d_X_rank_87 : vm_D q_X_rank.2.1 87 3 90 (.getfield 46) := ⟨by decide +kernel, rfl⟩
theorem d_X_rank_90 : vm_D q_X_rank.2.1 90 3 93 (.invokevirtual 250) := ⟨by decide +kernel, rfl⟩
theorem d_X_rank_93 : vm_D q_X_rank.2.1 93 1 94 (.istore_n 1) := ⟨by decide +kernel, rfl⟩
theorem d_X_rank_94 : vm_D q_X_rank.2.1 94 3 97 (.iinc 2 1) := ⟨by decide +kernel, rfl⟩
theorem d_X_rank_97 : ∃ off : Int, decode q_X_rank.2.1 97 = .ok (.goto off, 3) ∧ ((97 : Nat) : Int) + off = ((57 : Nat) : Int) := ⟨-40, by decide +kernel, by decide⟩
theorem d_X_rank_100 : vm_D q_X_rank.2.1 100 1 101 (.iload_n 1) := ⟨by decide +kernel, rfl⟩
theorem d_X_rank_101 : vm_D q_X_rank.2.1 101 2 103 (.bipush (-2)) := ⟨by decide +kernel, rfl⟩
theorem d_X_rank_103 : vm_B q_X_rank.2.1 103 106 111 (fun o => .if_icmp .ne o) := ⟨8, by decide +kernel, rfl, by decide⟩
theorem d_X_rank_111 : vm_D q_X_rank.2.1 111 1 112 (.iload_n 2) := ⟨by decide +kernel, rfl⟩
theorem d_X_rank_112 : vm_D q_X_rank.2.1 112 1 113 (.ireturn) := ⟨by decide +kernel, rfl⟩
theorem d_X_rank_106 : vm_D q_X_rank.2.1 106 2 108 (.bipush (-2)) := ⟨by decide +kernel, rfl⟩
theorem d_X_rank_108 : ∃ off : Int, decode q_X_rank.2.1 108 = .ok (.goto off, 3) ∧ ((108 : Nat) : Int) + off = ((112 : Nat) : Int) := ⟨4, by decide +kernel, by decide⟩
theorem d_X_rank_14 : vm_D q_X_rank.2.1 14 1 15 (.iconst 0) := ⟨by decide +kernel, rfl⟩
theorem d_X_rank_15 : vm_D q_X_rank.2.1 15 1 16 (.ireturn) := ⟨by decide +kernel, rfl⟩
def q_X_image : vm_Y := ("RepeatFree", cX10_image, 5, false, [])
theorem d_X_image_0 : vm_D q_X_image.2.1 0 1 1 (.aload_n 0) := ⟨by decide +kernel, rfl⟩
theorem d_X_image_1 : vm_D q_X_image.2.1 1 1 2 (.iload_n 1) := ⟨by decide +kernel, rfl⟩
theorem d_X_image_2 : vm_D q_X_image.2.1 2 3 5 (.invokevirtual 275) := ⟨by decide +kernel, rfl⟩
theorem d_X_image_5 : vm_D q_X_image.2.1 5 1 6 (.astore_n 2) := ⟨by decide +kernel, rfl⟩
theorem d_X_image_6 : vm_D q_X_image.2.1 6 1 7 (.iconst 0) := ⟨by decide +kernel, rfl⟩
theorem d_X_image_7 : vm_D q_X_image.2.1 7 1 8 (.istore_n 3) := ⟨by decide +kernel, rfl⟩
theorem d_X_image_8 : vm_D q_X_image.2.1 8 1 9 (.iconst 0) := ⟨by decide +kernel, rfl⟩
theorem d_X_image_9 : vm_D q_X_image.2.1 9 2 11 (.istore 4) := ⟨by decide +kernel, rfl⟩
theorem d_X_image_11 : vm_D q_X_image.2.1 11 2 13 (.iload 4) := ⟨by decide +kernel, rfl⟩
theorem d_X_image_13 : vm_D q_X_image.2.1 13 1 14 (.aload_n 0) := ⟨by decide +kernel, rfl⟩
theorem d_X_image_14 : vm_D q_X_image.2.1 14 3 17 (.getfield 36) := ⟨by decide +kernel, rfl⟩
theorem d_X_image_17 : vm_D q_X_image.2.1 17 3 20 (.getfield 102) := ⟨by decide +kernel, rfl⟩
theorem d_X_image_20 : vm_B q_X_image.2.1 20 23 45 (fun o => .if_icmp .ge o) := ⟨25, by decide +kernel, rfl, by decide⟩
theorem d_X_image_23 : vm_D q_X_image.2.1 23 1 24 (.iload_n 3) := ⟨by decide +kernel, rfl⟩
theorem d_X_image_24 : vm_D q_X_image.2.1 24 1 25 (.aload_n 2) := ⟨by decide +kernel, rfl⟩
theorem d_X_image_25 : vm_D q_X_image.2.1 25 1 26 (.aload_n 0) := ⟨by decide +kernel, rfl⟩
theorem d_X_image_26 : vm_D q_X_image.2.1 26 3 29 (.getfield 36) := ⟨by decide +kernel, rfl⟩
theorem d_X_image_29 : vm_D q_X_image.2.1 29 2 31 (.iload 4) := ⟨by decide +kernel, rfl⟩
theorem d_X_image_31 : vm_D q_X_image.2.1 31 3 34 (.invokevirtual 106) := ⟨by decide +kernel, rfl⟩
theorem d_X_image_34 : vm_D q_X_image.2.1 34 3 37 (.invokevirtual 278) := ⟨by decide +kernel, rfl⟩
theorem d_X_image_37 : vm_D q_X_image.2.1 37 1 38 (.iadd) := ⟨by decide +kernel, rfl⟩
theorem d_X_image_38 : vm_D q_X_image.2.1 38 1 39 (.istore_n 3) := ⟨by decide +kernel, rfl⟩
theorem d_X_image_39 : vm_D q_X_image.2.1 39 3 42 (.iinc 4 1) := ⟨by decide +kernel, rfl⟩
theorem d_X_image_42 : ∃ off : Int, decode q_X_image.2.1 42 = .ok (.goto off, 3) ∧ ((42 : Nat) : Int) + off = ((11 : Nat) : Int) := ⟨-31, by decide +kernel, by decide⟩
theorem d_X_image_45 : vm_D q_X_image.2.1 45 1 46 (.iload_n 3) := ⟨by decide +kernel, rfl⟩
theorem d_X_image_46 : vm_D q_X_image.2.1 46 2 48 (.bipush 64) := ⟨by decide +kernel, rfl⟩
theorem d_X_image_48 : vm_B q_X_image.2.1 48 51 59 (fun o => .if_icmp .le o) := ⟨11, by decide +kernel, rfl, by decide⟩
theorem d_X_image_59 : vm_D q_X_image.2.1 59 1 60 (.aload_n 2) := ⟨by decide +kernel, rfl⟩
theorem d_X_image_60 : vm_D q_X_image.2.1 60 1 61 (.aload_n 0) := ⟨by decide +kernel, rfl⟩
theorem d_X_image_61 : vm_D q_X_image.2.1 61 3 64 (.getfield 36) := ⟨by decide +kernel, rfl⟩
theorem d_X_image_64 : vm_D q_X_image.2.1 64 1 65 (.aload_n 0) := ⟨by decide +kernel, rfl⟩
theorem d_X_image_65 : vm_D q_X_image.2.1 65 3 68 (.getfield 40) := ⟨by decide +kernel, rfl⟩
theorem d_X_image_68 : vm_D q_X_image.2.1 68 3 71 (.invokevirtual 283) := ⟨by decide +kernel, rfl⟩
theorem d_X_image_71 : vm_D q_X_image.2.1 71 1 72 (.aload_n 0) := ⟨by decide +kernel, rfl⟩
theorem d_X_image_72 : vm_D q_X_image.2.1 72 1 73 (.aload_n 0) := ⟨by decide +kernel, rfl⟩
theorem d_X_image_73 : vm_D q_X_image.2.1 73 3 76 (.getfield 40) := ⟨by decide +kernel, rfl⟩
theorem d_X_image_76 : vm_D q_X_image.2.1 76 3 79 (.invokevirtual 98) := ⟨by decide +kernel, rfl⟩
theorem d_X_image_79 : vm_D q_X_image.2.1 79 1 80 (.aload_n 0) := ⟨by decide +kernel, rfl⟩
theorem d_X_image_80 : vm_D q_X_image.2.1 80 3 83 (.getfield 36) := ⟨by decide +kernel, rfl⟩
theorem d_X_image_83 : vm_D q_X_image.2.1 83 3 86 (.getfield 102) := ⟨by decide +kernel, rfl⟩
theorem d_X_image_86 : vm_D q_X_image.2.1 86 1 87 (.ireturn) := ⟨by decide +kernel, rfl⟩
theorem d_X_image_51 : vm_D q_X_image.2.1 51 3 54 (.new 113) := ⟨by decide +kernel, rfl⟩
theorem d_X_image_54 : vm_D q_X_image.2.1 54 1 55 (.dup) := ⟨by decide +kernel, rfl⟩
theorem d_X_image_55 : vm_D q_X_image.2.1 55 3 58 (.invokespecial 115) := ⟨by decide +kernel, rfl⟩
theorem d_X_image_58 : vm_D q_X_image.2.1 58 1 59 (.athrow) := ⟨by decide +kernel, rfl⟩
def q_X_imaged : vm_Y := ("RepeatFree", cX10_imaged, 5, false, [])
theorem d_X_imaged_0 : vm_D q_X_imaged.2.1 0 1 1 (.aload_n 0) := ⟨by decide +kernel, rfl⟩
theorem d_X_imaged_1 : vm_D q_X_imaged.2.1 1 1 2 (.iload_n 1) := ⟨by decide +kernel, rfl⟩
theorem d_X_imaged_2 : vm_D q_X_imaged.2.1 2 3 5 (.invokevirtual 275) := ⟨by decide +kernel, rfl⟩
theorem d_X_imaged_5 : vm_D q_X_imaged.2.1 5 2 7 (.astore 4) := ⟨by decide +kernel, rfl⟩
theorem d_X_imaged_7 : vm_D q_X_imaged.2.1 7 1 8 (.aload_n 0) := ⟨by decide +kernel, rfl⟩
theorem d_X_imaged_8 : vm_D q_X_imaged.2.1 8 1 9 (.iload_n 2) := ⟨by decide +kernel, rfl⟩
theorem d_X_imaged_9 : vm_D q_X_imaged.2.1 9 3 12 (.invokevirtual 110) := ⟨by decide +kernel, rfl⟩
theorem d_X_imaged_12 : vm_D q_X_imaged.2.1 12 1 13 (.iload_n 3) := ⟨by decide +kernel, rfl⟩
theorem d_X_imaged_13 : vm_D q_X_imaged.2.1 13 1 14 (.iconst (-1)) := ⟨by decide +kernel, rfl⟩
theorem d_X_imaged_14 : vm_B q_X_imaged.2.1 14 17 26 (fun o => .if_icmp .ne o) := ⟨12, by decide +kernel, rfl, by decide⟩
theorem d_X_imaged_26 : vm_D q_X_imaged.2.1 26 2 28 (.aload 4) := ⟨by decide +kernel, rfl⟩
theorem d_X_imaged_28 : vm_D q_X_imaged.2.1 28 1 29 (.iload_n 2) := ⟨by decide +kernel, rfl⟩
theorem d_X_imaged_29 : vm_D q_X_imaged.2.1 29 1 30 (.iload_n 3) := ⟨by decide +kernel, rfl⟩
theorem d_X_imaged_30 : vm_D q_X_imaged.2.1 30 3 33 (.invokevirtual 287) := ⟨by decide +kernel, rfl⟩
theorem d_X_imaged_33 : vm_D q_X_imaged.2.1 33 1 34 (.ireturn) := ⟨by decide +kernel, rfl⟩
theorem d_X_imaged_17 : vm_D q_X_imaged.2.1 17 2 19 (.aload 4) := ⟨by decide +kernel, rfl⟩
theorem d_X_imaged_19 : vm_D q_X_imaged.2.1 19 1 20 (.iload_n 2) := ⟨by decide +kernel, rfl⟩
theorem d_X_imaged_20 : vm_D q_X_imaged.2.1 20 3 23 (.invokevirtual 278) := ⟨by decide +kernel, rfl⟩
theorem d_X_imaged_23 : ∃ off : Int, decode q_X_imaged.2.1 23 = .ok (.goto off, 3) ∧ ((23 : Nat) : Int) + off = ((33 : Nat) : Int) := ⟨10, by decide +kernel, by decide⟩
def q_X_tallied : vm_Y := ("RepeatFree", cX10_tallied, 3, false, [])
theorem d_X_tallied_0 : vm_D q_X_tallied.2.1 0 1 1 (.iload_n 1) := ⟨by decide +kernel, rfl⟩
theorem d_X_tallied_1 : vm_B q_X_tallied.2.1 1 4 22 (fun o => .ifCond .lt o) := ⟨21, by decide +kernel, rfl, by decide⟩
theorem d_X_tallied_22 : vm_D q_X_tallied.2.1 22 1 23 (.lconst 0) := ⟨by decide +kernel, rfl⟩
theorem d_X_tallied_23 : vm_D q_X_tallied.2.1 23 1 24 (.lreturn) := ⟨by decide +kernel, rfl⟩
theorem d_X_tallied_4 : vm_D q_X_tallied.2.1 4 1 5 (.iload_n 1) := ⟨by decide +kernel, rfl⟩
theorem d_X_tallied_5 : vm_D q_X_tallied.2.1 5 1 6 (.aload_n 0) := ⟨by decide +kernel, rfl⟩
theorem d_X_tallied_6 : vm_D q_X_tallied.2.1 6 3 9 (.getfield 59) := ⟨by decide +kernel, rfl⟩
theorem d_X_tallied_9 : vm_D q_X_tallied.2.1 9 1 10 (.arraylength) := ⟨by decide +kernel, rfl⟩
theorem d_X_tallied_10 : vm_B q_X_tallied.2.1 10 13 22 (fun o => .if_icmp .ge o) := ⟨12, by decide +kernel, rfl, by decide⟩
theorem d_X_tallied_13 : vm_D q_X_tallied.2.1 13 1 14 (.iload_n 2) := ⟨by decide +kernel, rfl⟩
theorem d_X_tallied_14 : vm_B q_X_tallied.2.1 14 17 22 (fun o => .ifCond .lt o) := ⟨8, by decide +kernel, rfl, by decide⟩
theorem d_X_tallied_17 : vm_D q_X_tallied.2.1 17 1 18 (.iload_n 2) := ⟨by decide +kernel, rfl⟩
theorem d_X_tallied_18 : vm_D q_X_tallied.2.1 18 1 19 (.iconst 4) := ⟨by decide +kernel, rfl⟩
theorem d_X_tallied_19 : vm_B q_X_tallied.2.1 19 22 24 (fun o => .if_icmp .lt o) := ⟨5, by decide +kernel, rfl, by decide⟩
theorem d_X_tallied_24 : vm_D q_X_tallied.2.1 24 1 25 (.aload_n 0) := ⟨by decide +kernel, rfl⟩
theorem d_X_tallied_25 : vm_D q_X_tallied.2.1 25 3 28 (.getfield 59) := ⟨by decide +kernel, rfl⟩
theorem d_X_tallied_28 : vm_D q_X_tallied.2.1 28 1 29 (.iload_n 1) := ⟨by decide +kernel, rfl⟩
theorem d_X_tallied_29 : vm_D q_X_tallied.2.1 29 1 30 (.aaload) := ⟨by decide +kernel, rfl⟩
theorem d_X_tallied_30 : vm_D q_X_tallied.2.1 30 1 31 (.iload_n 2) := ⟨by decide +kernel, rfl⟩
theorem d_X_tallied_31 : vm_D q_X_tallied.2.1 31 1 32 (.laload) := ⟨by decide +kernel, rfl⟩
theorem d_X_tallied_32 : vm_D q_X_tallied.2.1 32 1 33 (.lreturn) := ⟨by decide +kernel, rfl⟩
def q_X_tally : vm_Y := ("RepeatFree", cX10_tally, 10, false, [])
theorem d_X_tally_0 : vm_D q_X_tally.2.1 0 1 1 (.iconst 0) := ⟨by decide +kernel, rfl⟩
theorem d_X_tally_1 : vm_D q_X_tally.2.1 1 2 3 (.istore 4) := ⟨by decide +kernel, rfl⟩
theorem d_X_tally_3 : vm_D q_X_tally.2.1 3 2 5 (.iload 4) := ⟨by decide +kernel, rfl⟩
theorem d_X_tally_5 : vm_D q_X_tally.2.1 5 1 6 (.iload_n 2) := ⟨by decide +kernel, rfl⟩
theorem d_X_tally_6 : vm_B q_X_tally.2.1 6 9 142 (fun o => .if_icmp .gt o) := ⟨136, by decide +kernel, rfl, by decide⟩
theorem d_X_tally_9 : vm_D q_X_tally.2.1 9 2 11 (.iload 4) := ⟨by decide +kernel, rfl⟩
theorem d_X_tally_11 : vm_D q_X_tally.2.1 11 1 12 (.aload_n 0) := ⟨by decide +kernel, rfl⟩
theorem d_X_tally_12 : vm_D q_X_tally.2.1 12 3 15 (.getfield 59) := ⟨by decide +kernel, rfl⟩
theorem d_X_tally_15 : vm_D q_X_tally.2.1 15 1 16 (.arraylength) := ⟨by decide +kernel, rfl⟩
theorem d_X_tally_16 : vm_B q_X_tally.2.1 16 19 142 (fun o => .if_icmp .ge o) := ⟨126, by decide +kernel, rfl, by decide⟩
theorem d_X_tally_19 : vm_D q_X_tally.2.1 19 1 20 (.aload_n 0) := ⟨by decide +kernel, rfl⟩
theorem d_X_tally_20 : vm_D q_X_tally.2.1 20 3 23 (.getfield 59) := ⟨by decide +kernel, rfl⟩
theorem d_X_tally_23 : vm_D q_X_tally.2.1 23 2 25 (.iload 4) := ⟨by decide +kernel, rfl⟩
theorem d_X_tally_25 : vm_D q_X_tally.2.1 25 1 26 (.aaload) := ⟨by decide +kernel, rfl⟩
theorem d_X_tally_26 : vm_D q_X_tally.2.1 26 2 28 (.astore 5) := ⟨by decide +kernel, rfl⟩
theorem d_X_tally_28 : vm_D q_X_tally.2.1 28 1 29 (.iconst 0) := ⟨by decide +kernel, rfl⟩
theorem d_X_tally_29 : vm_D q_X_tally.2.1 29 2 31 (.istore 6) := ⟨by decide +kernel, rfl⟩
theorem d_X_tally_31 : vm_D q_X_tally.2.1 31 2 33 (.iload 6) := ⟨by decide +kernel, rfl⟩
theorem d_X_tally_33 : vm_D q_X_tally.2.1 33 1 34 (.aload_n 0) := ⟨by decide +kernel, rfl⟩
theorem d_X_tally_34 : vm_D q_X_tally.2.1 34 3 37 (.getfield 19) := ⟨by decide +kernel, rfl⟩
theorem d_X_tally_37 : vm_D q_X_tally.2.1 37 3 40 (.getfield 91) := ⟨by decide +kernel, rfl⟩
theorem d_X_tally_40 : vm_B q_X_tally.2.1 40 43 136 (fun o => .if_icmp .ge o) := ⟨96, by decide +kernel, rfl, by decide⟩
theorem d_X_tally_43 : vm_D q_X_tally.2.1 43 2 45 (.iload 6) := ⟨by decide +kernel, rfl⟩
theorem d_X_tally_45 : vm_D q_X_tally.2.1 45 2 47 (.aload 5) := ⟨by decide +kernel, rfl⟩
theorem d_X_tally_47 : vm_D q_X_tally.2.1 47 1 48 (.arraylength) := ⟨by decide +kernel, rfl⟩
theorem d_X_tally_48 : vm_B q_X_tally.2.1 48 51 136 (fun o => .if_icmp .ge o) := ⟨88, by decide +kernel, rfl, by decide⟩
theorem d_X_tally_51 : vm_D q_X_tally.2.1 51 1 52 (.lconst 0) := ⟨by decide +kernel, rfl⟩
theorem d_X_tally_52 : vm_D q_X_tally.2.1 52 2 54 (.lstore 7) := ⟨by decide +kernel, rfl⟩
theorem d_X_tally_54 : vm_D q_X_tally.2.1 54 2 56 (.iload 4) := ⟨by decide +kernel, rfl⟩
theorem d_X_tally_56 : vm_B q_X_tally.2.1 56 59 77 (fun o => .ifCond .ne o) := ⟨21, by decide +kernel, rfl, by decide⟩
theorem d_X_tally_77 : vm_D q_X_tally.2.1 77 1 78 (.iconst 0) := ⟨by decide +kernel, rfl⟩
theorem d_X_tally_78 : vm_D q_X_tally.2.1 78 2 80 (.istore 9) := ⟨by decide +kernel, rfl⟩
theorem d_X_tally_80 : vm_D q_X_tally.2.1 80 2 82 (.iload 4) := ⟨by decide +kernel, rfl⟩
theorem d_X_tally_82 : vm_B q_X_tally.2.1 82 85 123 (fun o => .ifCond .le o) := ⟨41, by decide +kernel, rfl, by decide⟩
theorem d_X_tally_85 : vm_D q_X_tally.2.1 85 2 87 (.iload 9) := ⟨by decide +kernel, rfl⟩
theorem d_X_tally_87 : vm_D q_X_tally.2.1 87 1 88 (.aload_n 1) := ⟨by decide +kernel, rfl⟩
theorem d_X_tally_88 : vm_D q_X_tally.2.1 88 2 90 (.iload 6) := ⟨by decide +kernel, rfl⟩
theorem d_X_tally_90 : vm_D q_X_tally.2.1 90 3 93 (.invokevirtual 278) := ⟨by decide +kernel, rfl⟩
theorem d_X_tally_93 : vm_B q_X_tally.2.1 93 96 123 (fun o => .if_icmp .ge o) := ⟨30, by decide +kernel, rfl, by decide⟩
theorem d_X_tally_96 : vm_D q_X_tally.2.1 96 2 98 (.lload 7) := ⟨by decide +kernel, rfl⟩
theorem d_X_tally_98 : vm_D q_X_tally.2.1 98 1 99 (.aload_n 0) := ⟨by decide +kernel, rfl⟩
theorem d_X_tally_99 : vm_D q_X_tally.2.1 99 2 101 (.iload 4) := ⟨by decide +kernel, rfl⟩
theorem d_X_tally_101 : vm_D q_X_tally.2.1 101 1 102 (.iconst 1) := ⟨by decide +kernel, rfl⟩
theorem d_X_tally_102 : vm_D q_X_tally.2.1 102 1 103 (.isub) := ⟨by decide +kernel, rfl⟩
theorem d_X_tally_103 : vm_D q_X_tally.2.1 103 1 104 (.aload_n 1) := ⟨by decide +kernel, rfl⟩
theorem d_X_tally_104 : vm_D q_X_tally.2.1 104 2 106 (.iload 6) := ⟨by decide +kernel, rfl⟩
theorem d_X_tally_106 : vm_D q_X_tally.2.1 106 2 108 (.iload 9) := ⟨by decide +kernel, rfl⟩
theorem d_X_tally_108 : vm_D q_X_tally.2.1 108 3 111 (.invokevirtual 287) := ⟨by decide +kernel, rfl⟩
theorem d_X_tally_111 : vm_D q_X_tally.2.1 111 3 114 (.invokevirtual 293) := ⟨by decide +kernel, rfl⟩
theorem d_X_tally_114 : vm_D q_X_tally.2.1 114 1 115 (.ladd) := ⟨by decide +kernel, rfl⟩
theorem d_X_tally_115 : vm_D q_X_tally.2.1 115 2 117 (.lstore 7) := ⟨by decide +kernel, rfl⟩
theorem d_X_tally_117 : vm_D q_X_tally.2.1 117 3 120 (.iinc 9 1) := ⟨by decide +kernel, rfl⟩
theorem d_X_tally_120 : ∃ off : Int, decode q_X_tally.2.1 120 = .ok (.goto off, 3) ∧ ((120 : Nat) : Int) + off = ((80 : Nat) : Int) := ⟨-40, by decide +kernel, by decide⟩
theorem d_X_tally_123 : vm_D q_X_tally.2.1 123 2 125 (.aload 5) := ⟨by decide +kernel, rfl⟩
theorem d_X_tally_125 : vm_D q_X_tally.2.1 125 2 127 (.iload 6) := ⟨by decide +kernel, rfl⟩
theorem d_X_tally_127 : vm_D q_X_tally.2.1 127 2 129 (.lload 7) := ⟨by decide +kernel, rfl⟩
theorem d_X_tally_129 : vm_D q_X_tally.2.1 129 1 130 (.lastore) := ⟨by decide +kernel, rfl⟩
theorem d_X_tally_130 : vm_D q_X_tally.2.1 130 3 133 (.iinc 6 1) := ⟨by decide +kernel, rfl⟩
theorem d_X_tally_133 : ∃ off : Int, decode q_X_tally.2.1 133 = .ok (.goto off, 3) ∧ ((133 : Nat) : Int) + off = ((31 : Nat) : Int) := ⟨-102, by decide +kernel, by decide⟩
theorem d_X_tally_59 : vm_D q_X_tally.2.1 59 1 60 (.iload_n 3) := ⟨by decide +kernel, rfl⟩
theorem d_X_tally_60 : vm_D q_X_tally.2.1 60 1 61 (.iconst (-1)) := ⟨by decide +kernel, rfl⟩
theorem d_X_tally_61 : vm_B q_X_tally.2.1 61 64 70 (fun o => .if_icmp .eq o) := ⟨9, by decide +kernel, rfl, by decide⟩
theorem d_X_tally_75 : vm_D q_X_tally.2.1 75 2 77 (.lstore 7) := ⟨by decide +kernel, rfl⟩
theorem d_X_tally_70 : vm_D q_X_tally.2.1 70 1 71 (.lconst 1) := ⟨by decide +kernel, rfl⟩
theorem d_X_tally_71 : ∃ off : Int, decode q_X_tally.2.1 71 = .ok (.goto off, 3) ∧ ((71 : Nat) : Int) + off = ((75 : Nat) : Int) := ⟨4, by decide +kernel, by decide⟩
theorem d_X_tally_64 : vm_D q_X_tally.2.1 64 1 65 (.iload_n 3) := ⟨by decide +kernel, rfl⟩
theorem d_X_tally_65 : vm_D q_X_tally.2.1 65 2 67 (.iload 6) := ⟨by decide +kernel, rfl⟩
theorem d_X_tally_67 : vm_B q_X_tally.2.1 67 70 74 (fun o => .if_icmp .ne o) := ⟨7, by decide +kernel, rfl, by decide⟩
theorem d_X_tally_74 : vm_D q_X_tally.2.1 74 1 75 (.lconst 0) := ⟨by decide +kernel, rfl⟩
theorem d_X_tally_136 : vm_D q_X_tally.2.1 136 3 139 (.iinc 4 1) := ⟨by decide +kernel, rfl⟩
theorem d_X_tally_139 : ∃ off : Int, decode q_X_tally.2.1 139 = .ok (.goto off, 3) ∧ ((139 : Nat) : Int) + off = ((3 : Nat) : Int) := ⟨-136, by decide +kernel, by decide⟩
theorem d_X_tally_142 : vm_D q_X_tally.2.1 142 1 143 (.return_) := ⟨by decide +kernel, rfl⟩
def q_X_length : vm_Y := ("RepeatFree", cX10_length, 5, false, [])
theorem d_X_length_0 : vm_D q_X_length.2.1 0 1 1 (.aload_n 0) := ⟨by decide +kernel, rfl⟩
theorem d_X_length_1 : vm_D q_X_length.2.1 1 1 2 (.iload_n 1) := ⟨by decide +kernel, rfl⟩
theorem d_X_length_2 : vm_D q_X_length.2.1 2 3 5 (.invokevirtual 275) := ⟨by decide +kernel, rfl⟩
theorem d_X_length_5 : vm_D q_X_length.2.1 5 2 7 (.astore 4) := ⟨by decide +kernel, rfl⟩
theorem d_X_length_7 : vm_D q_X_length.2.1 7 1 8 (.aload_n 0) := ⟨by decide +kernel, rfl⟩
theorem d_X_length_8 : vm_D q_X_length.2.1 8 1 9 (.iload_n 2) := ⟨by decide +kernel, rfl⟩
theorem d_X_length_9 : vm_D q_X_length.2.1 9 3 12 (.invokevirtual 110) := ⟨by decide +kernel, rfl⟩
theorem d_X_length_12 : vm_D q_X_length.2.1 12 1 13 (.aload_n 0) := ⟨by decide +kernel, rfl⟩
theorem d_X_length_13 : vm_D q_X_length.2.1 13 1 14 (.iload_n 3) := ⟨by decide +kernel, rfl⟩
theorem d_X_length_14 : vm_D q_X_length.2.1 14 1 15 (.iconst 0) := ⟨by decide +kernel, rfl⟩
theorem d_X_length_15 : vm_D q_X_length.2.1 15 2 17 (.bipush 12) := ⟨by decide +kernel, rfl⟩
theorem d_X_length_17 : vm_D q_X_length.2.1 17 3 20 (.invokevirtual 173) := ⟨by decide +kernel, rfl⟩
theorem d_X_length_20 : vm_D q_X_length.2.1 20 1 21 (.aload_n 0) := ⟨by decide +kernel, rfl⟩
theorem d_X_length_21 : vm_D q_X_length.2.1 21 2 23 (.aload 4) := ⟨by decide +kernel, rfl⟩
theorem d_X_length_23 : vm_D q_X_length.2.1 23 1 24 (.iload_n 3) := ⟨by decide +kernel, rfl⟩
theorem d_X_length_24 : vm_D q_X_length.2.1 24 1 25 (.iconst (-1)) := ⟨by decide +kernel, rfl⟩
theorem d_X_length_25 : vm_D q_X_length.2.1 25 3 28 (.invokevirtual 289) := ⟨by decide +kernel, rfl⟩
theorem d_X_length_28 : vm_D q_X_length.2.1 28 1 29 (.aload_n 0) := ⟨by decide +kernel, rfl⟩
theorem d_X_length_29 : vm_D q_X_length.2.1 29 1 30 (.iload_n 3) := ⟨by decide +kernel, rfl⟩
theorem d_X_length_30 : vm_D q_X_length.2.1 30 1 31 (.iload_n 2) := ⟨by decide +kernel, rfl⟩
theorem d_X_length_31 : vm_D q_X_length.2.1 31 3 34 (.invokevirtual 293) := ⟨by decide +kernel, rfl⟩
theorem d_X_length_34 : vm_D q_X_length.2.1 34 1 35 (.lreturn) := ⟨by decide +kernel, rfl⟩
def q_X_power : vm_Y := ("RepeatFree", cX10_power, 12, false, [])
theorem d_X_power_0 : vm_D q_X_power.2.1 0 1 1 (.aload_n 0) := ⟨by decide +kernel, rfl⟩
theorem d_X_power_1 : vm_D q_X_power.2.1 1 1 2 (.iload_n 1) := ⟨by decide +kernel, rfl⟩
theorem d_X_power_2 : vm_D q_X_power.2.1 2 3 5 (.invokevirtual 275) := ⟨by decide +kernel, rfl⟩
theorem d_X_power_5 : vm_D q_X_power.2.1 5 2 7 (.astore 6) := ⟨by decide +kernel, rfl⟩
theorem d_X_power_7 : vm_D q_X_power.2.1 7 1 8 (.aload_n 0) := ⟨by decide +kernel, rfl⟩
theorem d_X_power_8 : vm_D q_X_power.2.1 8 1 9 (.iload_n 2) := ⟨by decide +kernel, rfl⟩
theorem d_X_power_9 : vm_D q_X_power.2.1 9 3 12 (.invokevirtual 110) := ⟨by decide +kernel, rfl⟩
theorem d_X_power_12 : vm_D q_X_power.2.1 12 1 13 (.aload_n 0) := ⟨by decide +kernel, rfl⟩
theorem d_X_power_13 : vm_D q_X_power.2.1 13 1 14 (.iload_n 3) := ⟨by decide +kernel, rfl⟩
theorem d_X_power_14 : vm_D q_X_power.2.1 14 1 15 (.iconst 0) := ⟨by decide +kernel, rfl⟩
theorem d_X_power_15 : vm_D q_X_power.2.1 15 2 17 (.bipush 12) := ⟨by decide +kernel, rfl⟩
theorem d_X_power_17 : vm_D q_X_power.2.1 17 3 20 (.invokevirtual 173) := ⟨by decide +kernel, rfl⟩
theorem d_X_power_20 : vm_D q_X_power.2.1 20 1 21 (.aload_n 0) := ⟨by decide +kernel, rfl⟩
theorem d_X_power_21 : vm_D q_X_power.2.1 21 2 23 (.aload 6) := ⟨by decide +kernel, rfl⟩
theorem d_X_power_23 : vm_D q_X_power.2.1 23 1 24 (.iload_n 3) := ⟨by decide +kernel, rfl⟩
theorem d_X_power_24 : vm_D q_X_power.2.1 24 1 25 (.iconst (-1)) := ⟨by decide +kernel, rfl⟩
theorem d_X_power_25 : vm_D q_X_power.2.1 25 3 28 (.invokevirtual 289) := ⟨by decide +kernel, rfl⟩
theorem d_X_power_28 : vm_D q_X_power.2.1 28 2 30 (.lload 4) := ⟨by decide +kernel, rfl⟩
theorem d_X_power_30 : vm_D q_X_power.2.1 30 1 31 (.lconst 0) := ⟨by decide +kernel, rfl⟩
theorem d_X_power_31 : vm_D q_X_power.2.1 31 1 32 (.lcmp) := ⟨by decide +kernel, rfl⟩
theorem d_X_power_32 : vm_B q_X_power.2.1 32 35 47 (fun o => .ifCond .lt o) := ⟨15, by decide +kernel, rfl, by decide⟩
theorem d_X_power_47 : vm_D q_X_power.2.1 47 1 48 (.iconst (-1)) := ⟨by decide +kernel, rfl⟩
theorem d_X_power_48 : vm_D q_X_power.2.1 48 1 49 (.ireturn) := ⟨by decide +kernel, rfl⟩
theorem d_X_power_35 : vm_D q_X_power.2.1 35 2 37 (.lload 4) := ⟨by decide +kernel, rfl⟩
theorem d_X_power_37 : vm_D q_X_power.2.1 37 1 38 (.aload_n 0) := ⟨by decide +kernel, rfl⟩
theorem d_X_power_38 : vm_D q_X_power.2.1 38 1 39 (.iload_n 3) := ⟨by decide +kernel, rfl⟩
theorem d_X_power_39 : vm_D q_X_power.2.1 39 1 40 (.iload_n 2) := ⟨by decide +kernel, rfl⟩
theorem d_X_power_40 : vm_D q_X_power.2.1 40 3 43 (.invokevirtual 293) := ⟨by decide +kernel, rfl⟩
theorem d_X_power_43 : vm_D q_X_power.2.1 43 1 44 (.lcmp) := ⟨by decide +kernel, rfl⟩
theorem d_X_power_44 : vm_B q_X_power.2.1 44 47 49 (fun o => .ifCond .lt o) := ⟨5, by decide +kernel, rfl, by decide⟩
theorem d_X_power_49 : vm_D q_X_power.2.1 49 1 50 (.iload_n 2) := ⟨by decide +kernel, rfl⟩
theorem d_X_power_50 : vm_D q_X_power.2.1 50 2 52 (.istore 7) := ⟨by decide +kernel, rfl⟩
theorem d_X_power_52 : vm_D q_X_power.2.1 52 2 54 (.lload 4) := ⟨by decide +kernel, rfl⟩
theorem d_X_power_54 : vm_D q_X_power.2.1 54 2 56 (.lstore 8) := ⟨by decide +kernel, rfl⟩
theorem d_X_power_56 : vm_D q_X_power.2.1 56 1 57 (.iload_n 3) := ⟨by decide +kernel, rfl⟩
theorem d_X_power_57 : vm_D q_X_power.2.1 57 1 58 (.iconst 1) := ⟨by decide +kernel, rfl⟩
theorem d_X_power_58 : vm_D q_X_power.2.1 58 1 59 (.isub) := ⟨by decide +kernel, rfl⟩
theorem d_X_power_59 : vm_D q_X_power.2.1 59 2 61 (.istore 10) := ⟨by decide +kernel, rfl⟩
theorem d_X_power_61 : vm_D q_X_power.2.1 61 2 63 (.iload 10) := ⟨by decide +kernel, rfl⟩
theorem d_X_power_63 : vm_B q_X_power.2.1 63 66 147 (fun o => .ifCond .lt o) := ⟨84, by decide +kernel, rfl, by decide⟩
theorem d_X_power_66 : vm_D q_X_power.2.1 66 1 67 (.iconst 0) := ⟨by decide +kernel, rfl⟩
theorem d_X_power_67 : vm_D q_X_power.2.1 67 2 69 (.istore 11) := ⟨by decide +kernel, rfl⟩
theorem d_X_power_69 : vm_D q_X_power.2.1 69 2 71 (.iload 11) := ⟨by decide +kernel, rfl⟩
theorem d_X_power_71 : vm_D q_X_power.2.1 71 2 73 (.aload 6) := ⟨by decide +kernel, rfl⟩
theorem d_X_power_73 : vm_D q_X_power.2.1 73 2 75 (.iload 7) := ⟨by decide +kernel, rfl⟩
theorem d_X_power_75 : vm_D q_X_power.2.1 75 3 78 (.invokevirtual 278) := ⟨by decide +kernel, rfl⟩
theorem d_X_power_78 : vm_D q_X_power.2.1 78 1 79 (.iconst 1) := ⟨by decide +kernel, rfl⟩
theorem d_X_power_79 : vm_D q_X_power.2.1 79 1 80 (.isub) := ⟨by decide +kernel, rfl⟩
theorem d_X_power_80 : vm_B q_X_power.2.1 80 83 130 (fun o => .if_icmp .ge o) := ⟨50, by decide +kernel, rfl, by decide⟩
theorem d_X_power_83 : vm_D q_X_power.2.1 83 2 85 (.lload 8) := ⟨by decide +kernel, rfl⟩
theorem d_X_power_85 : vm_D q_X_power.2.1 85 1 86 (.aload_n 0) := ⟨by decide +kernel, rfl⟩
theorem d_X_power_86 : vm_D q_X_power.2.1 86 2 88 (.iload 10) := ⟨by decide +kernel, rfl⟩
theorem d_X_power_88 : vm_D q_X_power.2.1 88 2 90 (.aload 6) := ⟨by decide +kernel, rfl⟩
theorem d_X_power_90 : vm_D q_X_power.2.1 90 2 92 (.iload 7) := ⟨by decide +kernel, rfl⟩
theorem d_X_power_92 : vm_D q_X_power.2.1 92 2 94 (.iload 11) := ⟨by decide +kernel, rfl⟩
theorem d_X_power_94 : vm_D q_X_power.2.1 94 3 97 (.invokevirtual 287) := ⟨by decide +kernel, rfl⟩
theorem d_X_power_97 : vm_D q_X_power.2.1 97 3 100 (.invokevirtual 293) := ⟨by decide +kernel, rfl⟩
theorem d_X_power_100 : vm_D q_X_power.2.1 100 1 101 (.lcmp) := ⟨by decide +kernel, rfl⟩
theorem d_X_power_101 : vm_B q_X_power.2.1 101 104 130 (fun o => .ifCond .lt o) := ⟨29, by decide +kernel, rfl, by decide⟩
theorem d_X_power_104 : vm_D q_X_power.2.1 104 2 106 (.lload 8) := ⟨by decide +kernel, rfl⟩
theorem d_X_power_106 : vm_D q_X_power.2.1 106 1 107 (.aload_n 0) := ⟨by decide +kernel, rfl⟩
theorem d_X_power_107 : vm_D q_X_power.2.1 107 2 109 (.iload 10) := ⟨by decide +kernel, rfl⟩
theorem d_X_power_109 : vm_D q_X_power.2.1 109 2 111 (.aload 6) := ⟨by decide +kernel, rfl⟩
theorem d_X_power_111 : vm_D q_X_power.2.1 111 2 113 (.iload 7) := ⟨by decide +kernel, rfl⟩
theorem d_X_power_113 : vm_D q_X_power.2.1 113 2 115 (.iload 11) := ⟨by decide +kernel, rfl⟩
theorem d_X_power_115 : vm_D q_X_power.2.1 115 3 118 (.invokevirtual 287) := ⟨by decide +kernel, rfl⟩
theorem d_X_power_118 : vm_D q_X_power.2.1 118 3 121 (.invokevirtual 293) := ⟨by decide +kernel, rfl⟩
theorem d_X_power_121 : vm_D q_X_power.2.1 121 1 122 (.lsub) := ⟨by decide +kernel, rfl⟩
theorem d_X_power_122 : vm_D q_X_power.2.1 122 2 124 (.lstore 8) := ⟨by decide +kernel, rfl⟩
theorem d_X_power_124 : vm_D q_X_power.2.1 124 3 127 (.iinc 11 1) := ⟨by decide +kernel, rfl⟩
theorem d_X_power_127 : ∃ off : Int, decode q_X_power.2.1 127 = .ok (.goto off, 3) ∧ ((127 : Nat) : Int) + off = ((69 : Nat) : Int) := ⟨-58, by decide +kernel, by decide⟩
theorem d_X_power_130 : vm_D q_X_power.2.1 130 2 132 (.aload 6) := ⟨by decide +kernel, rfl⟩
theorem d_X_power_132 : vm_D q_X_power.2.1 132 2 134 (.iload 7) := ⟨by decide +kernel, rfl⟩
theorem d_X_power_134 : vm_D q_X_power.2.1 134 2 136 (.iload 11) := ⟨by decide +kernel, rfl⟩
theorem d_X_power_136 : vm_D q_X_power.2.1 136 3 139 (.invokevirtual 287) := ⟨by decide +kernel, rfl⟩
theorem d_X_power_139 : vm_D q_X_power.2.1 139 2 141 (.istore 7) := ⟨by decide +kernel, rfl⟩
theorem d_X_power_141 : vm_D q_X_power.2.1 141 3 144 (.iinc 10 (-1)) := ⟨by decide +kernel, rfl⟩
theorem d_X_power_144 : ∃ off : Int, decode q_X_power.2.1 144 = .ok (.goto off, 3) ∧ ((144 : Nat) : Int) + off = ((61 : Nat) : Int) := ⟨-83, by decide +kernel, by decide⟩
theorem d_X_power_147 : vm_D q_X_power.2.1 147 2 149 (.iload 7) := ⟨by decide +kernel, rfl⟩
theorem d_X_power_149 : vm_D q_X_power.2.1 149 1 150 (.ireturn) := ⟨by decide +kernel, rfl⟩
def q_X_often : vm_Y := ("RepeatFree", cX10_often, 6, false, [])
theorem d_X_often_0 : vm_D q_X_often.2.1 0 1 1 (.aload_n 0) := ⟨by decide +kernel, rfl⟩
theorem d_X_often_1 : vm_D q_X_often.2.1 1 1 2 (.iload_n 1) := ⟨by decide +kernel, rfl⟩
theorem d_X_often_2 : vm_D q_X_often.2.1 2 3 5 (.invokevirtual 275) := ⟨by decide +kernel, rfl⟩
theorem d_X_often_5 : vm_D q_X_often.2.1 5 2 7 (.astore 5) := ⟨by decide +kernel, rfl⟩
theorem d_X_often_7 : vm_D q_X_often.2.1 7 1 8 (.aload_n 0) := ⟨by decide +kernel, rfl⟩
theorem d_X_often_8 : vm_D q_X_often.2.1 8 1 9 (.iload_n 2) := ⟨by decide +kernel, rfl⟩
theorem d_X_often_9 : vm_D q_X_often.2.1 9 3 12 (.invokevirtual 110) := ⟨by decide +kernel, rfl⟩
theorem d_X_often_12 : vm_D q_X_often.2.1 12 1 13 (.aload_n 0) := ⟨by decide +kernel, rfl⟩
theorem d_X_often_13 : vm_D q_X_often.2.1 13 1 14 (.iload_n 3) := ⟨by decide +kernel, rfl⟩
theorem d_X_often_14 : vm_D q_X_often.2.1 14 1 15 (.iconst 0) := ⟨by decide +kernel, rfl⟩
theorem d_X_often_15 : vm_D q_X_often.2.1 15 2 17 (.bipush 12) := ⟨by decide +kernel, rfl⟩
theorem d_X_often_17 : vm_D q_X_often.2.1 17 3 20 (.invokevirtual 173) := ⟨by decide +kernel, rfl⟩
theorem d_X_often_20 : vm_D q_X_often.2.1 20 1 21 (.aload_n 0) := ⟨by decide +kernel, rfl⟩
theorem d_X_often_21 : vm_D q_X_often.2.1 21 2 23 (.iload 4) := ⟨by decide +kernel, rfl⟩
theorem d_X_often_23 : vm_D q_X_often.2.1 23 3 26 (.invokevirtual 110) := ⟨by decide +kernel, rfl⟩
theorem d_X_often_26 : vm_D q_X_often.2.1 26 1 27 (.aload_n 0) := ⟨by decide +kernel, rfl⟩
theorem d_X_often_27 : vm_D q_X_often.2.1 27 2 29 (.aload 5) := ⟨by decide +kernel, rfl⟩
theorem d_X_often_29 : vm_D q_X_often.2.1 29 1 30 (.iload_n 3) := ⟨by decide +kernel, rfl⟩
theorem d_X_often_30 : vm_D q_X_often.2.1 30 2 32 (.iload 4) := ⟨by decide +kernel, rfl⟩
theorem d_X_often_32 : vm_D q_X_often.2.1 32 3 35 (.invokevirtual 289) := ⟨by decide +kernel, rfl⟩
theorem d_X_often_35 : vm_D q_X_often.2.1 35 1 36 (.aload_n 0) := ⟨by decide +kernel, rfl⟩
theorem d_X_often_36 : vm_D q_X_often.2.1 36 1 37 (.iload_n 3) := ⟨by decide +kernel, rfl⟩
theorem d_X_often_37 : vm_D q_X_often.2.1 37 1 38 (.iload_n 2) := ⟨by decide +kernel, rfl⟩
theorem d_X_often_38 : vm_D q_X_often.2.1 38 3 41 (.invokevirtual 293) := ⟨by decide +kernel, rfl⟩
theorem d_X_often_41 : vm_D q_X_often.2.1 41 1 42 (.lreturn) := ⟨by decide +kernel, rfl⟩
def q_X_imageBreaks : vm_Y := ("RepeatFree", cX10_imageBreaks, 5, false, [])
theorem d_X_imageBreaks_0 : vm_D q_X_imageBreaks.2.1 0 1 1 (.aload_n 1) := ⟨by decide +kernel, rfl⟩
theorem d_X_imageBreaks_1 : vm_D q_X_imageBreaks.2.1 1 1 2 (.aload_n 2) := ⟨by decide +kernel, rfl⟩
theorem d_X_imageBreaks_2 : vm_D q_X_imageBreaks.2.1 2 1 3 (.aload_n 0) := ⟨by decide +kernel, rfl⟩
theorem d_X_imageBreaks_3 : vm_D q_X_imageBreaks.2.1 3 3 6 (.getfield 40) := ⟨by decide +kernel, rfl⟩
theorem d_X_imageBreaks_6 : vm_D q_X_imageBreaks.2.1 6 3 9 (.invokevirtual 283) := ⟨by decide +kernel, rfl⟩
theorem d_X_imageBreaks_9 : vm_D q_X_imageBreaks.2.1 9 1 10 (.aload_n 0) := ⟨by decide +kernel, rfl⟩
theorem d_X_imageBreaks_10 : vm_D q_X_imageBreaks.2.1 10 3 13 (.getfield 40) := ⟨by decide +kernel, rfl⟩
theorem d_X_imageBreaks_13 : vm_D q_X_imageBreaks.2.1 13 3 16 (.getfield 102) := ⟨by decide +kernel, rfl⟩
theorem d_X_imageBreaks_16 : vm_D q_X_imageBreaks.2.1 16 1 17 (.aload_n 1) := ⟨by decide +kernel, rfl⟩
theorem d_X_imageBreaks_17 : vm_D q_X_imageBreaks.2.1 17 1 18 (.aload_n 2) := ⟨by decide +kernel, rfl⟩
theorem d_X_imageBreaks_18 : vm_D q_X_imageBreaks.2.1 18 1 19 (.aload_n 2) := ⟨by decide +kernel, rfl⟩
theorem d_X_imageBreaks_19 : vm_D q_X_imageBreaks.2.1 19 3 22 (.getfield 102) := ⟨by decide +kernel, rfl⟩
theorem d_X_imageBreaks_22 : vm_D q_X_imageBreaks.2.1 22 1 23 (.iconst 1) := ⟨by decide +kernel, rfl⟩
theorem d_X_imageBreaks_23 : vm_D q_X_imageBreaks.2.1 23 1 24 (.isub) := ⟨by decide +kernel, rfl⟩
theorem d_X_imageBreaks_24 : vm_D q_X_imageBreaks.2.1 24 3 27 (.invokevirtual 106) := ⟨by decide +kernel, rfl⟩
theorem d_X_imageBreaks_27 : vm_D q_X_imageBreaks.2.1 27 3 30 (.invokevirtual 278) := ⟨by decide +kernel, rfl⟩
theorem d_X_imageBreaks_30 : vm_D q_X_imageBreaks.2.1 30 1 31 (.isub) := ⟨by decide +kernel, rfl⟩
theorem d_X_imageBreaks_31 : vm_D q_X_imageBreaks.2.1 31 1 32 (.istore_n 3) := ⟨by decide +kernel, rfl⟩
theorem d_X_imageBreaks_32 : vm_D q_X_imageBreaks.2.1 32 1 33 (.iconst 0) := ⟨by decide +kernel, rfl⟩
theorem d_X_imageBreaks_33 : vm_D q_X_imageBreaks.2.1 33 1 34 (.iload_n 3) := ⟨by decide +kernel, rfl⟩
theorem d_X_imageBreaks_34 : vm_D q_X_imageBreaks.2.1 34 3 37 (.invokestatic 177) := ⟨by decide +kernel, rfl⟩
theorem d_X_imageBreaks_37 : vm_D q_X_imageBreaks.2.1 37 2 39 (.istore 4) := ⟨by decide +kernel, rfl⟩
theorem d_X_imageBreaks_39 : vm_D q_X_imageBreaks.2.1 39 2 41 (.iload 4) := ⟨by decide +kernel, rfl⟩
theorem d_X_imageBreaks_41 : vm_D q_X_imageBreaks.2.1 41 1 42 (.aload_n 0) := ⟨by decide +kernel, rfl⟩
theorem d_X_imageBreaks_42 : vm_D q_X_imageBreaks.2.1 42 3 45 (.getfield 40) := ⟨by decide +kernel, rfl⟩
theorem d_X_imageBreaks_45 : vm_D q_X_imageBreaks.2.1 45 3 48 (.getfield 102) := ⟨by decide +kernel, rfl⟩
theorem d_X_imageBreaks_48 : vm_B q_X_imageBreaks.2.1 48 51 75 (fun o => .if_icmp .ge o) := ⟨27, by decide +kernel, rfl, by decide⟩
theorem d_X_imageBreaks_51 : vm_D q_X_imageBreaks.2.1 51 1 52 (.aload_n 0) := ⟨by decide +kernel, rfl⟩
theorem d_X_imageBreaks_52 : vm_D q_X_imageBreaks.2.1 52 3 55 (.getfield 40) := ⟨by decide +kernel, rfl⟩
theorem d_X_imageBreaks_55 : vm_D q_X_imageBreaks.2.1 55 1 56 (.aload_n 0) := ⟨by decide +kernel, rfl⟩
theorem d_X_imageBreaks_56 : vm_D q_X_imageBreaks.2.1 56 3 59 (.getfield 19) := ⟨by decide +kernel, rfl⟩
theorem d_X_imageBreaks_59 : vm_D q_X_imageBreaks.2.1 59 2 61 (.iload 4) := ⟨by decide +kernel, rfl⟩
theorem d_X_imageBreaks_61 : vm_D q_X_imageBreaks.2.1 61 3 64 (.invokevirtual 308) := ⟨by decide +kernel, rfl⟩
theorem d_X_imageBreaks_64 : vm_B q_X_imageBreaks.2.1 64 67 69 (fun o => .ifCond .eq o) := ⟨5, by decide +kernel, rfl, by decide⟩
theorem d_X_imageBreaks_69 : vm_D q_X_imageBreaks.2.1 69 3 72 (.iinc 4 1) := ⟨by decide +kernel, rfl⟩
theorem d_X_imageBreaks_72 : ∃ off : Int, decode q_X_imageBreaks.2.1 72 = .ok (.goto off, 3) ∧ ((72 : Nat) : Int) + off = ((39 : Nat) : Int) := ⟨-33, by decide +kernel, by decide⟩
theorem d_X_imageBreaks_67 : vm_D q_X_imageBreaks.2.1 67 1 68 (.iconst 1) := ⟨by decide +kernel, rfl⟩
theorem d_X_imageBreaks_68 : vm_D q_X_imageBreaks.2.1 68 1 69 (.ireturn) := ⟨by decide +kernel, rfl⟩
theorem d_X_imageBreaks_75 : vm_D q_X_imageBreaks.2.1 75 1 76 (.iconst 0) := ⟨by decide +kernel, rfl⟩
theorem d_X_imageBreaks_76 : vm_D q_X_imageBreaks.2.1 76 1 77 (.ireturn) := ⟨by decide +kernel, rfl⟩
def q_X_breaker : vm_Y := ("RepeatFree", cX10_breaker, 6, false, [])
theorem d_X_breaker_0 : vm_D q_X_breaker.2.1 0 1 1 (.aload_n 0) := ⟨by decide +kernel, rfl⟩
theorem d_X_breaker_1 : vm_D q_X_breaker.2.1 1 3 4 (.getfield 46) := ⟨by decide +kernel, rfl⟩
theorem d_X_breaker_4 : vm_D q_X_breaker.2.1 4 1 5 (.aload_n 0) := ⟨by decide +kernel, rfl⟩
theorem d_X_breaker_5 : vm_D q_X_breaker.2.1 5 3 8 (.getfield 19) := ⟨by decide +kernel, rfl⟩
theorem d_X_breaker_8 : vm_D q_X_breaker.2.1 8 3 11 (.invokevirtual 236) := ⟨by decide +kernel, rfl⟩
theorem d_X_breaker_11 : vm_D q_X_breaker.2.1 11 1 12 (.iconst 1) := ⟨by decide +kernel, rfl⟩
theorem d_X_breaker_12 : vm_D q_X_breaker.2.1 12 1 13 (.istore_n 3) := ⟨by decide +kernel, rfl⟩
theorem d_X_breaker_13 : vm_D q_X_breaker.2.1 13 1 14 (.iload_n 3) := ⟨by decide +kernel, rfl⟩
theorem d_X_breaker_14 : vm_D q_X_breaker.2.1 14 1 15 (.iload_n 2) := ⟨by decide +kernel, rfl⟩
theorem d_X_breaker_15 : vm_B q_X_breaker.2.1 15 18 115 (fun o => .if_icmp .gt o) := ⟨100, by decide +kernel, rfl, by decide⟩
theorem d_X_breaker_18 : vm_D q_X_breaker.2.1 18 1 19 (.aload_n 0) := ⟨by decide +kernel, rfl⟩
theorem d_X_breaker_19 : vm_D q_X_breaker.2.1 19 3 22 (.getfield 46) := ⟨by decide +kernel, rfl⟩
theorem d_X_breaker_22 : vm_D q_X_breaker.2.1 22 1 23 (.aload_n 0) := ⟨by decide +kernel, rfl⟩
theorem d_X_breaker_23 : vm_D q_X_breaker.2.1 23 3 26 (.getfield 36) := ⟨by decide +kernel, rfl⟩
theorem d_X_breaker_26 : vm_D q_X_breaker.2.1 26 1 27 (.iconst 0) := ⟨by decide +kernel, rfl⟩
theorem d_X_breaker_27 : vm_D q_X_breaker.2.1 27 1 28 (.iconst 0) := ⟨by decide +kernel, rfl⟩
theorem d_X_breaker_28 : vm_D q_X_breaker.2.1 28 1 29 (.iload_n 3) := ⟨by decide +kernel, rfl⟩
theorem d_X_breaker_29 : vm_D q_X_breaker.2.1 29 3 32 (.invokevirtual 240) := ⟨by decide +kernel, rfl⟩
theorem d_X_breaker_32 : vm_D q_X_breaker.2.1 32 1 33 (.aload_n 0) := ⟨by decide +kernel, rfl⟩
theorem d_X_breaker_33 : vm_D q_X_breaker.2.1 33 3 36 (.getfield 46) := ⟨by decide +kernel, rfl⟩
theorem d_X_breaker_36 : vm_D q_X_breaker.2.1 36 3 39 (.invokevirtual 250) := ⟨by decide +kernel, rfl⟩
theorem d_X_breaker_39 : vm_D q_X_breaker.2.1 39 2 41 (.istore 4) := ⟨by decide +kernel, rfl⟩
theorem d_X_breaker_41 : vm_D q_X_breaker.2.1 41 1 42 (.iconst 0) := ⟨by decide +kernel, rfl⟩
theorem d_X_breaker_42 : vm_D q_X_breaker.2.1 42 2 44 (.istore 5) := ⟨by decide +kernel, rfl⟩
theorem d_X_breaker_44 : vm_D q_X_breaker.2.1 44 2 46 (.iload 5) := ⟨by decide +kernel, rfl⟩
theorem d_X_breaker_46 : vm_D q_X_breaker.2.1 46 3 49 (.sipush 5000) := ⟨by decide +kernel, rfl⟩
theorem d_X_breaker_49 : vm_B q_X_breaker.2.1 49 52 99 (fun o => .if_icmp .ge o) := ⟨50, by decide +kernel, rfl, by decide⟩
theorem d_X_breaker_52 : vm_D q_X_breaker.2.1 52 2 54 (.iload 4) := ⟨by decide +kernel, rfl⟩
theorem d_X_breaker_54 : vm_D q_X_breaker.2.1 54 1 55 (.iconst 1) := ⟨by decide +kernel, rfl⟩
theorem d_X_breaker_55 : vm_B q_X_breaker.2.1 55 58 99 (fun o => .if_icmp .ne o) := ⟨44, by decide +kernel, rfl, by decide⟩
theorem d_X_breaker_58 : vm_D q_X_breaker.2.1 58 1 59 (.aload_n 0) := ⟨by decide +kernel, rfl⟩
theorem d_X_breaker_59 : vm_D q_X_breaker.2.1 59 1 60 (.aload_n 1) := ⟨by decide +kernel, rfl⟩
theorem d_X_breaker_60 : vm_D q_X_breaker.2.1 60 1 61 (.aload_n 0) := ⟨by decide +kernel, rfl⟩
theorem d_X_breaker_61 : vm_D q_X_breaker.2.1 61 3 64 (.getfield 46) := ⟨by decide +kernel, rfl⟩
theorem d_X_breaker_64 : vm_D q_X_breaker.2.1 64 3 67 (.getfield 253) := ⟨by decide +kernel, rfl⟩
theorem d_X_breaker_67 : vm_D q_X_breaker.2.1 67 3 70 (.invokevirtual 301) := ⟨by decide +kernel, rfl⟩
theorem d_X_breaker_70 : vm_B q_X_breaker.2.1 70 73 84 (fun o => .ifCond .eq o) := ⟨14, by decide +kernel, rfl, by decide⟩
theorem d_X_breaker_84 : vm_D q_X_breaker.2.1 84 1 85 (.aload_n 0) := ⟨by decide +kernel, rfl⟩
theorem d_X_breaker_85 : vm_D q_X_breaker.2.1 85 3 88 (.getfield 46) := ⟨by decide +kernel, rfl⟩
theorem d_X_breaker_88 : vm_D q_X_breaker.2.1 88 3 91 (.invokevirtual 250) := ⟨by decide +kernel, rfl⟩
theorem d_X_breaker_91 : vm_D q_X_breaker.2.1 91 2 93 (.istore 4) := ⟨by decide +kernel, rfl⟩
theorem d_X_breaker_93 : vm_D q_X_breaker.2.1 93 3 96 (.iinc 5 1) := ⟨by decide +kernel, rfl⟩
theorem d_X_breaker_96 : ∃ off : Int, decode q_X_breaker.2.1 96 = .ok (.goto off, 3) ∧ ((96 : Nat) : Int) + off = ((44 : Nat) : Int) := ⟨-52, by decide +kernel, by decide⟩
theorem d_X_breaker_73 : vm_D q_X_breaker.2.1 73 1 74 (.aload_n 0) := ⟨by decide +kernel, rfl⟩
theorem d_X_breaker_74 : vm_D q_X_breaker.2.1 74 3 77 (.getfield 46) := ⟨by decide +kernel, rfl⟩
theorem d_X_breaker_77 : vm_D q_X_breaker.2.1 77 3 80 (.getfield 253) := ⟨by decide +kernel, rfl⟩
theorem d_X_breaker_80 : vm_D q_X_breaker.2.1 80 3 83 (.invokevirtual 305) := ⟨by decide +kernel, rfl⟩
theorem d_X_breaker_83 : vm_D q_X_breaker.2.1 83 1 84 (.ireturn) := ⟨by decide +kernel, rfl⟩
theorem d_X_breaker_99 : vm_D q_X_breaker.2.1 99 2 101 (.iload 4) := ⟨by decide +kernel, rfl⟩
theorem d_X_breaker_101 : vm_D q_X_breaker.2.1 101 2 103 (.bipush (-2)) := ⟨by decide +kernel, rfl⟩
theorem d_X_breaker_103 : vm_B q_X_breaker.2.1 103 106 109 (fun o => .if_icmp .ne o) := ⟨6, by decide +kernel, rfl, by decide⟩
theorem d_X_breaker_109 : vm_D q_X_breaker.2.1 109 3 112 (.iinc 3 1) := ⟨by decide +kernel, rfl⟩
theorem d_X_breaker_112 : ∃ off : Int, decode q_X_breaker.2.1 112 = .ok (.goto off, 3) ∧ ((112 : Nat) : Int) + off = ((13 : Nat) : Int) := ⟨-99, by decide +kernel, by decide⟩
theorem d_X_breaker_106 : vm_D q_X_breaker.2.1 106 2 108 (.bipush (-2)) := ⟨by decide +kernel, rfl⟩
theorem d_X_breaker_108 : vm_D q_X_breaker.2.1 108 1 109 (.ireturn) := ⟨by decide +kernel, rfl⟩
theorem d_X_breaker_115 : vm_D q_X_breaker.2.1 115 1 116 (.iconst (-1)) := ⟨by decide +kernel, rfl⟩
theorem d_X_breaker_116 : vm_D q_X_breaker.2.1 116 1 117 (.ireturn) := ⟨by decide +kernel, rfl⟩
def q_X_keeps : vm_Y := ("RepeatFree", cX10_keeps, 5, false, [])
theorem d_X_keeps_0 : vm_D q_X_keeps.2.1 0 1 1 (.aload_n 0) := ⟨by decide +kernel, rfl⟩
theorem d_X_keeps_1 : vm_D q_X_keeps.2.1 1 1 2 (.iload_n 1) := ⟨by decide +kernel, rfl⟩
theorem d_X_keeps_2 : vm_D q_X_keeps.2.1 2 3 5 (.invokevirtual 275) := ⟨by decide +kernel, rfl⟩
theorem d_X_keeps_5 : vm_D q_X_keeps.2.1 5 1 6 (.astore_n 3) := ⟨by decide +kernel, rfl⟩
theorem d_X_keeps_6 : vm_D q_X_keeps.2.1 6 1 7 (.aload_n 0) := ⟨by decide +kernel, rfl⟩
theorem d_X_keeps_7 : vm_D q_X_keeps.2.1 7 1 8 (.iload_n 2) := ⟨by decide +kernel, rfl⟩
theorem d_X_keeps_8 : vm_D q_X_keeps.2.1 8 1 9 (.iconst 1) := ⟨by decide +kernel, rfl⟩
theorem d_X_keeps_9 : vm_D q_X_keeps.2.1 9 2 11 (.bipush 6) := ⟨by decide +kernel, rfl⟩
theorem d_X_keeps_11 : vm_D q_X_keeps.2.1 11 3 14 (.invokevirtual 173) := ⟨by decide +kernel, rfl⟩
theorem d_X_keeps_14 : vm_D q_X_keeps.2.1 14 1 15 (.aload_n 0) := ⟨by decide +kernel, rfl⟩
theorem d_X_keeps_15 : vm_D q_X_keeps.2.1 15 1 16 (.aload_n 3) := ⟨by decide +kernel, rfl⟩
theorem d_X_keeps_16 : vm_D q_X_keeps.2.1 16 1 17 (.iload_n 2) := ⟨by decide +kernel, rfl⟩
theorem d_X_keeps_17 : vm_D q_X_keeps.2.1 17 3 20 (.invokevirtual 297) := ⟨by decide +kernel, rfl⟩
theorem d_X_keeps_20 : vm_D q_X_keeps.2.1 20 2 22 (.istore 4) := ⟨by decide +kernel, rfl⟩
theorem d_X_keeps_22 : vm_D q_X_keeps.2.1 22 2 24 (.iload 4) := ⟨by decide +kernel, rfl⟩
theorem d_X_keeps_24 : vm_D q_X_keeps.2.1 24 2 26 (.bipush (-2)) := ⟨by decide +kernel, rfl⟩
theorem d_X_keeps_26 : vm_B q_X_keeps.2.1 26 29 34 (fun o => .if_icmp .ne o) := ⟨8, by decide +kernel, rfl, by decide⟩
theorem d_X_keeps_34 : vm_D q_X_keeps.2.1 34 2 36 (.iload 4) := ⟨by decide +kernel, rfl⟩
theorem d_X_keeps_36 : vm_D q_X_keeps.2.1 36 1 37 (.iconst (-1)) := ⟨by decide +kernel, rfl⟩
theorem d_X_keeps_37 : vm_B q_X_keeps.2.1 37 40 44 (fun o => .if_icmp .ne o) := ⟨7, by decide +kernel, rfl, by decide⟩
theorem d_X_keeps_44 : vm_D q_X_keeps.2.1 44 1 45 (.iconst 0) := ⟨by decide +kernel, rfl⟩
theorem d_X_keeps_45 : vm_D q_X_keeps.2.1 45 1 46 (.ireturn) := ⟨by decide +kernel, rfl⟩
theorem d_X_keeps_40 : vm_D q_X_keeps.2.1 40 1 41 (.iconst 1) := ⟨by decide +kernel, rfl⟩
theorem d_X_keeps_41 : ∃ off : Int, decode q_X_keeps.2.1 41 = .ok (.goto off, 3) ∧ ((41 : Nat) : Int) + off = ((45 : Nat) : Int) := ⟨4, by decide +kernel, by decide⟩
theorem d_X_keeps_29 : vm_D q_X_keeps.2.1 29 2 31 (.bipush (-2)) := ⟨by decide +kernel, rfl⟩
theorem d_X_keeps_31 : ∃ off : Int, decode q_X_keeps.2.1 31 = .ok (.goto off, 3) ∧ ((31 : Nat) : Int) + off = ((45 : Nat) : Int) := ⟨14, by decide +kernel, by decide⟩
def q_X_breaks : vm_Y := ("RepeatFree", cX10_breaks, 4, false, [])
theorem d_X_breaks_0 : vm_D q_X_breaks.2.1 0 1 1 (.aload_n 0) := ⟨by decide +kernel, rfl⟩
theorem d_X_breaks_1 : vm_D q_X_breaks.2.1 1 1 2 (.iload_n 1) := ⟨by decide +kernel, rfl⟩
theorem d_X_breaks_2 : vm_D q_X_breaks.2.1 2 3 5 (.invokevirtual 275) := ⟨by decide +kernel, rfl⟩
theorem d_X_breaks_5 : vm_D q_X_breaks.2.1 5 1 6 (.astore_n 3) := ⟨by decide +kernel, rfl⟩
theorem d_X_breaks_6 : vm_D q_X_breaks.2.1 6 1 7 (.aload_n 0) := ⟨by decide +kernel, rfl⟩
theorem d_X_breaks_7 : vm_D q_X_breaks.2.1 7 1 8 (.iload_n 2) := ⟨by decide +kernel, rfl⟩
theorem d_X_breaks_8 : vm_D q_X_breaks.2.1 8 1 9 (.iconst 1) := ⟨by decide +kernel, rfl⟩
theorem d_X_breaks_9 : vm_D q_X_breaks.2.1 9 2 11 (.bipush 6) := ⟨by decide +kernel, rfl⟩
theorem d_X_breaks_11 : vm_D q_X_breaks.2.1 11 3 14 (.invokevirtual 173) := ⟨by decide +kernel, rfl⟩
theorem d_X_breaks_14 : vm_D q_X_breaks.2.1 14 1 15 (.aload_n 0) := ⟨by decide +kernel, rfl⟩
theorem d_X_breaks_15 : vm_D q_X_breaks.2.1 15 1 16 (.aload_n 3) := ⟨by decide +kernel, rfl⟩
theorem d_X_breaks_16 : vm_D q_X_breaks.2.1 16 1 17 (.iload_n 2) := ⟨by decide +kernel, rfl⟩
theorem d_X_breaks_17 : vm_D q_X_breaks.2.1 17 3 20 (.invokevirtual 297) := ⟨by decide +kernel, rfl⟩
theorem d_X_breaks_20 : vm_D q_X_breaks.2.1 20 1 21 (.ireturn) := ⟨by decide +kernel, rfl⟩
def q_X_grows : vm_Y := ("RepeatFree", cX10_grows, 5, false, [])
theorem d_X_grows_0 : vm_D q_X_grows.2.1 0 1 1 (.aload_n 0) := ⟨by decide +kernel, rfl⟩
theorem d_X_grows_1 : vm_D q_X_grows.2.1 1 1 2 (.iload_n 1) := ⟨by decide +kernel, rfl⟩
theorem d_X_grows_2 : vm_D q_X_grows.2.1 2 3 5 (.invokevirtual 275) := ⟨by decide +kernel, rfl⟩
theorem d_X_grows_5 : vm_D q_X_grows.2.1 5 1 6 (.astore_n 2) := ⟨by decide +kernel, rfl⟩
theorem d_X_grows_6 : vm_D q_X_grows.2.1 6 1 7 (.iconst 0) := ⟨by decide +kernel, rfl⟩
theorem d_X_grows_7 : vm_D q_X_grows.2.1 7 1 8 (.istore_n 3) := ⟨by decide +kernel, rfl⟩
theorem d_X_grows_8 : vm_D q_X_grows.2.1 8 1 9 (.iconst 0) := ⟨by decide +kernel, rfl⟩
theorem d_X_grows_9 : vm_D q_X_grows.2.1 9 2 11 (.istore 4) := ⟨by decide +kernel, rfl⟩
theorem d_X_grows_11 : vm_D q_X_grows.2.1 11 2 13 (.iload 4) := ⟨by decide +kernel, rfl⟩
theorem d_X_grows_13 : vm_D q_X_grows.2.1 13 1 14 (.aload_n 0) := ⟨by decide +kernel, rfl⟩
theorem d_X_grows_14 : vm_D q_X_grows.2.1 14 3 17 (.getfield 19) := ⟨by decide +kernel, rfl⟩
theorem d_X_grows_17 : vm_D q_X_grows.2.1 17 3 20 (.getfield 91) := ⟨by decide +kernel, rfl⟩
theorem d_X_grows_20 : vm_B q_X_grows.2.1 20 23 45 (fun o => .if_icmp .ge o) := ⟨25, by decide +kernel, rfl, by decide⟩
theorem d_X_grows_23 : vm_D q_X_grows.2.1 23 1 24 (.aload_n 2) := ⟨by decide +kernel, rfl⟩
theorem d_X_grows_24 : vm_D q_X_grows.2.1 24 2 26 (.iload 4) := ⟨by decide +kernel, rfl⟩
theorem d_X_grows_26 : vm_D q_X_grows.2.1 26 3 29 (.invokevirtual 312) := ⟨by decide +kernel, rfl⟩
theorem d_X_grows_29 : vm_B q_X_grows.2.1 29 32 39 (fun o => .ifCond .eq o) := ⟨10, by decide +kernel, rfl, by decide⟩
theorem d_X_grows_39 : vm_D q_X_grows.2.1 39 3 42 (.iinc 4 1) := ⟨by decide +kernel, rfl⟩
theorem d_X_grows_42 : ∃ off : Int, decode q_X_grows.2.1 42 = .ok (.goto off, 3) ∧ ((42 : Nat) : Int) + off = ((11 : Nat) : Int) := ⟨-31, by decide +kernel, by decide⟩
theorem d_X_grows_32 : vm_D q_X_grows.2.1 32 1 33 (.iload_n 3) := ⟨by decide +kernel, rfl⟩
theorem d_X_grows_33 : vm_D q_X_grows.2.1 33 1 34 (.iconst 1) := ⟨by decide +kernel, rfl⟩
theorem d_X_grows_34 : vm_D q_X_grows.2.1 34 2 36 (.iload 4) := ⟨by decide +kernel, rfl⟩
theorem d_X_grows_36 : vm_D q_X_grows.2.1 36 1 37 (.ishl) := ⟨by decide +kernel, rfl⟩
theorem d_X_grows_37 : vm_D q_X_grows.2.1 37 1 38 (.ior) := ⟨by decide +kernel, rfl⟩
theorem d_X_grows_38 : vm_D q_X_grows.2.1 38 1 39 (.istore_n 3) := ⟨by decide +kernel, rfl⟩
theorem d_X_grows_45 : vm_D q_X_grows.2.1 45 1 46 (.iload_n 3) := ⟨by decide +kernel, rfl⟩
theorem d_X_grows_46 : vm_D q_X_grows.2.1 46 1 47 (.ireturn) := ⟨by decide +kernel, rfl⟩
def q_X_uniform : vm_Y := ("RepeatFree", cX10_uniform, 5, false, [])
theorem d_X_uniform_0 : vm_D q_X_uniform.2.1 0 1 1 (.aload_n 0) := ⟨by decide +kernel, rfl⟩
theorem d_X_uniform_1 : vm_D q_X_uniform.2.1 1 1 2 (.iload_n 1) := ⟨by decide +kernel, rfl⟩
theorem d_X_uniform_2 : vm_D q_X_uniform.2.1 2 3 5 (.invokevirtual 275) := ⟨by decide +kernel, rfl⟩
theorem d_X_uniform_5 : vm_D q_X_uniform.2.1 5 1 6 (.astore_n 2) := ⟨by decide +kernel, rfl⟩
theorem d_X_uniform_6 : vm_D q_X_uniform.2.1 6 1 7 (.aload_n 2) := ⟨by decide +kernel, rfl⟩
theorem d_X_uniform_7 : vm_D q_X_uniform.2.1 7 1 8 (.iconst 0) := ⟨by decide +kernel, rfl⟩
theorem d_X_uniform_8 : vm_D q_X_uniform.2.1 8 3 11 (.invokevirtual 278) := ⟨by decide +kernel, rfl⟩
theorem d_X_uniform_11 : vm_D q_X_uniform.2.1 11 1 12 (.istore_n 3) := ⟨by decide +kernel, rfl⟩
theorem d_X_uniform_12 : vm_D q_X_uniform.2.1 12 1 13 (.iconst 1) := ⟨by decide +kernel, rfl⟩
theorem d_X_uniform_13 : vm_D q_X_uniform.2.1 13 2 15 (.istore 4) := ⟨by decide +kernel, rfl⟩
theorem d_X_uniform_15 : vm_D q_X_uniform.2.1 15 2 17 (.iload 4) := ⟨by decide +kernel, rfl⟩
theorem d_X_uniform_17 : vm_D q_X_uniform.2.1 17 1 18 (.aload_n 0) := ⟨by decide +kernel, rfl⟩
theorem d_X_uniform_18 : vm_D q_X_uniform.2.1 18 3 21 (.getfield 19) := ⟨by decide +kernel, rfl⟩
theorem d_X_uniform_21 : vm_D q_X_uniform.2.1 21 3 24 (.getfield 91) := ⟨by decide +kernel, rfl⟩
theorem d_X_uniform_24 : vm_B q_X_uniform.2.1 24 27 45 (fun o => .if_icmp .ge o) := ⟨21, by decide +kernel, rfl, by decide⟩
theorem d_X_uniform_27 : vm_D q_X_uniform.2.1 27 1 28 (.aload_n 2) := ⟨by decide +kernel, rfl⟩
theorem d_X_uniform_28 : vm_D q_X_uniform.2.1 28 2 30 (.iload 4) := ⟨by decide +kernel, rfl⟩
theorem d_X_uniform_30 : vm_D q_X_uniform.2.1 30 3 33 (.invokevirtual 278) := ⟨by decide +kernel, rfl⟩
theorem d_X_uniform_33 : vm_D q_X_uniform.2.1 33 1 34 (.iload_n 3) := ⟨by decide +kernel, rfl⟩
theorem d_X_uniform_34 : vm_B q_X_uniform.2.1 34 37 39 (fun o => .if_icmp .eq o) := ⟨5, by decide +kernel, rfl, by decide⟩
theorem d_X_uniform_39 : vm_D q_X_uniform.2.1 39 3 42 (.iinc 4 1) := ⟨by decide +kernel, rfl⟩
theorem d_X_uniform_42 : ∃ off : Int, decode q_X_uniform.2.1 42 = .ok (.goto off, 3) ∧ ((42 : Nat) : Int) + off = ((15 : Nat) : Int) := ⟨-27, by decide +kernel, by decide⟩
theorem d_X_uniform_37 : vm_D q_X_uniform.2.1 37 1 38 (.iconst (-1)) := ⟨by decide +kernel, rfl⟩
theorem d_X_uniform_38 : vm_D q_X_uniform.2.1 38 1 39 (.ireturn) := ⟨by decide +kernel, rfl⟩
theorem d_X_uniform_45 : vm_D q_X_uniform.2.1 45 1 46 (.iload_n 3) := ⟨by decide +kernel, rfl⟩
theorem d_X_uniform_46 : vm_D q_X_uniform.2.1 46 1 47 (.ireturn) := ⟨by decide +kernel, rfl⟩
def q_X_fill : vm_Y := ("RepeatFree", cX10_fill, 7, false, [])
theorem d_X_fill_0 : vm_D q_X_fill.2.1 0 1 1 (.aload_n 0) := ⟨by decide +kernel, rfl⟩
theorem d_X_fill_1 : vm_D q_X_fill.2.1 1 1 2 (.iload_n 1) := ⟨by decide +kernel, rfl⟩
theorem d_X_fill_2 : vm_D q_X_fill.2.1 2 3 5 (.invokevirtual 275) := ⟨by decide +kernel, rfl⟩
theorem d_X_fill_5 : vm_D q_X_fill.2.1 5 2 7 (.astore 4) := ⟨by decide +kernel, rfl⟩
theorem d_X_fill_7 : vm_D q_X_fill.2.1 7 1 8 (.aload_n 0) := ⟨by decide +kernel, rfl⟩
theorem d_X_fill_8 : vm_D q_X_fill.2.1 8 1 9 (.iload_n 2) := ⟨by decide +kernel, rfl⟩
theorem d_X_fill_9 : vm_D q_X_fill.2.1 9 3 12 (.invokevirtual 110) := ⟨by decide +kernel, rfl⟩
theorem d_X_fill_12 : vm_D q_X_fill.2.1 12 1 13 (.aload_n 0) := ⟨by decide +kernel, rfl⟩
theorem d_X_fill_13 : vm_D q_X_fill.2.1 13 1 14 (.iload_n 3) := ⟨by decide +kernel, rfl⟩
theorem d_X_fill_14 : vm_D q_X_fill.2.1 14 1 15 (.iconst 1) := ⟨by decide +kernel, rfl⟩
theorem d_X_fill_15 : vm_D q_X_fill.2.1 15 2 17 (.bipush 64) := ⟨by decide +kernel, rfl⟩
theorem d_X_fill_17 : vm_D q_X_fill.2.1 17 3 20 (.invokevirtual 173) := ⟨by decide +kernel, rfl⟩
theorem d_X_fill_20 : vm_D q_X_fill.2.1 20 2 22 (.aload 4) := ⟨by decide +kernel, rfl⟩
theorem d_X_fill_22 : vm_D q_X_fill.2.1 22 1 23 (.iload_n 2) := ⟨by decide +kernel, rfl⟩
theorem d_X_fill_23 : vm_D q_X_fill.2.1 23 3 26 (.invokevirtual 312) := ⟨by decide +kernel, rfl⟩
theorem d_X_fill_26 : vm_B q_X_fill.2.1 26 29 37 (fun o => .ifCond .ne o) := ⟨11, by decide +kernel, rfl, by decide⟩
theorem d_X_fill_37 : vm_D q_X_fill.2.1 37 1 38 (.aload_n 0) := ⟨by decide +kernel, rfl⟩
theorem d_X_fill_38 : vm_D q_X_fill.2.1 38 3 41 (.getfield 40) := ⟨by decide +kernel, rfl⟩
theorem d_X_fill_41 : vm_D q_X_fill.2.1 41 3 44 (.invokevirtual 87) := ⟨by decide +kernel, rfl⟩
theorem d_X_fill_44 : vm_D q_X_fill.2.1 44 1 45 (.aload_n 0) := ⟨by decide +kernel, rfl⟩
theorem d_X_fill_45 : vm_D q_X_fill.2.1 45 3 48 (.getfield 40) := ⟨by decide +kernel, rfl⟩
theorem d_X_fill_48 : vm_D q_X_fill.2.1 48 1 49 (.iload_n 2) := ⟨by decide +kernel, rfl⟩
theorem d_X_fill_49 : vm_D q_X_fill.2.1 49 3 52 (.invokevirtual 119) := ⟨by decide +kernel, rfl⟩
theorem d_X_fill_52 : vm_D q_X_fill.2.1 52 1 53 (.iconst 0) := ⟨by decide +kernel, rfl⟩
theorem d_X_fill_53 : vm_D q_X_fill.2.1 53 2 55 (.istore 5) := ⟨by decide +kernel, rfl⟩
theorem d_X_fill_55 : vm_D q_X_fill.2.1 55 2 57 (.iload 5) := ⟨by decide +kernel, rfl⟩
theorem d_X_fill_57 : vm_D q_X_fill.2.1 57 1 58 (.iload_n 3) := ⟨by decide +kernel, rfl⟩
theorem d_X_fill_58 : vm_B q_X_fill.2.1 58 61 149 (fun o => .if_icmp .ge o) := ⟨91, by decide +kernel, rfl, by decide⟩
theorem d_X_fill_61 : vm_D q_X_fill.2.1 61 1 62 (.aload_n 0) := ⟨by decide +kernel, rfl⟩
theorem d_X_fill_62 : vm_D q_X_fill.2.1 62 3 65 (.getfield 40) := ⟨by decide +kernel, rfl⟩
theorem d_X_fill_65 : vm_D q_X_fill.2.1 65 3 68 (.getfield 102) := ⟨by decide +kernel, rfl⟩
theorem d_X_fill_68 : vm_D q_X_fill.2.1 68 1 69 (.iload_n 3) := ⟨by decide +kernel, rfl⟩
theorem d_X_fill_69 : vm_B q_X_fill.2.1 69 72 149 (fun o => .if_icmp .ge o) := ⟨80, by decide +kernel, rfl, by decide⟩
theorem d_X_fill_72 : vm_D q_X_fill.2.1 72 2 74 (.iload 5) := ⟨by decide +kernel, rfl⟩
theorem d_X_fill_74 : vm_B q_X_fill.2.1 74 77 81 (fun o => .ifCond .ne o) := ⟨7, by decide +kernel, rfl, by decide⟩
theorem d_X_fill_82 : vm_D q_X_fill.2.1 82 2 84 (.istore 6) := ⟨by decide +kernel, rfl⟩
theorem d_X_fill_84 : vm_D q_X_fill.2.1 84 2 86 (.iload 6) := ⟨by decide +kernel, rfl⟩
theorem d_X_fill_86 : vm_D q_X_fill.2.1 86 2 88 (.aload 4) := ⟨by decide +kernel, rfl⟩
theorem d_X_fill_88 : vm_D q_X_fill.2.1 88 1 89 (.aload_n 0) := ⟨by decide +kernel, rfl⟩
theorem d_X_fill_89 : vm_D q_X_fill.2.1 89 3 92 (.getfield 40) := ⟨by decide +kernel, rfl⟩
theorem d_X_fill_92 : vm_D q_X_fill.2.1 92 2 94 (.iload 5) := ⟨by decide +kernel, rfl⟩
theorem d_X_fill_94 : vm_D q_X_fill.2.1 94 3 97 (.invokevirtual 106) := ⟨by decide +kernel, rfl⟩
theorem d_X_fill_97 : vm_D q_X_fill.2.1 97 3 100 (.invokevirtual 278) := ⟨by decide +kernel, rfl⟩
theorem d_X_fill_100 : vm_B q_X_fill.2.1 100 103 143 (fun o => .if_icmp .ge o) := ⟨43, by decide +kernel, rfl, by decide⟩
theorem d_X_fill_103 : vm_D q_X_fill.2.1 103 1 104 (.aload_n 0) := ⟨by decide +kernel, rfl⟩
theorem d_X_fill_104 : vm_D q_X_fill.2.1 104 3 107 (.getfield 40) := ⟨by decide +kernel, rfl⟩
theorem d_X_fill_107 : vm_D q_X_fill.2.1 107 3 110 (.getfield 102) := ⟨by decide +kernel, rfl⟩
theorem d_X_fill_110 : vm_D q_X_fill.2.1 110 1 111 (.iload_n 3) := ⟨by decide +kernel, rfl⟩
theorem d_X_fill_111 : vm_B q_X_fill.2.1 111 114 143 (fun o => .if_icmp .ge o) := ⟨32, by decide +kernel, rfl, by decide⟩
theorem d_X_fill_114 : vm_D q_X_fill.2.1 114 1 115 (.aload_n 0) := ⟨by decide +kernel, rfl⟩
theorem d_X_fill_115 : vm_D q_X_fill.2.1 115 3 118 (.getfield 40) := ⟨by decide +kernel, rfl⟩
theorem d_X_fill_118 : vm_D q_X_fill.2.1 118 2 120 (.aload 4) := ⟨by decide +kernel, rfl⟩
theorem d_X_fill_120 : vm_D q_X_fill.2.1 120 1 121 (.aload_n 0) := ⟨by decide +kernel, rfl⟩
theorem d_X_fill_121 : vm_D q_X_fill.2.1 121 3 124 (.getfield 40) := ⟨by decide +kernel, rfl⟩
theorem d_X_fill_124 : vm_D q_X_fill.2.1 124 2 126 (.iload 5) := ⟨by decide +kernel, rfl⟩
theorem d_X_fill_126 : vm_D q_X_fill.2.1 126 3 129 (.invokevirtual 106) := ⟨by decide +kernel, rfl⟩
theorem d_X_fill_129 : vm_D q_X_fill.2.1 129 2 131 (.iload 6) := ⟨by decide +kernel, rfl⟩
theorem d_X_fill_131 : vm_D q_X_fill.2.1 131 3 134 (.invokevirtual 287) := ⟨by decide +kernel, rfl⟩
theorem d_X_fill_134 : vm_D q_X_fill.2.1 134 3 137 (.invokevirtual 119) := ⟨by decide +kernel, rfl⟩
theorem d_X_fill_137 : vm_D q_X_fill.2.1 137 3 140 (.iinc 6 1) := ⟨by decide +kernel, rfl⟩
theorem d_X_fill_140 : ∃ off : Int, decode q_X_fill.2.1 140 = .ok (.goto off, 3) ∧ ((140 : Nat) : Int) + off = ((84 : Nat) : Int) := ⟨-56, by decide +kernel, by decide⟩
theorem d_X_fill_143 : vm_D q_X_fill.2.1 143 3 146 (.iinc 5 1) := ⟨by decide +kernel, rfl⟩
theorem d_X_fill_146 : ∃ off : Int, decode q_X_fill.2.1 146 = .ok (.goto off, 3) ∧ ((146 : Nat) : Int) + off = ((55 : Nat) : Int) := ⟨-91, by decide +kernel, by decide⟩
theorem d_X_fill_81 : vm_D q_X_fill.2.1 81 1 82 (.iconst 0) := ⟨by decide +kernel, rfl⟩
theorem d_X_fill_77 : vm_D q_X_fill.2.1 77 1 78 (.iconst 1) := ⟨by decide +kernel, rfl⟩
theorem d_X_fill_78 : ∃ off : Int, decode q_X_fill.2.1 78 = .ok (.goto off, 3) ∧ ((78 : Nat) : Int) + off = ((82 : Nat) : Int) := ⟨4, by decide +kernel, by decide⟩
theorem d_X_fill_149 : vm_D q_X_fill.2.1 149 1 150 (.aload_n 0) := ⟨by decide +kernel, rfl⟩
theorem d_X_fill_150 : vm_D q_X_fill.2.1 150 1 151 (.aload_n 0) := ⟨by decide +kernel, rfl⟩
theorem d_X_fill_151 : vm_D q_X_fill.2.1 151 3 154 (.getfield 40) := ⟨by decide +kernel, rfl⟩
theorem d_X_fill_154 : vm_D q_X_fill.2.1 154 3 157 (.invokevirtual 98) := ⟨by decide +kernel, rfl⟩
theorem d_X_fill_157 : vm_D q_X_fill.2.1 157 1 158 (.aload_n 0) := ⟨by decide +kernel, rfl⟩
theorem d_X_fill_158 : vm_D q_X_fill.2.1 158 3 161 (.getfield 36) := ⟨by decide +kernel, rfl⟩
theorem d_X_fill_161 : vm_D q_X_fill.2.1 161 1 162 (.aload_n 0) := ⟨by decide +kernel, rfl⟩
theorem d_X_fill_162 : vm_D q_X_fill.2.1 162 3 165 (.getfield 19) := ⟨by decide +kernel, rfl⟩
theorem d_X_fill_165 : vm_D q_X_fill.2.1 165 3 168 (.invokevirtual 155) := ⟨by decide +kernel, rfl⟩
theorem d_X_fill_168 : vm_D q_X_fill.2.1 168 1 169 (.ireturn) := ⟨by decide +kernel, rfl⟩
theorem d_X_fill_29 : vm_D q_X_fill.2.1 29 3 32 (.new 113) := ⟨by decide +kernel, rfl⟩
theorem d_X_fill_32 : vm_D q_X_fill.2.1 32 1 33 (.dup) := ⟨by decide +kernel, rfl⟩
theorem d_X_fill_33 : vm_D q_X_fill.2.1 33 3 36 (.invokespecial 115) := ⟨by decide +kernel, rfl⟩
theorem d_X_fill_36 : vm_D q_X_fill.2.1 36 1 37 (.athrow) := ⟨by decide +kernel, rfl⟩
def q_X_sources : vm_Y := ("RepeatFree", cX10_sources, 8, false, [])
theorem d_X_sources_0 : vm_D q_X_sources.2.1 0 1 1 (.aload_n 0) := ⟨by decide +kernel, rfl⟩
theorem d_X_sources_1 : vm_D q_X_sources.2.1 1 1 2 (.iload_n 1) := ⟨by decide +kernel, rfl⟩
theorem d_X_sources_2 : vm_D q_X_sources.2.1 2 3 5 (.invokevirtual 275) := ⟨by decide +kernel, rfl⟩
theorem d_X_sources_5 : vm_D q_X_sources.2.1 5 1 6 (.astore_n 2) := ⟨by decide +kernel, rfl⟩
theorem d_X_sources_6 : vm_D q_X_sources.2.1 6 1 7 (.aload_n 0) := ⟨by decide +kernel, rfl⟩
theorem d_X_sources_7 : vm_D q_X_sources.2.1 7 3 10 (.getfield 62) := ⟨by decide +kernel, rfl⟩
theorem d_X_sources_10 : vm_D q_X_sources.2.1 10 1 11 (.iconst 0) := ⟨by decide +kernel, rfl⟩
theorem d_X_sources_11 : vm_D q_X_sources.2.1 11 1 12 (.lconst 1) := ⟨by decide +kernel, rfl⟩
theorem d_X_sources_12 : vm_D q_X_sources.2.1 12 1 13 (.lastore) := ⟨by decide +kernel, rfl⟩
theorem d_X_sources_13 : vm_D q_X_sources.2.1 13 1 14 (.iconst 1) := ⟨by decide +kernel, rfl⟩
theorem d_X_sources_14 : vm_D q_X_sources.2.1 14 1 15 (.istore_n 3) := ⟨by decide +kernel, rfl⟩
theorem d_X_sources_15 : vm_D q_X_sources.2.1 15 1 16 (.iload_n 3) := ⟨by decide +kernel, rfl⟩
theorem d_X_sources_16 : vm_D q_X_sources.2.1 16 1 17 (.aload_n 0) := ⟨by decide +kernel, rfl⟩
theorem d_X_sources_17 : vm_D q_X_sources.2.1 17 3 20 (.getfield 36) := ⟨by decide +kernel, rfl⟩
theorem d_X_sources_20 : vm_D q_X_sources.2.1 20 3 23 (.getfield 102) := ⟨by decide +kernel, rfl⟩
theorem d_X_sources_23 : vm_B q_X_sources.2.1 23 26 121 (fun o => .if_icmp .gt o) := ⟨98, by decide +kernel, rfl, by decide⟩
theorem d_X_sources_26 : vm_D q_X_sources.2.1 26 1 27 (.iload_n 3) := ⟨by decide +kernel, rfl⟩
theorem d_X_sources_27 : vm_D q_X_sources.2.1 27 1 28 (.aload_n 0) := ⟨by decide +kernel, rfl⟩
theorem d_X_sources_28 : vm_D q_X_sources.2.1 28 3 31 (.getfield 62) := ⟨by decide +kernel, rfl⟩
theorem d_X_sources_31 : vm_D q_X_sources.2.1 31 1 32 (.arraylength) := ⟨by decide +kernel, rfl⟩
theorem d_X_sources_32 : vm_B q_X_sources.2.1 32 35 121 (fun o => .if_icmp .ge o) := ⟨89, by decide +kernel, rfl, by decide⟩
theorem d_X_sources_35 : vm_D q_X_sources.2.1 35 1 36 (.lconst 0) := ⟨by decide +kernel, rfl⟩
theorem d_X_sources_36 : vm_D q_X_sources.2.1 36 2 38 (.lstore 4) := ⟨by decide +kernel, rfl⟩
theorem d_X_sources_38 : vm_D q_X_sources.2.1 38 1 39 (.iconst 0) := ⟨by decide +kernel, rfl⟩
theorem d_X_sources_39 : vm_D q_X_sources.2.1 39 2 41 (.istore 6) := ⟨by decide +kernel, rfl⟩
theorem d_X_sources_41 : vm_D q_X_sources.2.1 41 2 43 (.iload 6) := ⟨by decide +kernel, rfl⟩
theorem d_X_sources_43 : vm_D q_X_sources.2.1 43 1 44 (.aload_n 0) := ⟨by decide +kernel, rfl⟩
theorem d_X_sources_44 : vm_D q_X_sources.2.1 44 3 47 (.getfield 19) := ⟨by decide +kernel, rfl⟩
theorem d_X_sources_47 : vm_D q_X_sources.2.1 47 3 50 (.getfield 91) := ⟨by decide +kernel, rfl⟩
theorem d_X_sources_50 : vm_B q_X_sources.2.1 50 53 107 (fun o => .if_icmp .ge o) := ⟨57, by decide +kernel, rfl, by decide⟩
theorem d_X_sources_53 : vm_D q_X_sources.2.1 53 1 54 (.iload_n 3) := ⟨by decide +kernel, rfl⟩
theorem d_X_sources_54 : vm_D q_X_sources.2.1 54 1 55 (.aload_n 2) := ⟨by decide +kernel, rfl⟩
theorem d_X_sources_55 : vm_D q_X_sources.2.1 55 2 57 (.iload 6) := ⟨by decide +kernel, rfl⟩
theorem d_X_sources_57 : vm_D q_X_sources.2.1 57 3 60 (.invokevirtual 278) := ⟨by decide +kernel, rfl⟩
theorem d_X_sources_60 : vm_D q_X_sources.2.1 60 1 61 (.isub) := ⟨by decide +kernel, rfl⟩
theorem d_X_sources_61 : vm_D q_X_sources.2.1 61 2 63 (.istore 7) := ⟨by decide +kernel, rfl⟩
theorem d_X_sources_63 : vm_D q_X_sources.2.1 63 2 65 (.iload 7) := ⟨by decide +kernel, rfl⟩
theorem d_X_sources_65 : vm_B q_X_sources.2.1 65 68 101 (fun o => .ifCond .lt o) := ⟨36, by decide +kernel, rfl, by decide⟩
theorem d_X_sources_101 : vm_D q_X_sources.2.1 101 3 104 (.iinc 6 1) := ⟨by decide +kernel, rfl⟩
theorem d_X_sources_104 : ∃ off : Int, decode q_X_sources.2.1 104 = .ok (.goto off, 3) ∧ ((104 : Nat) : Int) + off = ((41 : Nat) : Int) := ⟨-63, by decide +kernel, by decide⟩
theorem d_X_sources_68 : vm_D q_X_sources.2.1 68 2 70 (.iload 7) := ⟨by decide +kernel, rfl⟩
theorem d_X_sources_70 : vm_D q_X_sources.2.1 70 1 71 (.iload_n 3) := ⟨by decide +kernel, rfl⟩
theorem d_X_sources_71 : vm_B q_X_sources.2.1 71 74 101 (fun o => .if_icmp .ge o) := ⟨30, by decide +kernel, rfl, by decide⟩
theorem d_X_sources_74 : vm_D q_X_sources.2.1 74 1 75 (.aload_n 2) := ⟨by decide +kernel, rfl⟩
theorem d_X_sources_75 : vm_D q_X_sources.2.1 75 1 76 (.aload_n 0) := ⟨by decide +kernel, rfl⟩
theorem d_X_sources_76 : vm_D q_X_sources.2.1 76 3 79 (.getfield 36) := ⟨by decide +kernel, rfl⟩
theorem d_X_sources_79 : vm_D q_X_sources.2.1 79 2 81 (.iload 7) := ⟨by decide +kernel, rfl⟩
theorem d_X_sources_81 : vm_D q_X_sources.2.1 81 2 83 (.iload 6) := ⟨by decide +kernel, rfl⟩
theorem d_X_sources_83 : vm_D q_X_sources.2.1 83 3 86 (.invokevirtual 316) := ⟨by decide +kernel, rfl⟩
theorem d_X_sources_86 : vm_B q_X_sources.2.1 86 89 101 (fun o => .ifCond .eq o) := ⟨15, by decide +kernel, rfl, by decide⟩
theorem d_X_sources_89 : vm_D q_X_sources.2.1 89 2 91 (.lload 4) := ⟨by decide +kernel, rfl⟩
theorem d_X_sources_91 : vm_D q_X_sources.2.1 91 1 92 (.aload_n 0) := ⟨by decide +kernel, rfl⟩
theorem d_X_sources_92 : vm_D q_X_sources.2.1 92 3 95 (.getfield 62) := ⟨by decide +kernel, rfl⟩
theorem d_X_sources_95 : vm_D q_X_sources.2.1 95 2 97 (.iload 7) := ⟨by decide +kernel, rfl⟩
theorem d_X_sources_97 : vm_D q_X_sources.2.1 97 1 98 (.laload) := ⟨by decide +kernel, rfl⟩
theorem d_X_sources_98 : vm_D q_X_sources.2.1 98 1 99 (.ladd) := ⟨by decide +kernel, rfl⟩
theorem d_X_sources_99 : vm_D q_X_sources.2.1 99 2 101 (.lstore 4) := ⟨by decide +kernel, rfl⟩
theorem d_X_sources_107 : vm_D q_X_sources.2.1 107 1 108 (.aload_n 0) := ⟨by decide +kernel, rfl⟩
theorem d_X_sources_108 : vm_D q_X_sources.2.1 108 3 111 (.getfield 62) := ⟨by decide +kernel, rfl⟩
theorem d_X_sources_111 : vm_D q_X_sources.2.1 111 1 112 (.iload_n 3) := ⟨by decide +kernel, rfl⟩
theorem d_X_sources_112 : vm_D q_X_sources.2.1 112 2 114 (.lload 4) := ⟨by decide +kernel, rfl⟩
theorem d_X_sources_114 : vm_D q_X_sources.2.1 114 1 115 (.lastore) := ⟨by decide +kernel, rfl⟩
theorem d_X_sources_115 : vm_D q_X_sources.2.1 115 3 118 (.iinc 3 1) := ⟨by decide +kernel, rfl⟩
theorem d_X_sources_118 : ∃ off : Int, decode q_X_sources.2.1 118 = .ok (.goto off, 3) ∧ ((118 : Nat) : Int) + off = ((15 : Nat) : Int) := ⟨-103, by decide +kernel, by decide⟩
theorem d_X_sources_121 : vm_D q_X_sources.2.1 121 1 122 (.aload_n 0) := ⟨by decide +kernel, rfl⟩
theorem d_X_sources_122 : vm_D q_X_sources.2.1 122 3 125 (.getfield 36) := ⟨by decide +kernel, rfl⟩
theorem d_X_sources_125 : vm_D q_X_sources.2.1 125 3 128 (.getfield 102) := ⟨by decide +kernel, rfl⟩
theorem d_X_sources_128 : vm_D q_X_sources.2.1 128 1 129 (.istore_n 3) := ⟨by decide +kernel, rfl⟩
theorem d_X_sources_129 : vm_D q_X_sources.2.1 129 1 130 (.iload_n 3) := ⟨by decide +kernel, rfl⟩
theorem d_X_sources_130 : vm_D q_X_sources.2.1 130 1 131 (.aload_n 0) := ⟨by decide +kernel, rfl⟩
theorem d_X_sources_131 : vm_D q_X_sources.2.1 131 3 134 (.getfield 62) := ⟨by decide +kernel, rfl⟩
theorem d_X_sources_134 : vm_D q_X_sources.2.1 134 1 135 (.arraylength) := ⟨by decide +kernel, rfl⟩
theorem d_X_sources_135 : vm_B q_X_sources.2.1 135 138 147 (fun o => .if_icmp .ge o) := ⟨12, by decide +kernel, rfl, by decide⟩
theorem d_X_sources_147 : vm_D q_X_sources.2.1 147 1 148 (.lconst 0) := ⟨by decide +kernel, rfl⟩
theorem d_X_sources_148 : vm_D q_X_sources.2.1 148 1 149 (.lreturn) := ⟨by decide +kernel, rfl⟩
theorem d_X_sources_138 : vm_D q_X_sources.2.1 138 1 139 (.aload_n 0) := ⟨by decide +kernel, rfl⟩
theorem d_X_sources_139 : vm_D q_X_sources.2.1 139 3 142 (.getfield 62) := ⟨by decide +kernel, rfl⟩
theorem d_X_sources_142 : vm_D q_X_sources.2.1 142 1 143 (.iload_n 3) := ⟨by decide +kernel, rfl⟩
theorem d_X_sources_143 : vm_D q_X_sources.2.1 143 1 144 (.laload) := ⟨by decide +kernel, rfl⟩
theorem d_X_sources_144 : ∃ off : Int, decode q_X_sources.2.1 144 = .ok (.goto off, 3) ∧ ((144 : Nat) : Int) + off = ((148 : Nat) : Int) := ⟨4, by decide +kernel, by decide⟩
def q_X_code : vm_Y := ("RepeatFree", cX10_code, 2, false, [])
theorem d_X_code_0 : vm_D q_X_code.2.1 0 1 1 (.aload_n 0) := ⟨by decide +kernel, rfl⟩
theorem d_X_code_1 : vm_D q_X_code.2.1 1 1 2 (.iload_n 1) := ⟨by decide +kernel, rfl⟩
theorem d_X_code_2 : vm_D q_X_code.2.1 2 3 5 (.invokevirtual 275) := ⟨by decide +kernel, rfl⟩
theorem d_X_code_5 : vm_D q_X_code.2.1 5 1 6 (.aload_n 0) := ⟨by decide +kernel, rfl⟩
theorem d_X_code_6 : vm_D q_X_code.2.1 6 3 9 (.getfield 19) := ⟨by decide +kernel, rfl⟩
theorem d_X_code_9 : vm_D q_X_code.2.1 9 3 12 (.getfield 91) := ⟨by decide +kernel, rfl⟩
theorem d_X_code_12 : vm_D q_X_code.2.1 12 3 15 (.invokevirtual 320) := ⟨by decide +kernel, rfl⟩
theorem d_X_code_15 : vm_D q_X_code.2.1 15 1 16 (.ireturn) := ⟨by decide +kernel, rfl⟩
def q_X_count : vm_Y := ("RepeatFree", cX10_count, 2, false, [])
theorem d_X_count_0 : vm_D q_X_count.2.1 0 1 1 (.iload_n 1) := ⟨by decide +kernel, rfl⟩
theorem d_X_count_1 : decode q_X_count.2.1 1 = .ok (.tableswitch 123 0 8 #[51, 59, 67, 75, 83, 91, 99, 107, 115], 51) := by decide +kernel
theorem d_X_count_1_o : ∀ i, i < 9 → ∃ off : Int, (#[51, 59, 67, 75, 83, 91, 99, 107, 115] : Array Int)[i]? = some off ∧ ((1 : Nat) : Int) + off = ((([52, 60, 68, 76, 84, 92, 100, 108, 116] : List Nat).getD i 0 : Nat) : Int) := by
  intro i hi
  match i, hi with
  | 0, _ => exact ⟨_, rfl, rfl⟩
  | 1, _ => exact ⟨_, rfl, rfl⟩
  | 2, _ => exact ⟨_, rfl, rfl⟩
  | 3, _ => exact ⟨_, rfl, rfl⟩
  | 4, _ => exact ⟨_, rfl, rfl⟩
  | 5, _ => exact ⟨_, rfl, rfl⟩
  | 6, _ => exact ⟨_, rfl, rfl⟩
  | 7, _ => exact ⟨_, rfl, rfl⟩
  | 8, _ => exact ⟨_, rfl, rfl⟩
  | k + 9, hi => exact absurd hi (by omega)
theorem d_X_count_124 : vm_D q_X_count.2.1 124 1 125 (.iconst (-1)) := ⟨by decide +kernel, rfl⟩
theorem d_X_count_125 : vm_D q_X_count.2.1 125 1 126 (.ireturn) := ⟨by decide +kernel, rfl⟩
theorem d_X_count_52 : vm_D q_X_count.2.1 52 1 53 (.aload_n 0) := ⟨by decide +kernel, rfl⟩
theorem d_X_count_53 : vm_D q_X_count.2.1 53 3 56 (.getfield 19) := ⟨by decide +kernel, rfl⟩
theorem d_X_count_56 : vm_D q_X_count.2.1 56 3 59 (.getfield 91) := ⟨by decide +kernel, rfl⟩
theorem d_X_count_59 : vm_D q_X_count.2.1 59 1 60 (.ireturn) := ⟨by decide +kernel, rfl⟩
theorem d_X_count_60 : vm_D q_X_count.2.1 60 1 61 (.aload_n 0) := ⟨by decide +kernel, rfl⟩
theorem d_X_count_61 : vm_D q_X_count.2.1 61 3 64 (.getfield 19) := ⟨by decide +kernel, rfl⟩
theorem d_X_count_64 : vm_D q_X_count.2.1 64 3 67 (.getfield 138) := ⟨by decide +kernel, rfl⟩
theorem d_X_count_67 : vm_D q_X_count.2.1 67 1 68 (.ireturn) := ⟨by decide +kernel, rfl⟩
theorem d_X_count_68 : vm_D q_X_count.2.1 68 1 69 (.aload_n 0) := ⟨by decide +kernel, rfl⟩
theorem d_X_count_69 : vm_D q_X_count.2.1 69 3 72 (.getfield 19) := ⟨by decide +kernel, rfl⟩
theorem d_X_count_72 : vm_D q_X_count.2.1 72 3 75 (.getfield 148) := ⟨by decide +kernel, rfl⟩
theorem d_X_count_75 : vm_D q_X_count.2.1 75 1 76 (.ireturn) := ⟨by decide +kernel, rfl⟩
theorem d_X_count_76 : vm_D q_X_count.2.1 76 1 77 (.aload_n 0) := ⟨by decide +kernel, rfl⟩
theorem d_X_count_77 : vm_D q_X_count.2.1 77 3 80 (.getfield 19) := ⟨by decide +kernel, rfl⟩
theorem d_X_count_80 : vm_D q_X_count.2.1 80 3 83 (.invokevirtual 323) := ⟨by decide +kernel, rfl⟩
theorem d_X_count_83 : vm_D q_X_count.2.1 83 1 84 (.ireturn) := ⟨by decide +kernel, rfl⟩
theorem d_X_count_84 : vm_D q_X_count.2.1 84 1 85 (.aload_n 0) := ⟨by decide +kernel, rfl⟩
theorem d_X_count_85 : vm_D q_X_count.2.1 85 3 88 (.getfield 36) := ⟨by decide +kernel, rfl⟩
theorem d_X_count_88 : vm_D q_X_count.2.1 88 3 91 (.getfield 102) := ⟨by decide +kernel, rfl⟩
theorem d_X_count_91 : vm_D q_X_count.2.1 91 1 92 (.ireturn) := ⟨by decide +kernel, rfl⟩
theorem d_X_count_92 : vm_D q_X_count.2.1 92 1 93 (.aload_n 0) := ⟨by decide +kernel, rfl⟩
theorem d_X_count_93 : vm_D q_X_count.2.1 93 3 96 (.getfield 53) := ⟨by decide +kernel, rfl⟩
theorem d_X_count_96 : vm_D q_X_count.2.1 96 3 99 (.getfield 128) := ⟨by decide +kernel, rfl⟩
theorem d_X_count_99 : vm_D q_X_count.2.1 99 1 100 (.ireturn) := ⟨by decide +kernel, rfl⟩
theorem d_X_count_100 : vm_D q_X_count.2.1 100 1 101 (.aload_n 0) := ⟨by decide +kernel, rfl⟩
theorem d_X_count_101 : vm_D q_X_count.2.1 101 3 104 (.getfield 19) := ⟨by decide +kernel, rfl⟩
theorem d_X_count_104 : vm_D q_X_count.2.1 104 3 107 (.getfield 326) := ⟨by decide +kernel, rfl⟩
theorem d_X_count_107 : vm_D q_X_count.2.1 107 1 108 (.ireturn) := ⟨by decide +kernel, rfl⟩
theorem d_X_count_108 : vm_D q_X_count.2.1 108 1 109 (.aload_n 0) := ⟨by decide +kernel, rfl⟩
theorem d_X_count_109 : vm_D q_X_count.2.1 109 3 112 (.getfield 19) := ⟨by decide +kernel, rfl⟩
theorem d_X_count_112 : vm_D q_X_count.2.1 112 3 115 (.getfield 329) := ⟨by decide +kernel, rfl⟩
theorem d_X_count_115 : vm_D q_X_count.2.1 115 1 116 (.ireturn) := ⟨by decide +kernel, rfl⟩
theorem d_X_count_116 : vm_D q_X_count.2.1 116 1 117 (.aload_n 0) := ⟨by decide +kernel, rfl⟩
theorem d_X_count_117 : vm_D q_X_count.2.1 117 3 120 (.getfield 19) := ⟨by decide +kernel, rfl⟩
theorem d_X_count_120 : vm_D q_X_count.2.1 120 3 123 (.getfield 223) := ⟨by decide +kernel, rfl⟩
theorem d_X_count_123 : vm_D q_X_count.2.1 123 1 124 (.ireturn) := ⟨by decide +kernel, rfl⟩
