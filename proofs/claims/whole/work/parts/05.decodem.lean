theorem dX9_init_0 : decode cX9_init 0 = .ok (.aload_n 0, 1) := by decide +kernel
theorem dX9_init_1 : decode cX9_init 1 = .ok (.invokespecial 1, 3) := by decide +kernel
theorem dX9_init_4 : decode cX9_init 4 = .ok (.aload_n 0, 1) := by decide +kernel
theorem dX9_init_5 : decode cX9_init 5 = .ok (.sipush 381, 3) := by decide +kernel
theorem dX9_init_8 : decode cX9_init 8 = .ok (.newarray .int, 2) := by decide +kernel
theorem dX9_init_10 : decode cX9_init 10 = .ok (.putfield 7, 3) := by decide +kernel
theorem dX9_init_13 : decode cX9_init 13 = .ok (.aload_n 0, 1) := by decide +kernel
theorem dX9_init_14 : decode cX9_init 14 = .ok (.sipush 1524, 3) := by decide +kernel
theorem dX9_init_17 : decode cX9_init 17 = .ok (.newarray .int, 2) := by decide +kernel
theorem dX9_init_19 : decode cX9_init 19 = .ok (.putfield 13, 3) := by decide +kernel
theorem dX9_init_22 : decode cX9_init 22 = .ok (.aload_n 0, 1) := by decide +kernel
theorem dX9_init_23 : decode cX9_init 23 = .ok (.sipush 381, 3) := by decide +kernel
theorem dX9_init_26 : decode cX9_init 26 = .ok (.newarray .int, 2) := by decide +kernel
theorem dX9_init_28 : decode cX9_init 28 = .ok (.putfield 16, 3) := by decide +kernel
theorem dX9_init_31 : decode cX9_init 31 = .ok (.aload_n 0, 1) := by decide +kernel
theorem dX9_init_32 : decode cX9_init 32 = .ok (.sipush 150, 3) := by decide +kernel
theorem dX9_init_35 : decode cX9_init 35 = .ok (.newarray .int, 2) := by decide +kernel
theorem dX9_init_37 : decode cX9_init 37 = .ok (.putfield 19, 3) := by decide +kernel
theorem dX9_init_40 : decode cX9_init 40 = .ok (.aload_n 0, 1) := by decide +kernel
theorem dX9_init_41 : decode cX9_init 41 = .ok (.iconst 4, 1) := by decide +kernel
theorem dX9_init_42 : decode cX9_init 42 = .ok (.newarray .int, 2) := by decide +kernel
theorem dX9_init_44 : decode cX9_init 44 = .ok (.putfield 22, 3) := by decide +kernel
theorem dX9_init_47 : decode cX9_init 47 = .ok (.aload_n 0, 1) := by decide +kernel
theorem dX9_init_48 : decode cX9_init 48 = .ok (.getfield 7, 3) := by decide +kernel
theorem dX9_init_51 : decode cX9_init 51 = .ok (.iconst 2, 1) := by decide +kernel
theorem dX9_init_52 : decode cX9_init 52 = .ok (.bipush 12, 2) := by decide +kernel
theorem dX9_init_54 : decode cX9_init 54 = .ok (.iastore, 1) := by decide +kernel
theorem dX9_init_55 : decode cX9_init 55 = .ok (.aload_n 0, 1) := by decide +kernel
theorem dX9_init_56 : decode cX9_init 56 = .ok (.getfield 7, 3) := by decide +kernel
theorem dX9_init_59 : decode cX9_init 59 = .ok (.iconst 3, 1) := by decide +kernel
theorem dX9_init_60 : decode cX9_init 60 = .ok (.bipush 10, 2) := by decide +kernel
theorem dX9_init_62 : decode cX9_init 62 = .ok (.iastore, 1) := by decide +kernel
theorem dX9_init_63 : decode cX9_init 63 = .ok (.aload_n 0, 1) := by decide +kernel
theorem dX9_init_64 : decode cX9_init 64 = .ok (.getfield 7, 3) := by decide +kernel
theorem dX9_init_67 : decode cX9_init 67 = .ok (.iconst 4, 1) := by decide +kernel
theorem dX9_init_68 : decode cX9_init 68 = .ok (.bipush 6, 2) := by decide +kernel
theorem dX9_init_70 : decode cX9_init 70 = .ok (.iastore, 1) := by decide +kernel
theorem dX9_init_71 : decode cX9_init 71 = .ok (.aload_n 0, 1) := by decide +kernel
theorem dX9_init_72 : decode cX9_init 72 = .ok (.getfield 7, 3) := by decide +kernel
theorem dX9_init_75 : decode cX9_init 75 = .ok (.bipush 6, 2) := by decide +kernel
theorem dX9_init_77 : decode cX9_init 77 = .ok (.iconst (-1), 1) := by decide +kernel
theorem dX9_init_78 : decode cX9_init 78 = .ok (.iastore, 1) := by decide +kernel
theorem dX9_init_79 : decode cX9_init 79 = .ok (.return_, 1) := by decide +kernel
theorem dX9_thrown_0 : decode cX9_thrown 0 = .ok (.aload_n 0, 1) := by decide +kernel
theorem dX9_thrown_1 : decode cX9_thrown 1 = .ok (.getfield 25, 3) := by decide +kernel
theorem dX9_thrown_4 : decode cX9_thrown 4 = .ok (.ireturn, 1) := by decide +kernel
theorem dX9_refused_0 : decode cX9_refused 0 = .ok (.aload_n 0, 1) := by decide +kernel
theorem dX9_refused_1 : decode cX9_refused 1 = .ok (.iload_n 1, 1) := by decide +kernel
theorem dX9_refused_2 : decode cX9_refused 2 = .ok (.putfield 25, 3) := by decide +kernel
theorem dX9_refused_5 : decode cX9_refused 5 = .ok (.iload_n 1, 1) := by decide +kernel
theorem dX9_refused_6 : decode cX9_refused 6 = .ok (.ifCond .le 7, 3) := by decide +kernel
theorem dX9_refused_9 : decode cX9_refused 9 = .ok (.iconst 1, 1) := by decide +kernel
theorem dX9_refused_10 : decode cX9_refused 10 = .ok (.goto 4, 3) := by decide +kernel
theorem dX9_refused_13 : decode cX9_refused 13 = .ok (.iconst 0, 1) := by decide +kernel
theorem dX9_refused_14 : decode cX9_refused 14 = .ok (.ireturn, 1) := by decide +kernel
theorem dX9_in_0 : decode cX9_in 0 = .ok (.iload_n 0, 1) := by decide +kernel
theorem dX9_in_1 : decode cX9_in 1 = .ok (.iload_n 1, 1) := by decide +kernel
theorem dX9_in_2 : decode cX9_in 2 = .ok (.if_icmp .lt 12, 3) := by decide +kernel
theorem dX9_in_5 : decode cX9_in 5 = .ok (.iload_n 0, 1) := by decide +kernel
theorem dX9_in_6 : decode cX9_in 6 = .ok (.iload_n 2, 1) := by decide +kernel
theorem dX9_in_7 : decode cX9_in 7 = .ok (.if_icmp .gt 7, 3) := by decide +kernel
theorem dX9_in_10 : decode cX9_in 10 = .ok (.iconst 1, 1) := by decide +kernel
theorem dX9_in_11 : decode cX9_in 11 = .ok (.goto 4, 3) := by decide +kernel
theorem dX9_in_14 : decode cX9_in 14 = .ok (.iconst 0, 1) := by decide +kernel
theorem dX9_in_15 : decode cX9_in 15 = .ok (.ireturn, 1) := by decide +kernel
theorem dX9_saves_0 : decode cX9_saves 0 = .ok (.aload_n 0, 1) := by decide +kernel
theorem dX9_saves_1 : decode cX9_saves 1 = .ok (.getfield 29, 3) := by decide +kernel
theorem dX9_saves_4 : decode cX9_saves 4 = .ok (.iconst 4, 1) := by decide +kernel
theorem dX9_saves_5 : decode cX9_saves 5 = .ok (.if_icmp .ne 44, 3) := by decide +kernel
theorem dX9_saves_8 : decode cX9_saves 8 = .ok (.iconst 0, 1) := by decide +kernel
theorem dX9_saves_9 : decode cX9_saves 9 = .ok (.istore_n 1, 1) := by decide +kernel
theorem dX9_saves_10 : decode cX9_saves 10 = .ok (.iload_n 1, 1) := by decide +kernel
theorem dX9_saves_11 : decode cX9_saves 11 = .ok (.sipush 1143, 3) := by decide +kernel
theorem dX9_saves_14 : decode cX9_saves 14 = .ok (.if_icmp .ge 25, 3) := by decide +kernel
theorem dX9_saves_17 : decode cX9_saves 17 = .ok (.aload_n 0, 1) := by decide +kernel
theorem dX9_saves_18 : decode cX9_saves 18 = .ok (.getfield 13, 3) := by decide +kernel
theorem dX9_saves_21 : decode cX9_saves 21 = .ok (.iload_n 1, 1) := by decide +kernel
theorem dX9_saves_22 : decode cX9_saves 22 = .ok (.aload_n 0, 1) := by decide +kernel
theorem dX9_saves_23 : decode cX9_saves 23 = .ok (.getfield 13, 3) := by decide +kernel
theorem dX9_saves_26 : decode cX9_saves 26 = .ok (.iload_n 1, 1) := by decide +kernel
theorem dX9_saves_27 : decode cX9_saves 27 = .ok (.sipush 381, 3) := by decide +kernel
theorem dX9_saves_30 : decode cX9_saves 30 = .ok (.iadd, 1) := by decide +kernel
theorem dX9_saves_31 : decode cX9_saves 31 = .ok (.iaload, 1) := by decide +kernel
theorem dX9_saves_32 : decode cX9_saves 32 = .ok (.iastore, 1) := by decide +kernel
theorem dX9_saves_33 : decode cX9_saves 33 = .ok (.iinc 1 1, 3) := by decide +kernel
theorem dX9_saves_36 : decode cX9_saves 36 = .ok (.goto (-26), 3) := by decide +kernel
theorem dX9_saves_39 : decode cX9_saves 39 = .ok (.aload_n 0, 1) := by decide +kernel
theorem dX9_saves_40 : decode cX9_saves 40 = .ok (.dup, 1) := by decide +kernel
theorem dX9_saves_41 : decode cX9_saves 41 = .ok (.getfield 29, 3) := by decide +kernel
theorem dX9_saves_44 : decode cX9_saves 44 = .ok (.iconst 1, 1) := by decide +kernel
theorem dX9_saves_45 : decode cX9_saves 45 = .ok (.isub, 1) := by decide +kernel
theorem dX9_saves_46 : decode cX9_saves 46 = .ok (.putfield 29, 3) := by decide +kernel
theorem dX9_saves_49 : decode cX9_saves 49 = .ok (.iconst 0, 1) := by decide +kernel
theorem dX9_saves_50 : decode cX9_saves 50 = .ok (.istore_n 1, 1) := by decide +kernel
theorem dX9_saves_51 : decode cX9_saves 51 = .ok (.iload_n 1, 1) := by decide +kernel
theorem dX9_saves_52 : decode cX9_saves 52 = .ok (.sipush 381, 3) := by decide +kernel
theorem dX9_saves_55 : decode cX9_saves 55 = .ok (.if_icmp .ge 30, 3) := by decide +kernel
theorem dX9_saves_58 : decode cX9_saves 58 = .ok (.aload_n 0, 1) := by decide +kernel
theorem dX9_saves_59 : decode cX9_saves 59 = .ok (.getfield 13, 3) := by decide +kernel
theorem dX9_saves_62 : decode cX9_saves 62 = .ok (.sipush 381, 3) := by decide +kernel
theorem dX9_saves_65 : decode cX9_saves 65 = .ok (.aload_n 0, 1) := by decide +kernel
theorem dX9_saves_66 : decode cX9_saves 66 = .ok (.getfield 29, 3) := by decide +kernel
theorem dX9_saves_69 : decode cX9_saves 69 = .ok (.imul, 1) := by decide +kernel
theorem dX9_saves_70 : decode cX9_saves 70 = .ok (.iload_n 1, 1) := by decide +kernel
theorem dX9_saves_71 : decode cX9_saves 71 = .ok (.iadd, 1) := by decide +kernel
theorem dX9_saves_72 : decode cX9_saves 72 = .ok (.aload_n 0, 1) := by decide +kernel
theorem dX9_saves_73 : decode cX9_saves 73 = .ok (.getfield 7, 3) := by decide +kernel
theorem dX9_saves_76 : decode cX9_saves 76 = .ok (.iload_n 1, 1) := by decide +kernel
theorem dX9_saves_77 : decode cX9_saves 77 = .ok (.iaload, 1) := by decide +kernel
theorem dX9_saves_78 : decode cX9_saves 78 = .ok (.iastore, 1) := by decide +kernel
theorem dX9_saves_79 : decode cX9_saves 79 = .ok (.iinc 1 1, 3) := by decide +kernel
theorem dX9_saves_82 : decode cX9_saves 82 = .ok (.goto (-31), 3) := by decide +kernel
theorem dX9_saves_85 : decode cX9_saves 85 = .ok (.aload_n 0, 1) := by decide +kernel
theorem dX9_saves_86 : decode cX9_saves 86 = .ok (.dup, 1) := by decide +kernel
theorem dX9_saves_87 : decode cX9_saves 87 = .ok (.getfield 29, 3) := by decide +kernel
theorem dX9_saves_90 : decode cX9_saves 90 = .ok (.iconst 1, 1) := by decide +kernel
theorem dX9_saves_91 : decode cX9_saves 91 = .ok (.iadd, 1) := by decide +kernel
theorem dX9_saves_92 : decode cX9_saves 92 = .ok (.putfield 29, 3) := by decide +kernel
theorem dX9_saves_95 : decode cX9_saves 95 = .ok (.return_, 1) := by decide +kernel
theorem dX9_undo_0 : decode cX9_undo 0 = .ok (.aload_n 0, 1) := by decide +kernel
theorem dX9_undo_1 : decode cX9_undo 1 = .ok (.aload_n 0, 1) := by decide +kernel
theorem dX9_undo_2 : decode cX9_undo 2 = .ok (.getfield 29, 3) := by decide +kernel
theorem dX9_undo_5 : decode cX9_undo 5 = .ok (.ifCond .ne 7, 3) := by decide +kernel
theorem dX9_undo_8 : decode cX9_undo 8 = .ok (.iconst 1, 1) := by decide +kernel
theorem dX9_undo_9 : decode cX9_undo 9 = .ok (.goto 4, 3) := by decide +kernel
theorem dX9_undo_12 : decode cX9_undo 12 = .ok (.iconst 0, 1) := by decide +kernel
theorem dX9_undo_13 : decode cX9_undo 13 = .ok (.invokevirtual 32, 3) := by decide +kernel
theorem dX9_undo_16 : decode cX9_undo 16 = .ok (.ifCond .eq 5, 3) := by decide +kernel
theorem dX9_undo_19 : decode cX9_undo 19 = .ok (.iconst 0, 1) := by decide +kernel
theorem dX9_undo_20 : decode cX9_undo 20 = .ok (.ireturn, 1) := by decide +kernel
theorem dX9_undo_21 : decode cX9_undo 21 = .ok (.aload_n 0, 1) := by decide +kernel
theorem dX9_undo_22 : decode cX9_undo 22 = .ok (.dup, 1) := by decide +kernel
theorem dX9_undo_23 : decode cX9_undo 23 = .ok (.getfield 29, 3) := by decide +kernel
theorem dX9_undo_26 : decode cX9_undo 26 = .ok (.iconst 1, 1) := by decide +kernel
theorem dX9_undo_27 : decode cX9_undo 27 = .ok (.isub, 1) := by decide +kernel
theorem dX9_undo_28 : decode cX9_undo 28 = .ok (.putfield 29, 3) := by decide +kernel
theorem dX9_undo_31 : decode cX9_undo 31 = .ok (.iconst 0, 1) := by decide +kernel
theorem dX9_undo_32 : decode cX9_undo 32 = .ok (.istore_n 1, 1) := by decide +kernel
theorem dX9_undo_33 : decode cX9_undo 33 = .ok (.iload_n 1, 1) := by decide +kernel
theorem dX9_undo_34 : decode cX9_undo 34 = .ok (.sipush 381, 3) := by decide +kernel
theorem dX9_undo_37 : decode cX9_undo 37 = .ok (.if_icmp .ge 30, 3) := by decide +kernel
theorem dX9_undo_40 : decode cX9_undo 40 = .ok (.aload_n 0, 1) := by decide +kernel
theorem dX9_undo_41 : decode cX9_undo 41 = .ok (.getfield 7, 3) := by decide +kernel
theorem dX9_undo_44 : decode cX9_undo 44 = .ok (.iload_n 1, 1) := by decide +kernel
theorem dX9_undo_45 : decode cX9_undo 45 = .ok (.aload_n 0, 1) := by decide +kernel
theorem dX9_undo_46 : decode cX9_undo 46 = .ok (.getfield 13, 3) := by decide +kernel
theorem dX9_undo_49 : decode cX9_undo 49 = .ok (.sipush 381, 3) := by decide +kernel
theorem dX9_undo_52 : decode cX9_undo 52 = .ok (.aload_n 0, 1) := by decide +kernel
theorem dX9_undo_53 : decode cX9_undo 53 = .ok (.getfield 29, 3) := by decide +kernel
theorem dX9_undo_56 : decode cX9_undo 56 = .ok (.imul, 1) := by decide +kernel
theorem dX9_undo_57 : decode cX9_undo 57 = .ok (.iload_n 1, 1) := by decide +kernel
theorem dX9_undo_58 : decode cX9_undo 58 = .ok (.iadd, 1) := by decide +kernel
theorem dX9_undo_59 : decode cX9_undo 59 = .ok (.iaload, 1) := by decide +kernel
theorem dX9_undo_60 : decode cX9_undo 60 = .ok (.iastore, 1) := by decide +kernel
theorem dX9_undo_61 : decode cX9_undo 61 = .ok (.iinc 1 1, 3) := by decide +kernel
theorem dX9_undo_64 : decode cX9_undo 64 = .ok (.goto (-31), 3) := by decide +kernel
theorem dX9_undo_67 : decode cX9_undo 67 = .ok (.aload_n 0, 1) := by decide +kernel
theorem dX9_undo_68 : decode cX9_undo 68 = .ok (.getfield 29, 3) := by decide +kernel
theorem dX9_undo_71 : decode cX9_undo 71 = .ok (.ireturn, 1) := by decide +kernel
theorem dX9_keeps_0 : decode cX9_keeps 0 = .ok (.iconst 0, 1) := by decide +kernel
theorem dX9_keeps_1 : decode cX9_keeps 1 = .ok (.istore_n 1, 1) := by decide +kernel
theorem dX9_keeps_2 : decode cX9_keeps 2 = .ok (.iload_n 1, 1) := by decide +kernel
theorem dX9_keeps_3 : decode cX9_keeps 3 = .ok (.sipush 381, 3) := by decide +kernel
theorem dX9_keeps_6 : decode cX9_keeps 6 = .ok (.if_icmp .ge 21, 3) := by decide +kernel
theorem dX9_keeps_9 : decode cX9_keeps 9 = .ok (.aload_n 0, 1) := by decide +kernel
theorem dX9_keeps_10 : decode cX9_keeps 10 = .ok (.getfield 16, 3) := by decide +kernel
theorem dX9_keeps_13 : decode cX9_keeps 13 = .ok (.iload_n 1, 1) := by decide +kernel
theorem dX9_keeps_14 : decode cX9_keeps 14 = .ok (.aload_n 0, 1) := by decide +kernel
theorem dX9_keeps_15 : decode cX9_keeps 15 = .ok (.getfield 7, 3) := by decide +kernel
theorem dX9_keeps_18 : decode cX9_keeps 18 = .ok (.iload_n 1, 1) := by decide +kernel
theorem dX9_keeps_19 : decode cX9_keeps 19 = .ok (.iaload, 1) := by decide +kernel
theorem dX9_keeps_20 : decode cX9_keeps 20 = .ok (.iastore, 1) := by decide +kernel
theorem dX9_keeps_21 : decode cX9_keeps 21 = .ok (.iinc 1 1, 3) := by decide +kernel
theorem dX9_keeps_24 : decode cX9_keeps 24 = .ok (.goto (-22), 3) := by decide +kernel
theorem dX9_keeps_27 : decode cX9_keeps 27 = .ok (.return_, 1) := by decide +kernel
theorem dX9_takesBack_0 : decode cX9_takesBack 0 = .ok (.iconst 0, 1) := by decide +kernel
theorem dX9_takesBack_1 : decode cX9_takesBack 1 = .ok (.istore_n 1, 1) := by decide +kernel
theorem dX9_takesBack_2 : decode cX9_takesBack 2 = .ok (.iload_n 1, 1) := by decide +kernel
theorem dX9_takesBack_3 : decode cX9_takesBack 3 = .ok (.sipush 381, 3) := by decide +kernel
theorem dX9_takesBack_6 : decode cX9_takesBack 6 = .ok (.if_icmp .ge 21, 3) := by decide +kernel
theorem dX9_takesBack_9 : decode cX9_takesBack 9 = .ok (.aload_n 0, 1) := by decide +kernel
theorem dX9_takesBack_10 : decode cX9_takesBack 10 = .ok (.getfield 7, 3) := by decide +kernel
theorem dX9_takesBack_13 : decode cX9_takesBack 13 = .ok (.iload_n 1, 1) := by decide +kernel
theorem dX9_takesBack_14 : decode cX9_takesBack 14 = .ok (.aload_n 0, 1) := by decide +kernel
theorem dX9_takesBack_15 : decode cX9_takesBack 15 = .ok (.getfield 16, 3) := by decide +kernel
theorem dX9_takesBack_18 : decode cX9_takesBack 18 = .ok (.iload_n 1, 1) := by decide +kernel
theorem dX9_takesBack_19 : decode cX9_takesBack 19 = .ok (.iaload, 1) := by decide +kernel
theorem dX9_takesBack_20 : decode cX9_takesBack 20 = .ok (.iastore, 1) := by decide +kernel
theorem dX9_takesBack_21 : decode cX9_takesBack 21 = .ok (.iinc 1 1, 3) := by decide +kernel
theorem dX9_takesBack_24 : decode cX9_takesBack 24 = .ok (.goto (-22), 3) := by decide +kernel
theorem dX9_takesBack_27 : decode cX9_takesBack 27 = .ok (.return_, 1) := by decide +kernel
theorem dX9_isSource_0 : decode cX9_isSource 0 = .ok (.iload_n 1, 1) := by decide +kernel
theorem dX9_isSource_1 : decode cX9_isSource 1 = .ok (.iconst 0, 1) := by decide +kernel
theorem dX9_isSource_2 : decode cX9_isSource 2 = .ok (.aload_n 0, 1) := by decide +kernel
theorem dX9_isSource_3 : decode cX9_isSource 3 = .ok (.getfield 7, 3) := by decide +kernel
theorem dX9_isSource_6 : decode cX9_isSource 6 = .ok (.bipush 8, 2) := by decide +kernel
theorem dX9_isSource_8 : decode cX9_isSource 8 = .ok (.iaload, 1) := by decide +kernel
theorem dX9_isSource_9 : decode cX9_isSource 9 = .ok (.iconst 1, 1) := by decide +kernel
theorem dX9_isSource_10 : decode cX9_isSource 10 = .ok (.isub, 1) := by decide +kernel
theorem dX9_isSource_11 : decode cX9_isSource 11 = .ok (.invokestatic 36, 3) := by decide +kernel
theorem dX9_isSource_14 : decode cX9_isSource 14 = .ok (.ireturn, 1) := by decide +kernel
theorem dX9_at_0 : decode cX9_at 0 = .ok (.bipush 93, 2) := by decide +kernel
theorem dX9_at_2 : decode cX9_at 2 = .ok (.bipush 24, 2) := by decide +kernel
theorem dX9_at_4 : decode cX9_at 4 = .ok (.iload_n 0, 1) := by decide +kernel
theorem dX9_at_5 : decode cX9_at 5 = .ok (.imul, 1) := by decide +kernel
theorem dX9_at_6 : decode cX9_at 6 = .ok (.iadd, 1) := by decide +kernel
theorem dX9_at_7 : decode cX9_at 7 = .ok (.ireturn, 1) := by decide +kernel
theorem dX9_of_0 : decode cX9_of 0 = .ok (.aload_n 0, 1) := by decide +kernel
theorem dX9_of_1 : decode cX9_of 1 = .ok (.getfield 7, 3) := by decide +kernel
theorem dX9_of_4 : decode cX9_of 4 = .ok (.iload_n 1, 1) := by decide +kernel
theorem dX9_of_5 : decode cX9_of 5 = .ok (.invokestatic 40, 3) := by decide +kernel
theorem dX9_of_8 : decode cX9_of 8 = .ok (.iload_n 2, 1) := by decide +kernel
theorem dX9_of_9 : decode cX9_of 9 = .ok (.iadd, 1) := by decide +kernel
theorem dX9_of_10 : decode cX9_of 10 = .ok (.iaload, 1) := by decide +kernel
theorem dX9_of_11 : decode cX9_of 11 = .ok (.ireturn, 1) := by decide +kernel
theorem dX9_placeOf_0 : decode cX9_placeOf 0 = .ok (.iconst 0, 1) := by decide +kernel
theorem dX9_placeOf_1 : decode cX9_placeOf 1 = .ok (.istore_n 2, 1) := by decide +kernel
theorem dX9_placeOf_2 : decode cX9_placeOf 2 = .ok (.iload_n 2, 1) := by decide +kernel
theorem dX9_placeOf_3 : decode cX9_placeOf 3 = .ok (.aload_n 0, 1) := by decide +kernel
theorem dX9_placeOf_4 : decode cX9_placeOf 4 = .ok (.getfield 7, 3) := by decide +kernel
theorem dX9_placeOf_7 : decode cX9_placeOf 7 = .ok (.bipush 9, 2) := by decide +kernel
theorem dX9_placeOf_9 : decode cX9_placeOf 9 = .ok (.iaload, 1) := by decide +kernel
theorem dX9_placeOf_10 : decode cX9_placeOf 10 = .ok (.if_icmp .ge 24, 3) := by decide +kernel
theorem dX9_placeOf_13 : decode cX9_placeOf 13 = .ok (.aload_n 0, 1) := by decide +kernel
theorem dX9_placeOf_14 : decode cX9_placeOf 14 = .ok (.getfield 7, 3) := by decide +kernel
theorem dX9_placeOf_17 : decode cX9_placeOf 17 = .ok (.bipush 10, 2) := by decide +kernel
theorem dX9_placeOf_19 : decode cX9_placeOf 19 = .ok (.iload_n 2, 1) := by decide +kernel
theorem dX9_placeOf_20 : decode cX9_placeOf 20 = .ok (.iadd, 1) := by decide +kernel
theorem dX9_placeOf_21 : decode cX9_placeOf 21 = .ok (.iaload, 1) := by decide +kernel
theorem dX9_placeOf_22 : decode cX9_placeOf 22 = .ok (.iload_n 1, 1) := by decide +kernel
theorem dX9_placeOf_23 : decode cX9_placeOf 23 = .ok (.if_icmp .ne 5, 3) := by decide +kernel
theorem dX9_placeOf_26 : decode cX9_placeOf 26 = .ok (.iload_n 2, 1) := by decide +kernel
theorem dX9_placeOf_27 : decode cX9_placeOf 27 = .ok (.ireturn, 1) := by decide +kernel
theorem dX9_placeOf_28 : decode cX9_placeOf 28 = .ok (.iinc 2 1, 3) := by decide +kernel
theorem dX9_placeOf_31 : decode cX9_placeOf 31 = .ok (.goto (-29), 3) := by decide +kernel
theorem dX9_placeOf_34 : decode cX9_placeOf 34 = .ok (.iconst (-1), 1) := by decide +kernel
theorem dX9_placeOf_35 : decode cX9_placeOf 35 = .ok (.ireturn, 1) := by decide +kernel
theorem dX9_isPending_0 : decode cX9_isPending 0 = .ok (.aload_n 0, 1) := by decide +kernel
theorem dX9_isPending_1 : decode cX9_isPending 1 = .ok (.iload_n 1, 1) := by decide +kernel
theorem dX9_isPending_2 : decode cX9_isPending 2 = .ok (.iconst 1, 1) := by decide +kernel
theorem dX9_isPending_3 : decode cX9_isPending 3 = .ok (.invokevirtual 44, 3) := by decide +kernel
theorem dX9_isPending_6 : decode cX9_isPending 6 = .ok (.ifCond .ne 21, 3) := by decide +kernel
theorem dX9_isPending_9 : decode cX9_isPending 9 = .ok (.aload_n 0, 1) := by decide +kernel
theorem dX9_isPending_10 : decode cX9_isPending 10 = .ok (.iload_n 1, 1) := by decide +kernel
theorem dX9_isPending_11 : decode cX9_isPending 11 = .ok (.iconst 4, 1) := by decide +kernel
theorem dX9_isPending_12 : decode cX9_isPending 12 = .ok (.invokevirtual 44, 3) := by decide +kernel
theorem dX9_isPending_15 : decode cX9_isPending 15 = .ok (.iconst 1, 1) := by decide +kernel
theorem dX9_isPending_16 : decode cX9_isPending 16 = .ok (.if_icmp .ne 7, 3) := by decide +kernel
theorem dX9_isPending_19 : decode cX9_isPending 19 = .ok (.iconst 1, 1) := by decide +kernel
theorem dX9_isPending_20 : decode cX9_isPending 20 = .ok (.goto 31, 3) := by decide +kernel
theorem dX9_isPending_23 : decode cX9_isPending 23 = .ok (.iconst 0, 1) := by decide +kernel
theorem dX9_isPending_24 : decode cX9_isPending 24 = .ok (.goto 27, 3) := by decide +kernel
theorem dX9_isPending_27 : decode cX9_isPending 27 = .ok (.aload_n 0, 1) := by decide +kernel
theorem dX9_isPending_28 : decode cX9_isPending 28 = .ok (.iload_n 1, 1) := by decide +kernel
theorem dX9_isPending_29 : decode cX9_isPending 29 = .ok (.iconst 5, 1) := by decide +kernel
theorem dX9_isPending_30 : decode cX9_isPending 30 = .ok (.invokevirtual 44, 3) := by decide +kernel
theorem dX9_isPending_33 : decode cX9_isPending 33 = .ok (.iconst 1, 1) := by decide +kernel
theorem dX9_isPending_34 : decode cX9_isPending 34 = .ok (.if_icmp .ne 16, 3) := by decide +kernel
theorem dX9_isPending_37 : decode cX9_isPending 37 = .ok (.aload_n 0, 1) := by decide +kernel
theorem dX9_isPending_38 : decode cX9_isPending 38 = .ok (.iload_n 1, 1) := by decide +kernel
theorem dX9_isPending_39 : decode cX9_isPending 39 = .ok (.invokevirtual 48, 3) := by decide +kernel
theorem dX9_isPending_42 : decode cX9_isPending 42 = .ok (.iconst (-1), 1) := by decide +kernel
theorem dX9_isPending_43 : decode cX9_isPending 43 = .ok (.if_icmp .ne 7, 3) := by decide +kernel
theorem dX9_isPending_46 : decode cX9_isPending 46 = .ok (.iconst 1, 1) := by decide +kernel
theorem dX9_isPending_47 : decode cX9_isPending 47 = .ok (.goto 4, 3) := by decide +kernel
theorem dX9_isPending_50 : decode cX9_isPending 50 = .ok (.iconst 0, 1) := by decide +kernel
theorem dX9_isPending_51 : decode cX9_isPending 51 = .ok (.ireturn, 1) := by decide +kernel
theorem dX9_logs_0 : decode cX9_logs 0 = .ok (.bipush 59, 2) := by decide +kernel
theorem dX9_logs_2 : decode cX9_logs 2 = .ok (.istore 4, 2) := by decide +kernel
theorem dX9_logs_4 : decode cX9_logs 4 = .ok (.iload 4, 2) := by decide +kernel
theorem dX9_logs_6 : decode cX9_logs 6 = .ok (.iconst 2, 1) := by decide +kernel
theorem dX9_logs_7 : decode cX9_logs 7 = .ok (.if_icmp .le 31, 3) := by decide +kernel
theorem dX9_logs_10 : decode cX9_logs 10 = .ok (.aload_n 0, 1) := by decide +kernel
theorem dX9_logs_11 : decode cX9_logs 11 = .ok (.getfield 7, 3) := by decide +kernel
theorem dX9_logs_14 : decode cX9_logs 14 = .ok (.bipush 23, 2) := by decide +kernel
theorem dX9_logs_16 : decode cX9_logs 16 = .ok (.iload 4, 2) := by decide +kernel
theorem dX9_logs_18 : decode cX9_logs 18 = .ok (.iadd, 1) := by decide +kernel
theorem dX9_logs_19 : decode cX9_logs 19 = .ok (.aload_n 0, 1) := by decide +kernel
theorem dX9_logs_20 : decode cX9_logs 20 = .ok (.getfield 7, 3) := by decide +kernel
theorem dX9_logs_23 : decode cX9_logs 23 = .ok (.bipush 23, 2) := by decide +kernel
theorem dX9_logs_25 : decode cX9_logs 25 = .ok (.iload 4, 2) := by decide +kernel
theorem dX9_logs_27 : decode cX9_logs 27 = .ok (.iadd, 1) := by decide +kernel
theorem dX9_logs_28 : decode cX9_logs 28 = .ok (.iconst 3, 1) := by decide +kernel
theorem dX9_logs_29 : decode cX9_logs 29 = .ok (.isub, 1) := by decide +kernel
theorem dX9_logs_30 : decode cX9_logs 30 = .ok (.iaload, 1) := by decide +kernel
theorem dX9_logs_31 : decode cX9_logs 31 = .ok (.iastore, 1) := by decide +kernel
theorem dX9_logs_32 : decode cX9_logs 32 = .ok (.iinc 4 (-1), 3) := by decide +kernel
theorem dX9_logs_35 : decode cX9_logs 35 = .ok (.goto (-31), 3) := by decide +kernel
theorem dX9_logs_38 : decode cX9_logs 38 = .ok (.aload_n 0, 1) := by decide +kernel
theorem dX9_logs_39 : decode cX9_logs 39 = .ok (.getfield 7, 3) := by decide +kernel
theorem dX9_logs_42 : decode cX9_logs 42 = .ok (.bipush 23, 2) := by decide +kernel
theorem dX9_logs_44 : decode cX9_logs 44 = .ok (.iload_n 1, 1) := by decide +kernel
theorem dX9_logs_45 : decode cX9_logs 45 = .ok (.iastore, 1) := by decide +kernel
theorem dX9_logs_46 : decode cX9_logs 46 = .ok (.aload_n 0, 1) := by decide +kernel
theorem dX9_logs_47 : decode cX9_logs 47 = .ok (.getfield 7, 3) := by decide +kernel
theorem dX9_logs_50 : decode cX9_logs 50 = .ok (.bipush 24, 2) := by decide +kernel
theorem dX9_logs_52 : decode cX9_logs 52 = .ok (.iload_n 2, 1) := by decide +kernel
theorem dX9_logs_53 : decode cX9_logs 53 = .ok (.iastore, 1) := by decide +kernel
theorem dX9_logs_54 : decode cX9_logs 54 = .ok (.aload_n 0, 1) := by decide +kernel
theorem dX9_logs_55 : decode cX9_logs 55 = .ok (.getfield 7, 3) := by decide +kernel
theorem dX9_logs_58 : decode cX9_logs 58 = .ok (.bipush 25, 2) := by decide +kernel
theorem dX9_logs_60 : decode cX9_logs 60 = .ok (.iload_n 3, 1) := by decide +kernel
theorem dX9_logs_61 : decode cX9_logs 61 = .ok (.iastore, 1) := by decide +kernel
theorem dX9_logs_62 : decode cX9_logs 62 = .ok (.aload_n 0, 1) := by decide +kernel
theorem dX9_logs_63 : decode cX9_logs 63 = .ok (.getfield 7, 3) := by decide +kernel
theorem dX9_logs_66 : decode cX9_logs 66 = .ok (.bipush 22, 2) := by decide +kernel
theorem dX9_logs_68 : decode cX9_logs 68 = .ok (.dup2, 1) := by decide +kernel
theorem dX9_logs_69 : decode cX9_logs 69 = .ok (.iaload, 1) := by decide +kernel
theorem dX9_logs_70 : decode cX9_logs 70 = .ok (.aload_n 0, 1) := by decide +kernel
theorem dX9_logs_71 : decode cX9_logs 71 = .ok (.getfield 7, 3) := by decide +kernel
theorem dX9_logs_74 : decode cX9_logs 74 = .ok (.bipush 22, 2) := by decide +kernel
theorem dX9_logs_76 : decode cX9_logs 76 = .ok (.iaload, 1) := by decide +kernel
theorem dX9_logs_77 : decode cX9_logs 77 = .ok (.bipush 20, 2) := by decide +kernel
theorem dX9_logs_79 : decode cX9_logs 79 = .ok (.if_icmp .ge 7, 3) := by decide +kernel
theorem dX9_logs_82 : decode cX9_logs 82 = .ok (.iconst 1, 1) := by decide +kernel
theorem dX9_logs_83 : decode cX9_logs 83 = .ok (.goto 4, 3) := by decide +kernel
theorem dX9_logs_86 : decode cX9_logs 86 = .ok (.iconst 0, 1) := by decide +kernel
theorem dX9_logs_87 : decode cX9_logs 87 = .ok (.iadd, 1) := by decide +kernel
theorem dX9_logs_88 : decode cX9_logs 88 = .ok (.iastore, 1) := by decide +kernel
theorem dX9_logs_89 : decode cX9_logs 89 = .ok (.return_, 1) := by decide +kernel
theorem dX9_badSource_0 : decode cX9_badSource 0 = .ok (.iload_n 1, 1) := by decide +kernel
theorem dX9_badSource_1 : decode cX9_badSource 1 = .ok (.iconst 1, 1) := by decide +kernel
theorem dX9_badSource_2 : decode cX9_badSource 2 = .ok (.bipush 15, 2) := by decide +kernel
theorem dX9_badSource_4 : decode cX9_badSource 4 = .ok (.invokestatic 36, 3) := by decide +kernel
theorem dX9_badSource_7 : decode cX9_badSource 7 = .ok (.ifCond .eq 23, 3) := by decide +kernel
theorem dX9_badSource_10 : decode cX9_badSource 10 = .ok (.iload_n 2, 1) := by decide +kernel
theorem dX9_badSource_11 : decode cX9_badSource 11 = .ok (.iconst 0, 1) := by decide +kernel
theorem dX9_badSource_12 : decode cX9_badSource 12 = .ok (.iconst 1, 1) := by decide +kernel
theorem dX9_badSource_13 : decode cX9_badSource 13 = .ok (.invokestatic 36, 3) := by decide +kernel
theorem dX9_badSource_16 : decode cX9_badSource 16 = .ok (.ifCond .eq 14, 3) := by decide +kernel
theorem dX9_badSource_19 : decode cX9_badSource 19 = .ok (.iload_n 3, 1) := by decide +kernel
theorem dX9_badSource_20 : decode cX9_badSource 20 = .ok (.iconst 1, 1) := by decide +kernel
theorem dX9_badSource_21 : decode cX9_badSource 21 = .ok (.sipush 500, 3) := by decide +kernel
theorem dX9_badSource_24 : decode cX9_badSource 24 = .ok (.invokestatic 36, 3) := by decide +kernel
theorem dX9_badSource_27 : decode cX9_badSource 27 = .ok (.ifCond .ne 7, 3) := by decide +kernel
theorem dX9_badSource_30 : decode cX9_badSource 30 = .ok (.iconst 2, 1) := by decide +kernel
theorem dX9_badSource_31 : decode cX9_badSource 31 = .ok (.goto 20, 3) := by decide +kernel
theorem dX9_badSource_34 : decode cX9_badSource 34 = .ok (.aload_n 0, 1) := by decide +kernel
theorem dX9_badSource_35 : decode cX9_badSource 35 = .ok (.getfield 7, 3) := by decide +kernel
theorem dX9_badSource_38 : decode cX9_badSource 38 = .ok (.bipush 8, 2) := by decide +kernel
theorem dX9_badSource_40 : decode cX9_badSource 40 = .ok (.iaload, 1) := by decide +kernel
theorem dX9_badSource_41 : decode cX9_badSource 41 = .ok (.bipush 12, 2) := by decide +kernel
theorem dX9_badSource_43 : decode cX9_badSource 43 = .ok (.if_icmp .ne 7, 3) := by decide +kernel
theorem dX9_badSource_46 : decode cX9_badSource 46 = .ok (.iconst 3, 1) := by decide +kernel
theorem dX9_badSource_47 : decode cX9_badSource 47 = .ok (.goto 4, 3) := by decide +kernel
theorem dX9_badSource_50 : decode cX9_badSource 50 = .ok (.iconst 0, 1) := by decide +kernel
theorem dX9_badSource_51 : decode cX9_badSource 51 = .ok (.ireturn, 1) := by decide +kernel
theorem dX9_comes_0 : decode cX9_comes 0 = .ok (.aload_n 0, 1) := by decide +kernel
theorem dX9_comes_1 : decode cX9_comes 1 = .ok (.getfield 7, 3) := by decide +kernel
theorem dX9_comes_4 : decode cX9_comes 4 = .ok (.bipush 8, 2) := by decide +kernel
theorem dX9_comes_6 : decode cX9_comes 6 = .ok (.iaload, 1) := by decide +kernel
theorem dX9_comes_7 : decode cX9_comes 7 = .ok (.invokestatic 40, 3) := by decide +kernel
theorem dX9_comes_10 : decode cX9_comes 10 = .ok (.istore 4, 2) := by decide +kernel
theorem dX9_comes_12 : decode cX9_comes 12 = .ok (.iconst 0, 1) := by decide +kernel
theorem dX9_comes_13 : decode cX9_comes 13 = .ok (.istore 5, 2) := by decide +kernel
theorem dX9_comes_15 : decode cX9_comes 15 = .ok (.iload 5, 2) := by decide +kernel
theorem dX9_comes_17 : decode cX9_comes 17 = .ok (.bipush 24, 2) := by decide +kernel
theorem dX9_comes_19 : decode cX9_comes 19 = .ok (.if_icmp .ge 20, 3) := by decide +kernel
theorem dX9_comes_22 : decode cX9_comes 22 = .ok (.aload_n 0, 1) := by decide +kernel
theorem dX9_comes_23 : decode cX9_comes 23 = .ok (.getfield 7, 3) := by decide +kernel
theorem dX9_comes_26 : decode cX9_comes 26 = .ok (.iload 4, 2) := by decide +kernel
theorem dX9_comes_28 : decode cX9_comes 28 = .ok (.iload 5, 2) := by decide +kernel
theorem dX9_comes_30 : decode cX9_comes 30 = .ok (.iadd, 1) := by decide +kernel
theorem dX9_comes_31 : decode cX9_comes 31 = .ok (.iconst 0, 1) := by decide +kernel
theorem dX9_comes_32 : decode cX9_comes 32 = .ok (.iastore, 1) := by decide +kernel
theorem dX9_comes_33 : decode cX9_comes 33 = .ok (.iinc 5 1, 3) := by decide +kernel
theorem dX9_comes_36 : decode cX9_comes 36 = .ok (.goto (-21), 3) := by decide +kernel
theorem dX9_comes_39 : decode cX9_comes 39 = .ok (.aload_n 0, 1) := by decide +kernel
theorem dX9_comes_40 : decode cX9_comes 40 = .ok (.getfield 7, 3) := by decide +kernel
theorem dX9_comes_43 : decode cX9_comes 43 = .ok (.iload 4, 2) := by decide +kernel
theorem dX9_comes_45 : decode cX9_comes 45 = .ok (.iconst 0, 1) := by decide +kernel
theorem dX9_comes_46 : decode cX9_comes 46 = .ok (.iadd, 1) := by decide +kernel
theorem dX9_comes_47 : decode cX9_comes 47 = .ok (.iload_n 1, 1) := by decide +kernel
theorem dX9_comes_48 : decode cX9_comes 48 = .ok (.iastore, 1) := by decide +kernel
theorem dX9_comes_49 : decode cX9_comes 49 = .ok (.aload_n 0, 1) := by decide +kernel
theorem dX9_comes_50 : decode cX9_comes 50 = .ok (.getfield 7, 3) := by decide +kernel
theorem dX9_comes_53 : decode cX9_comes 53 = .ok (.iload 4, 2) := by decide +kernel
theorem dX9_comes_55 : decode cX9_comes 55 = .ok (.iconst 1, 1) := by decide +kernel
theorem dX9_comes_56 : decode cX9_comes 56 = .ok (.iadd, 1) := by decide +kernel
theorem dX9_comes_57 : decode cX9_comes 57 = .ok (.iload_n 2, 1) := by decide +kernel
theorem dX9_comes_58 : decode cX9_comes 58 = .ok (.iastore, 1) := by decide +kernel
theorem dX9_comes_59 : decode cX9_comes 59 = .ok (.aload_n 0, 1) := by decide +kernel
theorem dX9_comes_60 : decode cX9_comes 60 = .ok (.getfield 7, 3) := by decide +kernel
theorem dX9_comes_63 : decode cX9_comes 63 = .ok (.iload 4, 2) := by decide +kernel
theorem dX9_comes_65 : decode cX9_comes 65 = .ok (.iconst 2, 1) := by decide +kernel
theorem dX9_comes_66 : decode cX9_comes 66 = .ok (.iadd, 1) := by decide +kernel
theorem dX9_comes_67 : decode cX9_comes 67 = .ok (.iload_n 3, 1) := by decide +kernel
theorem dX9_comes_68 : decode cX9_comes 68 = .ok (.iastore, 1) := by decide +kernel
theorem dX9_comes_69 : decode cX9_comes 69 = .ok (.aload_n 0, 1) := by decide +kernel
theorem dX9_comes_70 : decode cX9_comes 70 = .ok (.getfield 7, 3) := by decide +kernel
theorem dX9_comes_73 : decode cX9_comes 73 = .ok (.iload 4, 2) := by decide +kernel
theorem dX9_comes_75 : decode cX9_comes 75 = .ok (.iconst 3, 1) := by decide +kernel
theorem dX9_comes_76 : decode cX9_comes 76 = .ok (.iadd, 1) := by decide +kernel
theorem dX9_comes_77 : decode cX9_comes 77 = .ok (.iconst 1, 1) := by decide +kernel
theorem dX9_comes_78 : decode cX9_comes 78 = .ok (.iastore, 1) := by decide +kernel
theorem dX9_comes_79 : decode cX9_comes 79 = .ok (.aload_n 0, 1) := by decide +kernel
theorem dX9_comes_80 : decode cX9_comes 80 = .ok (.getfield 7, 3) := by decide +kernel
theorem dX9_comes_83 : decode cX9_comes 83 = .ok (.iload 4, 2) := by decide +kernel
theorem dX9_comes_85 : decode cX9_comes 85 = .ok (.bipush 20, 2) := by decide +kernel
theorem dX9_comes_87 : decode cX9_comes 87 = .ok (.iadd, 1) := by decide +kernel
theorem dX9_comes_88 : decode cX9_comes 88 = .ok (.iconst (-1), 1) := by decide +kernel
theorem dX9_comes_89 : decode cX9_comes 89 = .ok (.iastore, 1) := by decide +kernel
theorem dX9_comes_90 : decode cX9_comes 90 = .ok (.aload_n 0, 1) := by decide +kernel
theorem dX9_comes_91 : decode cX9_comes 91 = .ok (.getfield 7, 3) := by decide +kernel
theorem dX9_comes_94 : decode cX9_comes 94 = .ok (.iload 4, 2) := by decide +kernel
theorem dX9_comes_96 : decode cX9_comes 96 = .ok (.bipush 21, 2) := by decide +kernel
theorem dX9_comes_98 : decode cX9_comes 98 = .ok (.iadd, 1) := by decide +kernel
theorem dX9_comes_99 : decode cX9_comes 99 = .ok (.iconst (-1), 1) := by decide +kernel
theorem dX9_comes_100 : decode cX9_comes 100 = .ok (.iastore, 1) := by decide +kernel
theorem dX9_comes_101 : decode cX9_comes 101 = .ok (.aload_n 0, 1) := by decide +kernel
theorem dX9_comes_102 : decode cX9_comes 102 = .ok (.getfield 7, 3) := by decide +kernel
theorem dX9_comes_105 : decode cX9_comes 105 = .ok (.bipush 8, 2) := by decide +kernel
theorem dX9_comes_107 : decode cX9_comes 107 = .ok (.dup2, 1) := by decide +kernel
theorem dX9_comes_108 : decode cX9_comes 108 = .ok (.iaload, 1) := by decide +kernel
theorem dX9_comes_109 : decode cX9_comes 109 = .ok (.iconst 1, 1) := by decide +kernel
theorem dX9_comes_110 : decode cX9_comes 110 = .ok (.iadd, 1) := by decide +kernel
theorem dX9_comes_111 : decode cX9_comes 111 = .ok (.iastore, 1) := by decide +kernel
theorem dX9_comes_112 : decode cX9_comes 112 = .ok (.aload_n 0, 1) := by decide +kernel
theorem dX9_comes_113 : decode cX9_comes 113 = .ok (.getfield 7, 3) := by decide +kernel
theorem dX9_comes_116 : decode cX9_comes 116 = .ok (.bipush 8, 2) := by decide +kernel
theorem dX9_comes_118 : decode cX9_comes 118 = .ok (.iaload, 1) := by decide +kernel
theorem dX9_comes_119 : decode cX9_comes 119 = .ok (.iconst 1, 1) := by decide +kernel
theorem dX9_comes_120 : decode cX9_comes 120 = .ok (.isub, 1) := by decide +kernel
theorem dX9_comes_121 : decode cX9_comes 121 = .ok (.ireturn, 1) := by decide +kernel
theorem dX9_addSource_0 : decode cX9_addSource 0 = .ok (.aload_n 0, 1) := by decide +kernel
theorem dX9_addSource_1 : decode cX9_addSource 1 = .ok (.iload_n 1, 1) := by decide +kernel
theorem dX9_addSource_2 : decode cX9_addSource 2 = .ok (.iload_n 2, 1) := by decide +kernel
theorem dX9_addSource_3 : decode cX9_addSource 3 = .ok (.iload_n 3, 1) := by decide +kernel
theorem dX9_addSource_4 : decode cX9_addSource 4 = .ok (.invokevirtual 51, 3) := by decide +kernel
theorem dX9_addSource_7 : decode cX9_addSource 7 = .ok (.istore 4, 2) := by decide +kernel
theorem dX9_addSource_9 : decode cX9_addSource 9 = .ok (.aload_n 0, 1) := by decide +kernel
theorem dX9_addSource_10 : decode cX9_addSource 10 = .ok (.iload 4, 2) := by decide +kernel
theorem dX9_addSource_12 : decode cX9_addSource 12 = .ok (.ifCond .ne 7, 3) := by decide +kernel
theorem dX9_addSource_15 : decode cX9_addSource 15 = .ok (.iconst 0, 1) := by decide +kernel
theorem dX9_addSource_16 : decode cX9_addSource 16 = .ok (.goto 7, 3) := by decide +kernel
theorem dX9_addSource_19 : decode cX9_addSource 19 = .ok (.iload 4, 2) := by decide +kernel
theorem dX9_addSource_21 : decode cX9_addSource 21 = .ok (.iconst 1, 1) := by decide +kernel
theorem dX9_addSource_22 : decode cX9_addSource 22 = .ok (.isub, 1) := by decide +kernel
theorem dX9_addSource_23 : decode cX9_addSource 23 = .ok (.invokevirtual 32, 3) := by decide +kernel
theorem dX9_addSource_26 : decode cX9_addSource 26 = .ok (.ifCond .eq 5, 3) := by decide +kernel
theorem dX9_addSource_29 : decode cX9_addSource 29 = .ok (.iconst 0, 1) := by decide +kernel
theorem dX9_addSource_30 : decode cX9_addSource 30 = .ok (.ireturn, 1) := by decide +kernel
theorem dX9_addSource_31 : decode cX9_addSource 31 = .ok (.aload_n 0, 1) := by decide +kernel
theorem dX9_addSource_32 : decode cX9_addSource 32 = .ok (.invokevirtual 55, 3) := by decide +kernel
theorem dX9_addSource_35 : decode cX9_addSource 35 = .ok (.aload_n 0, 1) := by decide +kernel
theorem dX9_addSource_36 : decode cX9_addSource 36 = .ok (.iload_n 1, 1) := by decide +kernel
theorem dX9_addSource_37 : decode cX9_addSource 37 = .ok (.iload_n 2, 1) := by decide +kernel
theorem dX9_addSource_38 : decode cX9_addSource 38 = .ok (.iload_n 3, 1) := by decide +kernel
theorem dX9_addSource_39 : decode cX9_addSource 39 = .ok (.invokevirtual 58, 3) := by decide +kernel
theorem dX9_addSource_42 : decode cX9_addSource 42 = .ok (.ireturn, 1) := by decide +kernel
theorem dX9_isValue_0 : decode cX9_isValue 0 = .ok (.iload_n 0, 1) := by decide +kernel
theorem dX9_isValue_1 : decode cX9_isValue 1 = .ok (.lookupswitch 44 #[(0, 27), (1, 35)], 27) := by decide +kernel
theorem dX9_isValue_28 : decode cX9_isValue 28 = .ok (.iload_n 1, 1) := by decide +kernel
theorem dX9_isValue_29 : decode cX9_isValue 29 = .ok (.iconst 1, 1) := by decide +kernel
theorem dX9_isValue_30 : decode cX9_isValue 30 = .ok (.bipush 15, 2) := by decide +kernel
theorem dX9_isValue_32 : decode cX9_isValue 32 = .ok (.invokestatic 36, 3) := by decide +kernel
theorem dX9_isValue_35 : decode cX9_isValue 35 = .ok (.ireturn, 1) := by decide +kernel
theorem dX9_isValue_36 : decode cX9_isValue 36 = .ok (.iload_n 1, 1) := by decide +kernel
theorem dX9_isValue_37 : decode cX9_isValue 37 = .ok (.iconst 1, 1) := by decide +kernel
theorem dX9_isValue_38 : decode cX9_isValue 38 = .ok (.sipush 500, 3) := by decide +kernel
theorem dX9_isValue_41 : decode cX9_isValue 41 = .ok (.invokestatic 36, 3) := by decide +kernel
theorem dX9_isValue_44 : decode cX9_isValue 44 = .ok (.ireturn, 1) := by decide +kernel
theorem dX9_isValue_45 : decode cX9_isValue 45 = .ok (.iload_n 0, 1) := by decide +kernel
theorem dX9_isValue_46 : decode cX9_isValue 46 = .ok (.iconst 2, 1) := by decide +kernel
theorem dX9_isValue_47 : decode cX9_isValue 47 = .ok (.if_icmp .ne 16, 3) := by decide +kernel
theorem dX9_isValue_50 : decode cX9_isValue 50 = .ok (.iload_n 1, 1) := by decide +kernel
theorem dX9_isValue_51 : decode cX9_isValue 51 = .ok (.iconst 0, 1) := by decide +kernel
theorem dX9_isValue_52 : decode cX9_isValue 52 = .ok (.iconst 1, 1) := by decide +kernel
theorem dX9_isValue_53 : decode cX9_isValue 53 = .ok (.invokestatic 36, 3) := by decide +kernel
theorem dX9_isValue_56 : decode cX9_isValue 56 = .ok (.ifCond .eq 7, 3) := by decide +kernel
theorem dX9_isValue_59 : decode cX9_isValue 59 = .ok (.iconst 1, 1) := by decide +kernel
theorem dX9_isValue_60 : decode cX9_isValue 60 = .ok (.goto 4, 3) := by decide +kernel
theorem dX9_isValue_63 : decode cX9_isValue 63 = .ok (.iconst 0, 1) := by decide +kernel
theorem dX9_isValue_64 : decode cX9_isValue 64 = .ok (.ireturn, 1) := by decide +kernel
theorem dX9_isEntered_0 : decode cX9_isEntered 0 = .ok (.aload_n 0, 1) := by decide +kernel
theorem dX9_isEntered_1 : decode cX9_isEntered 1 = .ok (.getfield 7, 3) := by decide +kernel
theorem dX9_isEntered_4 : decode cX9_isEntered 4 = .ok (.bipush 6, 2) := by decide +kernel
theorem dX9_isEntered_6 : decode cX9_isEntered 6 = .ok (.iaload, 1) := by decide +kernel
theorem dX9_isEntered_7 : decode cX9_isEntered 7 = .ok (.iload_n 1, 1) := by decide +kernel
theorem dX9_isEntered_8 : decode cX9_isEntered 8 = .ok (.if_icmp .ne 7, 3) := by decide +kernel
theorem dX9_isEntered_11 : decode cX9_isEntered 11 = .ok (.iconst 1, 1) := by decide +kernel
theorem dX9_isEntered_12 : decode cX9_isEntered 12 = .ok (.goto 4, 3) := by decide +kernel
theorem dX9_isEntered_15 : decode cX9_isEntered 15 = .ok (.iconst 0, 1) := by decide +kernel
theorem dX9_isEntered_16 : decode cX9_isEntered 16 = .ok (.ireturn, 1) := by decide +kernel
theorem dX9_setSource_0 : decode cX9_setSource 0 = .ok (.aload_n 0, 1) := by decide +kernel
theorem dX9_setSource_1 : decode cX9_setSource 1 = .ok (.aload_n 0, 1) := by decide +kernel
theorem dX9_setSource_2 : decode cX9_setSource 2 = .ok (.iload_n 1, 1) := by decide +kernel
theorem dX9_setSource_3 : decode cX9_setSource 3 = .ok (.invokevirtual 61, 3) := by decide +kernel
theorem dX9_setSource_6 : decode cX9_setSource 6 = .ok (.ifCond .ne 7, 3) := by decide +kernel
theorem dX9_setSource_9 : decode cX9_setSource 9 = .ok (.iconst 1, 1) := by decide +kernel
theorem dX9_setSource_10 : decode cX9_setSource 10 = .ok (.goto 42, 3) := by decide +kernel
theorem dX9_setSource_13 : decode cX9_setSource 13 = .ok (.iload_n 2, 1) := by decide +kernel
theorem dX9_setSource_14 : decode cX9_setSource 14 = .ok (.iload_n 3, 1) := by decide +kernel
theorem dX9_setSource_15 : decode cX9_setSource 15 = .ok (.invokestatic 64, 3) := by decide +kernel
theorem dX9_setSource_18 : decode cX9_setSource 18 = .ok (.ifCond .ne 7, 3) := by decide +kernel
theorem dX9_setSource_21 : decode cX9_setSource 21 = .ok (.iconst 2, 1) := by decide +kernel
theorem dX9_setSource_22 : decode cX9_setSource 22 = .ok (.goto 30, 3) := by decide +kernel
theorem dX9_setSource_25 : decode cX9_setSource 25 = .ok (.iload_n 2, 1) := by decide +kernel
theorem dX9_setSource_26 : decode cX9_setSource 26 = .ok (.iconst 2, 1) := by decide +kernel
theorem dX9_setSource_27 : decode cX9_setSource 27 = .ok (.if_icmp .ge 24, 3) := by decide +kernel
theorem dX9_setSource_30 : decode cX9_setSource 30 = .ok (.aload_n 0, 1) := by decide +kernel
theorem dX9_setSource_31 : decode cX9_setSource 31 = .ok (.iload_n 1, 1) := by decide +kernel
theorem dX9_setSource_32 : decode cX9_setSource 32 = .ok (.invokevirtual 48, 3) := by decide +kernel
theorem dX9_setSource_35 : decode cX9_setSource 35 = .ok (.iconst (-1), 1) := by decide +kernel
theorem dX9_setSource_36 : decode cX9_setSource 36 = .ok (.if_icmp .ne 11, 3) := by decide +kernel
theorem dX9_setSource_39 : decode cX9_setSource 39 = .ok (.aload_n 0, 1) := by decide +kernel
theorem dX9_setSource_40 : decode cX9_setSource 40 = .ok (.iload_n 1, 1) := by decide +kernel
theorem dX9_setSource_41 : decode cX9_setSource 41 = .ok (.invokevirtual 68, 3) := by decide +kernel
theorem dX9_setSource_44 : decode cX9_setSource 44 = .ok (.ifCond .eq 7, 3) := by decide +kernel
theorem dX9_setSource_47 : decode cX9_setSource 47 = .ok (.iconst 3, 1) := by decide +kernel
theorem dX9_setSource_48 : decode cX9_setSource 48 = .ok (.goto 4, 3) := by decide +kernel
theorem dX9_setSource_51 : decode cX9_setSource 51 = .ok (.iconst 0, 1) := by decide +kernel
theorem dX9_setSource_52 : decode cX9_setSource 52 = .ok (.invokevirtual 32, 3) := by decide +kernel
theorem dX9_setSource_55 : decode cX9_setSource 55 = .ok (.ifCond .eq 5, 3) := by decide +kernel
theorem dX9_setSource_58 : decode cX9_setSource 58 = .ok (.iconst 0, 1) := by decide +kernel
theorem dX9_setSource_59 : decode cX9_setSource 59 = .ok (.ireturn, 1) := by decide +kernel
theorem dX9_setSource_60 : decode cX9_setSource 60 = .ok (.aload_n 0, 1) := by decide +kernel
theorem dX9_setSource_61 : decode cX9_setSource 61 = .ok (.invokevirtual 55, 3) := by decide +kernel
theorem dX9_setSource_64 : decode cX9_setSource 64 = .ok (.iload_n 1, 1) := by decide +kernel
theorem dX9_setSource_65 : decode cX9_setSource 65 = .ok (.invokestatic 40, 3) := by decide +kernel
theorem dX9_setSource_68 : decode cX9_setSource 68 = .ok (.iload_n 2, 1) := by decide +kernel
theorem dX9_setSource_69 : decode cX9_setSource 69 = .ok (.ifCond .ne 7, 3) := by decide +kernel
theorem dX9_setSource_72 : decode cX9_setSource 72 = .ok (.iconst 0, 1) := by decide +kernel
theorem dX9_setSource_73 : decode cX9_setSource 73 = .ok (.goto 13, 3) := by decide +kernel
theorem dX9_setSource_76 : decode cX9_setSource 76 = .ok (.iload_n 2, 1) := by decide +kernel
theorem dX9_setSource_77 : decode cX9_setSource 77 = .ok (.iconst 1, 1) := by decide +kernel
theorem dX9_setSource_78 : decode cX9_setSource 78 = .ok (.if_icmp .ne 7, 3) := by decide +kernel
theorem dX9_setSource_81 : decode cX9_setSource 81 = .ok (.iconst 2, 1) := by decide +kernel
theorem dX9_setSource_82 : decode cX9_setSource 82 = .ok (.goto 4, 3) := by decide +kernel
theorem dX9_setSource_85 : decode cX9_setSource 85 = .ok (.iconst 3, 1) := by decide +kernel
theorem dX9_setSource_86 : decode cX9_setSource 86 = .ok (.iadd, 1) := by decide +kernel
theorem dX9_setSource_87 : decode cX9_setSource 87 = .ok (.istore 4, 2) := by decide +kernel
theorem dX9_setSource_89 : decode cX9_setSource 89 = .ok (.aload_n 0, 1) := by decide +kernel
theorem dX9_setSource_90 : decode cX9_setSource 90 = .ok (.getfield 7, 3) := by decide +kernel
theorem dX9_setSource_93 : decode cX9_setSource 93 = .ok (.iload 4, 2) := by decide +kernel
theorem dX9_setSource_95 : decode cX9_setSource 95 = .ok (.iaload, 1) := by decide +kernel
theorem dX9_setSource_96 : decode cX9_setSource 96 = .ok (.istore 5, 2) := by decide +kernel
theorem dX9_setSource_98 : decode cX9_setSource 98 = .ok (.aload_n 0, 1) := by decide +kernel
theorem dX9_setSource_99 : decode cX9_setSource 99 = .ok (.getfield 7, 3) := by decide +kernel
theorem dX9_setSource_102 : decode cX9_setSource 102 = .ok (.iload 4, 2) := by decide +kernel
theorem dX9_setSource_104 : decode cX9_setSource 104 = .ok (.iload_n 3, 1) := by decide +kernel
theorem dX9_setSource_105 : decode cX9_setSource 105 = .ok (.iastore, 1) := by decide +kernel
theorem dX9_setSource_106 : decode cX9_setSource 106 = .ok (.iload 5, 2) := by decide +kernel
theorem dX9_setSource_108 : decode cX9_setSource 108 = .ok (.ireturn, 1) := by decide +kernel
theorem dX9_badSection_0 : decode cX9_badSection 0 = .ok (.aload_n 0, 1) := by decide +kernel
theorem dX9_badSection_1 : decode cX9_badSection 1 = .ok (.iload_n 1, 1) := by decide +kernel
theorem dX9_badSection_2 : decode cX9_badSection 2 = .ok (.invokevirtual 61, 3) := by decide +kernel
theorem dX9_badSection_5 : decode cX9_badSection 5 = .ok (.ifCond .ne 5, 3) := by decide +kernel
theorem dX9_badSection_8 : decode cX9_badSection 8 = .ok (.iconst 1, 1) := by decide +kernel
theorem dX9_badSection_9 : decode cX9_badSection 9 = .ok (.ireturn, 1) := by decide +kernel
theorem dX9_badSection_10 : decode cX9_badSection 10 = .ok (.iload_n 2, 1) := by decide +kernel
theorem dX9_badSection_11 : decode cX9_badSection 11 = .ok (.iconst 0, 1) := by decide +kernel
theorem dX9_badSection_12 : decode cX9_badSection 12 = .ok (.sipush 499, 3) := by decide +kernel
theorem dX9_badSection_15 : decode cX9_badSection 15 = .ok (.invokestatic 36, 3) := by decide +kernel
theorem dX9_badSection_18 : decode cX9_badSection 18 = .ok (.ifCond .eq 25, 3) := by decide +kernel
theorem dX9_badSection_21 : decode cX9_badSection 21 = .ok (.iload_n 3, 1) := by decide +kernel
theorem dX9_badSection_22 : decode cX9_badSection 22 = .ok (.iconst 1, 1) := by decide +kernel
theorem dX9_badSection_23 : decode cX9_badSection 23 = .ok (.sipush 500, 3) := by decide +kernel
theorem dX9_badSection_26 : decode cX9_badSection 26 = .ok (.invokestatic 36, 3) := by decide +kernel
theorem dX9_badSection_29 : decode cX9_badSection 29 = .ok (.ifCond .eq 14, 3) := by decide +kernel
theorem dX9_badSection_32 : decode cX9_badSection 32 = .ok (.iload 4, 2) := by decide +kernel
theorem dX9_badSection_34 : decode cX9_badSection 34 = .ok (.iconst 1, 1) := by decide +kernel
theorem dX9_badSection_35 : decode cX9_badSection 35 = .ok (.bipush 15, 2) := by decide +kernel
theorem dX9_badSection_37 : decode cX9_badSection 37 = .ok (.invokestatic 36, 3) := by decide +kernel
theorem dX9_badSection_40 : decode cX9_badSection 40 = .ok (.ifCond .ne 5, 3) := by decide +kernel
theorem dX9_badSection_43 : decode cX9_badSection 43 = .ok (.iconst 2, 1) := by decide +kernel
theorem dX9_badSection_44 : decode cX9_badSection 44 = .ok (.ireturn, 1) := by decide +kernel
theorem dX9_badSection_45 : decode cX9_badSection 45 = .ok (.aload_n 0, 1) := by decide +kernel
theorem dX9_badSection_46 : decode cX9_badSection 46 = .ok (.iload_n 1, 1) := by decide +kernel
theorem dX9_badSection_47 : decode cX9_badSection 47 = .ok (.bipush 7, 2) := by decide +kernel
theorem dX9_badSection_49 : decode cX9_badSection 49 = .ok (.invokevirtual 44, 3) := by decide +kernel
theorem dX9_badSection_52 : decode cX9_badSection 52 = .ok (.iconst 2, 1) := by decide +kernel
theorem dX9_badSection_53 : decode cX9_badSection 53 = .ok (.if_icmp .eq 12, 3) := by decide +kernel
theorem dX9_badSection_56 : decode cX9_badSection 56 = .ok (.aload_n 0, 1) := by decide +kernel
theorem dX9_badSection_57 : decode cX9_badSection 57 = .ok (.iload_n 1, 1) := by decide +kernel
theorem dX9_badSection_58 : decode cX9_badSection 58 = .ok (.invokevirtual 48, 3) := by decide +kernel
theorem dX9_badSection_61 : decode cX9_badSection 61 = .ok (.iconst (-1), 1) := by decide +kernel
theorem dX9_badSection_62 : decode cX9_badSection 62 = .ok (.if_icmp .eq 7, 3) := by decide +kernel
theorem dX9_badSection_65 : decode cX9_badSection 65 = .ok (.iconst 3, 1) := by decide +kernel
theorem dX9_badSection_66 : decode cX9_badSection 66 = .ok (.goto 4, 3) := by decide +kernel
theorem dX9_badSection_69 : decode cX9_badSection 69 = .ok (.iconst 0, 1) := by decide +kernel
theorem dX9_badSection_70 : decode cX9_badSection 70 = .ok (.ireturn, 1) := by decide +kernel
theorem dX9_comesSection_0 : decode cX9_comesSection 0 = .ok (.iload_n 1, 1) := by decide +kernel
theorem dX9_comesSection_1 : decode cX9_comesSection 1 = .ok (.invokestatic 40, 3) := by decide +kernel
theorem dX9_comesSection_4 : decode cX9_comesSection 4 = .ok (.bipush 8, 2) := by decide +kernel
theorem dX9_comesSection_6 : decode cX9_comesSection 6 = .ok (.iadd, 1) := by decide +kernel
theorem dX9_comesSection_7 : decode cX9_comesSection 7 = .ok (.iconst 3, 1) := by decide +kernel
theorem dX9_comesSection_8 : decode cX9_comesSection 8 = .ok (.aload_n 0, 1) := by decide +kernel
theorem dX9_comesSection_9 : decode cX9_comesSection 9 = .ok (.iload_n 1, 1) := by decide +kernel
theorem dX9_comesSection_10 : decode cX9_comesSection 10 = .ok (.bipush 7, 2) := by decide +kernel
theorem dX9_comesSection_12 : decode cX9_comesSection 12 = .ok (.invokevirtual 44, 3) := by decide +kernel
theorem dX9_comesSection_15 : decode cX9_comesSection 15 = .ok (.imul, 1) := by decide +kernel
theorem dX9_comesSection_16 : decode cX9_comesSection 16 = .ok (.iadd, 1) := by decide +kernel
theorem dX9_comesSection_17 : decode cX9_comesSection 17 = .ok (.istore 5, 2) := by decide +kernel
theorem dX9_comesSection_19 : decode cX9_comesSection 19 = .ok (.aload_n 0, 1) := by decide +kernel
theorem dX9_comesSection_20 : decode cX9_comesSection 20 = .ok (.getfield 7, 3) := by decide +kernel
theorem dX9_comesSection_23 : decode cX9_comesSection 23 = .ok (.iload 5, 2) := by decide +kernel
theorem dX9_comesSection_25 : decode cX9_comesSection 25 = .ok (.iload_n 2, 1) := by decide +kernel
theorem dX9_comesSection_26 : decode cX9_comesSection 26 = .ok (.iastore, 1) := by decide +kernel
theorem dX9_comesSection_27 : decode cX9_comesSection 27 = .ok (.aload_n 0, 1) := by decide +kernel
theorem dX9_comesSection_28 : decode cX9_comesSection 28 = .ok (.getfield 7, 3) := by decide +kernel
theorem dX9_comesSection_31 : decode cX9_comesSection 31 = .ok (.iload 5, 2) := by decide +kernel
theorem dX9_comesSection_33 : decode cX9_comesSection 33 = .ok (.iconst 1, 1) := by decide +kernel
theorem dX9_comesSection_34 : decode cX9_comesSection 34 = .ok (.iadd, 1) := by decide +kernel
theorem dX9_comesSection_35 : decode cX9_comesSection 35 = .ok (.iload_n 3, 1) := by decide +kernel
theorem dX9_comesSection_36 : decode cX9_comesSection 36 = .ok (.iastore, 1) := by decide +kernel
theorem dX9_comesSection_37 : decode cX9_comesSection 37 = .ok (.aload_n 0, 1) := by decide +kernel
theorem dX9_comesSection_38 : decode cX9_comesSection 38 = .ok (.getfield 7, 3) := by decide +kernel
theorem dX9_comesSection_41 : decode cX9_comesSection 41 = .ok (.iload 5, 2) := by decide +kernel
theorem dX9_comesSection_43 : decode cX9_comesSection 43 = .ok (.iconst 2, 1) := by decide +kernel
theorem dX9_comesSection_44 : decode cX9_comesSection 44 = .ok (.iadd, 1) := by decide +kernel
theorem dX9_comesSection_45 : decode cX9_comesSection 45 = .ok (.iload 4, 2) := by decide +kernel
theorem dX9_comesSection_47 : decode cX9_comesSection 47 = .ok (.iastore, 1) := by decide +kernel
theorem dX9_comesSection_48 : decode cX9_comesSection 48 = .ok (.aload_n 0, 1) := by decide +kernel
theorem dX9_comesSection_49 : decode cX9_comesSection 49 = .ok (.getfield 7, 3) := by decide +kernel
theorem dX9_comesSection_52 : decode cX9_comesSection 52 = .ok (.iload_n 1, 1) := by decide +kernel
theorem dX9_comesSection_53 : decode cX9_comesSection 53 = .ok (.invokestatic 40, 3) := by decide +kernel
theorem dX9_comesSection_56 : decode cX9_comesSection 56 = .ok (.bipush 7, 2) := by decide +kernel
theorem dX9_comesSection_58 : decode cX9_comesSection 58 = .ok (.iadd, 1) := by decide +kernel
theorem dX9_comesSection_59 : decode cX9_comesSection 59 = .ok (.dup2, 1) := by decide +kernel
theorem dX9_comesSection_60 : decode cX9_comesSection 60 = .ok (.iaload, 1) := by decide +kernel
theorem dX9_comesSection_61 : decode cX9_comesSection 61 = .ok (.iconst 1, 1) := by decide +kernel
theorem dX9_comesSection_62 : decode cX9_comesSection 62 = .ok (.iadd, 1) := by decide +kernel
theorem dX9_comesSection_63 : decode cX9_comesSection 63 = .ok (.iastore, 1) := by decide +kernel
theorem dX9_comesSection_64 : decode cX9_comesSection 64 = .ok (.aload_n 0, 1) := by decide +kernel
theorem dX9_comesSection_65 : decode cX9_comesSection 65 = .ok (.iload_n 1, 1) := by decide +kernel
theorem dX9_comesSection_66 : decode cX9_comesSection 66 = .ok (.bipush 7, 2) := by decide +kernel
theorem dX9_comesSection_68 : decode cX9_comesSection 68 = .ok (.invokevirtual 44, 3) := by decide +kernel
theorem dX9_comesSection_71 : decode cX9_comesSection 71 = .ok (.ireturn, 1) := by decide +kernel
theorem dX9_addSection_0 : decode cX9_addSection 0 = .ok (.aload_n 0, 1) := by decide +kernel
theorem dX9_addSection_1 : decode cX9_addSection 1 = .ok (.aload_n 0, 1) := by decide +kernel
theorem dX9_addSection_2 : decode cX9_addSection 2 = .ok (.iload_n 1, 1) := by decide +kernel
theorem dX9_addSection_3 : decode cX9_addSection 3 = .ok (.iload_n 2, 1) := by decide +kernel
theorem dX9_addSection_4 : decode cX9_addSection 4 = .ok (.iload_n 3, 1) := by decide +kernel
theorem dX9_addSection_5 : decode cX9_addSection 5 = .ok (.iload 4, 2) := by decide +kernel
theorem dX9_addSection_7 : decode cX9_addSection 7 = .ok (.invokevirtual 71, 3) := by decide +kernel
theorem dX9_addSection_10 : decode cX9_addSection 10 = .ok (.invokevirtual 32, 3) := by decide +kernel
theorem dX9_addSection_13 : decode cX9_addSection 13 = .ok (.ifCond .eq 5, 3) := by decide +kernel
theorem dX9_addSection_16 : decode cX9_addSection 16 = .ok (.iconst 0, 1) := by decide +kernel
theorem dX9_addSection_17 : decode cX9_addSection 17 = .ok (.ireturn, 1) := by decide +kernel
theorem dX9_addSection_18 : decode cX9_addSection 18 = .ok (.aload_n 0, 1) := by decide +kernel
theorem dX9_addSection_19 : decode cX9_addSection 19 = .ok (.invokevirtual 55, 3) := by decide +kernel
theorem dX9_addSection_22 : decode cX9_addSection 22 = .ok (.aload_n 0, 1) := by decide +kernel
theorem dX9_addSection_23 : decode cX9_addSection 23 = .ok (.iload_n 1, 1) := by decide +kernel
theorem dX9_addSection_24 : decode cX9_addSection 24 = .ok (.iload_n 2, 1) := by decide +kernel
theorem dX9_addSection_25 : decode cX9_addSection 25 = .ok (.iload_n 3, 1) := by decide +kernel
theorem dX9_addSection_26 : decode cX9_addSection 26 = .ok (.iload 4, 2) := by decide +kernel
theorem dX9_addSection_28 : decode cX9_addSection 28 = .ok (.invokevirtual 75, 3) := by decide +kernel
theorem dX9_addSection_31 : decode cX9_addSection 31 = .ok (.ireturn, 1) := by decide +kernel
theorem dX9_clearSections_0 : decode cX9_clearSections 0 = .ok (.aload_n 0, 1) := by decide +kernel
theorem dX9_clearSections_1 : decode cX9_clearSections 1 = .ok (.aload_n 0, 1) := by decide +kernel
theorem dX9_clearSections_2 : decode cX9_clearSections 2 = .ok (.iload_n 1, 1) := by decide +kernel
theorem dX9_clearSections_3 : decode cX9_clearSections 3 = .ok (.invokevirtual 61, 3) := by decide +kernel
theorem dX9_clearSections_6 : decode cX9_clearSections 6 = .ok (.ifCond .ne 7, 3) := by decide +kernel
theorem dX9_clearSections_9 : decode cX9_clearSections 9 = .ok (.iconst 1, 1) := by decide +kernel
theorem dX9_clearSections_10 : decode cX9_clearSections 10 = .ok (.goto 17, 3) := by decide +kernel
theorem dX9_clearSections_13 : decode cX9_clearSections 13 = .ok (.aload_n 0, 1) := by decide +kernel
theorem dX9_clearSections_14 : decode cX9_clearSections 14 = .ok (.iload_n 1, 1) := by decide +kernel
theorem dX9_clearSections_15 : decode cX9_clearSections 15 = .ok (.invokevirtual 48, 3) := by decide +kernel
theorem dX9_clearSections_18 : decode cX9_clearSections 18 = .ok (.iconst (-1), 1) := by decide +kernel
theorem dX9_clearSections_19 : decode cX9_clearSections 19 = .ok (.if_icmp .eq 7, 3) := by decide +kernel
theorem dX9_clearSections_22 : decode cX9_clearSections 22 = .ok (.iconst 2, 1) := by decide +kernel
theorem dX9_clearSections_23 : decode cX9_clearSections 23 = .ok (.goto 4, 3) := by decide +kernel
theorem dX9_clearSections_26 : decode cX9_clearSections 26 = .ok (.iconst 0, 1) := by decide +kernel
theorem dX9_clearSections_27 : decode cX9_clearSections 27 = .ok (.invokevirtual 32, 3) := by decide +kernel
theorem dX9_clearSections_30 : decode cX9_clearSections 30 = .ok (.ifCond .eq 5, 3) := by decide +kernel
theorem dX9_clearSections_33 : decode cX9_clearSections 33 = .ok (.iconst 0, 1) := by decide +kernel
theorem dX9_clearSections_34 : decode cX9_clearSections 34 = .ok (.ireturn, 1) := by decide +kernel
theorem dX9_clearSections_35 : decode cX9_clearSections 35 = .ok (.aload_n 0, 1) := by decide +kernel
theorem dX9_clearSections_36 : decode cX9_clearSections 36 = .ok (.invokevirtual 55, 3) := by decide +kernel
theorem dX9_clearSections_39 : decode cX9_clearSections 39 = .ok (.aload_n 0, 1) := by decide +kernel
theorem dX9_clearSections_40 : decode cX9_clearSections 40 = .ok (.iload_n 1, 1) := by decide +kernel
theorem dX9_clearSections_41 : decode cX9_clearSections 41 = .ok (.bipush 7, 2) := by decide +kernel
theorem dX9_clearSections_43 : decode cX9_clearSections 43 = .ok (.invokevirtual 44, 3) := by decide +kernel
theorem dX9_clearSections_46 : decode cX9_clearSections 46 = .ok (.istore_n 2, 1) := by decide +kernel
theorem dX9_clearSections_47 : decode cX9_clearSections 47 = .ok (.aload_n 0, 1) := by decide +kernel
theorem dX9_clearSections_48 : decode cX9_clearSections 48 = .ok (.getfield 7, 3) := by decide +kernel
theorem dX9_clearSections_51 : decode cX9_clearSections 51 = .ok (.iload_n 1, 1) := by decide +kernel
theorem dX9_clearSections_52 : decode cX9_clearSections 52 = .ok (.invokestatic 40, 3) := by decide +kernel
theorem dX9_clearSections_55 : decode cX9_clearSections 55 = .ok (.bipush 7, 2) := by decide +kernel
theorem dX9_clearSections_57 : decode cX9_clearSections 57 = .ok (.iadd, 1) := by decide +kernel
theorem dX9_clearSections_58 : decode cX9_clearSections 58 = .ok (.iconst 0, 1) := by decide +kernel
theorem dX9_clearSections_59 : decode cX9_clearSections 59 = .ok (.iastore, 1) := by decide +kernel
theorem dX9_clearSections_60 : decode cX9_clearSections 60 = .ok (.iload_n 2, 1) := by decide +kernel
theorem dX9_clearSections_61 : decode cX9_clearSections 61 = .ok (.ireturn, 1) := by decide +kernel
theorem dX9_badTimer_0 : decode cX9_badTimer 0 = .ok (.aload_n 0, 1) := by decide +kernel
theorem dX9_badTimer_1 : decode cX9_badTimer 1 = .ok (.iload_n 1, 1) := by decide +kernel
theorem dX9_badTimer_2 : decode cX9_badTimer 2 = .ok (.invokevirtual 61, 3) := by decide +kernel
theorem dX9_badTimer_5 : decode cX9_badTimer 5 = .ok (.ifCond .ne 7, 3) := by decide +kernel
theorem dX9_badTimer_8 : decode cX9_badTimer 8 = .ok (.iconst 1, 1) := by decide +kernel
theorem dX9_badTimer_9 : decode cX9_badTimer 9 = .ok (.goto 44, 3) := by decide +kernel
theorem dX9_badTimer_12 : decode cX9_badTimer 12 = .ok (.iload_n 2, 1) := by decide +kernel
theorem dX9_badTimer_13 : decode cX9_badTimer 13 = .ok (.iconst 0, 1) := by decide +kernel
theorem dX9_badTimer_14 : decode cX9_badTimer 14 = .ok (.sipush 999, 3) := by decide +kernel
theorem dX9_badTimer_17 : decode cX9_badTimer 17 = .ok (.invokestatic 36, 3) := by decide +kernel
theorem dX9_badTimer_20 : decode cX9_badTimer 20 = .ok (.ifCond .eq 14, 3) := by decide +kernel
theorem dX9_badTimer_23 : decode cX9_badTimer 23 = .ok (.iload_n 3, 1) := by decide +kernel
theorem dX9_badTimer_24 : decode cX9_badTimer 24 = .ok (.iconst 0, 1) := by decide +kernel
theorem dX9_badTimer_25 : decode cX9_badTimer 25 = .ok (.sipush 1000, 3) := by decide +kernel
theorem dX9_badTimer_28 : decode cX9_badTimer 28 = .ok (.invokestatic 36, 3) := by decide +kernel
theorem dX9_badTimer_31 : decode cX9_badTimer 31 = .ok (.ifCond .ne 7, 3) := by decide +kernel
theorem dX9_badTimer_34 : decode cX9_badTimer 34 = .ok (.iconst 2, 1) := by decide +kernel
theorem dX9_badTimer_35 : decode cX9_badTimer 35 = .ok (.goto 18, 3) := by decide +kernel
theorem dX9_badTimer_38 : decode cX9_badTimer 38 = .ok (.aload_n 0, 1) := by decide +kernel
theorem dX9_badTimer_39 : decode cX9_badTimer 39 = .ok (.iload_n 1, 1) := by decide +kernel
theorem dX9_badTimer_40 : decode cX9_badTimer 40 = .ok (.iconst 1, 1) := by decide +kernel
theorem dX9_badTimer_41 : decode cX9_badTimer 41 = .ok (.invokevirtual 44, 3) := by decide +kernel
theorem dX9_badTimer_44 : decode cX9_badTimer 44 = .ok (.iconst 1, 1) := by decide +kernel
theorem dX9_badTimer_45 : decode cX9_badTimer 45 = .ok (.if_icmp .ne 7, 3) := by decide +kernel
theorem dX9_badTimer_48 : decode cX9_badTimer 48 = .ok (.iconst 3, 1) := by decide +kernel
theorem dX9_badTimer_49 : decode cX9_badTimer 49 = .ok (.goto 4, 3) := by decide +kernel
theorem dX9_badTimer_52 : decode cX9_badTimer 52 = .ok (.iconst 0, 1) := by decide +kernel
theorem dX9_badTimer_53 : decode cX9_badTimer 53 = .ok (.ireturn, 1) := by decide +kernel
theorem dX9_times_0 : decode cX9_times 0 = .ok (.aload_n 0, 1) := by decide +kernel
theorem dX9_times_1 : decode cX9_times 1 = .ok (.iload_n 1, 1) := by decide +kernel
theorem dX9_times_2 : decode cX9_times 2 = .ok (.bipush 15, 2) := by decide +kernel
theorem dX9_times_4 : decode cX9_times 4 = .ok (.invokevirtual 44, 3) := by decide +kernel
theorem dX9_times_7 : decode cX9_times 7 = .ok (.istore 4, 2) := by decide +kernel
theorem dX9_times_9 : decode cX9_times 9 = .ok (.aload_n 0, 1) := by decide +kernel
theorem dX9_times_10 : decode cX9_times 10 = .ok (.getfield 7, 3) := by decide +kernel
theorem dX9_times_13 : decode cX9_times 13 = .ok (.iload_n 1, 1) := by decide +kernel
theorem dX9_times_14 : decode cX9_times 14 = .ok (.invokestatic 40, 3) := by decide +kernel
theorem dX9_times_17 : decode cX9_times 17 = .ok (.bipush 14, 2) := by decide +kernel
theorem dX9_times_19 : decode cX9_times 19 = .ok (.iadd, 1) := by decide +kernel
theorem dX9_times_20 : decode cX9_times 20 = .ok (.aload_n 0, 1) := by decide +kernel
theorem dX9_times_21 : decode cX9_times 21 = .ok (.getfield 7, 3) := by decide +kernel
theorem dX9_times_24 : decode cX9_times 24 = .ok (.iconst 0, 1) := by decide +kernel
theorem dX9_times_25 : decode cX9_times 25 = .ok (.iaload, 1) := by decide +kernel
theorem dX9_times_26 : decode cX9_times 26 = .ok (.iload_n 2, 1) := by decide +kernel
theorem dX9_times_27 : decode cX9_times 27 = .ok (.iadd, 1) := by decide +kernel
theorem dX9_times_28 : decode cX9_times 28 = .ok (.iastore, 1) := by decide +kernel
theorem dX9_times_29 : decode cX9_times 29 = .ok (.aload_n 0, 1) := by decide +kernel
theorem dX9_times_30 : decode cX9_times 30 = .ok (.getfield 7, 3) := by decide +kernel
theorem dX9_times_33 : decode cX9_times 33 = .ok (.iload_n 1, 1) := by decide +kernel
theorem dX9_times_34 : decode cX9_times 34 = .ok (.invokestatic 40, 3) := by decide +kernel
theorem dX9_times_37 : decode cX9_times 37 = .ok (.bipush 15, 2) := by decide +kernel
theorem dX9_times_39 : decode cX9_times 39 = .ok (.iadd, 1) := by decide +kernel
theorem dX9_times_40 : decode cX9_times 40 = .ok (.iload_n 3, 1) := by decide +kernel
theorem dX9_times_41 : decode cX9_times 41 = .ok (.iastore, 1) := by decide +kernel
theorem dX9_times_42 : decode cX9_times 42 = .ok (.iload 4, 2) := by decide +kernel
theorem dX9_times_44 : decode cX9_times 44 = .ok (.ireturn, 1) := by decide +kernel
theorem dX9_setTimer_0 : decode cX9_setTimer 0 = .ok (.aload_n 0, 1) := by decide +kernel
theorem dX9_setTimer_1 : decode cX9_setTimer 1 = .ok (.aload_n 0, 1) := by decide +kernel
theorem dX9_setTimer_2 : decode cX9_setTimer 2 = .ok (.iload_n 1, 1) := by decide +kernel
theorem dX9_setTimer_3 : decode cX9_setTimer 3 = .ok (.iload_n 2, 1) := by decide +kernel
theorem dX9_setTimer_4 : decode cX9_setTimer 4 = .ok (.iload_n 3, 1) := by decide +kernel
theorem dX9_setTimer_5 : decode cX9_setTimer 5 = .ok (.invokevirtual 78, 3) := by decide +kernel
theorem dX9_setTimer_8 : decode cX9_setTimer 8 = .ok (.invokevirtual 32, 3) := by decide +kernel
theorem dX9_setTimer_11 : decode cX9_setTimer 11 = .ok (.ifCond .eq 5, 3) := by decide +kernel
theorem dX9_setTimer_14 : decode cX9_setTimer 14 = .ok (.iconst 0, 1) := by decide +kernel
theorem dX9_setTimer_15 : decode cX9_setTimer 15 = .ok (.ireturn, 1) := by decide +kernel
theorem dX9_setTimer_16 : decode cX9_setTimer 16 = .ok (.aload_n 0, 1) := by decide +kernel
theorem dX9_setTimer_17 : decode cX9_setTimer 17 = .ok (.invokevirtual 55, 3) := by decide +kernel
theorem dX9_setTimer_20 : decode cX9_setTimer 20 = .ok (.aload_n 0, 1) := by decide +kernel
theorem dX9_setTimer_21 : decode cX9_setTimer 21 = .ok (.iload_n 1, 1) := by decide +kernel
theorem dX9_setTimer_22 : decode cX9_setTimer 22 = .ok (.iload_n 2, 1) := by decide +kernel
theorem dX9_setTimer_23 : decode cX9_setTimer 23 = .ok (.iload_n 3, 1) := by decide +kernel
theorem dX9_setTimer_24 : decode cX9_setTimer 24 = .ok (.invokevirtual 81, 3) := by decide +kernel
theorem dX9_setTimer_27 : decode cX9_setTimer 27 = .ok (.ireturn, 1) := by decide +kernel
theorem dX9_badRaise_0 : decode cX9_badRaise 0 = .ok (.aload_n 0, 1) := by decide +kernel
theorem dX9_badRaise_1 : decode cX9_badRaise 1 = .ok (.iload_n 1, 1) := by decide +kernel
theorem dX9_badRaise_2 : decode cX9_badRaise 2 = .ok (.invokevirtual 61, 3) := by decide +kernel
theorem dX9_badRaise_5 : decode cX9_badRaise 5 = .ok (.ifCond .ne 7, 3) := by decide +kernel
theorem dX9_badRaise_8 : decode cX9_badRaise 8 = .ok (.iconst 1, 1) := by decide +kernel
theorem dX9_badRaise_9 : decode cX9_badRaise 9 = .ok (.goto 18, 3) := by decide +kernel
theorem dX9_badRaise_12 : decode cX9_badRaise 12 = .ok (.aload_n 0, 1) := by decide +kernel
theorem dX9_badRaise_13 : decode cX9_badRaise 13 = .ok (.iload_n 1, 1) := by decide +kernel
theorem dX9_badRaise_14 : decode cX9_badRaise 14 = .ok (.iconst 1, 1) := by decide +kernel
theorem dX9_badRaise_15 : decode cX9_badRaise 15 = .ok (.invokevirtual 44, 3) := by decide +kernel
theorem dX9_badRaise_18 : decode cX9_badRaise 18 = .ok (.iconst 1, 1) := by decide +kernel
theorem dX9_badRaise_19 : decode cX9_badRaise 19 = .ok (.if_icmp .ne 7, 3) := by decide +kernel
theorem dX9_badRaise_22 : decode cX9_badRaise 22 = .ok (.iconst 3, 1) := by decide +kernel
theorem dX9_badRaise_23 : decode cX9_badRaise 23 = .ok (.goto 4, 3) := by decide +kernel
theorem dX9_badRaise_26 : decode cX9_badRaise 26 = .ok (.iconst 0, 1) := by decide +kernel
theorem dX9_badRaise_27 : decode cX9_badRaise 27 = .ok (.ireturn, 1) := by decide +kernel
theorem dX9_raises_0 : decode cX9_raises 0 = .ok (.iload_n 1, 1) := by decide +kernel
theorem dX9_raises_1 : decode cX9_raises 1 = .ok (.invokestatic 40, 3) := by decide +kernel
theorem dX9_raises_4 : decode cX9_raises 4 = .ok (.istore_n 2, 1) := by decide +kernel
theorem dX9_raises_5 : decode cX9_raises 5 = .ok (.aload_n 0, 1) := by decide +kernel
theorem dX9_raises_6 : decode cX9_raises 6 = .ok (.getfield 7, 3) := by decide +kernel
theorem dX9_raises_9 : decode cX9_raises 9 = .ok (.iload_n 2, 1) := by decide +kernel
theorem dX9_raises_10 : decode cX9_raises 10 = .ok (.iconst 4, 1) := by decide +kernel
theorem dX9_raises_11 : decode cX9_raises 11 = .ok (.iadd, 1) := by decide +kernel
theorem dX9_raises_12 : decode cX9_raises 12 = .ok (.iaload, 1) := by decide +kernel
theorem dX9_raises_13 : decode cX9_raises 13 = .ok (.iconst 1, 1) := by decide +kernel
theorem dX9_raises_14 : decode cX9_raises 14 = .ok (.if_icmp .ne 41, 3) := by decide +kernel
theorem dX9_raises_17 : decode cX9_raises 17 = .ok (.aload_n 0, 1) := by decide +kernel
theorem dX9_raises_18 : decode cX9_raises 18 = .ok (.getfield 7, 3) := by decide +kernel
theorem dX9_raises_21 : decode cX9_raises 21 = .ok (.iload_n 2, 1) := by decide +kernel
theorem dX9_raises_22 : decode cX9_raises 22 = .ok (.bipush 19, 2) := by decide +kernel
theorem dX9_raises_24 : decode cX9_raises 24 = .ok (.iadd, 1) := by decide +kernel
theorem dX9_raises_25 : decode cX9_raises 25 = .ok (.dup2, 1) := by decide +kernel
theorem dX9_raises_26 : decode cX9_raises 26 = .ok (.iaload, 1) := by decide +kernel
theorem dX9_raises_27 : decode cX9_raises 27 = .ok (.iconst 1, 1) := by decide +kernel
theorem dX9_raises_28 : decode cX9_raises 28 = .ok (.iadd, 1) := by decide +kernel
theorem dX9_raises_29 : decode cX9_raises 29 = .ok (.iastore, 1) := by decide +kernel
theorem dX9_raises_30 : decode cX9_raises 30 = .ok (.aload_n 0, 1) := by decide +kernel
theorem dX9_raises_31 : decode cX9_raises 31 = .ok (.getfield 7, 3) := by decide +kernel
theorem dX9_raises_34 : decode cX9_raises 34 = .ok (.bipush 90, 2) := by decide +kernel
theorem dX9_raises_36 : decode cX9_raises 36 = .ok (.dup2, 1) := by decide +kernel
theorem dX9_raises_37 : decode cX9_raises 37 = .ok (.iaload, 1) := by decide +kernel
theorem dX9_raises_38 : decode cX9_raises 38 = .ok (.iconst 1, 1) := by decide +kernel
theorem dX9_raises_39 : decode cX9_raises 39 = .ok (.iadd, 1) := by decide +kernel
theorem dX9_raises_40 : decode cX9_raises 40 = .ok (.iastore, 1) := by decide +kernel
theorem dX9_raises_41 : decode cX9_raises 41 = .ok (.aload_n 0, 1) := by decide +kernel
theorem dX9_raises_42 : decode cX9_raises 42 = .ok (.iconst 3, 1) := by decide +kernel
theorem dX9_raises_43 : decode cX9_raises 43 = .ok (.iload_n 1, 1) := by decide +kernel
theorem dX9_raises_44 : decode cX9_raises 44 = .ok (.aload_n 0, 1) := by decide +kernel
theorem dX9_raises_45 : decode cX9_raises 45 = .ok (.getfield 7, 3) := by decide +kernel
theorem dX9_raises_48 : decode cX9_raises 48 = .ok (.iconst 0, 1) := by decide +kernel
theorem dX9_raises_49 : decode cX9_raises 49 = .ok (.iaload, 1) := by decide +kernel
theorem dX9_raises_50 : decode cX9_raises 50 = .ok (.invokevirtual 84, 3) := by decide +kernel
theorem dX9_raises_53 : decode cX9_raises 53 = .ok (.iconst 0, 1) := by decide +kernel
theorem dX9_raises_54 : decode cX9_raises 54 = .ok (.ireturn, 1) := by decide +kernel
theorem dX9_raises_55 : decode cX9_raises 55 = .ok (.aload_n 0, 1) := by decide +kernel
theorem dX9_raises_56 : decode cX9_raises 56 = .ok (.getfield 7, 3) := by decide +kernel
theorem dX9_raises_59 : decode cX9_raises 59 = .ok (.iload_n 2, 1) := by decide +kernel
theorem dX9_raises_60 : decode cX9_raises 60 = .ok (.iconst 4, 1) := by decide +kernel
theorem dX9_raises_61 : decode cX9_raises 61 = .ok (.iadd, 1) := by decide +kernel
theorem dX9_raises_62 : decode cX9_raises 62 = .ok (.iconst 1, 1) := by decide +kernel
theorem dX9_raises_63 : decode cX9_raises 63 = .ok (.iastore, 1) := by decide +kernel
theorem dX9_raises_64 : decode cX9_raises 64 = .ok (.aload_n 0, 1) := by decide +kernel
theorem dX9_raises_65 : decode cX9_raises 65 = .ok (.getfield 7, 3) := by decide +kernel
theorem dX9_raises_68 : decode cX9_raises 68 = .ok (.iload_n 2, 1) := by decide +kernel
theorem dX9_raises_69 : decode cX9_raises 69 = .ok (.bipush 6, 2) := by decide +kernel
theorem dX9_raises_71 : decode cX9_raises 71 = .ok (.iadd, 1) := by decide +kernel
theorem dX9_raises_72 : decode cX9_raises 72 = .ok (.aload_n 0, 1) := by decide +kernel
theorem dX9_raises_73 : decode cX9_raises 73 = .ok (.getfield 7, 3) := by decide +kernel
theorem dX9_raises_76 : decode cX9_raises 76 = .ok (.iconst 0, 1) := by decide +kernel
theorem dX9_raises_77 : decode cX9_raises 77 = .ok (.iaload, 1) := by decide +kernel
theorem dX9_raises_78 : decode cX9_raises 78 = .ok (.iastore, 1) := by decide +kernel
theorem dX9_raises_79 : decode cX9_raises 79 = .ok (.iconst 1, 1) := by decide +kernel
theorem dX9_raises_80 : decode cX9_raises 80 = .ok (.ireturn, 1) := by decide +kernel
theorem dX9_without_0 : decode cX9_without 0 = .ok (.iload_n 0, 1) := by decide +kernel
theorem dX9_without_1 : decode cX9_without 1 = .ok (.iconst 3, 1) := by decide +kernel
theorem dX9_without_2 : decode cX9_without 2 = .ok (.if_icmp .ne 7, 3) := by decide +kernel
theorem dX9_without_5 : decode cX9_without 5 = .ok (.iconst 2, 1) := by decide +kernel
theorem dX9_without_6 : decode cX9_without 6 = .ok (.goto 4, 3) := by decide +kernel
theorem dX9_without_9 : decode cX9_without 9 = .ok (.iload_n 0, 1) := by decide +kernel
theorem dX9_without_10 : decode cX9_without 10 = .ok (.ireturn, 1) := by decide +kernel
theorem dX9_raise_0 : decode cX9_raise 0 = .ok (.aload_n 0, 1) := by decide +kernel
theorem dX9_raise_1 : decode cX9_raise 1 = .ok (.aload_n 0, 1) := by decide +kernel
theorem dX9_raise_2 : decode cX9_raise 2 = .ok (.iload_n 1, 1) := by decide +kernel
theorem dX9_raise_3 : decode cX9_raise 3 = .ok (.invokevirtual 88, 3) := by decide +kernel
theorem dX9_raise_6 : decode cX9_raise 6 = .ok (.invokestatic 91, 3) := by decide +kernel
theorem dX9_raise_9 : decode cX9_raise 9 = .ok (.invokevirtual 32, 3) := by decide +kernel
theorem dX9_raise_12 : decode cX9_raise 12 = .ok (.ifCond .eq 5, 3) := by decide +kernel
theorem dX9_raise_15 : decode cX9_raise 15 = .ok (.iconst 0, 1) := by decide +kernel
theorem dX9_raise_16 : decode cX9_raise 16 = .ok (.ireturn, 1) := by decide +kernel
theorem dX9_raise_17 : decode cX9_raise 17 = .ok (.aload_n 0, 1) := by decide +kernel
theorem dX9_raise_18 : decode cX9_raise 18 = .ok (.invokevirtual 55, 3) := by decide +kernel
theorem dX9_raise_21 : decode cX9_raise 21 = .ok (.aload_n 0, 1) := by decide +kernel
theorem dX9_raise_22 : decode cX9_raise 22 = .ok (.iload_n 1, 1) := by decide +kernel
theorem dX9_raise_23 : decode cX9_raise 23 = .ok (.invokevirtual 94, 3) := by decide +kernel
theorem dX9_raise_26 : decode cX9_raise 26 = .ok (.ireturn, 1) := by decide +kernel
theorem dX9_badLine_0 : decode cX9_badLine 0 = .ok (.aload_n 0, 1) := by decide +kernel
theorem dX9_badLine_1 : decode cX9_badLine 1 = .ok (.iload_n 1, 1) := by decide +kernel
theorem dX9_badLine_2 : decode cX9_badLine 2 = .ok (.invokevirtual 61, 3) := by decide +kernel
theorem dX9_badLine_5 : decode cX9_badLine 5 = .ok (.ifCond .ne 7, 3) := by decide +kernel
theorem dX9_badLine_8 : decode cX9_badLine 8 = .ok (.iconst 1, 1) := by decide +kernel
theorem dX9_badLine_9 : decode cX9_badLine 9 = .ok (.goto 17, 3) := by decide +kernel
theorem dX9_badLine_12 : decode cX9_badLine 12 = .ok (.aload_n 0, 1) := by decide +kernel
theorem dX9_badLine_13 : decode cX9_badLine 13 = .ok (.iload_n 1, 1) := by decide +kernel
theorem dX9_badLine_14 : decode cX9_badLine 14 = .ok (.iconst 1, 1) := by decide +kernel
theorem dX9_badLine_15 : decode cX9_badLine 15 = .ok (.invokevirtual 44, 3) := by decide +kernel
theorem dX9_badLine_18 : decode cX9_badLine 18 = .ok (.ifCond .ne 7, 3) := by decide +kernel
theorem dX9_badLine_21 : decode cX9_badLine 21 = .ok (.iconst 3, 1) := by decide +kernel
theorem dX9_badLine_22 : decode cX9_badLine 22 = .ok (.goto 4, 3) := by decide +kernel
theorem dX9_badLine_25 : decode cX9_badLine 25 = .ok (.iconst 0, 1) := by decide +kernel
theorem dX9_badLine_26 : decode cX9_badLine 26 = .ok (.ireturn, 1) := by decide +kernel
theorem dX9_lines_0 : decode cX9_lines 0 = .ok (.iload_n 1, 1) := by decide +kernel
theorem dX9_lines_1 : decode cX9_lines 1 = .ok (.invokestatic 40, 3) := by decide +kernel
theorem dX9_lines_4 : decode cX9_lines 4 = .ok (.istore_n 3, 1) := by decide +kernel
theorem dX9_lines_5 : decode cX9_lines 5 = .ok (.aload_n 0, 1) := by decide +kernel
theorem dX9_lines_6 : decode cX9_lines 6 = .ok (.getfield 7, 3) := by decide +kernel
theorem dX9_lines_9 : decode cX9_lines 9 = .ok (.iload_n 3, 1) := by decide +kernel
theorem dX9_lines_10 : decode cX9_lines 10 = .ok (.iconst 5, 1) := by decide +kernel
theorem dX9_lines_11 : decode cX9_lines 11 = .ok (.iadd, 1) := by decide +kernel
theorem dX9_lines_12 : decode cX9_lines 12 = .ok (.iaload, 1) := by decide +kernel
theorem dX9_lines_13 : decode cX9_lines 13 = .ok (.istore 4, 2) := by decide +kernel
theorem dX9_lines_15 : decode cX9_lines 15 = .ok (.aload_n 0, 1) := by decide +kernel
theorem dX9_lines_16 : decode cX9_lines 16 = .ok (.getfield 7, 3) := by decide +kernel
theorem dX9_lines_19 : decode cX9_lines 19 = .ok (.iload_n 3, 1) := by decide +kernel
theorem dX9_lines_20 : decode cX9_lines 20 = .ok (.iconst 5, 1) := by decide +kernel
theorem dX9_lines_21 : decode cX9_lines 21 = .ok (.iadd, 1) := by decide +kernel
theorem dX9_lines_22 : decode cX9_lines 22 = .ok (.iload_n 2, 1) := by decide +kernel
theorem dX9_lines_23 : decode cX9_lines 23 = .ok (.ifCond .eq 7, 3) := by decide +kernel
theorem dX9_lines_26 : decode cX9_lines 26 = .ok (.iconst 1, 1) := by decide +kernel
theorem dX9_lines_27 : decode cX9_lines 27 = .ok (.goto 4, 3) := by decide +kernel
theorem dX9_lines_30 : decode cX9_lines 30 = .ok (.iconst 0, 1) := by decide +kernel
theorem dX9_lines_31 : decode cX9_lines 31 = .ok (.iastore, 1) := by decide +kernel
theorem dX9_lines_32 : decode cX9_lines 32 = .ok (.aload_n 0, 1) := by decide +kernel
theorem dX9_lines_33 : decode cX9_lines 33 = .ok (.getfield 7, 3) := by decide +kernel
theorem dX9_lines_36 : decode cX9_lines 36 = .ok (.iload_n 3, 1) := by decide +kernel
theorem dX9_lines_37 : decode cX9_lines 37 = .ok (.bipush 6, 2) := by decide +kernel
theorem dX9_lines_39 : decode cX9_lines 39 = .ok (.iadd, 1) := by decide +kernel
theorem dX9_lines_40 : decode cX9_lines 40 = .ok (.iload_n 2, 1) := by decide +kernel
theorem dX9_lines_41 : decode cX9_lines 41 = .ok (.ifCond .eq 17, 3) := by decide +kernel
theorem dX9_lines_44 : decode cX9_lines 44 = .ok (.iload 4, 2) := by decide +kernel
theorem dX9_lines_46 : decode cX9_lines 46 = .ok (.ifCond .ne 12, 3) := by decide +kernel
theorem dX9_lines_49 : decode cX9_lines 49 = .ok (.aload_n 0, 1) := by decide +kernel
theorem dX9_lines_50 : decode cX9_lines 50 = .ok (.getfield 7, 3) := by decide +kernel
theorem dX9_lines_53 : decode cX9_lines 53 = .ok (.iconst 0, 1) := by decide +kernel
theorem dX9_lines_54 : decode cX9_lines 54 = .ok (.iaload, 1) := by decide +kernel
theorem dX9_lines_55 : decode cX9_lines 55 = .ok (.goto 12, 3) := by decide +kernel
theorem dX9_lines_58 : decode cX9_lines 58 = .ok (.aload_n 0, 1) := by decide +kernel
theorem dX9_lines_59 : decode cX9_lines 59 = .ok (.getfield 7, 3) := by decide +kernel
theorem dX9_lines_62 : decode cX9_lines 62 = .ok (.iload_n 3, 1) := by decide +kernel
theorem dX9_lines_63 : decode cX9_lines 63 = .ok (.bipush 6, 2) := by decide +kernel
theorem dX9_lines_65 : decode cX9_lines 65 = .ok (.iadd, 1) := by decide +kernel
theorem dX9_lines_66 : decode cX9_lines 66 = .ok (.iaload, 1) := by decide +kernel
theorem dX9_lines_67 : decode cX9_lines 67 = .ok (.iastore, 1) := by decide +kernel
theorem dX9_lines_68 : decode cX9_lines 68 = .ok (.iload 4, 2) := by decide +kernel
theorem dX9_lines_70 : decode cX9_lines 70 = .ok (.ireturn, 1) := by decide +kernel
theorem dX9_setLine_0 : decode cX9_setLine 0 = .ok (.aload_n 0, 1) := by decide +kernel
theorem dX9_setLine_1 : decode cX9_setLine 1 = .ok (.aload_n 0, 1) := by decide +kernel
theorem dX9_setLine_2 : decode cX9_setLine 2 = .ok (.iload_n 1, 1) := by decide +kernel
theorem dX9_setLine_3 : decode cX9_setLine 3 = .ok (.invokevirtual 97, 3) := by decide +kernel
theorem dX9_setLine_6 : decode cX9_setLine 6 = .ok (.invokestatic 91, 3) := by decide +kernel
theorem dX9_setLine_9 : decode cX9_setLine 9 = .ok (.invokevirtual 32, 3) := by decide +kernel
theorem dX9_setLine_12 : decode cX9_setLine 12 = .ok (.ifCond .eq 5, 3) := by decide +kernel
theorem dX9_setLine_15 : decode cX9_setLine 15 = .ok (.iconst 0, 1) := by decide +kernel
theorem dX9_setLine_16 : decode cX9_setLine 16 = .ok (.ireturn, 1) := by decide +kernel
theorem dX9_setLine_17 : decode cX9_setLine 17 = .ok (.aload_n 0, 1) := by decide +kernel
theorem dX9_setLine_18 : decode cX9_setLine 18 = .ok (.invokevirtual 55, 3) := by decide +kernel
theorem dX9_setLine_21 : decode cX9_setLine 21 = .ok (.aload_n 0, 1) := by decide +kernel
theorem dX9_setLine_22 : decode cX9_setLine 22 = .ok (.iload_n 1, 1) := by decide +kernel
theorem dX9_setLine_23 : decode cX9_setLine 23 = .ok (.iload_n 2, 1) := by decide +kernel
theorem dX9_setLine_24 : decode cX9_setLine 24 = .ok (.invokevirtual 100, 3) := by decide +kernel
theorem dX9_setLine_27 : decode cX9_setLine 27 = .ok (.ireturn, 1) := by decide +kernel
theorem dX9_badSet_0 : decode cX9_badSet 0 = .ok (.iload_n 0, 1) := by decide +kernel
theorem dX9_badSet_1 : decode cX9_badSet 1 = .ok (.iconst 0, 1) := by decide +kernel
theorem dX9_badSet_2 : decode cX9_badSet 2 = .ok (.iconst 3, 1) := by decide +kernel
theorem dX9_badSet_3 : decode cX9_badSet 3 = .ok (.invokestatic 36, 3) := by decide +kernel
theorem dX9_badSet_6 : decode cX9_badSet 6 = .ok (.ifCond .eq 26, 3) := by decide +kernel
theorem dX9_badSet_9 : decode cX9_badSet 9 = .ok (.iload_n 1, 1) := by decide +kernel
theorem dX9_badSet_10 : decode cX9_badSet 10 = .ok (.iconst 0, 1) := by decide +kernel
theorem dX9_badSet_11 : decode cX9_badSet 11 = .ok (.iload_n 0, 1) := by decide +kernel
theorem dX9_badSet_12 : decode cX9_badSet 12 = .ok (.ifCond .ne 8, 3) := by decide +kernel
theorem dX9_badSet_15 : decode cX9_badSet 15 = .ok (.bipush 15, 2) := by decide +kernel
theorem dX9_badSet_17 : decode cX9_badSet 17 = .ok (.goto 5, 3) := by decide +kernel
theorem dX9_badSet_20 : decode cX9_badSet 20 = .ok (.bipush 50, 2) := by decide +kernel
theorem dX9_badSet_22 : decode cX9_badSet 22 = .ok (.invokestatic 36, 3) := by decide +kernel
theorem dX9_badSet_25 : decode cX9_badSet 25 = .ok (.ifCond .eq 7, 3) := by decide +kernel
theorem dX9_badSet_28 : decode cX9_badSet 28 = .ok (.iconst 0, 1) := by decide +kernel
theorem dX9_badSet_29 : decode cX9_badSet 29 = .ok (.goto 4, 3) := by decide +kernel
theorem dX9_badSet_32 : decode cX9_badSet 32 = .ok (.iconst 2, 1) := by decide +kernel
theorem dX9_badSet_33 : decode cX9_badSet 33 = .ok (.ireturn, 1) := by decide +kernel
theorem dX9_sets_0 : decode cX9_sets 0 = .ok (.aload_n 0, 1) := by decide +kernel
theorem dX9_sets_1 : decode cX9_sets 1 = .ok (.getfield 7, 3) := by decide +kernel
theorem dX9_sets_4 : decode cX9_sets 4 = .ok (.iconst 1, 1) := by decide +kernel
theorem dX9_sets_5 : decode cX9_sets 5 = .ok (.iload_n 1, 1) := by decide +kernel
theorem dX9_sets_6 : decode cX9_sets 6 = .ok (.iadd, 1) := by decide +kernel
theorem dX9_sets_7 : decode cX9_sets 7 = .ok (.iaload, 1) := by decide +kernel
theorem dX9_sets_8 : decode cX9_sets 8 = .ok (.istore_n 3, 1) := by decide +kernel
theorem dX9_sets_9 : decode cX9_sets 9 = .ok (.aload_n 0, 1) := by decide +kernel
theorem dX9_sets_10 : decode cX9_sets 10 = .ok (.getfield 7, 3) := by decide +kernel
theorem dX9_sets_13 : decode cX9_sets 13 = .ok (.iconst 1, 1) := by decide +kernel
theorem dX9_sets_14 : decode cX9_sets 14 = .ok (.iload_n 1, 1) := by decide +kernel
theorem dX9_sets_15 : decode cX9_sets 15 = .ok (.iadd, 1) := by decide +kernel
theorem dX9_sets_16 : decode cX9_sets 16 = .ok (.iload_n 2, 1) := by decide +kernel
theorem dX9_sets_17 : decode cX9_sets 17 = .ok (.iastore, 1) := by decide +kernel
theorem dX9_sets_18 : decode cX9_sets 18 = .ok (.iload_n 3, 1) := by decide +kernel
theorem dX9_sets_19 : decode cX9_sets 19 = .ok (.ireturn, 1) := by decide +kernel
theorem dX9_set_0 : decode cX9_set 0 = .ok (.aload_n 0, 1) := by decide +kernel
theorem dX9_set_1 : decode cX9_set 1 = .ok (.iload_n 1, 1) := by decide +kernel
theorem dX9_set_2 : decode cX9_set 2 = .ok (.iload_n 2, 1) := by decide +kernel
theorem dX9_set_3 : decode cX9_set 3 = .ok (.invokestatic 104, 3) := by decide +kernel
theorem dX9_set_6 : decode cX9_set 6 = .ok (.ifCond .le 7, 3) := by decide +kernel
theorem dX9_set_9 : decode cX9_set 9 = .ok (.iconst 1, 1) := by decide +kernel
theorem dX9_set_10 : decode cX9_set 10 = .ok (.goto 4, 3) := by decide +kernel
theorem dX9_set_13 : decode cX9_set 13 = .ok (.iconst 0, 1) := by decide +kernel
theorem dX9_set_14 : decode cX9_set 14 = .ok (.invokevirtual 32, 3) := by decide +kernel
theorem dX9_set_17 : decode cX9_set 17 = .ok (.ifCond .eq 5, 3) := by decide +kernel
theorem dX9_set_20 : decode cX9_set 20 = .ok (.iconst 0, 1) := by decide +kernel
theorem dX9_set_21 : decode cX9_set 21 = .ok (.ireturn, 1) := by decide +kernel
theorem dX9_set_22 : decode cX9_set 22 = .ok (.aload_n 0, 1) := by decide +kernel
theorem dX9_set_23 : decode cX9_set 23 = .ok (.invokevirtual 55, 3) := by decide +kernel
theorem dX9_set_26 : decode cX9_set 26 = .ok (.aload_n 0, 1) := by decide +kernel
theorem dX9_set_27 : decode cX9_set 27 = .ok (.iload_n 1, 1) := by decide +kernel
theorem dX9_set_28 : decode cX9_set 28 = .ok (.iload_n 2, 1) := by decide +kernel
theorem dX9_set_29 : decode cX9_set 29 = .ok (.invokevirtual 107, 3) := by decide +kernel
theorem dX9_set_32 : decode cX9_set 32 = .ok (.ireturn, 1) := by decide +kernel
theorem dX9_isInForce_0 : decode cX9_isInForce 0 = .ok (.aload_n 0, 1) := by decide +kernel
theorem dX9_isInForce_1 : decode cX9_isInForce 1 = .ok (.iload_n 1, 1) := by decide +kernel
theorem dX9_isInForce_2 : decode cX9_isInForce 2 = .ok (.bipush 8, 2) := by decide +kernel
theorem dX9_isInForce_4 : decode cX9_isInForce 4 = .ok (.iconst 3, 1) := by decide +kernel
theorem dX9_isInForce_5 : decode cX9_isInForce 5 = .ok (.iload_n 2, 1) := by decide +kernel
theorem dX9_isInForce_6 : decode cX9_isInForce 6 = .ok (.imul, 1) := by decide +kernel
theorem dX9_isInForce_7 : decode cX9_isInForce 7 = .ok (.iadd, 1) := by decide +kernel
theorem dX9_isInForce_8 : decode cX9_isInForce 8 = .ok (.invokevirtual 44, 3) := by decide +kernel
theorem dX9_isInForce_11 : decode cX9_isInForce 11 = .ok (.istore_n 3, 1) := by decide +kernel
theorem dX9_isInForce_12 : decode cX9_isInForce 12 = .ok (.aload_n 0, 1) := by decide +kernel
theorem dX9_isInForce_13 : decode cX9_isInForce 13 = .ok (.iload_n 1, 1) := by decide +kernel
theorem dX9_isInForce_14 : decode cX9_isInForce 14 = .ok (.invokevirtual 48, 3) := by decide +kernel
theorem dX9_isInForce_17 : decode cX9_isInForce 17 = .ok (.iconst (-1), 1) := by decide +kernel
theorem dX9_isInForce_18 : decode cX9_isInForce 18 = .ok (.if_icmp .eq 38, 3) := by decide +kernel
theorem dX9_isInForce_21 : decode cX9_isInForce 21 = .ok (.aload_n 0, 1) := by decide +kernel
theorem dX9_isInForce_22 : decode cX9_isInForce 22 = .ok (.iload_n 1, 1) := by decide +kernel
theorem dX9_isInForce_23 : decode cX9_isInForce 23 = .ok (.bipush 16, 2) := by decide +kernel
theorem dX9_isInForce_25 : decode cX9_isInForce 25 = .ok (.invokevirtual 44, 3) := by decide +kernel
theorem dX9_isInForce_28 : decode cX9_isInForce 28 = .ok (.iload_n 3, 1) := by decide +kernel
theorem dX9_isInForce_29 : decode cX9_isInForce 29 = .ok (.iload_n 3, 1) := by decide +kernel
theorem dX9_isInForce_30 : decode cX9_isInForce 30 = .ok (.aload_n 0, 1) := by decide +kernel
theorem dX9_isInForce_31 : decode cX9_isInForce 31 = .ok (.iload_n 1, 1) := by decide +kernel
theorem dX9_isInForce_32 : decode cX9_isInForce 32 = .ok (.bipush 8, 2) := by decide +kernel
theorem dX9_isInForce_34 : decode cX9_isInForce 34 = .ok (.iconst 3, 1) := by decide +kernel
theorem dX9_isInForce_35 : decode cX9_isInForce 35 = .ok (.iload_n 2, 1) := by decide +kernel
theorem dX9_isInForce_36 : decode cX9_isInForce 36 = .ok (.imul, 1) := by decide +kernel
theorem dX9_isInForce_37 : decode cX9_isInForce 37 = .ok (.iadd, 1) := by decide +kernel
theorem dX9_isInForce_38 : decode cX9_isInForce 38 = .ok (.iconst 1, 1) := by decide +kernel
theorem dX9_isInForce_39 : decode cX9_isInForce 39 = .ok (.iadd, 1) := by decide +kernel
theorem dX9_isInForce_40 : decode cX9_isInForce 40 = .ok (.invokevirtual 44, 3) := by decide +kernel
theorem dX9_isInForce_43 : decode cX9_isInForce 43 = .ok (.iadd, 1) := by decide +kernel
theorem dX9_isInForce_44 : decode cX9_isInForce 44 = .ok (.iconst 1, 1) := by decide +kernel
theorem dX9_isInForce_45 : decode cX9_isInForce 45 = .ok (.isub, 1) := by decide +kernel
theorem dX9_isInForce_46 : decode cX9_isInForce 46 = .ok (.invokestatic 36, 3) := by decide +kernel
theorem dX9_isInForce_49 : decode cX9_isInForce 49 = .ok (.ifCond .eq 7, 3) := by decide +kernel
theorem dX9_isInForce_52 : decode cX9_isInForce 52 = .ok (.iconst 1, 1) := by decide +kernel
theorem dX9_isInForce_53 : decode cX9_isInForce 53 = .ok (.goto 4, 3) := by decide +kernel
theorem dX9_isInForce_56 : decode cX9_isInForce 56 = .ok (.iconst 0, 1) := by decide +kernel
theorem dX9_isInForce_57 : decode cX9_isInForce 57 = .ok (.ireturn, 1) := by decide +kernel
theorem dX9_ceiling_0 : decode cX9_ceiling 0 = .ok (.iconst 0, 1) := by decide +kernel
theorem dX9_ceiling_1 : decode cX9_ceiling 1 = .ok (.istore_n 1, 1) := by decide +kernel
theorem dX9_ceiling_2 : decode cX9_ceiling 2 = .ok (.iconst 0, 1) := by decide +kernel
theorem dX9_ceiling_3 : decode cX9_ceiling 3 = .ok (.istore_n 2, 1) := by decide +kernel
theorem dX9_ceiling_4 : decode cX9_ceiling 4 = .ok (.iload_n 2, 1) := by decide +kernel
theorem dX9_ceiling_5 : decode cX9_ceiling 5 = .ok (.aload_n 0, 1) := by decide +kernel
theorem dX9_ceiling_6 : decode cX9_ceiling 6 = .ok (.getfield 7, 3) := by decide +kernel
theorem dX9_ceiling_9 : decode cX9_ceiling 9 = .ok (.bipush 9, 2) := by decide +kernel
theorem dX9_ceiling_11 : decode cX9_ceiling 11 = .ok (.iaload, 1) := by decide +kernel
theorem dX9_ceiling_12 : decode cX9_ceiling 12 = .ok (.if_icmp .ge 79, 3) := by decide +kernel
theorem dX9_ceiling_15 : decode cX9_ceiling 15 = .ok (.aload_n 0, 1) := by decide +kernel
theorem dX9_ceiling_16 : decode cX9_ceiling 16 = .ok (.getfield 7, 3) := by decide +kernel
theorem dX9_ceiling_19 : decode cX9_ceiling 19 = .ok (.bipush 10, 2) := by decide +kernel
theorem dX9_ceiling_21 : decode cX9_ceiling 21 = .ok (.iload_n 2, 1) := by decide +kernel
theorem dX9_ceiling_22 : decode cX9_ceiling 22 = .ok (.iadd, 1) := by decide +kernel
theorem dX9_ceiling_23 : decode cX9_ceiling 23 = .ok (.iaload, 1) := by decide +kernel
theorem dX9_ceiling_24 : decode cX9_ceiling 24 = .ok (.istore_n 3, 1) := by decide +kernel
theorem dX9_ceiling_25 : decode cX9_ceiling 25 = .ok (.iconst 0, 1) := by decide +kernel
theorem dX9_ceiling_26 : decode cX9_ceiling 26 = .ok (.istore 4, 2) := by decide +kernel
theorem dX9_ceiling_28 : decode cX9_ceiling 28 = .ok (.iload 4, 2) := by decide +kernel
theorem dX9_ceiling_30 : decode cX9_ceiling 30 = .ok (.aload_n 0, 1) := by decide +kernel
theorem dX9_ceiling_31 : decode cX9_ceiling 31 = .ok (.iload_n 3, 1) := by decide +kernel
theorem dX9_ceiling_32 : decode cX9_ceiling 32 = .ok (.bipush 7, 2) := by decide +kernel
theorem dX9_ceiling_34 : decode cX9_ceiling 34 = .ok (.invokevirtual 44, 3) := by decide +kernel
theorem dX9_ceiling_37 : decode cX9_ceiling 37 = .ok (.if_icmp .ge 48, 3) := by decide +kernel
theorem dX9_ceiling_40 : decode cX9_ceiling 40 = .ok (.aload_n 0, 1) := by decide +kernel
theorem dX9_ceiling_41 : decode cX9_ceiling 41 = .ok (.iload_n 3, 1) := by decide +kernel
theorem dX9_ceiling_42 : decode cX9_ceiling 42 = .ok (.bipush 8, 2) := by decide +kernel
theorem dX9_ceiling_44 : decode cX9_ceiling 44 = .ok (.iconst 3, 1) := by decide +kernel
theorem dX9_ceiling_45 : decode cX9_ceiling 45 = .ok (.iload 4, 2) := by decide +kernel
theorem dX9_ceiling_47 : decode cX9_ceiling 47 = .ok (.imul, 1) := by decide +kernel
theorem dX9_ceiling_48 : decode cX9_ceiling 48 = .ok (.iadd, 1) := by decide +kernel
theorem dX9_ceiling_49 : decode cX9_ceiling 49 = .ok (.iconst 2, 1) := by decide +kernel
theorem dX9_ceiling_50 : decode cX9_ceiling 50 = .ok (.iadd, 1) := by decide +kernel
theorem dX9_ceiling_51 : decode cX9_ceiling 51 = .ok (.invokevirtual 44, 3) := by decide +kernel
theorem dX9_ceiling_54 : decode cX9_ceiling 54 = .ok (.istore 5, 2) := by decide +kernel
theorem dX9_ceiling_56 : decode cX9_ceiling 56 = .ok (.aload_n 0, 1) := by decide +kernel
theorem dX9_ceiling_57 : decode cX9_ceiling 57 = .ok (.iload_n 3, 1) := by decide +kernel
theorem dX9_ceiling_58 : decode cX9_ceiling 58 = .ok (.iload 4, 2) := by decide +kernel
theorem dX9_ceiling_60 : decode cX9_ceiling 60 = .ok (.invokevirtual 110, 3) := by decide +kernel
theorem dX9_ceiling_63 : decode cX9_ceiling 63 = .ok (.ifCond .eq 14, 3) := by decide +kernel
theorem dX9_ceiling_66 : decode cX9_ceiling 66 = .ok (.iload 5, 2) := by decide +kernel
theorem dX9_ceiling_68 : decode cX9_ceiling 68 = .ok (.iload_n 1, 1) := by decide +kernel
theorem dX9_ceiling_69 : decode cX9_ceiling 69 = .ok (.if_icmp .le 8, 3) := by decide +kernel
theorem dX9_ceiling_72 : decode cX9_ceiling 72 = .ok (.iload 5, 2) := by decide +kernel
theorem dX9_ceiling_74 : decode cX9_ceiling 74 = .ok (.goto 4, 3) := by decide +kernel
theorem dX9_ceiling_77 : decode cX9_ceiling 77 = .ok (.iload_n 1, 1) := by decide +kernel
theorem dX9_ceiling_78 : decode cX9_ceiling 78 = .ok (.istore_n 1, 1) := by decide +kernel
theorem dX9_ceiling_79 : decode cX9_ceiling 79 = .ok (.iinc 4 1, 3) := by decide +kernel
theorem dX9_ceiling_82 : decode cX9_ceiling 82 = .ok (.goto (-54), 3) := by decide +kernel
theorem dX9_ceiling_85 : decode cX9_ceiling 85 = .ok (.iinc 2 1, 3) := by decide +kernel
theorem dX9_ceiling_88 : decode cX9_ceiling 88 = .ok (.goto (-84), 3) := by decide +kernel
theorem dX9_ceiling_91 : decode cX9_ceiling 91 = .ok (.iload_n 1, 1) := by decide +kernel
theorem dX9_ceiling_92 : decode cX9_ceiling 92 = .ok (.ireturn, 1) := by decide +kernel
theorem dX9_running_0 : decode cX9_running 0 = .ok (.iconst 0, 1) := by decide +kernel
theorem dX9_running_1 : decode cX9_running 1 = .ok (.istore_n 1, 1) := by decide +kernel
theorem dX9_running_2 : decode cX9_running 2 = .ok (.iconst 0, 1) := by decide +kernel
theorem dX9_running_3 : decode cX9_running 3 = .ok (.istore_n 2, 1) := by decide +kernel
theorem dX9_running_4 : decode cX9_running 4 = .ok (.iload_n 2, 1) := by decide +kernel
theorem dX9_running_5 : decode cX9_running 5 = .ok (.aload_n 0, 1) := by decide +kernel
theorem dX9_running_6 : decode cX9_running 6 = .ok (.getfield 7, 3) := by decide +kernel
theorem dX9_running_9 : decode cX9_running 9 = .ok (.bipush 9, 2) := by decide +kernel
theorem dX9_running_11 : decode cX9_running 11 = .ok (.iaload, 1) := by decide +kernel
theorem dX9_running_12 : decode cX9_running 12 = .ok (.if_icmp .ge 35, 3) := by decide +kernel
theorem dX9_running_15 : decode cX9_running 15 = .ok (.aload_n 0, 1) := by decide +kernel
theorem dX9_running_16 : decode cX9_running 16 = .ok (.aload_n 0, 1) := by decide +kernel
theorem dX9_running_17 : decode cX9_running 17 = .ok (.getfield 7, 3) := by decide +kernel
theorem dX9_running_20 : decode cX9_running 20 = .ok (.bipush 10, 2) := by decide +kernel
theorem dX9_running_22 : decode cX9_running 22 = .ok (.iload_n 2, 1) := by decide +kernel
theorem dX9_running_23 : decode cX9_running 23 = .ok (.iadd, 1) := by decide +kernel
theorem dX9_running_24 : decode cX9_running 24 = .ok (.iaload, 1) := by decide +kernel
theorem dX9_running_25 : decode cX9_running 25 = .ok (.iconst 0, 1) := by decide +kernel
theorem dX9_running_26 : decode cX9_running 26 = .ok (.invokevirtual 44, 3) := by decide +kernel
theorem dX9_running_29 : decode cX9_running 29 = .ok (.istore_n 3, 1) := by decide +kernel
theorem dX9_running_30 : decode cX9_running 30 = .ok (.iload_n 3, 1) := by decide +kernel
theorem dX9_running_31 : decode cX9_running 31 = .ok (.iload_n 1, 1) := by decide +kernel
theorem dX9_running_32 : decode cX9_running 32 = .ok (.if_icmp .le 7, 3) := by decide +kernel
theorem dX9_running_35 : decode cX9_running 35 = .ok (.iload_n 3, 1) := by decide +kernel
theorem dX9_running_36 : decode cX9_running 36 = .ok (.goto 4, 3) := by decide +kernel
theorem dX9_running_39 : decode cX9_running 39 = .ok (.iload_n 1, 1) := by decide +kernel
theorem dX9_running_40 : decode cX9_running 40 = .ok (.istore_n 1, 1) := by decide +kernel
theorem dX9_running_41 : decode cX9_running 41 = .ok (.iinc 2 1, 3) := by decide +kernel
theorem dX9_running_44 : decode cX9_running 44 = .ok (.goto (-40), 3) := by decide +kernel
theorem dX9_running_47 : decode cX9_running 47 = .ok (.iload_n 1, 1) := by decide +kernel
theorem dX9_running_48 : decode cX9_running 48 = .ok (.ireturn, 1) := by decide +kernel
theorem dX9_greater_0 : decode cX9_greater 0 = .ok (.iload_n 0, 1) := by decide +kernel
theorem dX9_greater_1 : decode cX9_greater 1 = .ok (.iload_n 1, 1) := by decide +kernel
theorem dX9_greater_2 : decode cX9_greater 2 = .ok (.if_icmp .le 7, 3) := by decide +kernel
theorem dX9_greater_5 : decode cX9_greater 5 = .ok (.iload_n 0, 1) := by decide +kernel
theorem dX9_greater_6 : decode cX9_greater 6 = .ok (.goto 4, 3) := by decide +kernel
theorem dX9_greater_9 : decode cX9_greater 9 = .ok (.iload_n 1, 1) := by decide +kernel
theorem dX9_greater_10 : decode cX9_greater 10 = .ok (.ireturn, 1) := by decide +kernel
theorem dX9_level_0 : decode cX9_level 0 = .ok (.aload_n 0, 1) := by decide +kernel
theorem dX9_level_1 : decode cX9_level 1 = .ok (.getfield 7, 3) := by decide +kernel
theorem dX9_level_4 : decode cX9_level 4 = .ok (.iconst 1, 1) := by decide +kernel
theorem dX9_level_5 : decode cX9_level 5 = .ok (.iaload, 1) := by decide +kernel
theorem dX9_level_6 : decode cX9_level 6 = .ok (.aload_n 0, 1) := by decide +kernel
theorem dX9_level_7 : decode cX9_level 7 = .ok (.invokevirtual 113, 3) := by decide +kernel
theorem dX9_level_10 : decode cX9_level 10 = .ok (.aload_n 0, 1) := by decide +kernel
theorem dX9_level_11 : decode cX9_level 11 = .ok (.invokevirtual 117, 3) := by decide +kernel
theorem dX9_level_14 : decode cX9_level 14 = .ok (.invokestatic 120, 3) := by decide +kernel
theorem dX9_level_17 : decode cX9_level 17 = .ok (.invokestatic 120, 3) := by decide +kernel
theorem dX9_level_20 : decode cX9_level 20 = .ok (.ireturn, 1) := by decide +kernel
theorem dX9_candidate_0 : decode cX9_candidate 0 = .ok (.aload_n 0, 1) := by decide +kernel
theorem dX9_candidate_1 : decode cX9_candidate 1 = .ok (.invokevirtual 123, 3) := by decide +kernel
theorem dX9_candidate_4 : decode cX9_candidate 4 = .ok (.istore_n 1, 1) := by decide +kernel
theorem dX9_candidate_5 : decode cX9_candidate 5 = .ok (.iconst (-1), 1) := by decide +kernel
theorem dX9_candidate_6 : decode cX9_candidate 6 = .ok (.istore_n 2, 1) := by decide +kernel
theorem dX9_candidate_7 : decode cX9_candidate 7 = .ok (.iconst 0, 1) := by decide +kernel
theorem dX9_candidate_8 : decode cX9_candidate 8 = .ok (.istore_n 3, 1) := by decide +kernel
theorem dX9_candidate_9 : decode cX9_candidate 9 = .ok (.iload_n 3, 1) := by decide +kernel
theorem dX9_candidate_10 : decode cX9_candidate 10 = .ok (.aload_n 0, 1) := by decide +kernel
theorem dX9_candidate_11 : decode cX9_candidate 11 = .ok (.getfield 7, 3) := by decide +kernel
theorem dX9_candidate_14 : decode cX9_candidate 14 = .ok (.bipush 8, 2) := by decide +kernel
theorem dX9_candidate_16 : decode cX9_candidate 16 = .ok (.iaload, 1) := by decide +kernel
theorem dX9_candidate_17 : decode cX9_candidate 17 = .ok (.if_icmp .ge 71, 3) := by decide +kernel
theorem dX9_candidate_20 : decode cX9_candidate 20 = .ok (.aload_n 0, 1) := by decide +kernel
theorem dX9_candidate_21 : decode cX9_candidate 21 = .ok (.iload_n 3, 1) := by decide +kernel
theorem dX9_candidate_22 : decode cX9_candidate 22 = .ok (.iconst 3, 1) := by decide +kernel
theorem dX9_candidate_23 : decode cX9_candidate 23 = .ok (.invokevirtual 44, 3) := by decide +kernel
theorem dX9_candidate_26 : decode cX9_candidate 26 = .ok (.iconst 1, 1) := by decide +kernel
theorem dX9_candidate_27 : decode cX9_candidate 27 = .ok (.if_icmp .ne 25, 3) := by decide +kernel
theorem dX9_candidate_30 : decode cX9_candidate 30 = .ok (.aload_n 0, 1) := by decide +kernel
theorem dX9_candidate_31 : decode cX9_candidate 31 = .ok (.iload_n 3, 1) := by decide +kernel
theorem dX9_candidate_32 : decode cX9_candidate 32 = .ok (.iconst 0, 1) := by decide +kernel
theorem dX9_candidate_33 : decode cX9_candidate 33 = .ok (.invokevirtual 44, 3) := by decide +kernel
theorem dX9_candidate_36 : decode cX9_candidate 36 = .ok (.iload_n 1, 1) := by decide +kernel
theorem dX9_candidate_37 : decode cX9_candidate 37 = .ok (.if_icmp .le 15, 3) := by decide +kernel
theorem dX9_candidate_40 : decode cX9_candidate 40 = .ok (.aload_n 0, 1) := by decide +kernel
theorem dX9_candidate_41 : decode cX9_candidate 41 = .ok (.iload_n 3, 1) := by decide +kernel
theorem dX9_candidate_42 : decode cX9_candidate 42 = .ok (.invokevirtual 126, 3) := by decide +kernel
theorem dX9_candidate_45 : decode cX9_candidate 45 = .ok (.ifCond .eq 7, 3) := by decide +kernel
theorem dX9_candidate_48 : decode cX9_candidate 48 = .ok (.iconst 1, 1) := by decide +kernel
theorem dX9_candidate_49 : decode cX9_candidate 49 = .ok (.goto 4, 3) := by decide +kernel
theorem dX9_candidate_52 : decode cX9_candidate 52 = .ok (.iconst 0, 1) := by decide +kernel
theorem dX9_candidate_53 : decode cX9_candidate 53 = .ok (.istore 4, 2) := by decide +kernel
theorem dX9_candidate_55 : decode cX9_candidate 55 = .ok (.iload 4, 2) := by decide +kernel
theorem dX9_candidate_57 : decode cX9_candidate 57 = .ok (.ifCond .eq 7, 3) := by decide +kernel
theorem dX9_candidate_60 : decode cX9_candidate 60 = .ok (.iload_n 3, 1) := by decide +kernel
theorem dX9_candidate_61 : decode cX9_candidate 61 = .ok (.goto 4, 3) := by decide +kernel
theorem dX9_candidate_64 : decode cX9_candidate 64 = .ok (.iload_n 2, 1) := by decide +kernel
theorem dX9_candidate_65 : decode cX9_candidate 65 = .ok (.istore_n 2, 1) := by decide +kernel
theorem dX9_candidate_66 : decode cX9_candidate 66 = .ok (.iload 4, 2) := by decide +kernel
theorem dX9_candidate_68 : decode cX9_candidate 68 = .ok (.ifCond .eq 12, 3) := by decide +kernel
theorem dX9_candidate_71 : decode cX9_candidate 71 = .ok (.aload_n 0, 1) := by decide +kernel
theorem dX9_candidate_72 : decode cX9_candidate 72 = .ok (.iload_n 3, 1) := by decide +kernel
theorem dX9_candidate_73 : decode cX9_candidate 73 = .ok (.iconst 0, 1) := by decide +kernel
theorem dX9_candidate_74 : decode cX9_candidate 74 = .ok (.invokevirtual 44, 3) := by decide +kernel
theorem dX9_candidate_77 : decode cX9_candidate 77 = .ok (.goto 4, 3) := by decide +kernel
theorem dX9_candidate_80 : decode cX9_candidate 80 = .ok (.iload_n 1, 1) := by decide +kernel
theorem dX9_candidate_81 : decode cX9_candidate 81 = .ok (.istore_n 1, 1) := by decide +kernel
theorem dX9_candidate_82 : decode cX9_candidate 82 = .ok (.iinc 3 1, 3) := by decide +kernel
theorem dX9_candidate_85 : decode cX9_candidate 85 = .ok (.goto (-76), 3) := by decide +kernel
theorem dX9_candidate_88 : decode cX9_candidate 88 = .ok (.iload_n 2, 1) := by decide +kernel
theorem dX9_candidate_89 : decode cX9_candidate 89 = .ok (.ireturn, 1) := by decide +kernel
theorem dX9_changes_0 : decode cX9_changes 0 = .ok (.iload_n 1, 1) := by decide +kernel
theorem dX9_changes_1 : decode cX9_changes 1 = .ok (.iconst 2, 1) := by decide +kernel
theorem dX9_changes_2 : decode cX9_changes 2 = .ok (.if_icmp .ne 11, 3) := by decide +kernel
theorem dX9_changes_5 : decode cX9_changes 5 = .ok (.iload_n 3, 1) := by decide +kernel
theorem dX9_changes_6 : decode cX9_changes 6 = .ok (.ifCond .ne 7, 3) := by decide +kernel
theorem dX9_changes_9 : decode cX9_changes 9 = .ok (.iconst 1, 1) := by decide +kernel
theorem dX9_changes_10 : decode cX9_changes 10 = .ok (.goto 4, 3) := by decide +kernel
theorem dX9_changes_13 : decode cX9_changes 13 = .ok (.iconst 0, 1) := by decide +kernel
theorem dX9_changes_14 : decode cX9_changes 14 = .ok (.istore 4, 2) := by decide +kernel
theorem dX9_changes_16 : decode cX9_changes 16 = .ok (.aload_n 0, 1) := by decide +kernel
theorem dX9_changes_17 : decode cX9_changes 17 = .ok (.getfield 7, 3) := by decide +kernel
theorem dX9_changes_20 : decode cX9_changes 20 = .ok (.iconst 5, 1) := by decide +kernel
theorem dX9_changes_21 : decode cX9_changes 21 = .ok (.iload 4, 2) := by decide +kernel
theorem dX9_changes_23 : decode cX9_changes 23 = .ok (.ifCond .eq 7, 3) := by decide +kernel
theorem dX9_changes_26 : decode cX9_changes 26 = .ok (.iconst 0, 1) := by decide +kernel
theorem dX9_changes_27 : decode cX9_changes 27 = .ok (.goto 4, 3) := by decide +kernel
theorem dX9_changes_30 : decode cX9_changes 30 = .ok (.iload_n 1, 1) := by decide +kernel
theorem dX9_changes_31 : decode cX9_changes 31 = .ok (.iastore, 1) := by decide +kernel
theorem dX9_changes_32 : decode cX9_changes 32 = .ok (.aload_n 0, 1) := by decide +kernel
theorem dX9_changes_33 : decode cX9_changes 33 = .ok (.getfield 7, 3) := by decide +kernel
theorem dX9_changes_36 : decode cX9_changes 36 = .ok (.bipush 6, 2) := by decide +kernel
theorem dX9_changes_38 : decode cX9_changes 38 = .ok (.iload_n 2, 1) := by decide +kernel
theorem dX9_changes_39 : decode cX9_changes 39 = .ok (.iastore, 1) := by decide +kernel
theorem dX9_changes_40 : decode cX9_changes 40 = .ok (.aload_n 0, 1) := by decide +kernel
theorem dX9_changes_41 : decode cX9_changes 41 = .ok (.getfield 7, 3) := by decide +kernel
theorem dX9_changes_44 : decode cX9_changes 44 = .ok (.bipush 7, 2) := by decide +kernel
theorem dX9_changes_46 : decode cX9_changes 46 = .ok (.iload_n 3, 1) := by decide +kernel
theorem dX9_changes_47 : decode cX9_changes 47 = .ok (.iastore, 1) := by decide +kernel
theorem dX9_changes_48 : decode cX9_changes 48 = .ok (.return_, 1) := by decide +kernel
theorem dX9_comesOnTop_0 : decode cX9_comesOnTop 0 = .ok (.aload_n 0, 1) := by decide +kernel
theorem dX9_comesOnTop_1 : decode cX9_comesOnTop 1 = .ok (.getfield 7, 3) := by decide +kernel
theorem dX9_comesOnTop_4 : decode cX9_comesOnTop 4 = .ok (.bipush 6, 2) := by decide +kernel
theorem dX9_comesOnTop_6 : decode cX9_comesOnTop 6 = .ok (.iaload, 1) := by decide +kernel
theorem dX9_comesOnTop_7 : decode cX9_comesOnTop 7 = .ok (.istore_n 2, 1) := by decide +kernel
theorem dX9_comesOnTop_8 : decode cX9_comesOnTop 8 = .ok (.iload_n 2, 1) := by decide +kernel
theorem dX9_comesOnTop_9 : decode cX9_comesOnTop 9 = .ok (.invokestatic 40, 3) := by decide +kernel
theorem dX9_comesOnTop_12 : decode cX9_comesOnTop 12 = .ok (.istore_n 3, 1) := by decide +kernel
theorem dX9_comesOnTop_13 : decode cX9_comesOnTop 13 = .ok (.aload_n 0, 1) := by decide +kernel
theorem dX9_comesOnTop_14 : decode cX9_comesOnTop 14 = .ok (.iconst 2, 1) := by decide +kernel
theorem dX9_comesOnTop_15 : decode cX9_comesOnTop 15 = .ok (.iconst (-1), 1) := by decide +kernel
theorem dX9_comesOnTop_16 : decode cX9_comesOnTop 16 = .ok (.iconst 0, 1) := by decide +kernel
theorem dX9_comesOnTop_17 : decode cX9_comesOnTop 17 = .ok (.invokevirtual 129, 3) := by decide +kernel
theorem dX9_comesOnTop_20 : decode cX9_comesOnTop 20 = .ok (.iload_n 1, 1) := by decide +kernel
theorem dX9_comesOnTop_21 : decode cX9_comesOnTop 21 = .ok (.aload_n 0, 1) := by decide +kernel
theorem dX9_comesOnTop_22 : decode cX9_comesOnTop 22 = .ok (.getfield 7, 3) := by decide +kernel
theorem dX9_comesOnTop_25 : decode cX9_comesOnTop 25 = .ok (.iload_n 3, 1) := by decide +kernel
theorem dX9_comesOnTop_26 : decode cX9_comesOnTop 26 = .ok (.bipush 6, 2) := by decide +kernel
theorem dX9_comesOnTop_28 : decode cX9_comesOnTop 28 = .ok (.iadd, 1) := by decide +kernel
theorem dX9_comesOnTop_29 : decode cX9_comesOnTop 29 = .ok (.iaload, 1) := by decide +kernel
theorem dX9_comesOnTop_30 : decode cX9_comesOnTop 30 = .ok (.isub, 1) := by decide +kernel
theorem dX9_comesOnTop_31 : decode cX9_comesOnTop 31 = .ok (.istore 4, 2) := by decide +kernel
theorem dX9_comesOnTop_33 : decode cX9_comesOnTop 33 = .ok (.aload_n 0, 1) := by decide +kernel
theorem dX9_comesOnTop_34 : decode cX9_comesOnTop 34 = .ok (.getfield 7, 3) := by decide +kernel
theorem dX9_comesOnTop_37 : decode cX9_comesOnTop 37 = .ok (.iload_n 3, 1) := by decide +kernel
theorem dX9_comesOnTop_38 : decode cX9_comesOnTop 38 = .ok (.iconst 4, 1) := by decide +kernel
theorem dX9_comesOnTop_39 : decode cX9_comesOnTop 39 = .ok (.iadd, 1) := by decide +kernel
theorem dX9_comesOnTop_40 : decode cX9_comesOnTop 40 = .ok (.iconst 0, 1) := by decide +kernel
theorem dX9_comesOnTop_41 : decode cX9_comesOnTop 41 = .ok (.iastore, 1) := by decide +kernel
theorem dX9_comesOnTop_42 : decode cX9_comesOnTop 42 = .ok (.aload_n 0, 1) := by decide +kernel
theorem dX9_comesOnTop_43 : decode cX9_comesOnTop 43 = .ok (.getfield 7, 3) := by decide +kernel
theorem dX9_comesOnTop_46 : decode cX9_comesOnTop 46 = .ok (.iload_n 3, 1) := by decide +kernel
theorem dX9_comesOnTop_47 : decode cX9_comesOnTop 47 = .ok (.bipush 16, 2) := by decide +kernel
theorem dX9_comesOnTop_49 : decode cX9_comesOnTop 49 = .ok (.iadd, 1) := by decide +kernel
theorem dX9_comesOnTop_50 : decode cX9_comesOnTop 50 = .ok (.iconst 0, 1) := by decide +kernel
theorem dX9_comesOnTop_51 : decode cX9_comesOnTop 51 = .ok (.iastore, 1) := by decide +kernel
theorem dX9_comesOnTop_52 : decode cX9_comesOnTop 52 = .ok (.aload_n 0, 1) := by decide +kernel
theorem dX9_comesOnTop_53 : decode cX9_comesOnTop 53 = .ok (.getfield 7, 3) := by decide +kernel
theorem dX9_comesOnTop_56 : decode cX9_comesOnTop 56 = .ok (.iload_n 3, 1) := by decide +kernel
theorem dX9_comesOnTop_57 : decode cX9_comesOnTop 57 = .ok (.bipush 17, 2) := by decide +kernel
theorem dX9_comesOnTop_59 : decode cX9_comesOnTop 59 = .ok (.iadd, 1) := by decide +kernel
theorem dX9_comesOnTop_60 : decode cX9_comesOnTop 60 = .ok (.dup2, 1) := by decide +kernel
theorem dX9_comesOnTop_61 : decode cX9_comesOnTop 61 = .ok (.iaload, 1) := by decide +kernel
theorem dX9_comesOnTop_62 : decode cX9_comesOnTop 62 = .ok (.iconst 1, 1) := by decide +kernel
theorem dX9_comesOnTop_63 : decode cX9_comesOnTop 63 = .ok (.iadd, 1) := by decide +kernel
theorem dX9_comesOnTop_64 : decode cX9_comesOnTop 64 = .ok (.iastore, 1) := by decide +kernel
theorem dX9_comesOnTop_65 : decode cX9_comesOnTop 65 = .ok (.aload_n 0, 1) := by decide +kernel
theorem dX9_comesOnTop_66 : decode cX9_comesOnTop 66 = .ok (.getfield 7, 3) := by decide +kernel
theorem dX9_comesOnTop_69 : decode cX9_comesOnTop 69 = .ok (.iload_n 3, 1) := by decide +kernel
theorem dX9_comesOnTop_70 : decode cX9_comesOnTop 70 = .ok (.bipush 20, 2) := by decide +kernel
theorem dX9_comesOnTop_72 : decode cX9_comesOnTop 72 = .ok (.iadd, 1) := by decide +kernel
theorem dX9_comesOnTop_73 : decode cX9_comesOnTop 73 = .ok (.iload 4, 2) := by decide +kernel
theorem dX9_comesOnTop_75 : decode cX9_comesOnTop 75 = .ok (.iastore, 1) := by decide +kernel
theorem dX9_comesOnTop_76 : decode cX9_comesOnTop 76 = .ok (.aload_n 0, 1) := by decide +kernel
theorem dX9_comesOnTop_77 : decode cX9_comesOnTop 77 = .ok (.getfield 7, 3) := by decide +kernel
theorem dX9_comesOnTop_80 : decode cX9_comesOnTop 80 = .ok (.iload_n 3, 1) := by decide +kernel
theorem dX9_comesOnTop_81 : decode cX9_comesOnTop 81 = .ok (.bipush 21, 2) := by decide +kernel
theorem dX9_comesOnTop_83 : decode cX9_comesOnTop 83 = .ok (.iadd, 1) := by decide +kernel
theorem dX9_comesOnTop_84 : decode cX9_comesOnTop 84 = .ok (.aload_n 0, 1) := by decide +kernel
theorem dX9_comesOnTop_85 : decode cX9_comesOnTop 85 = .ok (.getfield 7, 3) := by decide +kernel
theorem dX9_comesOnTop_88 : decode cX9_comesOnTop 88 = .ok (.iload_n 3, 1) := by decide +kernel
theorem dX9_comesOnTop_89 : decode cX9_comesOnTop 89 = .ok (.bipush 21, 2) := by decide +kernel
theorem dX9_comesOnTop_91 : decode cX9_comesOnTop 91 = .ok (.iadd, 1) := by decide +kernel
theorem dX9_comesOnTop_92 : decode cX9_comesOnTop 92 = .ok (.iaload, 1) := by decide +kernel
theorem dX9_comesOnTop_93 : decode cX9_comesOnTop 93 = .ok (.iload 4, 2) := by decide +kernel
theorem dX9_comesOnTop_95 : decode cX9_comesOnTop 95 = .ok (.invokestatic 120, 3) := by decide +kernel
theorem dX9_comesOnTop_98 : decode cX9_comesOnTop 98 = .ok (.iastore, 1) := by decide +kernel
theorem dX9_comesOnTop_99 : decode cX9_comesOnTop 99 = .ok (.aload_n 0, 1) := by decide +kernel
theorem dX9_comesOnTop_100 : decode cX9_comesOnTop 100 = .ok (.getfield 7, 3) := by decide +kernel
theorem dX9_comesOnTop_103 : decode cX9_comesOnTop 103 = .ok (.bipush 92, 2) := by decide +kernel
theorem dX9_comesOnTop_105 : decode cX9_comesOnTop 105 = .ok (.dup2, 1) := by decide +kernel
theorem dX9_comesOnTop_106 : decode cX9_comesOnTop 106 = .ok (.iaload, 1) := by decide +kernel
theorem dX9_comesOnTop_107 : decode cX9_comesOnTop 107 = .ok (.iload 4, 2) := by decide +kernel
theorem dX9_comesOnTop_109 : decode cX9_comesOnTop 109 = .ok (.iadd, 1) := by decide +kernel
theorem dX9_comesOnTop_110 : decode cX9_comesOnTop 110 = .ok (.iastore, 1) := by decide +kernel
theorem dX9_comesOnTop_111 : decode cX9_comesOnTop 111 = .ok (.aload_n 0, 1) := by decide +kernel
theorem dX9_comesOnTop_112 : decode cX9_comesOnTop 112 = .ok (.getfield 7, 3) := by decide +kernel
theorem dX9_comesOnTop_115 : decode cX9_comesOnTop 115 = .ok (.bipush 10, 2) := by decide +kernel
theorem dX9_comesOnTop_117 : decode cX9_comesOnTop 117 = .ok (.aload_n 0, 1) := by decide +kernel
theorem dX9_comesOnTop_118 : decode cX9_comesOnTop 118 = .ok (.getfield 7, 3) := by decide +kernel
theorem dX9_comesOnTop_121 : decode cX9_comesOnTop 121 = .ok (.bipush 9, 2) := by decide +kernel
theorem dX9_comesOnTop_123 : decode cX9_comesOnTop 123 = .ok (.iaload, 1) := by decide +kernel
theorem dX9_comesOnTop_124 : decode cX9_comesOnTop 124 = .ok (.iadd, 1) := by decide +kernel
theorem dX9_comesOnTop_125 : decode cX9_comesOnTop 125 = .ok (.iload_n 2, 1) := by decide +kernel
theorem dX9_comesOnTop_126 : decode cX9_comesOnTop 126 = .ok (.iastore, 1) := by decide +kernel
theorem dX9_comesOnTop_127 : decode cX9_comesOnTop 127 = .ok (.aload_n 0, 1) := by decide +kernel
theorem dX9_comesOnTop_128 : decode cX9_comesOnTop 128 = .ok (.getfield 7, 3) := by decide +kernel
theorem dX9_comesOnTop_131 : decode cX9_comesOnTop 131 = .ok (.bipush 9, 2) := by decide +kernel
theorem dX9_comesOnTop_133 : decode cX9_comesOnTop 133 = .ok (.dup2, 1) := by decide +kernel
theorem dX9_comesOnTop_134 : decode cX9_comesOnTop 134 = .ok (.iaload, 1) := by decide +kernel
theorem dX9_comesOnTop_135 : decode cX9_comesOnTop 135 = .ok (.iconst 1, 1) := by decide +kernel
theorem dX9_comesOnTop_136 : decode cX9_comesOnTop 136 = .ok (.iadd, 1) := by decide +kernel
theorem dX9_comesOnTop_137 : decode cX9_comesOnTop 137 = .ok (.iastore, 1) := by decide +kernel
theorem dX9_comesOnTop_138 : decode cX9_comesOnTop 138 = .ok (.aload_n 0, 1) := by decide +kernel
theorem dX9_comesOnTop_139 : decode cX9_comesOnTop 139 = .ok (.getfield 7, 3) := by decide +kernel
theorem dX9_comesOnTop_142 : decode cX9_comesOnTop 142 = .ok (.bipush 91, 2) := by decide +kernel
theorem dX9_comesOnTop_144 : decode cX9_comesOnTop 144 = .ok (.aload_n 0, 1) := by decide +kernel
theorem dX9_comesOnTop_145 : decode cX9_comesOnTop 145 = .ok (.getfield 7, 3) := by decide +kernel
theorem dX9_comesOnTop_148 : decode cX9_comesOnTop 148 = .ok (.bipush 91, 2) := by decide +kernel
theorem dX9_comesOnTop_150 : decode cX9_comesOnTop 150 = .ok (.iaload, 1) := by decide +kernel
theorem dX9_comesOnTop_151 : decode cX9_comesOnTop 151 = .ok (.aload_n 0, 1) := by decide +kernel
theorem dX9_comesOnTop_152 : decode cX9_comesOnTop 152 = .ok (.getfield 7, 3) := by decide +kernel
theorem dX9_comesOnTop_155 : decode cX9_comesOnTop 155 = .ok (.bipush 9, 2) := by decide +kernel
theorem dX9_comesOnTop_157 : decode cX9_comesOnTop 157 = .ok (.iaload, 1) := by decide +kernel
theorem dX9_comesOnTop_158 : decode cX9_comesOnTop 158 = .ok (.invokestatic 120, 3) := by decide +kernel
theorem dX9_comesOnTop_161 : decode cX9_comesOnTop 161 = .ok (.iastore, 1) := by decide +kernel
theorem dX9_comesOnTop_162 : decode cX9_comesOnTop 162 = .ok (.aload_n 0, 1) := by decide +kernel
theorem dX9_comesOnTop_163 : decode cX9_comesOnTop 163 = .ok (.iconst 1, 1) := by decide +kernel
theorem dX9_comesOnTop_164 : decode cX9_comesOnTop 164 = .ok (.iload_n 2, 1) := by decide +kernel
theorem dX9_comesOnTop_165 : decode cX9_comesOnTop 165 = .ok (.iload_n 1, 1) := by decide +kernel
theorem dX9_comesOnTop_166 : decode cX9_comesOnTop 166 = .ok (.invokevirtual 84, 3) := by decide +kernel
theorem dX9_comesOnTop_169 : decode cX9_comesOnTop 169 = .ok (.return_, 1) := by decide +kernel
theorem dX9_isEntering_0 : decode cX9_isEntering 0 = .ok (.aload_n 0, 1) := by decide +kernel
theorem dX9_isEntering_1 : decode cX9_isEntering 1 = .ok (.getfield 7, 3) := by decide +kernel
theorem dX9_isEntering_4 : decode cX9_isEntering 4 = .ok (.iconst 5, 1) := by decide +kernel
theorem dX9_isEntering_5 : decode cX9_isEntering 5 = .ok (.iaload, 1) := by decide +kernel
theorem dX9_isEntering_6 : decode cX9_isEntering 6 = .ok (.iconst 1, 1) := by decide +kernel
theorem dX9_isEntering_7 : decode cX9_isEntering 7 = .ok (.if_icmp .eq 13, 3) := by decide +kernel
theorem dX9_isEntering_10 : decode cX9_isEntering 10 = .ok (.aload_n 0, 1) := by decide +kernel
theorem dX9_isEntering_11 : decode cX9_isEntering 11 = .ok (.getfield 7, 3) := by decide +kernel
theorem dX9_isEntering_14 : decode cX9_isEntering 14 = .ok (.iconst 5, 1) := by decide +kernel
theorem dX9_isEntering_15 : decode cX9_isEntering 15 = .ok (.iaload, 1) := by decide +kernel
theorem dX9_isEntering_16 : decode cX9_isEntering 16 = .ok (.iconst 3, 1) := by decide +kernel
theorem dX9_isEntering_17 : decode cX9_isEntering 17 = .ok (.if_icmp .ne 7, 3) := by decide +kernel
theorem dX9_isEntering_20 : decode cX9_isEntering 20 = .ok (.iconst 1, 1) := by decide +kernel
theorem dX9_isEntering_21 : decode cX9_isEntering 21 = .ok (.goto 4, 3) := by decide +kernel
theorem dX9_isEntering_24 : decode cX9_isEntering 24 = .ok (.iconst 0, 1) := by decide +kernel
theorem dX9_isEntering_25 : decode cX9_isEntering 25 = .ok (.ireturn, 1) := by decide +kernel
theorem dX9_decides_0 : decode cX9_decides 0 = .ok (.aload_n 0, 1) := by decide +kernel
theorem dX9_decides_1 : decode cX9_decides 1 = .ok (.invokevirtual 132, 3) := by decide +kernel
theorem dX9_decides_4 : decode cX9_decides 4 = .ok (.istore_n 1, 1) := by decide +kernel
theorem dX9_decides_5 : decode cX9_decides 5 = .ok (.aload_n 0, 1) := by decide +kernel
theorem dX9_decides_6 : decode cX9_decides 6 = .ok (.invokevirtual 135, 3) := by decide +kernel
theorem dX9_decides_9 : decode cX9_decides 9 = .ok (.ifCond .eq 98, 3) := by decide +kernel
theorem dX9_decides_12 : decode cX9_decides 12 = .ok (.iload_n 1, 1) := by decide +kernel
theorem dX9_decides_13 : decode cX9_decides 13 = .ok (.iconst (-1), 1) := by decide +kernel
theorem dX9_decides_14 : decode cX9_decides 14 = .ok (.if_icmp .ne 48, 3) := by decide +kernel
theorem dX9_decides_17 : decode cX9_decides 17 = .ok (.aload_n 0, 1) := by decide +kernel
theorem dX9_decides_18 : decode cX9_decides 18 = .ok (.getfield 7, 3) := by decide +kernel
theorem dX9_decides_21 : decode cX9_decides 21 = .ok (.bipush 89, 2) := by decide +kernel
theorem dX9_decides_23 : decode cX9_decides 23 = .ok (.dup2, 1) := by decide +kernel
theorem dX9_decides_24 : decode cX9_decides 24 = .ok (.iaload, 1) := by decide +kernel
theorem dX9_decides_25 : decode cX9_decides 25 = .ok (.iconst 1, 1) := by decide +kernel
theorem dX9_decides_26 : decode cX9_decides 26 = .ok (.iadd, 1) := by decide +kernel
theorem dX9_decides_27 : decode cX9_decides 27 = .ok (.iastore, 1) := by decide +kernel
theorem dX9_decides_28 : decode cX9_decides 28 = .ok (.aload_n 0, 1) := by decide +kernel
theorem dX9_decides_29 : decode cX9_decides 29 = .ok (.bipush 7, 2) := by decide +kernel
theorem dX9_decides_31 : decode cX9_decides 31 = .ok (.aload_n 0, 1) := by decide +kernel
theorem dX9_decides_32 : decode cX9_decides 32 = .ok (.getfield 7, 3) := by decide +kernel
theorem dX9_decides_35 : decode cX9_decides 35 = .ok (.bipush 6, 2) := by decide +kernel
theorem dX9_decides_37 : decode cX9_decides 37 = .ok (.iaload, 1) := by decide +kernel
theorem dX9_decides_38 : decode cX9_decides 38 = .ok (.aload_n 0, 1) := by decide +kernel
theorem dX9_decides_39 : decode cX9_decides 39 = .ok (.getfield 7, 3) := by decide +kernel
theorem dX9_decides_42 : decode cX9_decides 42 = .ok (.iconst 0, 1) := by decide +kernel
theorem dX9_decides_43 : decode cX9_decides 43 = .ok (.iaload, 1) := by decide +kernel
theorem dX9_decides_44 : decode cX9_decides 44 = .ok (.invokevirtual 84, 3) := by decide +kernel
theorem dX9_decides_47 : decode cX9_decides 47 = .ok (.aload_n 0, 1) := by decide +kernel
theorem dX9_decides_48 : decode cX9_decides 48 = .ok (.iconst 2, 1) := by decide +kernel
theorem dX9_decides_49 : decode cX9_decides 49 = .ok (.iconst (-1), 1) := by decide +kernel
theorem dX9_decides_50 : decode cX9_decides 50 = .ok (.aload_n 0, 1) := by decide +kernel
theorem dX9_decides_51 : decode cX9_decides 51 = .ok (.getfield 7, 3) := by decide +kernel
theorem dX9_decides_54 : decode cX9_decides 54 = .ok (.iconst 3, 1) := by decide +kernel
theorem dX9_decides_55 : decode cX9_decides 55 = .ok (.iaload, 1) := by decide +kernel
theorem dX9_decides_56 : decode cX9_decides 56 = .ok (.invokevirtual 129, 3) := by decide +kernel
theorem dX9_decides_59 : decode cX9_decides 59 = .ok (.goto 186, 3) := by decide +kernel
theorem dX9_decides_62 : decode cX9_decides 62 = .ok (.iload_n 1, 1) := by decide +kernel
theorem dX9_decides_63 : decode cX9_decides 63 = .ok (.aload_n 0, 1) := by decide +kernel
theorem dX9_decides_64 : decode cX9_decides 64 = .ok (.getfield 7, 3) := by decide +kernel
theorem dX9_decides_67 : decode cX9_decides 67 = .ok (.bipush 6, 2) := by decide +kernel
theorem dX9_decides_69 : decode cX9_decides 69 = .ok (.iaload, 1) := by decide +kernel
theorem dX9_decides_70 : decode cX9_decides 70 = .ok (.if_icmp .eq 175, 3) := by decide +kernel
theorem dX9_decides_73 : decode cX9_decides 73 = .ok (.aload_n 0, 1) := by decide +kernel
theorem dX9_decides_74 : decode cX9_decides 74 = .ok (.getfield 7, 3) := by decide +kernel
theorem dX9_decides_77 : decode cX9_decides 77 = .ok (.bipush 6, 2) := by decide +kernel
theorem dX9_decides_79 : decode cX9_decides 79 = .ok (.iload_n 1, 1) := by decide +kernel
theorem dX9_decides_80 : decode cX9_decides 80 = .ok (.iastore, 1) := by decide +kernel
theorem dX9_decides_81 : decode cX9_decides 81 = .ok (.aload_n 0, 1) := by decide +kernel
theorem dX9_decides_82 : decode cX9_decides 82 = .ok (.getfield 7, 3) := by decide +kernel
theorem dX9_decides_85 : decode cX9_decides 85 = .ok (.bipush 86, 2) := by decide +kernel
theorem dX9_decides_87 : decode cX9_decides 87 = .ok (.dup2, 1) := by decide +kernel
theorem dX9_decides_88 : decode cX9_decides 88 = .ok (.iaload, 1) := by decide +kernel
theorem dX9_decides_89 : decode cX9_decides 89 = .ok (.iconst 1, 1) := by decide +kernel
theorem dX9_decides_90 : decode cX9_decides 90 = .ok (.iadd, 1) := by decide +kernel
theorem dX9_decides_91 : decode cX9_decides 91 = .ok (.iastore, 1) := by decide +kernel
theorem dX9_decides_92 : decode cX9_decides 92 = .ok (.aload_n 0, 1) := by decide +kernel
theorem dX9_decides_93 : decode cX9_decides 93 = .ok (.iconst 4, 1) := by decide +kernel
theorem dX9_decides_94 : decode cX9_decides 94 = .ok (.iload_n 1, 1) := by decide +kernel
theorem dX9_decides_95 : decode cX9_decides 95 = .ok (.aload_n 0, 1) := by decide +kernel
theorem dX9_decides_96 : decode cX9_decides 96 = .ok (.getfield 7, 3) := by decide +kernel
theorem dX9_decides_99 : decode cX9_decides 99 = .ok (.iconst 0, 1) := by decide +kernel
theorem dX9_decides_100 : decode cX9_decides 100 = .ok (.iaload, 1) := by decide +kernel
theorem dX9_decides_101 : decode cX9_decides 101 = .ok (.invokevirtual 84, 3) := by decide +kernel
theorem dX9_decides_104 : decode cX9_decides 104 = .ok (.goto 141, 3) := by decide +kernel
theorem dX9_decides_107 : decode cX9_decides 107 = .ok (.iload_n 1, 1) := by decide +kernel
theorem dX9_decides_108 : decode cX9_decides 108 = .ok (.iconst (-1), 1) := by decide +kernel
theorem dX9_decides_109 : decode cX9_decides 109 = .ok (.if_icmp .eq 51, 3) := by decide +kernel
theorem dX9_decides_112 : decode cX9_decides 112 = .ok (.aload_n 0, 1) := by decide +kernel
theorem dX9_decides_113 : decode cX9_decides 113 = .ok (.getfield 7, 3) := by decide +kernel
theorem dX9_decides_116 : decode cX9_decides 116 = .ok (.iconst 5, 1) := by decide +kernel
theorem dX9_decides_117 : decode cX9_decides 117 = .ok (.iaload, 1) := by decide +kernel
theorem dX9_decides_118 : decode cX9_decides 118 = .ok (.iconst 2, 1) := by decide +kernel
theorem dX9_decides_119 : decode cX9_decides 119 = .ok (.if_icmp .ne 41, 3) := by decide +kernel
theorem dX9_decides_122 : decode cX9_decides 122 = .ok (.aload_n 0, 1) := by decide +kernel
theorem dX9_decides_123 : decode cX9_decides 123 = .ok (.iconst 3, 1) := by decide +kernel
theorem dX9_decides_124 : decode cX9_decides 124 = .ok (.iload_n 1, 1) := by decide +kernel
theorem dX9_decides_125 : decode cX9_decides 125 = .ok (.aload_n 0, 1) := by decide +kernel
theorem dX9_decides_126 : decode cX9_decides 126 = .ok (.getfield 7, 3) := by decide +kernel
theorem dX9_decides_129 : decode cX9_decides 129 = .ok (.iconst 4, 1) := by decide +kernel
theorem dX9_decides_130 : decode cX9_decides 130 = .ok (.iaload, 1) := by decide +kernel
theorem dX9_decides_131 : decode cX9_decides 131 = .ok (.invokevirtual 129, 3) := by decide +kernel
theorem dX9_decides_134 : decode cX9_decides 134 = .ok (.aload_n 0, 1) := by decide +kernel
theorem dX9_decides_135 : decode cX9_decides 135 = .ok (.getfield 7, 3) := by decide +kernel
theorem dX9_decides_138 : decode cX9_decides 138 = .ok (.bipush 87, 2) := by decide +kernel
theorem dX9_decides_140 : decode cX9_decides 140 = .ok (.dup2, 1) := by decide +kernel
theorem dX9_decides_141 : decode cX9_decides 141 = .ok (.iaload, 1) := by decide +kernel
theorem dX9_decides_142 : decode cX9_decides 142 = .ok (.iconst 1, 1) := by decide +kernel
theorem dX9_decides_143 : decode cX9_decides 143 = .ok (.iadd, 1) := by decide +kernel
theorem dX9_decides_144 : decode cX9_decides 144 = .ok (.iastore, 1) := by decide +kernel
theorem dX9_decides_145 : decode cX9_decides 145 = .ok (.aload_n 0, 1) := by decide +kernel
theorem dX9_decides_146 : decode cX9_decides 146 = .ok (.iconst 5, 1) := by decide +kernel
theorem dX9_decides_147 : decode cX9_decides 147 = .ok (.iload_n 1, 1) := by decide +kernel
theorem dX9_decides_148 : decode cX9_decides 148 = .ok (.aload_n 0, 1) := by decide +kernel
theorem dX9_decides_149 : decode cX9_decides 149 = .ok (.getfield 7, 3) := by decide +kernel
theorem dX9_decides_152 : decode cX9_decides 152 = .ok (.iconst 0, 1) := by decide +kernel
theorem dX9_decides_153 : decode cX9_decides 153 = .ok (.iaload, 1) := by decide +kernel
theorem dX9_decides_154 : decode cX9_decides 154 = .ok (.invokevirtual 84, 3) := by decide +kernel
theorem dX9_decides_157 : decode cX9_decides 157 = .ok (.goto 88, 3) := by decide +kernel
theorem dX9_decides_160 : decode cX9_decides 160 = .ok (.iload_n 1, 1) := by decide +kernel
theorem dX9_decides_161 : decode cX9_decides 161 = .ok (.iconst (-1), 1) := by decide +kernel
theorem dX9_decides_162 : decode cX9_decides 162 = .ok (.if_icmp .eq 83, 3) := by decide +kernel
theorem dX9_decides_165 : decode cX9_decides 165 = .ok (.aload_n 0, 1) := by decide +kernel
theorem dX9_decides_166 : decode cX9_decides 166 = .ok (.iconst 1, 1) := by decide +kernel
theorem dX9_decides_167 : decode cX9_decides 167 = .ok (.iload_n 1, 1) := by decide +kernel
theorem dX9_decides_168 : decode cX9_decides 168 = .ok (.aload_n 0, 1) := by decide +kernel
theorem dX9_decides_169 : decode cX9_decides 169 = .ok (.getfield 7, 3) := by decide +kernel
theorem dX9_decides_172 : decode cX9_decides 172 = .ok (.iconst 2, 1) := by decide +kernel
theorem dX9_decides_173 : decode cX9_decides 173 = .ok (.iaload, 1) := by decide +kernel
theorem dX9_decides_174 : decode cX9_decides 174 = .ok (.invokevirtual 129, 3) := by decide +kernel
theorem dX9_decides_177 : decode cX9_decides 177 = .ok (.aload_n 0, 1) := by decide +kernel
theorem dX9_decides_178 : decode cX9_decides 178 = .ok (.getfield 7, 3) := by decide +kernel
theorem dX9_decides_181 : decode cX9_decides 181 = .ok (.bipush 9, 2) := by decide +kernel
theorem dX9_decides_183 : decode cX9_decides 183 = .ok (.iaload, 1) := by decide +kernel
theorem dX9_decides_184 : decode cX9_decides 184 = .ok (.ifCond .le 61, 3) := by decide +kernel
theorem dX9_decides_187 : decode cX9_decides 187 = .ok (.aload_n 0, 1) := by decide +kernel
theorem dX9_decides_188 : decode cX9_decides 188 = .ok (.getfield 7, 3) := by decide +kernel
theorem dX9_decides_191 : decode cX9_decides 191 = .ok (.bipush 10, 2) := by decide +kernel
theorem dX9_decides_193 : decode cX9_decides 193 = .ok (.aload_n 0, 1) := by decide +kernel
theorem dX9_decides_194 : decode cX9_decides 194 = .ok (.getfield 7, 3) := by decide +kernel
theorem dX9_decides_197 : decode cX9_decides 197 = .ok (.bipush 9, 2) := by decide +kernel
theorem dX9_decides_199 : decode cX9_decides 199 = .ok (.iaload, 1) := by decide +kernel
theorem dX9_decides_200 : decode cX9_decides 200 = .ok (.iadd, 1) := by decide +kernel
theorem dX9_decides_201 : decode cX9_decides 201 = .ok (.iconst 1, 1) := by decide +kernel
theorem dX9_decides_202 : decode cX9_decides 202 = .ok (.isub, 1) := by decide +kernel
theorem dX9_decides_203 : decode cX9_decides 203 = .ok (.iaload, 1) := by decide +kernel
theorem dX9_decides_204 : decode cX9_decides 204 = .ok (.istore_n 2, 1) := by decide +kernel
theorem dX9_decides_205 : decode cX9_decides 205 = .ok (.aload_n 0, 1) := by decide +kernel
theorem dX9_decides_206 : decode cX9_decides 206 = .ok (.getfield 7, 3) := by decide +kernel
theorem dX9_decides_209 : decode cX9_decides 209 = .ok (.iload_n 2, 1) := by decide +kernel
theorem dX9_decides_210 : decode cX9_decides 210 = .ok (.invokestatic 40, 3) := by decide +kernel
theorem dX9_decides_213 : decode cX9_decides 213 = .ok (.bipush 22, 2) := by decide +kernel
theorem dX9_decides_215 : decode cX9_decides 215 = .ok (.iadd, 1) := by decide +kernel
theorem dX9_decides_216 : decode cX9_decides 216 = .ok (.dup2, 1) := by decide +kernel
theorem dX9_decides_217 : decode cX9_decides 217 = .ok (.iaload, 1) := by decide +kernel
theorem dX9_decides_218 : decode cX9_decides 218 = .ok (.iconst 1, 1) := by decide +kernel
theorem dX9_decides_219 : decode cX9_decides 219 = .ok (.iadd, 1) := by decide +kernel
theorem dX9_decides_220 : decode cX9_decides 220 = .ok (.iastore, 1) := by decide +kernel
theorem dX9_decides_221 : decode cX9_decides 221 = .ok (.aload_n 0, 1) := by decide +kernel
theorem dX9_decides_222 : decode cX9_decides 222 = .ok (.getfield 7, 3) := by decide +kernel
theorem dX9_decides_225 : decode cX9_decides 225 = .ok (.bipush 88, 2) := by decide +kernel
theorem dX9_decides_227 : decode cX9_decides 227 = .ok (.dup2, 1) := by decide +kernel
theorem dX9_decides_228 : decode cX9_decides 228 = .ok (.iaload, 1) := by decide +kernel
theorem dX9_decides_229 : decode cX9_decides 229 = .ok (.iconst 1, 1) := by decide +kernel
theorem dX9_decides_230 : decode cX9_decides 230 = .ok (.iadd, 1) := by decide +kernel
theorem dX9_decides_231 : decode cX9_decides 231 = .ok (.iastore, 1) := by decide +kernel
theorem dX9_decides_232 : decode cX9_decides 232 = .ok (.aload_n 0, 1) := by decide +kernel
theorem dX9_decides_233 : decode cX9_decides 233 = .ok (.bipush 6, 2) := by decide +kernel
theorem dX9_decides_235 : decode cX9_decides 235 = .ok (.iload_n 2, 1) := by decide +kernel
theorem dX9_decides_236 : decode cX9_decides 236 = .ok (.aload_n 0, 1) := by decide +kernel
theorem dX9_decides_237 : decode cX9_decides 237 = .ok (.getfield 7, 3) := by decide +kernel
theorem dX9_decides_240 : decode cX9_decides 240 = .ok (.iconst 0, 1) := by decide +kernel
theorem dX9_decides_241 : decode cX9_decides 241 = .ok (.iaload, 1) := by decide +kernel
theorem dX9_decides_242 : decode cX9_decides 242 = .ok (.invokevirtual 84, 3) := by decide +kernel
theorem dX9_decides_245 : decode cX9_decides 245 = .ok (.aload_n 0, 1) := by decide +kernel
theorem dX9_decides_246 : decode cX9_decides 246 = .ok (.invokevirtual 135, 3) := by decide +kernel
theorem dX9_decides_249 : decode cX9_decides 249 = .ok (.ifCond .eq 23, 3) := by decide +kernel
theorem dX9_decides_252 : decode cX9_decides 252 = .ok (.aload_n 0, 1) := by decide +kernel
theorem dX9_decides_253 : decode cX9_decides 253 = .ok (.getfield 7, 3) := by decide +kernel
theorem dX9_decides_256 : decode cX9_decides 256 = .ok (.bipush 7, 2) := by decide +kernel
theorem dX9_decides_258 : decode cX9_decides 258 = .ok (.iaload, 1) := by decide +kernel
theorem dX9_decides_259 : decode cX9_decides 259 = .ok (.ifCond .ne 13, 3) := by decide +kernel
theorem dX9_decides_262 : decode cX9_decides 262 = .ok (.aload_n 0, 1) := by decide +kernel
theorem dX9_decides_263 : decode cX9_decides 263 = .ok (.aload_n 0, 1) := by decide +kernel
theorem dX9_decides_264 : decode cX9_decides 264 = .ok (.getfield 7, 3) := by decide +kernel
theorem dX9_decides_267 : decode cX9_decides 267 = .ok (.iconst 0, 1) := by decide +kernel
theorem dX9_decides_268 : decode cX9_decides 268 = .ok (.iaload, 1) := by decide +kernel
theorem dX9_decides_269 : decode cX9_decides 269 = .ok (.invokevirtual 139, 3) := by decide +kernel
theorem dX9_decides_272 : decode cX9_decides 272 = .ok (.return_, 1) := by decide +kernel
theorem dX9_spends_0 : decode cX9_spends 0 = .ok (.aload_n 0, 1) := by decide +kernel
theorem dX9_spends_1 : decode cX9_spends 1 = .ok (.getfield 7, 3) := by decide +kernel
theorem dX9_spends_4 : decode cX9_spends 4 = .ok (.iconst 5, 1) := by decide +kernel
theorem dX9_spends_5 : decode cX9_spends 5 = .ok (.iaload, 1) := by decide +kernel
theorem dX9_spends_6 : decode cX9_spends 6 = .ok (.ifCond .eq 66, 3) := by decide +kernel
theorem dX9_spends_9 : decode cX9_spends 9 = .ok (.aload_n 0, 1) := by decide +kernel
theorem dX9_spends_10 : decode cX9_spends 10 = .ok (.getfield 7, 3) := by decide +kernel
theorem dX9_spends_13 : decode cX9_spends 13 = .ok (.bipush 85, 2) := by decide +kernel
theorem dX9_spends_15 : decode cX9_spends 15 = .ok (.dup2, 1) := by decide +kernel
theorem dX9_spends_16 : decode cX9_spends 16 = .ok (.iaload, 1) := by decide +kernel
theorem dX9_spends_17 : decode cX9_spends 17 = .ok (.iconst 1, 1) := by decide +kernel
theorem dX9_spends_18 : decode cX9_spends 18 = .ok (.iadd, 1) := by decide +kernel
theorem dX9_spends_19 : decode cX9_spends 19 = .ok (.iastore, 1) := by decide +kernel
theorem dX9_spends_20 : decode cX9_spends 20 = .ok (.aload_n 0, 1) := by decide +kernel
theorem dX9_spends_21 : decode cX9_spends 21 = .ok (.getfield 7, 3) := by decide +kernel
theorem dX9_spends_24 : decode cX9_spends 24 = .ok (.bipush 7, 2) := by decide +kernel
theorem dX9_spends_26 : decode cX9_spends 26 = .ok (.dup2, 1) := by decide +kernel
theorem dX9_spends_27 : decode cX9_spends 27 = .ok (.iaload, 1) := by decide +kernel
theorem dX9_spends_28 : decode cX9_spends 28 = .ok (.iconst 1, 1) := by decide +kernel
theorem dX9_spends_29 : decode cX9_spends 29 = .ok (.isub, 1) := by decide +kernel
theorem dX9_spends_30 : decode cX9_spends 30 = .ok (.iastore, 1) := by decide +kernel
theorem dX9_spends_31 : decode cX9_spends 31 = .ok (.aload_n 0, 1) := by decide +kernel
theorem dX9_spends_32 : decode cX9_spends 32 = .ok (.getfield 7, 3) := by decide +kernel
theorem dX9_spends_35 : decode cX9_spends 35 = .ok (.bipush 7, 2) := by decide +kernel
theorem dX9_spends_37 : decode cX9_spends 37 = .ok (.iaload, 1) := by decide +kernel
theorem dX9_spends_38 : decode cX9_spends 38 = .ok (.ifCond .ne 32, 3) := by decide +kernel
theorem dX9_spends_41 : decode cX9_spends 41 = .ok (.aload_n 0, 1) := by decide +kernel
theorem dX9_spends_42 : decode cX9_spends 42 = .ok (.invokevirtual 135, 3) := by decide +kernel
theorem dX9_spends_45 : decode cX9_spends 45 = .ok (.ifCond .eq 18, 3) := by decide +kernel
theorem dX9_spends_48 : decode cX9_spends 48 = .ok (.aload_n 0, 1) := by decide +kernel
theorem dX9_spends_49 : decode cX9_spends 49 = .ok (.aload_n 0, 1) := by decide +kernel
theorem dX9_spends_50 : decode cX9_spends 50 = .ok (.getfield 7, 3) := by decide +kernel
theorem dX9_spends_53 : decode cX9_spends 53 = .ok (.iconst 0, 1) := by decide +kernel
theorem dX9_spends_54 : decode cX9_spends 54 = .ok (.iaload, 1) := by decide +kernel
theorem dX9_spends_55 : decode cX9_spends 55 = .ok (.iconst 1, 1) := by decide +kernel
theorem dX9_spends_56 : decode cX9_spends 56 = .ok (.iadd, 1) := by decide +kernel
theorem dX9_spends_57 : decode cX9_spends 57 = .ok (.invokevirtual 139, 3) := by decide +kernel
theorem dX9_spends_60 : decode cX9_spends 60 = .ok (.goto 10, 3) := by decide +kernel
theorem dX9_spends_63 : decode cX9_spends 63 = .ok (.aload_n 0, 1) := by decide +kernel
theorem dX9_spends_64 : decode cX9_spends 64 = .ok (.iconst 2, 1) := by decide +kernel
theorem dX9_spends_65 : decode cX9_spends 65 = .ok (.iconst (-1), 1) := by decide +kernel
theorem dX9_spends_66 : decode cX9_spends 66 = .ok (.iconst 0, 1) := by decide +kernel
theorem dX9_spends_67 : decode cX9_spends 67 = .ok (.invokevirtual 129, 3) := by decide +kernel
theorem dX9_spends_70 : decode cX9_spends 70 = .ok (.iconst 0, 1) := by decide +kernel
theorem dX9_spends_71 : decode cX9_spends 71 = .ok (.ireturn, 1) := by decide +kernel
theorem dX9_spends_72 : decode cX9_spends 72 = .ok (.aload_n 0, 1) := by decide +kernel
theorem dX9_spends_73 : decode cX9_spends 73 = .ok (.getfield 7, 3) := by decide +kernel
theorem dX9_spends_76 : decode cX9_spends 76 = .ok (.bipush 9, 2) := by decide +kernel
theorem dX9_spends_78 : decode cX9_spends 78 = .ok (.iaload, 1) := by decide +kernel
theorem dX9_spends_79 : decode cX9_spends 79 = .ok (.ifCond .ne 16, 3) := by decide +kernel
theorem dX9_spends_82 : decode cX9_spends 82 = .ok (.aload_n 0, 1) := by decide +kernel
theorem dX9_spends_83 : decode cX9_spends 83 = .ok (.getfield 7, 3) := by decide +kernel
theorem dX9_spends_86 : decode cX9_spends 86 = .ok (.bipush 83, 2) := by decide +kernel
theorem dX9_spends_88 : decode cX9_spends 88 = .ok (.dup2, 1) := by decide +kernel
theorem dX9_spends_89 : decode cX9_spends 89 = .ok (.iaload, 1) := by decide +kernel
theorem dX9_spends_90 : decode cX9_spends 90 = .ok (.iconst 1, 1) := by decide +kernel
theorem dX9_spends_91 : decode cX9_spends 91 = .ok (.iadd, 1) := by decide +kernel
theorem dX9_spends_92 : decode cX9_spends 92 = .ok (.iastore, 1) := by decide +kernel
theorem dX9_spends_93 : decode cX9_spends 93 = .ok (.iconst 0, 1) := by decide +kernel
theorem dX9_spends_94 : decode cX9_spends 94 = .ok (.ireturn, 1) := by decide +kernel
theorem dX9_spends_95 : decode cX9_spends 95 = .ok (.aload_n 0, 1) := by decide +kernel
theorem dX9_spends_96 : decode cX9_spends 96 = .ok (.getfield 7, 3) := by decide +kernel
theorem dX9_spends_99 : decode cX9_spends 99 = .ok (.bipush 10, 2) := by decide +kernel
theorem dX9_spends_101 : decode cX9_spends 101 = .ok (.aload_n 0, 1) := by decide +kernel
theorem dX9_spends_102 : decode cX9_spends 102 = .ok (.getfield 7, 3) := by decide +kernel
theorem dX9_spends_105 : decode cX9_spends 105 = .ok (.bipush 9, 2) := by decide +kernel
theorem dX9_spends_107 : decode cX9_spends 107 = .ok (.iaload, 1) := by decide +kernel
theorem dX9_spends_108 : decode cX9_spends 108 = .ok (.iadd, 1) := by decide +kernel
theorem dX9_spends_109 : decode cX9_spends 109 = .ok (.iconst 1, 1) := by decide +kernel
theorem dX9_spends_110 : decode cX9_spends 110 = .ok (.isub, 1) := by decide +kernel
theorem dX9_spends_111 : decode cX9_spends 111 = .ok (.iaload, 1) := by decide +kernel
theorem dX9_spends_112 : decode cX9_spends 112 = .ok (.istore_n 1, 1) := by decide +kernel
theorem dX9_spends_113 : decode cX9_spends 113 = .ok (.iload_n 1, 1) := by decide +kernel
theorem dX9_spends_114 : decode cX9_spends 114 = .ok (.invokestatic 40, 3) := by decide +kernel
theorem dX9_spends_117 : decode cX9_spends 117 = .ok (.istore_n 2, 1) := by decide +kernel
theorem dX9_spends_118 : decode cX9_spends 118 = .ok (.aload_n 0, 1) := by decide +kernel
theorem dX9_spends_119 : decode cX9_spends 119 = .ok (.getfield 7, 3) := by decide +kernel
theorem dX9_spends_122 : decode cX9_spends 122 = .ok (.bipush 84, 2) := by decide +kernel
theorem dX9_spends_124 : decode cX9_spends 124 = .ok (.dup2, 1) := by decide +kernel
theorem dX9_spends_125 : decode cX9_spends 125 = .ok (.iaload, 1) := by decide +kernel
theorem dX9_spends_126 : decode cX9_spends 126 = .ok (.iconst 1, 1) := by decide +kernel
theorem dX9_spends_127 : decode cX9_spends 127 = .ok (.iadd, 1) := by decide +kernel
theorem dX9_spends_128 : decode cX9_spends 128 = .ok (.iastore, 1) := by decide +kernel
theorem dX9_spends_129 : decode cX9_spends 129 = .ok (.aload_n 0, 1) := by decide +kernel
theorem dX9_spends_130 : decode cX9_spends 130 = .ok (.getfield 7, 3) := by decide +kernel
theorem dX9_spends_133 : decode cX9_spends 133 = .ok (.iload_n 2, 1) := by decide +kernel
theorem dX9_spends_134 : decode cX9_spends 134 = .ok (.bipush 23, 2) := by decide +kernel
theorem dX9_spends_136 : decode cX9_spends 136 = .ok (.iadd, 1) := by decide +kernel
theorem dX9_spends_137 : decode cX9_spends 137 = .ok (.dup2, 1) := by decide +kernel
theorem dX9_spends_138 : decode cX9_spends 138 = .ok (.iaload, 1) := by decide +kernel
theorem dX9_spends_139 : decode cX9_spends 139 = .ok (.iconst 1, 1) := by decide +kernel
theorem dX9_spends_140 : decode cX9_spends 140 = .ok (.iadd, 1) := by decide +kernel
theorem dX9_spends_141 : decode cX9_spends 141 = .ok (.iastore, 1) := by decide +kernel
theorem dX9_spends_142 : decode cX9_spends 142 = .ok (.aload_n 0, 1) := by decide +kernel
theorem dX9_spends_143 : decode cX9_spends 143 = .ok (.getfield 7, 3) := by decide +kernel
theorem dX9_spends_146 : decode cX9_spends 146 = .ok (.iload_n 2, 1) := by decide +kernel
theorem dX9_spends_147 : decode cX9_spends 147 = .ok (.bipush 16, 2) := by decide +kernel
theorem dX9_spends_149 : decode cX9_spends 149 = .ok (.iadd, 1) := by decide +kernel
theorem dX9_spends_150 : decode cX9_spends 150 = .ok (.dup2, 1) := by decide +kernel
theorem dX9_spends_151 : decode cX9_spends 151 = .ok (.iaload, 1) := by decide +kernel
theorem dX9_spends_152 : decode cX9_spends 152 = .ok (.iconst 1, 1) := by decide +kernel
theorem dX9_spends_153 : decode cX9_spends 153 = .ok (.iadd, 1) := by decide +kernel
theorem dX9_spends_154 : decode cX9_spends 154 = .ok (.iastore, 1) := by decide +kernel
theorem dX9_spends_155 : decode cX9_spends 155 = .ok (.aload_n 0, 1) := by decide +kernel
theorem dX9_spends_156 : decode cX9_spends 156 = .ok (.getfield 7, 3) := by decide +kernel
theorem dX9_spends_159 : decode cX9_spends 159 = .ok (.iload_n 2, 1) := by decide +kernel
theorem dX9_spends_160 : decode cX9_spends 160 = .ok (.bipush 16, 2) := by decide +kernel
theorem dX9_spends_162 : decode cX9_spends 162 = .ok (.iadd, 1) := by decide +kernel
theorem dX9_spends_163 : decode cX9_spends 163 = .ok (.iaload, 1) := by decide +kernel
theorem dX9_spends_164 : decode cX9_spends 164 = .ok (.aload_n 0, 1) := by decide +kernel
theorem dX9_spends_165 : decode cX9_spends 165 = .ok (.getfield 7, 3) := by decide +kernel
theorem dX9_spends_168 : decode cX9_spends 168 = .ok (.iload_n 2, 1) := by decide +kernel
theorem dX9_spends_169 : decode cX9_spends 169 = .ok (.iconst 2, 1) := by decide +kernel
theorem dX9_spends_170 : decode cX9_spends 170 = .ok (.iadd, 1) := by decide +kernel
theorem dX9_spends_171 : decode cX9_spends 171 = .ok (.iaload, 1) := by decide +kernel
theorem dX9_spends_172 : decode cX9_spends 172 = .ok (.if_icmp .ge 5, 3) := by decide +kernel
theorem dX9_spends_175 : decode cX9_spends 175 = .ok (.iconst 0, 1) := by decide +kernel
theorem dX9_spends_176 : decode cX9_spends 176 = .ok (.ireturn, 1) := by decide +kernel
theorem dX9_spends_177 : decode cX9_spends 177 = .ok (.aload_n 0, 1) := by decide +kernel
theorem dX9_spends_178 : decode cX9_spends 178 = .ok (.getfield 7, 3) := by decide +kernel
theorem dX9_spends_181 : decode cX9_spends 181 = .ok (.bipush 9, 2) := by decide +kernel
theorem dX9_spends_183 : decode cX9_spends 183 = .ok (.dup2, 1) := by decide +kernel
theorem dX9_spends_184 : decode cX9_spends 184 = .ok (.iaload, 1) := by decide +kernel
theorem dX9_spends_185 : decode cX9_spends 185 = .ok (.iconst 1, 1) := by decide +kernel
theorem dX9_spends_186 : decode cX9_spends 186 = .ok (.isub, 1) := by decide +kernel
theorem dX9_spends_187 : decode cX9_spends 187 = .ok (.iastore, 1) := by decide +kernel
theorem dX9_spends_188 : decode cX9_spends 188 = .ok (.aload_n 0, 1) := by decide +kernel
theorem dX9_spends_189 : decode cX9_spends 189 = .ok (.getfield 7, 3) := by decide +kernel
theorem dX9_spends_192 : decode cX9_spends 192 = .ok (.iload_n 2, 1) := by decide +kernel
theorem dX9_spends_193 : decode cX9_spends 193 = .ok (.bipush 16, 2) := by decide +kernel
theorem dX9_spends_195 : decode cX9_spends 195 = .ok (.iadd, 1) := by decide +kernel
theorem dX9_spends_196 : decode cX9_spends 196 = .ok (.iconst 0, 1) := by decide +kernel
theorem dX9_spends_197 : decode cX9_spends 197 = .ok (.iastore, 1) := by decide +kernel
theorem dX9_spends_198 : decode cX9_spends 198 = .ok (.aload_n 0, 1) := by decide +kernel
theorem dX9_spends_199 : decode cX9_spends 199 = .ok (.getfield 7, 3) := by decide +kernel
theorem dX9_spends_202 : decode cX9_spends 202 = .ok (.iload_n 2, 1) := by decide +kernel
theorem dX9_spends_203 : decode cX9_spends 203 = .ok (.bipush 18, 2) := by decide +kernel
theorem dX9_spends_205 : decode cX9_spends 205 = .ok (.iadd, 1) := by decide +kernel
theorem dX9_spends_206 : decode cX9_spends 206 = .ok (.dup2, 1) := by decide +kernel
theorem dX9_spends_207 : decode cX9_spends 207 = .ok (.iaload, 1) := by decide +kernel
theorem dX9_spends_208 : decode cX9_spends 208 = .ok (.iconst 1, 1) := by decide +kernel
theorem dX9_spends_209 : decode cX9_spends 209 = .ok (.iadd, 1) := by decide +kernel
theorem dX9_spends_210 : decode cX9_spends 210 = .ok (.iastore, 1) := by decide +kernel
theorem dX9_spends_211 : decode cX9_spends 211 = .ok (.aload_n 0, 1) := by decide +kernel
theorem dX9_spends_212 : decode cX9_spends 212 = .ok (.getfield 7, 3) := by decide +kernel
theorem dX9_spends_215 : decode cX9_spends 215 = .ok (.iload_n 2, 1) := by decide +kernel
theorem dX9_spends_216 : decode cX9_spends 216 = .ok (.bipush 6, 2) := by decide +kernel
theorem dX9_spends_218 : decode cX9_spends 218 = .ok (.iadd, 1) := by decide +kernel
theorem dX9_spends_219 : decode cX9_spends 219 = .ok (.aload_n 0, 1) := by decide +kernel
theorem dX9_spends_220 : decode cX9_spends 220 = .ok (.getfield 7, 3) := by decide +kernel
theorem dX9_spends_223 : decode cX9_spends 223 = .ok (.iload_n 2, 1) := by decide +kernel
theorem dX9_spends_224 : decode cX9_spends 224 = .ok (.iconst 1, 1) := by decide +kernel
theorem dX9_spends_225 : decode cX9_spends 225 = .ok (.iadd, 1) := by decide +kernel
theorem dX9_spends_226 : decode cX9_spends 226 = .ok (.iaload, 1) := by decide +kernel
theorem dX9_spends_227 : decode cX9_spends 227 = .ok (.iconst 1, 1) := by decide +kernel
theorem dX9_spends_228 : decode cX9_spends 228 = .ok (.if_icmp .ne 14, 3) := by decide +kernel
theorem dX9_spends_231 : decode cX9_spends 231 = .ok (.aload_n 0, 1) := by decide +kernel
theorem dX9_spends_232 : decode cX9_spends 232 = .ok (.getfield 7, 3) := by decide +kernel
theorem dX9_spends_235 : decode cX9_spends 235 = .ok (.iconst 0, 1) := by decide +kernel
theorem dX9_spends_236 : decode cX9_spends 236 = .ok (.iaload, 1) := by decide +kernel
theorem dX9_spends_237 : decode cX9_spends 237 = .ok (.iconst 1, 1) := by decide +kernel
theorem dX9_spends_238 : decode cX9_spends 238 = .ok (.iadd, 1) := by decide +kernel
theorem dX9_spends_239 : decode cX9_spends 239 = .ok (.goto 12, 3) := by decide +kernel
theorem dX9_spends_242 : decode cX9_spends 242 = .ok (.aload_n 0, 1) := by decide +kernel
theorem dX9_spends_243 : decode cX9_spends 243 = .ok (.getfield 7, 3) := by decide +kernel
theorem dX9_spends_246 : decode cX9_spends 246 = .ok (.iload_n 2, 1) := by decide +kernel
theorem dX9_spends_247 : decode cX9_spends 247 = .ok (.bipush 6, 2) := by decide +kernel
theorem dX9_spends_249 : decode cX9_spends 249 = .ok (.iadd, 1) := by decide +kernel
theorem dX9_spends_250 : decode cX9_spends 250 = .ok (.iaload, 1) := by decide +kernel
theorem dX9_spends_251 : decode cX9_spends 251 = .ok (.iastore, 1) := by decide +kernel
theorem dX9_spends_252 : decode cX9_spends 252 = .ok (.aload_n 0, 1) := by decide +kernel
theorem dX9_spends_253 : decode cX9_spends 253 = .ok (.iconst 2, 1) := by decide +kernel
theorem dX9_spends_254 : decode cX9_spends 254 = .ok (.iload_n 1, 1) := by decide +kernel
theorem dX9_spends_255 : decode cX9_spends 255 = .ok (.aload_n 0, 1) := by decide +kernel
theorem dX9_spends_256 : decode cX9_spends 256 = .ok (.getfield 7, 3) := by decide +kernel
theorem dX9_spends_259 : decode cX9_spends 259 = .ok (.iconst 0, 1) := by decide +kernel
theorem dX9_spends_260 : decode cX9_spends 260 = .ok (.iaload, 1) := by decide +kernel
theorem dX9_spends_261 : decode cX9_spends 261 = .ok (.iconst 1, 1) := by decide +kernel
theorem dX9_spends_262 : decode cX9_spends 262 = .ok (.iadd, 1) := by decide +kernel
theorem dX9_spends_263 : decode cX9_spends 263 = .ok (.invokevirtual 84, 3) := by decide +kernel
theorem dX9_spends_266 : decode cX9_spends 266 = .ok (.aload_n 0, 1) := by decide +kernel
theorem dX9_spends_267 : decode cX9_spends 267 = .ok (.iconst 2, 1) := by decide +kernel
theorem dX9_spends_268 : decode cX9_spends 268 = .ok (.iconst (-1), 1) := by decide +kernel
theorem dX9_spends_269 : decode cX9_spends 269 = .ok (.aload_n 0, 1) := by decide +kernel
theorem dX9_spends_270 : decode cX9_spends 270 = .ok (.getfield 7, 3) := by decide +kernel
theorem dX9_spends_273 : decode cX9_spends 273 = .ok (.iconst 3, 1) := by decide +kernel
theorem dX9_spends_274 : decode cX9_spends 274 = .ok (.iaload, 1) := by decide +kernel
theorem dX9_spends_275 : decode cX9_spends 275 = .ok (.invokevirtual 129, 3) := by decide +kernel
theorem dX9_spends_278 : decode cX9_spends 278 = .ok (.iconst 1, 1) := by decide +kernel
theorem dX9_spends_279 : decode cX9_spends 279 = .ok (.ireturn, 1) := by decide +kernel
theorem dX9_tick_0 : decode cX9_tick 0 = .ok (.iconst 0, 1) := by decide +kernel
theorem dX9_tick_1 : decode cX9_tick 1 = .ok (.istore_n 1, 1) := by decide +kernel
theorem dX9_tick_2 : decode cX9_tick 2 = .ok (.iload_n 1, 1) := by decide +kernel
theorem dX9_tick_3 : decode cX9_tick 3 = .ok (.aload_n 0, 1) := by decide +kernel
theorem dX9_tick_4 : decode cX9_tick 4 = .ok (.getfield 7, 3) := by decide +kernel
theorem dX9_tick_7 : decode cX9_tick 7 = .ok (.bipush 8, 2) := by decide +kernel
theorem dX9_tick_9 : decode cX9_tick 9 = .ok (.iaload, 1) := by decide +kernel
theorem dX9_tick_10 : decode cX9_tick 10 = .ok (.if_icmp .ge 63, 3) := by decide +kernel
theorem dX9_tick_13 : decode cX9_tick 13 = .ok (.aload_n 0, 1) := by decide +kernel
theorem dX9_tick_14 : decode cX9_tick 14 = .ok (.iload_n 1, 1) := by decide +kernel
theorem dX9_tick_15 : decode cX9_tick 15 = .ok (.bipush 15, 2) := by decide +kernel
theorem dX9_tick_17 : decode cX9_tick 17 = .ok (.invokevirtual 44, 3) := by decide +kernel
theorem dX9_tick_20 : decode cX9_tick 20 = .ok (.ifCond .le 47, 3) := by decide +kernel
theorem dX9_tick_23 : decode cX9_tick 23 = .ok (.aload_n 0, 1) := by decide +kernel
theorem dX9_tick_24 : decode cX9_tick 24 = .ok (.iload_n 1, 1) := by decide +kernel
theorem dX9_tick_25 : decode cX9_tick 25 = .ok (.bipush 14, 2) := by decide +kernel
theorem dX9_tick_27 : decode cX9_tick 27 = .ok (.invokevirtual 44, 3) := by decide +kernel
theorem dX9_tick_30 : decode cX9_tick 30 = .ok (.aload_n 0, 1) := by decide +kernel
theorem dX9_tick_31 : decode cX9_tick 31 = .ok (.getfield 7, 3) := by decide +kernel
theorem dX9_tick_34 : decode cX9_tick 34 = .ok (.iconst 0, 1) := by decide +kernel
theorem dX9_tick_35 : decode cX9_tick 35 = .ok (.iaload, 1) := by decide +kernel
theorem dX9_tick_36 : decode cX9_tick 36 = .ok (.if_icmp .ne 31, 3) := by decide +kernel
theorem dX9_tick_39 : decode cX9_tick 39 = .ok (.aload_n 0, 1) := by decide +kernel
theorem dX9_tick_40 : decode cX9_tick 40 = .ok (.iload_n 1, 1) := by decide +kernel
theorem dX9_tick_41 : decode cX9_tick 41 = .ok (.invokevirtual 94, 3) := by decide +kernel
theorem dX9_tick_44 : decode cX9_tick 44 = .ok (.istore_n 2, 1) := by decide +kernel
theorem dX9_tick_45 : decode cX9_tick 45 = .ok (.aload_n 0, 1) := by decide +kernel
theorem dX9_tick_46 : decode cX9_tick 46 = .ok (.getfield 7, 3) := by decide +kernel
theorem dX9_tick_49 : decode cX9_tick 49 = .ok (.iload_n 1, 1) := by decide +kernel
theorem dX9_tick_50 : decode cX9_tick 50 = .ok (.invokestatic 40, 3) := by decide +kernel
theorem dX9_tick_53 : decode cX9_tick 53 = .ok (.bipush 14, 2) := by decide +kernel
theorem dX9_tick_55 : decode cX9_tick 55 = .ok (.iadd, 1) := by decide +kernel
theorem dX9_tick_56 : decode cX9_tick 56 = .ok (.dup2, 1) := by decide +kernel
theorem dX9_tick_57 : decode cX9_tick 57 = .ok (.iaload, 1) := by decide +kernel
theorem dX9_tick_58 : decode cX9_tick 58 = .ok (.aload_n 0, 1) := by decide +kernel
theorem dX9_tick_59 : decode cX9_tick 59 = .ok (.iload_n 1, 1) := by decide +kernel
theorem dX9_tick_60 : decode cX9_tick 60 = .ok (.bipush 15, 2) := by decide +kernel
theorem dX9_tick_62 : decode cX9_tick 62 = .ok (.invokevirtual 44, 3) := by decide +kernel
theorem dX9_tick_65 : decode cX9_tick 65 = .ok (.iadd, 1) := by decide +kernel
theorem dX9_tick_66 : decode cX9_tick 66 = .ok (.iastore, 1) := by decide +kernel
theorem dX9_tick_67 : decode cX9_tick 67 = .ok (.iinc 1 1, 3) := by decide +kernel
theorem dX9_tick_70 : decode cX9_tick 70 = .ok (.goto (-68), 3) := by decide +kernel
theorem dX9_tick_73 : decode cX9_tick 73 = .ok (.aload_n 0, 1) := by decide +kernel
theorem dX9_tick_74 : decode cX9_tick 74 = .ok (.invokevirtual 143, 3) := by decide +kernel
theorem dX9_tick_77 : decode cX9_tick 77 = .ok (.aload_n 0, 1) := by decide +kernel
theorem dX9_tick_78 : decode cX9_tick 78 = .ok (.invokevirtual 146, 3) := by decide +kernel
theorem dX9_tick_81 : decode cX9_tick 81 = .ok (.istore_n 1, 1) := by decide +kernel
theorem dX9_tick_82 : decode cX9_tick 82 = .ok (.aload_n 0, 1) := by decide +kernel
theorem dX9_tick_83 : decode cX9_tick 83 = .ok (.getfield 7, 3) := by decide +kernel
theorem dX9_tick_86 : decode cX9_tick 86 = .ok (.iconst 0, 1) := by decide +kernel
theorem dX9_tick_87 : decode cX9_tick 87 = .ok (.dup2, 1) := by decide +kernel
theorem dX9_tick_88 : decode cX9_tick 88 = .ok (.iaload, 1) := by decide +kernel
theorem dX9_tick_89 : decode cX9_tick 89 = .ok (.iconst 1, 1) := by decide +kernel
theorem dX9_tick_90 : decode cX9_tick 90 = .ok (.iadd, 1) := by decide +kernel
theorem dX9_tick_91 : decode cX9_tick 91 = .ok (.iastore, 1) := by decide +kernel
theorem dX9_tick_92 : decode cX9_tick 92 = .ok (.iload_n 1, 1) := by decide +kernel
theorem dX9_tick_93 : decode cX9_tick 93 = .ok (.ireturn, 1) := by decide +kernel
theorem dX9_runs_0 : decode cX9_runs 0 = .ok (.iconst 0, 1) := by decide +kernel
theorem dX9_runs_1 : decode cX9_runs 1 = .ok (.istore_n 2, 1) := by decide +kernel
theorem dX9_runs_2 : decode cX9_runs 2 = .ok (.iconst 0, 1) := by decide +kernel
theorem dX9_runs_3 : decode cX9_runs 3 = .ok (.istore_n 3, 1) := by decide +kernel
theorem dX9_runs_4 : decode cX9_runs 4 = .ok (.iload_n 3, 1) := by decide +kernel
theorem dX9_runs_5 : decode cX9_runs 5 = .ok (.iload_n 1, 1) := by decide +kernel
theorem dX9_runs_6 : decode cX9_runs 6 = .ok (.if_icmp .ge 16, 3) := by decide +kernel
theorem dX9_runs_9 : decode cX9_runs 9 = .ok (.iload_n 2, 1) := by decide +kernel
theorem dX9_runs_10 : decode cX9_runs 10 = .ok (.aload_n 0, 1) := by decide +kernel
theorem dX9_runs_11 : decode cX9_runs 11 = .ok (.invokevirtual 149, 3) := by decide +kernel
theorem dX9_runs_14 : decode cX9_runs 14 = .ok (.iadd, 1) := by decide +kernel
theorem dX9_runs_15 : decode cX9_runs 15 = .ok (.istore_n 2, 1) := by decide +kernel
theorem dX9_runs_16 : decode cX9_runs 16 = .ok (.iinc 3 1, 3) := by decide +kernel
theorem dX9_runs_19 : decode cX9_runs 19 = .ok (.goto (-15), 3) := by decide +kernel
theorem dX9_runs_22 : decode cX9_runs 22 = .ok (.iload_n 2, 1) := by decide +kernel
theorem dX9_runs_23 : decode cX9_runs 23 = .ok (.ireturn, 1) := by decide +kernel
theorem dX9_badRun_0 : decode cX9_badRun 0 = .ok (.iload_n 0, 1) := by decide +kernel
theorem dX9_badRun_1 : decode cX9_badRun 1 = .ok (.iconst 1, 1) := by decide +kernel
theorem dX9_badRun_2 : decode cX9_badRun 2 = .ok (.sipush 500, 3) := by decide +kernel
theorem dX9_badRun_5 : decode cX9_badRun 5 = .ok (.invokestatic 36, 3) := by decide +kernel
theorem dX9_badRun_8 : decode cX9_badRun 8 = .ok (.ifCond .eq 7, 3) := by decide +kernel
theorem dX9_badRun_11 : decode cX9_badRun 11 = .ok (.iconst 0, 1) := by decide +kernel
theorem dX9_badRun_12 : decode cX9_badRun 12 = .ok (.goto 4, 3) := by decide +kernel
theorem dX9_badRun_15 : decode cX9_badRun 15 = .ok (.iconst 2, 1) := by decide +kernel
theorem dX9_badRun_16 : decode cX9_badRun 16 = .ok (.ireturn, 1) := by decide +kernel
theorem dX9_run_0 : decode cX9_run 0 = .ok (.aload_n 0, 1) := by decide +kernel
theorem dX9_run_1 : decode cX9_run 1 = .ok (.iload_n 1, 1) := by decide +kernel
theorem dX9_run_2 : decode cX9_run 2 = .ok (.invokestatic 152, 3) := by decide +kernel
theorem dX9_run_5 : decode cX9_run 5 = .ok (.ifCond .le 7, 3) := by decide +kernel
theorem dX9_run_8 : decode cX9_run 8 = .ok (.iconst 1, 1) := by decide +kernel
theorem dX9_run_9 : decode cX9_run 9 = .ok (.goto 4, 3) := by decide +kernel
theorem dX9_run_12 : decode cX9_run 12 = .ok (.iconst 0, 1) := by decide +kernel
theorem dX9_run_13 : decode cX9_run 13 = .ok (.invokevirtual 32, 3) := by decide +kernel
theorem dX9_run_16 : decode cX9_run 16 = .ok (.ifCond .eq 5, 3) := by decide +kernel
theorem dX9_run_19 : decode cX9_run 19 = .ok (.iconst 0, 1) := by decide +kernel
theorem dX9_run_20 : decode cX9_run 20 = .ok (.ireturn, 1) := by decide +kernel
theorem dX9_run_21 : decode cX9_run 21 = .ok (.aload_n 0, 1) := by decide +kernel
theorem dX9_run_22 : decode cX9_run 22 = .ok (.invokevirtual 55, 3) := by decide +kernel
theorem dX9_run_25 : decode cX9_run 25 = .ok (.aload_n 0, 1) := by decide +kernel
theorem dX9_run_26 : decode cX9_run 26 = .ok (.iload_n 1, 1) := by decide +kernel
theorem dX9_run_27 : decode cX9_run 27 = .ok (.invokevirtual 155, 3) := by decide +kernel
theorem dX9_run_30 : decode cX9_run 30 = .ok (.ireturn, 1) := by decide +kernel
theorem dX9_waits_0 : decode cX9_waits 0 = .ok (.aload_n 0, 1) := by decide +kernel
theorem dX9_waits_1 : decode cX9_waits 1 = .ok (.iload_n 1, 1) := by decide +kernel
theorem dX9_waits_2 : decode cX9_waits 2 = .ok (.invokevirtual 126, 3) := by decide +kernel
theorem dX9_waits_5 : decode cX9_waits 5 = .ok (.ifCond .ne 5, 3) := by decide +kernel
theorem dX9_waits_8 : decode cX9_waits 8 = .ok (.iconst (-1), 1) := by decide +kernel
theorem dX9_waits_9 : decode cX9_waits 9 = .ok (.ireturn, 1) := by decide +kernel
theorem dX9_waits_10 : decode cX9_waits 10 = .ok (.aload_n 0, 1) := by decide +kernel
theorem dX9_waits_11 : decode cX9_waits 11 = .ok (.iload_n 1, 1) := by decide +kernel
theorem dX9_waits_12 : decode cX9_waits 12 = .ok (.iconst 0, 1) := by decide +kernel
theorem dX9_waits_13 : decode cX9_waits 13 = .ok (.invokevirtual 44, 3) := by decide +kernel
theorem dX9_waits_16 : decode cX9_waits 16 = .ok (.istore_n 2, 1) := by decide +kernel
theorem dX9_waits_17 : decode cX9_waits 17 = .ok (.aload_n 0, 1) := by decide +kernel
theorem dX9_waits_18 : decode cX9_waits 18 = .ok (.iload_n 1, 1) := by decide +kernel
theorem dX9_waits_19 : decode cX9_waits 19 = .ok (.iconst 3, 1) := by decide +kernel
theorem dX9_waits_20 : decode cX9_waits 20 = .ok (.invokevirtual 44, 3) := by decide +kernel
theorem dX9_waits_23 : decode cX9_waits 23 = .ok (.ifCond .ne 7, 3) := by decide +kernel
theorem dX9_waits_26 : decode cX9_waits 26 = .ok (.iconst 1, 1) := by decide +kernel
theorem dX9_waits_27 : decode cX9_waits 27 = .ok (.goto 68, 3) := by decide +kernel
theorem dX9_waits_30 : decode cX9_waits 30 = .ok (.iload_n 2, 1) := by decide +kernel
theorem dX9_waits_31 : decode cX9_waits 31 = .ok (.aload_n 0, 1) := by decide +kernel
theorem dX9_waits_32 : decode cX9_waits 32 = .ok (.getfield 7, 3) := by decide +kernel
theorem dX9_waits_35 : decode cX9_waits 35 = .ok (.iconst 1, 1) := by decide +kernel
theorem dX9_waits_36 : decode cX9_waits 36 = .ok (.iaload, 1) := by decide +kernel
theorem dX9_waits_37 : decode cX9_waits 37 = .ok (.if_icmp .gt 7, 3) := by decide +kernel
theorem dX9_waits_40 : decode cX9_waits 40 = .ok (.iconst 2, 1) := by decide +kernel
theorem dX9_waits_41 : decode cX9_waits 41 = .ok (.goto 54, 3) := by decide +kernel
theorem dX9_waits_44 : decode cX9_waits 44 = .ok (.iload_n 2, 1) := by decide +kernel
theorem dX9_waits_45 : decode cX9_waits 45 = .ok (.aload_n 0, 1) := by decide +kernel
theorem dX9_waits_46 : decode cX9_waits 46 = .ok (.invokevirtual 113, 3) := by decide +kernel
theorem dX9_waits_49 : decode cX9_waits 49 = .ok (.if_icmp .gt 7, 3) := by decide +kernel
theorem dX9_waits_52 : decode cX9_waits 52 = .ok (.iconst 3, 1) := by decide +kernel
theorem dX9_waits_53 : decode cX9_waits 53 = .ok (.goto 42, 3) := by decide +kernel
theorem dX9_waits_56 : decode cX9_waits 56 = .ok (.iload_n 2, 1) := by decide +kernel
theorem dX9_waits_57 : decode cX9_waits 57 = .ok (.aload_n 0, 1) := by decide +kernel
theorem dX9_waits_58 : decode cX9_waits 58 = .ok (.invokevirtual 117, 3) := by decide +kernel
theorem dX9_waits_61 : decode cX9_waits 61 = .ok (.if_icmp .gt 7, 3) := by decide +kernel
theorem dX9_waits_64 : decode cX9_waits 64 = .ok (.iconst 4, 1) := by decide +kernel
theorem dX9_waits_65 : decode cX9_waits 65 = .ok (.goto 30, 3) := by decide +kernel
theorem dX9_waits_68 : decode cX9_waits 68 = .ok (.aload_n 0, 1) := by decide +kernel
theorem dX9_waits_69 : decode cX9_waits 69 = .ok (.invokevirtual 132, 3) := by decide +kernel
theorem dX9_waits_72 : decode cX9_waits 72 = .ok (.iload_n 1, 1) := by decide +kernel
theorem dX9_waits_73 : decode cX9_waits 73 = .ok (.if_icmp .eq 7, 3) := by decide +kernel
theorem dX9_waits_76 : decode cX9_waits 76 = .ok (.iconst 5, 1) := by decide +kernel
theorem dX9_waits_77 : decode cX9_waits 77 = .ok (.goto 18, 3) := by decide +kernel
theorem dX9_waits_80 : decode cX9_waits 80 = .ok (.aload_n 0, 1) := by decide +kernel
theorem dX9_waits_81 : decode cX9_waits 81 = .ok (.getfield 7, 3) := by decide +kernel
theorem dX9_waits_84 : decode cX9_waits 84 = .ok (.iconst 5, 1) := by decide +kernel
theorem dX9_waits_85 : decode cX9_waits 85 = .ok (.iaload, 1) := by decide +kernel
theorem dX9_waits_86 : decode cX9_waits 86 = .ok (.ifCond .eq 8, 3) := by decide +kernel
theorem dX9_waits_89 : decode cX9_waits 89 = .ok (.bipush 6, 2) := by decide +kernel
theorem dX9_waits_91 : decode cX9_waits 91 = .ok (.goto 4, 3) := by decide +kernel
theorem dX9_waits_94 : decode cX9_waits 94 = .ok (.iconst 0, 1) := by decide +kernel
theorem dX9_waits_95 : decode cX9_waits 95 = .ok (.ireturn, 1) := by decide +kernel
theorem dX9_tellSource_0 : decode cX9_tellSource 0 = .ok (.iload_n 2, 1) := by decide +kernel
theorem dX9_tellSource_1 : decode cX9_tellSource 1 = .ok (.tableswitch 145 0 16 #[83, 83, 83, 83, 90, 83, 104, 145, 145, 145, 145, 145, 145, 145, 145, 110, 139], 83) := by decide +kernel
theorem dX9_tellSource_84 : decode cX9_tellSource 84 = .ok (.aload_n 0, 1) := by decide +kernel
theorem dX9_tellSource_85 : decode cX9_tellSource 85 = .ok (.iload_n 1, 1) := by decide +kernel
theorem dX9_tellSource_86 : decode cX9_tellSource 86 = .ok (.iload_n 2, 1) := by decide +kernel
theorem dX9_tellSource_87 : decode cX9_tellSource 87 = .ok (.invokevirtual 44, 3) := by decide +kernel
theorem dX9_tellSource_90 : decode cX9_tellSource 90 = .ok (.ireturn, 1) := by decide +kernel
theorem dX9_tellSource_91 : decode cX9_tellSource 91 = .ok (.aload_n 0, 1) := by decide +kernel
theorem dX9_tellSource_92 : decode cX9_tellSource 92 = .ok (.iload_n 1, 1) := by decide +kernel
theorem dX9_tellSource_93 : decode cX9_tellSource 93 = .ok (.invokevirtual 126, 3) := by decide +kernel
theorem dX9_tellSource_96 : decode cX9_tellSource 96 = .ok (.ifCond .eq 7, 3) := by decide +kernel
theorem dX9_tellSource_99 : decode cX9_tellSource 99 = .ok (.iconst 1, 1) := by decide +kernel
theorem dX9_tellSource_100 : decode cX9_tellSource 100 = .ok (.goto 4, 3) := by decide +kernel
theorem dX9_tellSource_103 : decode cX9_tellSource 103 = .ok (.iconst 0, 1) := by decide +kernel
theorem dX9_tellSource_104 : decode cX9_tellSource 104 = .ok (.ireturn, 1) := by decide +kernel
theorem dX9_tellSource_105 : decode cX9_tellSource 105 = .ok (.aload_n 0, 1) := by decide +kernel
theorem dX9_tellSource_106 : decode cX9_tellSource 106 = .ok (.iload_n 1, 1) := by decide +kernel
theorem dX9_tellSource_107 : decode cX9_tellSource 107 = .ok (.invokevirtual 48, 3) := by decide +kernel
theorem dX9_tellSource_110 : decode cX9_tellSource 110 = .ok (.ireturn, 1) := by decide +kernel
theorem dX9_tellSource_111 : decode cX9_tellSource 111 = .ok (.aload_n 0, 1) := by decide +kernel
theorem dX9_tellSource_112 : decode cX9_tellSource 112 = .ok (.iload_n 1, 1) := by decide +kernel
theorem dX9_tellSource_113 : decode cX9_tellSource 113 = .ok (.bipush 15, 2) := by decide +kernel
theorem dX9_tellSource_115 : decode cX9_tellSource 115 = .ok (.invokevirtual 44, 3) := by decide +kernel
theorem dX9_tellSource_118 : decode cX9_tellSource 118 = .ok (.ifCond .ne 7, 3) := by decide +kernel
theorem dX9_tellSource_121 : decode cX9_tellSource 121 = .ok (.iconst (-1), 1) := by decide +kernel
theorem dX9_tellSource_122 : decode cX9_tellSource 122 = .ok (.goto 17, 3) := by decide +kernel
theorem dX9_tellSource_125 : decode cX9_tellSource 125 = .ok (.aload_n 0, 1) := by decide +kernel
theorem dX9_tellSource_126 : decode cX9_tellSource 126 = .ok (.iload_n 1, 1) := by decide +kernel
theorem dX9_tellSource_127 : decode cX9_tellSource 127 = .ok (.bipush 14, 2) := by decide +kernel
theorem dX9_tellSource_129 : decode cX9_tellSource 129 = .ok (.invokevirtual 44, 3) := by decide +kernel
theorem dX9_tellSource_132 : decode cX9_tellSource 132 = .ok (.aload_n 0, 1) := by decide +kernel
theorem dX9_tellSource_133 : decode cX9_tellSource 133 = .ok (.getfield 7, 3) := by decide +kernel
theorem dX9_tellSource_136 : decode cX9_tellSource 136 = .ok (.iconst 0, 1) := by decide +kernel
theorem dX9_tellSource_137 : decode cX9_tellSource 137 = .ok (.iaload, 1) := by decide +kernel
theorem dX9_tellSource_138 : decode cX9_tellSource 138 = .ok (.isub, 1) := by decide +kernel
theorem dX9_tellSource_139 : decode cX9_tellSource 139 = .ok (.ireturn, 1) := by decide +kernel
theorem dX9_tellSource_140 : decode cX9_tellSource 140 = .ok (.aload_n 0, 1) := by decide +kernel
theorem dX9_tellSource_141 : decode cX9_tellSource 141 = .ok (.iload_n 1, 1) := by decide +kernel
theorem dX9_tellSource_142 : decode cX9_tellSource 142 = .ok (.invokevirtual 158, 3) := by decide +kernel
theorem dX9_tellSource_145 : decode cX9_tellSource 145 = .ok (.ireturn, 1) := by decide +kernel
theorem dX9_tellSource_146 : decode cX9_tellSource 146 = .ok (.aload_n 0, 1) := by decide +kernel
theorem dX9_tellSource_147 : decode cX9_tellSource 147 = .ok (.iload_n 1, 1) := by decide +kernel
theorem dX9_tellSource_148 : decode cX9_tellSource 148 = .ok (.bipush 16, 2) := by decide +kernel
theorem dX9_tellSource_150 : decode cX9_tellSource 150 = .ok (.iload_n 2, 1) := by decide +kernel
theorem dX9_tellSource_151 : decode cX9_tellSource 151 = .ok (.iadd, 1) := by decide +kernel
theorem dX9_tellSource_152 : decode cX9_tellSource 152 = .ok (.bipush 7, 2) := by decide +kernel
theorem dX9_tellSource_154 : decode cX9_tellSource 154 = .ok (.isub, 1) := by decide +kernel
theorem dX9_tellSource_155 : decode cX9_tellSource 155 = .ok (.invokevirtual 44, 3) := by decide +kernel
theorem dX9_tellSource_158 : decode cX9_tellSource 158 = .ok (.ireturn, 1) := by decide +kernel
theorem dX9_source_0 : decode cX9_source 0 = .ok (.aload_n 0, 1) := by decide +kernel
theorem dX9_source_1 : decode cX9_source 1 = .ok (.aload_n 0, 1) := by decide +kernel
theorem dX9_source_2 : decode cX9_source 2 = .ok (.iload_n 1, 1) := by decide +kernel
theorem dX9_source_3 : decode cX9_source 3 = .ok (.invokevirtual 61, 3) := by decide +kernel
theorem dX9_source_6 : decode cX9_source 6 = .ok (.ifCond .ne 7, 3) := by decide +kernel
theorem dX9_source_9 : decode cX9_source 9 = .ok (.iconst 1, 1) := by decide +kernel
theorem dX9_source_10 : decode cX9_source 10 = .ok (.goto 18, 3) := by decide +kernel
theorem dX9_source_13 : decode cX9_source 13 = .ok (.iload_n 2, 1) := by decide +kernel
theorem dX9_source_14 : decode cX9_source 14 = .ok (.iconst 0, 1) := by decide +kernel
theorem dX9_source_15 : decode cX9_source 15 = .ok (.bipush 16, 2) := by decide +kernel
theorem dX9_source_17 : decode cX9_source 17 = .ok (.invokestatic 36, 3) := by decide +kernel
theorem dX9_source_20 : decode cX9_source 20 = .ok (.ifCond .eq 7, 3) := by decide +kernel
theorem dX9_source_23 : decode cX9_source 23 = .ok (.iconst 0, 1) := by decide +kernel
theorem dX9_source_24 : decode cX9_source 24 = .ok (.goto 4, 3) := by decide +kernel
theorem dX9_source_27 : decode cX9_source 27 = .ok (.iconst 2, 1) := by decide +kernel
theorem dX9_source_28 : decode cX9_source 28 = .ok (.invokevirtual 32, 3) := by decide +kernel
theorem dX9_source_31 : decode cX9_source 31 = .ok (.ifCond .eq 7, 3) := by decide +kernel
theorem dX9_source_34 : decode cX9_source 34 = .ok (.iconst 0, 1) := by decide +kernel
theorem dX9_source_35 : decode cX9_source 35 = .ok (.goto 9, 3) := by decide +kernel
theorem dX9_source_38 : decode cX9_source 38 = .ok (.aload_n 0, 1) := by decide +kernel
theorem dX9_source_39 : decode cX9_source 39 = .ok (.iload_n 1, 1) := by decide +kernel
theorem dX9_source_40 : decode cX9_source 40 = .ok (.iload_n 2, 1) := by decide +kernel
theorem dX9_source_41 : decode cX9_source 41 = .ok (.invokevirtual 161, 3) := by decide +kernel
theorem dX9_source_44 : decode cX9_source 44 = .ok (.ireturn, 1) := by decide +kernel
theorem dX9_tellSection_0 : decode cX9_tellSection 0 = .ok (.iload_n 3, 1) := by decide +kernel
theorem dX9_tellSection_1 : decode cX9_tellSection 1 = .ok (.iconst 3, 1) := by decide +kernel
theorem dX9_tellSection_2 : decode cX9_tellSection 2 = .ok (.if_icmp .ne 20, 3) := by decide +kernel
theorem dX9_tellSection_5 : decode cX9_tellSection 5 = .ok (.aload_n 0, 1) := by decide +kernel
theorem dX9_tellSection_6 : decode cX9_tellSection 6 = .ok (.iload_n 1, 1) := by decide +kernel
theorem dX9_tellSection_7 : decode cX9_tellSection 7 = .ok (.iload_n 2, 1) := by decide +kernel
theorem dX9_tellSection_8 : decode cX9_tellSection 8 = .ok (.invokevirtual 110, 3) := by decide +kernel
theorem dX9_tellSection_11 : decode cX9_tellSection 11 = .ok (.ifCond .eq 7, 3) := by decide +kernel
theorem dX9_tellSection_14 : decode cX9_tellSection 14 = .ok (.iconst 1, 1) := by decide +kernel
theorem dX9_tellSection_15 : decode cX9_tellSection 15 = .ok (.goto 20, 3) := by decide +kernel
theorem dX9_tellSection_18 : decode cX9_tellSection 18 = .ok (.iconst 0, 1) := by decide +kernel
theorem dX9_tellSection_19 : decode cX9_tellSection 19 = .ok (.goto 16, 3) := by decide +kernel
theorem dX9_tellSection_22 : decode cX9_tellSection 22 = .ok (.aload_n 0, 1) := by decide +kernel
theorem dX9_tellSection_23 : decode cX9_tellSection 23 = .ok (.iload_n 1, 1) := by decide +kernel
theorem dX9_tellSection_24 : decode cX9_tellSection 24 = .ok (.bipush 8, 2) := by decide +kernel
theorem dX9_tellSection_26 : decode cX9_tellSection 26 = .ok (.iconst 3, 1) := by decide +kernel
theorem dX9_tellSection_27 : decode cX9_tellSection 27 = .ok (.iload_n 2, 1) := by decide +kernel
theorem dX9_tellSection_28 : decode cX9_tellSection 28 = .ok (.imul, 1) := by decide +kernel
theorem dX9_tellSection_29 : decode cX9_tellSection 29 = .ok (.iadd, 1) := by decide +kernel
theorem dX9_tellSection_30 : decode cX9_tellSection 30 = .ok (.iload_n 3, 1) := by decide +kernel
theorem dX9_tellSection_31 : decode cX9_tellSection 31 = .ok (.iadd, 1) := by decide +kernel
theorem dX9_tellSection_32 : decode cX9_tellSection 32 = .ok (.invokevirtual 44, 3) := by decide +kernel
theorem dX9_tellSection_35 : decode cX9_tellSection 35 = .ok (.ireturn, 1) := by decide +kernel
theorem dX9_section_0 : decode cX9_section 0 = .ok (.aload_n 0, 1) := by decide +kernel
theorem dX9_section_1 : decode cX9_section 1 = .ok (.iload_n 1, 1) := by decide +kernel
theorem dX9_section_2 : decode cX9_section 2 = .ok (.invokevirtual 61, 3) := by decide +kernel
theorem dX9_section_5 : decode cX9_section 5 = .ok (.ifCond .eq 24, 3) := by decide +kernel
theorem dX9_section_8 : decode cX9_section 8 = .ok (.iload_n 2, 1) := by decide +kernel
theorem dX9_section_9 : decode cX9_section 9 = .ok (.iconst 0, 1) := by decide +kernel
theorem dX9_section_10 : decode cX9_section 10 = .ok (.aload_n 0, 1) := by decide +kernel
theorem dX9_section_11 : decode cX9_section 11 = .ok (.iload_n 1, 1) := by decide +kernel
theorem dX9_section_12 : decode cX9_section 12 = .ok (.bipush 7, 2) := by decide +kernel
theorem dX9_section_14 : decode cX9_section 14 = .ok (.invokevirtual 44, 3) := by decide +kernel
theorem dX9_section_17 : decode cX9_section 17 = .ok (.iconst 1, 1) := by decide +kernel
theorem dX9_section_18 : decode cX9_section 18 = .ok (.isub, 1) := by decide +kernel
theorem dX9_section_19 : decode cX9_section 19 = .ok (.invokestatic 36, 3) := by decide +kernel
theorem dX9_section_22 : decode cX9_section 22 = .ok (.ifCond .eq 7, 3) := by decide +kernel
theorem dX9_section_25 : decode cX9_section 25 = .ok (.iconst 1, 1) := by decide +kernel
theorem dX9_section_26 : decode cX9_section 26 = .ok (.goto 4, 3) := by decide +kernel
theorem dX9_section_29 : decode cX9_section 29 = .ok (.iconst 0, 1) := by decide +kernel
theorem dX9_section_30 : decode cX9_section 30 = .ok (.istore 4, 2) := by decide +kernel
theorem dX9_section_32 : decode cX9_section 32 = .ok (.aload_n 0, 1) := by decide +kernel
theorem dX9_section_33 : decode cX9_section 33 = .ok (.iload 4, 2) := by decide +kernel
theorem dX9_section_35 : decode cX9_section 35 = .ok (.ifCond .ne 7, 3) := by decide +kernel
theorem dX9_section_38 : decode cX9_section 38 = .ok (.iconst 1, 1) := by decide +kernel
theorem dX9_section_39 : decode cX9_section 39 = .ok (.goto 17, 3) := by decide +kernel
theorem dX9_section_42 : decode cX9_section 42 = .ok (.iload_n 3, 1) := by decide +kernel
theorem dX9_section_43 : decode cX9_section 43 = .ok (.iconst 0, 1) := by decide +kernel
theorem dX9_section_44 : decode cX9_section 44 = .ok (.iconst 3, 1) := by decide +kernel
theorem dX9_section_45 : decode cX9_section 45 = .ok (.invokestatic 36, 3) := by decide +kernel
theorem dX9_section_48 : decode cX9_section 48 = .ok (.ifCond .eq 7, 3) := by decide +kernel
theorem dX9_section_51 : decode cX9_section 51 = .ok (.iconst 0, 1) := by decide +kernel
theorem dX9_section_52 : decode cX9_section 52 = .ok (.goto 4, 3) := by decide +kernel
theorem dX9_section_55 : decode cX9_section 55 = .ok (.iconst 2, 1) := by decide +kernel
theorem dX9_section_56 : decode cX9_section 56 = .ok (.invokevirtual 32, 3) := by decide +kernel
theorem dX9_section_59 : decode cX9_section 59 = .ok (.ifCond .eq 7, 3) := by decide +kernel
theorem dX9_section_62 : decode cX9_section 62 = .ok (.iconst 0, 1) := by decide +kernel
theorem dX9_section_63 : decode cX9_section 63 = .ok (.goto 10, 3) := by decide +kernel
theorem dX9_section_66 : decode cX9_section 66 = .ok (.aload_n 0, 1) := by decide +kernel
theorem dX9_section_67 : decode cX9_section 67 = .ok (.iload_n 1, 1) := by decide +kernel
theorem dX9_section_68 : decode cX9_section 68 = .ok (.iload_n 2, 1) := by decide +kernel
theorem dX9_section_69 : decode cX9_section 69 = .ok (.iload_n 3, 1) := by decide +kernel
theorem dX9_section_70 : decode cX9_section 70 = .ok (.invokevirtual 164, 3) := by decide +kernel
theorem dX9_section_73 : decode cX9_section 73 = .ok (.ireturn, 1) := by decide +kernel
theorem dX9_stack_0 : decode cX9_stack 0 = .ok (.aload_n 0, 1) := by decide +kernel
theorem dX9_stack_1 : decode cX9_stack 1 = .ok (.iload_n 1, 1) := by decide +kernel
theorem dX9_stack_2 : decode cX9_stack 2 = .ok (.ifCond .ge 7, 3) := by decide +kernel
theorem dX9_stack_5 : decode cX9_stack 5 = .ok (.iconst 1, 1) := by decide +kernel
theorem dX9_stack_6 : decode cX9_stack 6 = .ok (.goto 4, 3) := by decide +kernel
theorem dX9_stack_9 : decode cX9_stack 9 = .ok (.iconst 0, 1) := by decide +kernel
theorem dX9_stack_10 : decode cX9_stack 10 = .ok (.invokevirtual 32, 3) := by decide +kernel
theorem dX9_stack_13 : decode cX9_stack 13 = .ok (.ifCond .eq 7, 3) := by decide +kernel
theorem dX9_stack_16 : decode cX9_stack 16 = .ok (.iconst 0, 1) := by decide +kernel
theorem dX9_stack_17 : decode cX9_stack 17 = .ok (.goto 27, 3) := by decide +kernel
theorem dX9_stack_20 : decode cX9_stack 20 = .ok (.iload_n 1, 1) := by decide +kernel
theorem dX9_stack_21 : decode cX9_stack 21 = .ok (.aload_n 0, 1) := by decide +kernel
theorem dX9_stack_22 : decode cX9_stack 22 = .ok (.getfield 7, 3) := by decide +kernel
theorem dX9_stack_25 : decode cX9_stack 25 = .ok (.bipush 9, 2) := by decide +kernel
theorem dX9_stack_27 : decode cX9_stack 27 = .ok (.iaload, 1) := by decide +kernel
theorem dX9_stack_28 : decode cX9_stack 28 = .ok (.if_icmp .lt 7, 3) := by decide +kernel
theorem dX9_stack_31 : decode cX9_stack 31 = .ok (.iconst (-1), 1) := by decide +kernel
theorem dX9_stack_32 : decode cX9_stack 32 = .ok (.goto 12, 3) := by decide +kernel
theorem dX9_stack_35 : decode cX9_stack 35 = .ok (.aload_n 0, 1) := by decide +kernel
theorem dX9_stack_36 : decode cX9_stack 36 = .ok (.getfield 7, 3) := by decide +kernel
theorem dX9_stack_39 : decode cX9_stack 39 = .ok (.bipush 10, 2) := by decide +kernel
theorem dX9_stack_41 : decode cX9_stack 41 = .ok (.iload_n 1, 1) := by decide +kernel
theorem dX9_stack_42 : decode cX9_stack 42 = .ok (.iadd, 1) := by decide +kernel
theorem dX9_stack_43 : decode cX9_stack 43 = .ok (.iaload, 1) := by decide +kernel
theorem dX9_stack_44 : decode cX9_stack 44 = .ok (.ireturn, 1) := by decide +kernel
theorem dX9_tellProcessor_0 : decode cX9_tellProcessor 0 = .ok (.iload_n 1, 1) := by decide +kernel
theorem dX9_tellProcessor_1 : decode cX9_tellProcessor 1 = .ok (.tableswitch 92 5 11 #[43, 48, 53, 61, 68, 76, 84], 43) := by decide +kernel
theorem dX9_tellProcessor_44 : decode cX9_tellProcessor 44 = .ok (.aload_n 0, 1) := by decide +kernel
theorem dX9_tellProcessor_45 : decode cX9_tellProcessor 45 = .ok (.invokevirtual 123, 3) := by decide +kernel
theorem dX9_tellProcessor_48 : decode cX9_tellProcessor 48 = .ok (.ireturn, 1) := by decide +kernel
theorem dX9_tellProcessor_49 : decode cX9_tellProcessor 49 = .ok (.aload_n 0, 1) := by decide +kernel
theorem dX9_tellProcessor_50 : decode cX9_tellProcessor 50 = .ok (.invokevirtual 132, 3) := by decide +kernel
theorem dX9_tellProcessor_53 : decode cX9_tellProcessor 53 = .ok (.ireturn, 1) := by decide +kernel
theorem dX9_tellProcessor_54 : decode cX9_tellProcessor 54 = .ok (.aload_n 0, 1) := by decide +kernel
theorem dX9_tellProcessor_55 : decode cX9_tellProcessor 55 = .ok (.getfield 7, 3) := by decide +kernel
theorem dX9_tellProcessor_58 : decode cX9_tellProcessor 58 = .ok (.bipush 9, 2) := by decide +kernel
theorem dX9_tellProcessor_60 : decode cX9_tellProcessor 60 = .ok (.iaload, 1) := by decide +kernel
theorem dX9_tellProcessor_61 : decode cX9_tellProcessor 61 = .ok (.ireturn, 1) := by decide +kernel
theorem dX9_tellProcessor_62 : decode cX9_tellProcessor 62 = .ok (.aload_n 0, 1) := by decide +kernel
theorem dX9_tellProcessor_63 : decode cX9_tellProcessor 63 = .ok (.getfield 7, 3) := by decide +kernel
theorem dX9_tellProcessor_66 : decode cX9_tellProcessor 66 = .ok (.iconst 5, 1) := by decide +kernel
theorem dX9_tellProcessor_67 : decode cX9_tellProcessor 67 = .ok (.iaload, 1) := by decide +kernel
theorem dX9_tellProcessor_68 : decode cX9_tellProcessor 68 = .ok (.ireturn, 1) := by decide +kernel
theorem dX9_tellProcessor_69 : decode cX9_tellProcessor 69 = .ok (.aload_n 0, 1) := by decide +kernel
theorem dX9_tellProcessor_70 : decode cX9_tellProcessor 70 = .ok (.getfield 7, 3) := by decide +kernel
theorem dX9_tellProcessor_73 : decode cX9_tellProcessor 73 = .ok (.bipush 6, 2) := by decide +kernel
theorem dX9_tellProcessor_75 : decode cX9_tellProcessor 75 = .ok (.iaload, 1) := by decide +kernel
theorem dX9_tellProcessor_76 : decode cX9_tellProcessor 76 = .ok (.ireturn, 1) := by decide +kernel
theorem dX9_tellProcessor_77 : decode cX9_tellProcessor 77 = .ok (.aload_n 0, 1) := by decide +kernel
theorem dX9_tellProcessor_78 : decode cX9_tellProcessor 78 = .ok (.getfield 7, 3) := by decide +kernel
theorem dX9_tellProcessor_81 : decode cX9_tellProcessor 81 = .ok (.bipush 7, 2) := by decide +kernel
theorem dX9_tellProcessor_83 : decode cX9_tellProcessor 83 = .ok (.iaload, 1) := by decide +kernel
theorem dX9_tellProcessor_84 : decode cX9_tellProcessor 84 = .ok (.ireturn, 1) := by decide +kernel
theorem dX9_tellProcessor_85 : decode cX9_tellProcessor 85 = .ok (.aload_n 0, 1) := by decide +kernel
theorem dX9_tellProcessor_86 : decode cX9_tellProcessor 86 = .ok (.getfield 7, 3) := by decide +kernel
theorem dX9_tellProcessor_89 : decode cX9_tellProcessor 89 = .ok (.bipush 8, 2) := by decide +kernel
theorem dX9_tellProcessor_91 : decode cX9_tellProcessor 91 = .ok (.iaload, 1) := by decide +kernel
theorem dX9_tellProcessor_92 : decode cX9_tellProcessor 92 = .ok (.ireturn, 1) := by decide +kernel
theorem dX9_tellProcessor_93 : decode cX9_tellProcessor 93 = .ok (.aload_n 0, 1) := by decide +kernel
theorem dX9_tellProcessor_94 : decode cX9_tellProcessor 94 = .ok (.getfield 7, 3) := by decide +kernel
theorem dX9_tellProcessor_97 : decode cX9_tellProcessor 97 = .ok (.iload_n 1, 1) := by decide +kernel
theorem dX9_tellProcessor_98 : decode cX9_tellProcessor 98 = .ok (.iaload, 1) := by decide +kernel
theorem dX9_tellProcessor_99 : decode cX9_tellProcessor 99 = .ok (.ireturn, 1) := by decide +kernel
theorem dX9_processor_0 : decode cX9_processor 0 = .ok (.aload_n 0, 1) := by decide +kernel
theorem dX9_processor_1 : decode cX9_processor 1 = .ok (.iload_n 1, 1) := by decide +kernel
theorem dX9_processor_2 : decode cX9_processor 2 = .ok (.iconst 0, 1) := by decide +kernel
theorem dX9_processor_3 : decode cX9_processor 3 = .ok (.bipush 11, 2) := by decide +kernel
theorem dX9_processor_5 : decode cX9_processor 5 = .ok (.invokestatic 36, 3) := by decide +kernel
theorem dX9_processor_8 : decode cX9_processor 8 = .ok (.ifCond .eq 7, 3) := by decide +kernel
theorem dX9_processor_11 : decode cX9_processor 11 = .ok (.iconst 0, 1) := by decide +kernel
theorem dX9_processor_12 : decode cX9_processor 12 = .ok (.goto 4, 3) := by decide +kernel
theorem dX9_processor_15 : decode cX9_processor 15 = .ok (.iconst 1, 1) := by decide +kernel
theorem dX9_processor_16 : decode cX9_processor 16 = .ok (.invokevirtual 32, 3) := by decide +kernel
theorem dX9_processor_19 : decode cX9_processor 19 = .ok (.ifCond .eq 7, 3) := by decide +kernel
theorem dX9_processor_22 : decode cX9_processor 22 = .ok (.iconst 0, 1) := by decide +kernel
theorem dX9_processor_23 : decode cX9_processor 23 = .ok (.goto 8, 3) := by decide +kernel
theorem dX9_processor_26 : decode cX9_processor 26 = .ok (.aload_n 0, 1) := by decide +kernel
theorem dX9_processor_27 : decode cX9_processor 27 = .ok (.iload_n 1, 1) := by decide +kernel
theorem dX9_processor_28 : decode cX9_processor 28 = .ok (.invokevirtual 167, 3) := by decide +kernel
theorem dX9_processor_31 : decode cX9_processor 31 = .ok (.ireturn, 1) := by decide +kernel
theorem dX9_account_0 : decode cX9_account 0 = .ok (.aload_n 0, 1) := by decide +kernel
theorem dX9_account_1 : decode cX9_account 1 = .ok (.iload_n 1, 1) := by decide +kernel
theorem dX9_account_2 : decode cX9_account 2 = .ok (.iconst 0, 1) := by decide +kernel
theorem dX9_account_3 : decode cX9_account 3 = .ok (.bipush 9, 2) := by decide +kernel
theorem dX9_account_5 : decode cX9_account 5 = .ok (.invokestatic 36, 3) := by decide +kernel
theorem dX9_account_8 : decode cX9_account 8 = .ok (.ifCond .eq 7, 3) := by decide +kernel
theorem dX9_account_11 : decode cX9_account 11 = .ok (.iconst 0, 1) := by decide +kernel
theorem dX9_account_12 : decode cX9_account 12 = .ok (.goto 4, 3) := by decide +kernel
theorem dX9_account_15 : decode cX9_account 15 = .ok (.iconst 1, 1) := by decide +kernel
theorem dX9_account_16 : decode cX9_account 16 = .ok (.invokevirtual 32, 3) := by decide +kernel
theorem dX9_account_19 : decode cX9_account 19 = .ok (.ifCond .eq 7, 3) := by decide +kernel
theorem dX9_account_22 : decode cX9_account 22 = .ok (.iconst 0, 1) := by decide +kernel
theorem dX9_account_23 : decode cX9_account 23 = .ok (.goto 12, 3) := by decide +kernel
theorem dX9_account_26 : decode cX9_account 26 = .ok (.aload_n 0, 1) := by decide +kernel
theorem dX9_account_27 : decode cX9_account 27 = .ok (.getfield 7, 3) := by decide +kernel
theorem dX9_account_30 : decode cX9_account 30 = .ok (.bipush 83, 2) := by decide +kernel
theorem dX9_account_32 : decode cX9_account 32 = .ok (.iload_n 1, 1) := by decide +kernel
theorem dX9_account_33 : decode cX9_account 33 = .ok (.iadd, 1) := by decide +kernel
theorem dX9_account_34 : decode cX9_account 34 = .ok (.iaload, 1) := by decide +kernel
theorem dX9_account_35 : decode cX9_account 35 = .ok (.ireturn, 1) := by decide +kernel
theorem dX9_log_0 : decode cX9_log 0 = .ok (.aload_n 0, 1) := by decide +kernel
theorem dX9_log_1 : decode cX9_log 1 = .ok (.iload_n 1, 1) := by decide +kernel
theorem dX9_log_2 : decode cX9_log 2 = .ok (.ifCond .lt 12, 3) := by decide +kernel
theorem dX9_log_5 : decode cX9_log 5 = .ok (.iload_n 2, 1) := by decide +kernel
theorem dX9_log_6 : decode cX9_log 6 = .ok (.iconst 0, 1) := by decide +kernel
theorem dX9_log_7 : decode cX9_log 7 = .ok (.iconst 2, 1) := by decide +kernel
theorem dX9_log_8 : decode cX9_log 8 = .ok (.invokestatic 36, 3) := by decide +kernel
theorem dX9_log_11 : decode cX9_log 11 = .ok (.ifCond .ne 7, 3) := by decide +kernel
theorem dX9_log_14 : decode cX9_log 14 = .ok (.iconst 1, 1) := by decide +kernel
theorem dX9_log_15 : decode cX9_log 15 = .ok (.goto 4, 3) := by decide +kernel
theorem dX9_log_18 : decode cX9_log 18 = .ok (.iconst 0, 1) := by decide +kernel
theorem dX9_log_19 : decode cX9_log 19 = .ok (.invokevirtual 32, 3) := by decide +kernel
theorem dX9_log_22 : decode cX9_log 22 = .ok (.ifCond .eq 5, 3) := by decide +kernel
theorem dX9_log_25 : decode cX9_log 25 = .ok (.iconst 0, 1) := by decide +kernel
theorem dX9_log_26 : decode cX9_log 26 = .ok (.ireturn, 1) := by decide +kernel
theorem dX9_log_27 : decode cX9_log 27 = .ok (.iload_n 1, 1) := by decide +kernel
theorem dX9_log_28 : decode cX9_log 28 = .ok (.aload_n 0, 1) := by decide +kernel
theorem dX9_log_29 : decode cX9_log 29 = .ok (.getfield 7, 3) := by decide +kernel
theorem dX9_log_32 : decode cX9_log 32 = .ok (.bipush 22, 2) := by decide +kernel
theorem dX9_log_34 : decode cX9_log 34 = .ok (.iaload, 1) := by decide +kernel
theorem dX9_log_35 : decode cX9_log 35 = .ok (.if_icmp .lt 7, 3) := by decide +kernel
theorem dX9_log_38 : decode cX9_log 38 = .ok (.iconst (-1), 1) := by decide +kernel
theorem dX9_log_39 : decode cX9_log 39 = .ok (.goto 16, 3) := by decide +kernel
theorem dX9_log_42 : decode cX9_log 42 = .ok (.aload_n 0, 1) := by decide +kernel
theorem dX9_log_43 : decode cX9_log 43 = .ok (.getfield 7, 3) := by decide +kernel
theorem dX9_log_46 : decode cX9_log 46 = .ok (.bipush 23, 2) := by decide +kernel
theorem dX9_log_48 : decode cX9_log 48 = .ok (.iconst 3, 1) := by decide +kernel
theorem dX9_log_49 : decode cX9_log 49 = .ok (.iload_n 1, 1) := by decide +kernel
theorem dX9_log_50 : decode cX9_log 50 = .ok (.imul, 1) := by decide +kernel
theorem dX9_log_51 : decode cX9_log 51 = .ok (.iadd, 1) := by decide +kernel
theorem dX9_log_52 : decode cX9_log 52 = .ok (.iload_n 2, 1) := by decide +kernel
theorem dX9_log_53 : decode cX9_log 53 = .ok (.iadd, 1) := by decide +kernel
theorem dX9_log_54 : decode cX9_log 54 = .ok (.iaload, 1) := by decide +kernel
theorem dX9_log_55 : decode cX9_log 55 = .ok (.ireturn, 1) := by decide +kernel
theorem dX9_enters_0 : decode cX9_enters 0 = .ok (.aload_n 0, 1) := by decide +kernel
theorem dX9_enters_1 : decode cX9_enters 1 = .ok (.iload_n 1, 1) := by decide +kernel
theorem dX9_enters_2 : decode cX9_enters 2 = .ok (.bipush 17, 2) := by decide +kernel
theorem dX9_enters_4 : decode cX9_enters 4 = .ok (.invokevirtual 44, 3) := by decide +kernel
theorem dX9_enters_7 : decode cX9_enters 7 = .ok (.istore_n 3, 1) := by decide +kernel
theorem dX9_enters_8 : decode cX9_enters 8 = .ok (.iconst 0, 1) := by decide +kernel
theorem dX9_enters_9 : decode cX9_enters 9 = .ok (.istore 4, 2) := by decide +kernel
theorem dX9_enters_11 : decode cX9_enters 11 = .ok (.iload 4, 2) := by decide +kernel
theorem dX9_enters_13 : decode cX9_enters 13 = .ok (.iload_n 2, 1) := by decide +kernel
theorem dX9_enters_14 : decode cX9_enters 14 = .ok (.if_icmp .ge 26, 3) := by decide +kernel
theorem dX9_enters_17 : decode cX9_enters 17 = .ok (.aload_n 0, 1) := by decide +kernel
theorem dX9_enters_18 : decode cX9_enters 18 = .ok (.iload_n 1, 1) := by decide +kernel
theorem dX9_enters_19 : decode cX9_enters 19 = .ok (.bipush 17, 2) := by decide +kernel
theorem dX9_enters_21 : decode cX9_enters 21 = .ok (.invokevirtual 44, 3) := by decide +kernel
theorem dX9_enters_24 : decode cX9_enters 24 = .ok (.iload_n 3, 1) := by decide +kernel
theorem dX9_enters_25 : decode cX9_enters 25 = .ok (.if_icmp .ne 15, 3) := by decide +kernel
theorem dX9_enters_28 : decode cX9_enters 28 = .ok (.aload_n 0, 1) := by decide +kernel
theorem dX9_enters_29 : decode cX9_enters 29 = .ok (.invokevirtual 149, 3) := by decide +kernel
theorem dX9_enters_32 : decode cX9_enters 32 = .ok (.istore 5, 2) := by decide +kernel
theorem dX9_enters_34 : decode cX9_enters 34 = .ok (.iinc 4 1, 3) := by decide +kernel
theorem dX9_enters_37 : decode cX9_enters 37 = .ok (.goto (-26), 3) := by decide +kernel
theorem dX9_enters_40 : decode cX9_enters 40 = .ok (.aload_n 0, 1) := by decide +kernel
theorem dX9_enters_41 : decode cX9_enters 41 = .ok (.iload_n 1, 1) := by decide +kernel
theorem dX9_enters_42 : decode cX9_enters 42 = .ok (.bipush 17, 2) := by decide +kernel
theorem dX9_enters_44 : decode cX9_enters 44 = .ok (.invokevirtual 44, 3) := by decide +kernel
theorem dX9_enters_47 : decode cX9_enters 47 = .ok (.iload_n 3, 1) := by decide +kernel
theorem dX9_enters_48 : decode cX9_enters 48 = .ok (.if_icmp .le 8, 3) := by decide +kernel
theorem dX9_enters_51 : decode cX9_enters 51 = .ok (.iload 4, 2) := by decide +kernel
theorem dX9_enters_53 : decode cX9_enters 53 = .ok (.goto 4, 3) := by decide +kernel
theorem dX9_enters_56 : decode cX9_enters 56 = .ok (.iconst (-1), 1) := by decide +kernel
theorem dX9_enters_57 : decode cX9_enters 57 = .ok (.ireturn, 1) := by decide +kernel
theorem dX9_isMost_0 : decode cX9_isMost 0 = .ok (.iload_n 0, 1) := by decide +kernel
theorem dX9_isMost_1 : decode cX9_isMost 1 = .ok (.iconst 0, 1) := by decide +kernel
theorem dX9_isMost_2 : decode cX9_isMost 2 = .ok (.sipush 1000, 3) := by decide +kernel
theorem dX9_isMost_5 : decode cX9_isMost 5 = .ok (.invokestatic 36, 3) := by decide +kernel
theorem dX9_isMost_8 : decode cX9_isMost 8 = .ok (.ireturn, 1) := by decide +kernel
theorem dX9_entersAfter_0 : decode cX9_entersAfter 0 = .ok (.aload_n 0, 1) := by decide +kernel
theorem dX9_entersAfter_1 : decode cX9_entersAfter 1 = .ok (.aload_n 0, 1) := by decide +kernel
theorem dX9_entersAfter_2 : decode cX9_entersAfter 2 = .ok (.iload_n 1, 1) := by decide +kernel
theorem dX9_entersAfter_3 : decode cX9_entersAfter 3 = .ok (.invokevirtual 61, 3) := by decide +kernel
theorem dX9_entersAfter_6 : decode cX9_entersAfter 6 = .ok (.ifCond .ne 7, 3) := by decide +kernel
theorem dX9_entersAfter_9 : decode cX9_entersAfter 9 = .ok (.iconst 1, 1) := by decide +kernel
theorem dX9_entersAfter_10 : decode cX9_entersAfter 10 = .ok (.goto 15, 3) := by decide +kernel
theorem dX9_entersAfter_13 : decode cX9_entersAfter 13 = .ok (.iload_n 2, 1) := by decide +kernel
theorem dX9_entersAfter_14 : decode cX9_entersAfter 14 = .ok (.invokestatic 170, 3) := by decide +kernel
theorem dX9_entersAfter_17 : decode cX9_entersAfter 17 = .ok (.ifCond .eq 7, 3) := by decide +kernel
theorem dX9_entersAfter_20 : decode cX9_entersAfter 20 = .ok (.iconst 0, 1) := by decide +kernel
theorem dX9_entersAfter_21 : decode cX9_entersAfter 21 = .ok (.goto 4, 3) := by decide +kernel
theorem dX9_entersAfter_24 : decode cX9_entersAfter 24 = .ok (.iconst 2, 1) := by decide +kernel
theorem dX9_entersAfter_25 : decode cX9_entersAfter 25 = .ok (.invokevirtual 32, 3) := by decide +kernel
theorem dX9_entersAfter_28 : decode cX9_entersAfter 28 = .ok (.ifCond .eq 5, 3) := by decide +kernel
theorem dX9_entersAfter_31 : decode cX9_entersAfter 31 = .ok (.iconst 0, 1) := by decide +kernel
theorem dX9_entersAfter_32 : decode cX9_entersAfter 32 = .ok (.ireturn, 1) := by decide +kernel
theorem dX9_entersAfter_33 : decode cX9_entersAfter 33 = .ok (.aload_n 0, 1) := by decide +kernel
theorem dX9_entersAfter_34 : decode cX9_entersAfter 34 = .ok (.invokevirtual 173, 3) := by decide +kernel
theorem dX9_entersAfter_37 : decode cX9_entersAfter 37 = .ok (.aload_n 0, 1) := by decide +kernel
theorem dX9_entersAfter_38 : decode cX9_entersAfter 38 = .ok (.iload_n 1, 1) := by decide +kernel
theorem dX9_entersAfter_39 : decode cX9_entersAfter 39 = .ok (.iload_n 2, 1) := by decide +kernel
theorem dX9_entersAfter_40 : decode cX9_entersAfter 40 = .ok (.invokevirtual 176, 3) := by decide +kernel
theorem dX9_entersAfter_43 : decode cX9_entersAfter 43 = .ok (.istore_n 3, 1) := by decide +kernel
theorem dX9_entersAfter_44 : decode cX9_entersAfter 44 = .ok (.aload_n 0, 1) := by decide +kernel
theorem dX9_entersAfter_45 : decode cX9_entersAfter 45 = .ok (.invokevirtual 179, 3) := by decide +kernel
theorem dX9_entersAfter_48 : decode cX9_entersAfter 48 = .ok (.iload_n 3, 1) := by decide +kernel
theorem dX9_entersAfter_49 : decode cX9_entersAfter 49 = .ok (.ireturn, 1) := by decide +kernel
theorem dX9_idleAfter_0 : decode cX9_idleAfter 0 = .ok (.aload_n 0, 1) := by decide +kernel
theorem dX9_idleAfter_1 : decode cX9_idleAfter 1 = .ok (.iload_n 1, 1) := by decide +kernel
theorem dX9_idleAfter_2 : decode cX9_idleAfter 2 = .ok (.invokestatic 170, 3) := by decide +kernel
theorem dX9_idleAfter_5 : decode cX9_idleAfter 5 = .ok (.ifCond .eq 7, 3) := by decide +kernel
theorem dX9_idleAfter_8 : decode cX9_idleAfter 8 = .ok (.iconst 0, 1) := by decide +kernel
theorem dX9_idleAfter_9 : decode cX9_idleAfter 9 = .ok (.goto 4, 3) := by decide +kernel
theorem dX9_idleAfter_12 : decode cX9_idleAfter 12 = .ok (.iconst 1, 1) := by decide +kernel
theorem dX9_idleAfter_13 : decode cX9_idleAfter 13 = .ok (.invokevirtual 32, 3) := by decide +kernel
theorem dX9_idleAfter_16 : decode cX9_idleAfter 16 = .ok (.ifCond .eq 5, 3) := by decide +kernel
theorem dX9_idleAfter_19 : decode cX9_idleAfter 19 = .ok (.iconst 0, 1) := by decide +kernel
theorem dX9_idleAfter_20 : decode cX9_idleAfter 20 = .ok (.ireturn, 1) := by decide +kernel
theorem dX9_idleAfter_21 : decode cX9_idleAfter 21 = .ok (.aload_n 0, 1) := by decide +kernel
theorem dX9_idleAfter_22 : decode cX9_idleAfter 22 = .ok (.invokevirtual 173, 3) := by decide +kernel
theorem dX9_idleAfter_25 : decode cX9_idleAfter 25 = .ok (.iconst 0, 1) := by decide +kernel
theorem dX9_idleAfter_26 : decode cX9_idleAfter 26 = .ok (.istore_n 2, 1) := by decide +kernel
theorem dX9_idleAfter_27 : decode cX9_idleAfter 27 = .ok (.iload_n 2, 1) := by decide +kernel
theorem dX9_idleAfter_28 : decode cX9_idleAfter 28 = .ok (.iload_n 1, 1) := by decide +kernel
theorem dX9_idleAfter_29 : decode cX9_idleAfter 29 = .ok (.if_icmp .ge 33, 3) := by decide +kernel
theorem dX9_idleAfter_32 : decode cX9_idleAfter 32 = .ok (.aload_n 0, 1) := by decide +kernel
theorem dX9_idleAfter_33 : decode cX9_idleAfter 33 = .ok (.getfield 7, 3) := by decide +kernel
theorem dX9_idleAfter_36 : decode cX9_idleAfter 36 = .ok (.bipush 9, 2) := by decide +kernel
theorem dX9_idleAfter_38 : decode cX9_idleAfter 38 = .ok (.iaload, 1) := by decide +kernel
theorem dX9_idleAfter_39 : decode cX9_idleAfter 39 = .ok (.ifCond .gt 12, 3) := by decide +kernel
theorem dX9_idleAfter_42 : decode cX9_idleAfter 42 = .ok (.aload_n 0, 1) := by decide +kernel
theorem dX9_idleAfter_43 : decode cX9_idleAfter 43 = .ok (.getfield 7, 3) := by decide +kernel
theorem dX9_idleAfter_46 : decode cX9_idleAfter 46 = .ok (.iconst 5, 1) := by decide +kernel
theorem dX9_idleAfter_47 : decode cX9_idleAfter 47 = .ok (.iaload, 1) := by decide +kernel
theorem dX9_idleAfter_48 : decode cX9_idleAfter 48 = .ok (.ifCond .eq 14, 3) := by decide +kernel
theorem dX9_idleAfter_51 : decode cX9_idleAfter 51 = .ok (.aload_n 0, 1) := by decide +kernel
theorem dX9_idleAfter_52 : decode cX9_idleAfter 52 = .ok (.invokevirtual 149, 3) := by decide +kernel
theorem dX9_idleAfter_55 : decode cX9_idleAfter 55 = .ok (.istore_n 3, 1) := by decide +kernel
theorem dX9_idleAfter_56 : decode cX9_idleAfter 56 = .ok (.iinc 2 1, 3) := by decide +kernel
theorem dX9_idleAfter_59 : decode cX9_idleAfter 59 = .ok (.goto (-32), 3) := by decide +kernel
theorem dX9_idleAfter_62 : decode cX9_idleAfter 62 = .ok (.aload_n 0, 1) := by decide +kernel
theorem dX9_idleAfter_63 : decode cX9_idleAfter 63 = .ok (.getfield 7, 3) := by decide +kernel
theorem dX9_idleAfter_66 : decode cX9_idleAfter 66 = .ok (.bipush 9, 2) := by decide +kernel
theorem dX9_idleAfter_68 : decode cX9_idleAfter 68 = .ok (.iaload, 1) := by decide +kernel
theorem dX9_idleAfter_69 : decode cX9_idleAfter 69 = .ok (.ifCond .ne 16, 3) := by decide +kernel
theorem dX9_idleAfter_72 : decode cX9_idleAfter 72 = .ok (.aload_n 0, 1) := by decide +kernel
theorem dX9_idleAfter_73 : decode cX9_idleAfter 73 = .ok (.getfield 7, 3) := by decide +kernel
theorem dX9_idleAfter_76 : decode cX9_idleAfter 76 = .ok (.iconst 5, 1) := by decide +kernel
theorem dX9_idleAfter_77 : decode cX9_idleAfter 77 = .ok (.iaload, 1) := by decide +kernel
theorem dX9_idleAfter_78 : decode cX9_idleAfter 78 = .ok (.ifCond .ne 7, 3) := by decide +kernel
theorem dX9_idleAfter_81 : decode cX9_idleAfter 81 = .ok (.iconst 1, 1) := by decide +kernel
theorem dX9_idleAfter_82 : decode cX9_idleAfter 82 = .ok (.goto 4, 3) := by decide +kernel
theorem dX9_idleAfter_85 : decode cX9_idleAfter 85 = .ok (.iconst 0, 1) := by decide +kernel
theorem dX9_idleAfter_86 : decode cX9_idleAfter 86 = .ok (.istore_n 3, 1) := by decide +kernel
theorem dX9_idleAfter_87 : decode cX9_idleAfter 87 = .ok (.aload_n 0, 1) := by decide +kernel
theorem dX9_idleAfter_88 : decode cX9_idleAfter 88 = .ok (.invokevirtual 179, 3) := by decide +kernel
theorem dX9_idleAfter_91 : decode cX9_idleAfter 91 = .ok (.iload_n 3, 1) := by decide +kernel
theorem dX9_idleAfter_92 : decode cX9_idleAfter 92 = .ok (.ifCond .eq 7, 3) := by decide +kernel
theorem dX9_idleAfter_95 : decode cX9_idleAfter 95 = .ok (.iload_n 2, 1) := by decide +kernel
theorem dX9_idleAfter_96 : decode cX9_idleAfter 96 = .ok (.goto 4, 3) := by decide +kernel
theorem dX9_idleAfter_99 : decode cX9_idleAfter 99 = .ok (.iconst (-1), 1) := by decide +kernel
theorem dX9_idleAfter_100 : decode cX9_idleAfter 100 = .ok (.ireturn, 1) := by decide +kernel
theorem dX9_latencyIf_0 : decode cX9_latencyIf 0 = .ok (.aload_n 0, 1) := by decide +kernel
theorem dX9_latencyIf_1 : decode cX9_latencyIf 1 = .ok (.aload_n 0, 1) := by decide +kernel
theorem dX9_latencyIf_2 : decode cX9_latencyIf 2 = .ok (.iload_n 1, 1) := by decide +kernel
theorem dX9_latencyIf_3 : decode cX9_latencyIf 3 = .ok (.invokevirtual 61, 3) := by decide +kernel
theorem dX9_latencyIf_6 : decode cX9_latencyIf 6 = .ok (.ifCond .ne 7, 3) := by decide +kernel
theorem dX9_latencyIf_9 : decode cX9_latencyIf 9 = .ok (.iconst 1, 1) := by decide +kernel
theorem dX9_latencyIf_10 : decode cX9_latencyIf 10 = .ok (.goto 15, 3) := by decide +kernel
theorem dX9_latencyIf_13 : decode cX9_latencyIf 13 = .ok (.iload_n 2, 1) := by decide +kernel
theorem dX9_latencyIf_14 : decode cX9_latencyIf 14 = .ok (.invokestatic 170, 3) := by decide +kernel
theorem dX9_latencyIf_17 : decode cX9_latencyIf 17 = .ok (.ifCond .eq 7, 3) := by decide +kernel
theorem dX9_latencyIf_20 : decode cX9_latencyIf 20 = .ok (.iconst 0, 1) := by decide +kernel
theorem dX9_latencyIf_21 : decode cX9_latencyIf 21 = .ok (.goto 4, 3) := by decide +kernel
theorem dX9_latencyIf_24 : decode cX9_latencyIf 24 = .ok (.iconst 2, 1) := by decide +kernel
theorem dX9_latencyIf_25 : decode cX9_latencyIf 25 = .ok (.invokevirtual 32, 3) := by decide +kernel
theorem dX9_latencyIf_28 : decode cX9_latencyIf 28 = .ok (.ifCond .eq 5, 3) := by decide +kernel
theorem dX9_latencyIf_31 : decode cX9_latencyIf 31 = .ok (.iconst 0, 1) := by decide +kernel
theorem dX9_latencyIf_32 : decode cX9_latencyIf 32 = .ok (.ireturn, 1) := by decide +kernel
theorem dX9_latencyIf_33 : decode cX9_latencyIf 33 = .ok (.aload_n 0, 1) := by decide +kernel
theorem dX9_latencyIf_34 : decode cX9_latencyIf 34 = .ok (.invokevirtual 173, 3) := by decide +kernel
theorem dX9_latencyIf_37 : decode cX9_latencyIf 37 = .ok (.aload_n 0, 1) := by decide +kernel
theorem dX9_latencyIf_38 : decode cX9_latencyIf 38 = .ok (.iload_n 1, 1) := by decide +kernel
theorem dX9_latencyIf_39 : decode cX9_latencyIf 39 = .ok (.iconst 1, 1) := by decide +kernel
theorem dX9_latencyIf_40 : decode cX9_latencyIf 40 = .ok (.invokevirtual 44, 3) := by decide +kernel
theorem dX9_latencyIf_43 : decode cX9_latencyIf 43 = .ok (.ifCond .ne 11, 3) := by decide +kernel
theorem dX9_latencyIf_46 : decode cX9_latencyIf 46 = .ok (.aload_n 0, 1) := by decide +kernel
theorem dX9_latencyIf_47 : decode cX9_latencyIf 47 = .ok (.iload_n 1, 1) := by decide +kernel
theorem dX9_latencyIf_48 : decode cX9_latencyIf 48 = .ok (.invokevirtual 94, 3) := by decide +kernel
theorem dX9_latencyIf_51 : decode cX9_latencyIf 51 = .ok (.goto 9, 3) := by decide +kernel
theorem dX9_latencyIf_54 : decode cX9_latencyIf 54 = .ok (.aload_n 0, 1) := by decide +kernel
theorem dX9_latencyIf_55 : decode cX9_latencyIf 55 = .ok (.iload_n 1, 1) := by decide +kernel
theorem dX9_latencyIf_56 : decode cX9_latencyIf 56 = .ok (.iconst 1, 1) := by decide +kernel
theorem dX9_latencyIf_57 : decode cX9_latencyIf 57 = .ok (.invokevirtual 100, 3) := by decide +kernel
theorem dX9_latencyIf_60 : decode cX9_latencyIf 60 = .ok (.istore_n 3, 1) := by decide +kernel
theorem dX9_latencyIf_61 : decode cX9_latencyIf 61 = .ok (.aload_n 0, 1) := by decide +kernel
theorem dX9_latencyIf_62 : decode cX9_latencyIf 62 = .ok (.iload_n 1, 1) := by decide +kernel
theorem dX9_latencyIf_63 : decode cX9_latencyIf 63 = .ok (.iload_n 2, 1) := by decide +kernel
theorem dX9_latencyIf_64 : decode cX9_latencyIf 64 = .ok (.invokevirtual 176, 3) := by decide +kernel
theorem dX9_latencyIf_67 : decode cX9_latencyIf 67 = .ok (.istore 4, 2) := by decide +kernel
theorem dX9_latencyIf_69 : decode cX9_latencyIf 69 = .ok (.aload_n 0, 1) := by decide +kernel
theorem dX9_latencyIf_70 : decode cX9_latencyIf 70 = .ok (.iload_n 1, 1) := by decide +kernel
theorem dX9_latencyIf_71 : decode cX9_latencyIf 71 = .ok (.bipush 20, 2) := by decide +kernel
theorem dX9_latencyIf_73 : decode cX9_latencyIf 73 = .ok (.invokevirtual 44, 3) := by decide +kernel
theorem dX9_latencyIf_76 : decode cX9_latencyIf 76 = .ok (.istore 5, 2) := by decide +kernel
theorem dX9_latencyIf_78 : decode cX9_latencyIf 78 = .ok (.aload_n 0, 1) := by decide +kernel
theorem dX9_latencyIf_79 : decode cX9_latencyIf 79 = .ok (.invokevirtual 179, 3) := by decide +kernel
theorem dX9_latencyIf_82 : decode cX9_latencyIf 82 = .ok (.iload 4, 2) := by decide +kernel
theorem dX9_latencyIf_84 : decode cX9_latencyIf 84 = .ok (.iconst (-1), 1) := by decide +kernel
theorem dX9_latencyIf_85 : decode cX9_latencyIf 85 = .ok (.if_icmp .ne 7, 3) := by decide +kernel
theorem dX9_latencyIf_88 : decode cX9_latencyIf 88 = .ok (.iconst (-1), 1) := by decide +kernel
theorem dX9_latencyIf_89 : decode cX9_latencyIf 89 = .ok (.goto 5, 3) := by decide +kernel
theorem dX9_latencyIf_92 : decode cX9_latencyIf 92 = .ok (.iload 5, 2) := by decide +kernel
theorem dX9_latencyIf_94 : decode cX9_latencyIf 94 = .ok (.ireturn, 1) := by decide +kernel
theorem dX9_blocking_0 : decode cX9_blocking 0 = .ok (.aload_n 0, 1) := by decide +kernel
theorem dX9_blocking_1 : decode cX9_blocking 1 = .ok (.aload_n 0, 1) := by decide +kernel
theorem dX9_blocking_2 : decode cX9_blocking 2 = .ok (.iload_n 1, 1) := by decide +kernel
theorem dX9_blocking_3 : decode cX9_blocking 3 = .ok (.invokevirtual 61, 3) := by decide +kernel
theorem dX9_blocking_6 : decode cX9_blocking 6 = .ok (.ifCond .eq 7, 3) := by decide +kernel
theorem dX9_blocking_9 : decode cX9_blocking 9 = .ok (.iconst 0, 1) := by decide +kernel
theorem dX9_blocking_10 : decode cX9_blocking 10 = .ok (.goto 4, 3) := by decide +kernel
theorem dX9_blocking_13 : decode cX9_blocking 13 = .ok (.iconst 1, 1) := by decide +kernel
theorem dX9_blocking_14 : decode cX9_blocking 14 = .ok (.invokevirtual 32, 3) := by decide +kernel
theorem dX9_blocking_17 : decode cX9_blocking 17 = .ok (.ifCond .eq 5, 3) := by decide +kernel
theorem dX9_blocking_20 : decode cX9_blocking 20 = .ok (.iconst 0, 1) := by decide +kernel
theorem dX9_blocking_21 : decode cX9_blocking 21 = .ok (.ireturn, 1) := by decide +kernel
theorem dX9_blocking_22 : decode cX9_blocking 22 = .ok (.iconst 0, 1) := by decide +kernel
theorem dX9_blocking_23 : decode cX9_blocking 23 = .ok (.istore_n 2, 1) := by decide +kernel
theorem dX9_blocking_24 : decode cX9_blocking 24 = .ok (.iconst 0, 1) := by decide +kernel
theorem dX9_blocking_25 : decode cX9_blocking 25 = .ok (.istore_n 3, 1) := by decide +kernel
theorem dX9_blocking_26 : decode cX9_blocking 26 = .ok (.iload_n 3, 1) := by decide +kernel
theorem dX9_blocking_27 : decode cX9_blocking 27 = .ok (.aload_n 0, 1) := by decide +kernel
theorem dX9_blocking_28 : decode cX9_blocking 28 = .ok (.getfield 7, 3) := by decide +kernel
theorem dX9_blocking_31 : decode cX9_blocking 31 = .ok (.bipush 8, 2) := by decide +kernel
theorem dX9_blocking_33 : decode cX9_blocking 33 = .ok (.iaload, 1) := by decide +kernel
theorem dX9_blocking_34 : decode cX9_blocking 34 = .ok (.if_icmp .ge 151, 3) := by decide +kernel
theorem dX9_blocking_37 : decode cX9_blocking 37 = .ok (.iconst 0, 1) := by decide +kernel
theorem dX9_blocking_38 : decode cX9_blocking 38 = .ok (.istore 4, 2) := by decide +kernel
theorem dX9_blocking_40 : decode cX9_blocking 40 = .ok (.iload 4, 2) := by decide +kernel
theorem dX9_blocking_42 : decode cX9_blocking 42 = .ok (.aload_n 0, 1) := by decide +kernel
theorem dX9_blocking_43 : decode cX9_blocking 43 = .ok (.iload_n 3, 1) := by decide +kernel
theorem dX9_blocking_44 : decode cX9_blocking 44 = .ok (.bipush 7, 2) := by decide +kernel
theorem dX9_blocking_46 : decode cX9_blocking 46 = .ok (.invokevirtual 44, 3) := by decide +kernel
theorem dX9_blocking_49 : decode cX9_blocking 49 = .ok (.if_icmp .ge 130, 3) := by decide +kernel
theorem dX9_blocking_52 : decode cX9_blocking 52 = .ok (.aload_n 0, 1) := by decide +kernel
theorem dX9_blocking_53 : decode cX9_blocking 53 = .ok (.iload_n 3, 1) := by decide +kernel
theorem dX9_blocking_54 : decode cX9_blocking 54 = .ok (.bipush 8, 2) := by decide +kernel
theorem dX9_blocking_56 : decode cX9_blocking 56 = .ok (.iconst 3, 1) := by decide +kernel
theorem dX9_blocking_57 : decode cX9_blocking 57 = .ok (.iload 4, 2) := by decide +kernel
theorem dX9_blocking_59 : decode cX9_blocking 59 = .ok (.imul, 1) := by decide +kernel
theorem dX9_blocking_60 : decode cX9_blocking 60 = .ok (.iadd, 1) := by decide +kernel
theorem dX9_blocking_61 : decode cX9_blocking 61 = .ok (.invokevirtual 44, 3) := by decide +kernel
theorem dX9_blocking_64 : decode cX9_blocking 64 = .ok (.istore 5, 2) := by decide +kernel
theorem dX9_blocking_66 : decode cX9_blocking 66 = .ok (.iload 5, 2) := by decide +kernel
theorem dX9_blocking_68 : decode cX9_blocking 68 = .ok (.aload_n 0, 1) := by decide +kernel
theorem dX9_blocking_69 : decode cX9_blocking 69 = .ok (.iload_n 3, 1) := by decide +kernel
theorem dX9_blocking_70 : decode cX9_blocking 70 = .ok (.bipush 8, 2) := by decide +kernel
theorem dX9_blocking_72 : decode cX9_blocking 72 = .ok (.iconst 3, 1) := by decide +kernel
theorem dX9_blocking_73 : decode cX9_blocking 73 = .ok (.iload 4, 2) := by decide +kernel
theorem dX9_blocking_75 : decode cX9_blocking 75 = .ok (.imul, 1) := by decide +kernel
theorem dX9_blocking_76 : decode cX9_blocking 76 = .ok (.iadd, 1) := by decide +kernel
theorem dX9_blocking_77 : decode cX9_blocking 77 = .ok (.iconst 1, 1) := by decide +kernel
theorem dX9_blocking_78 : decode cX9_blocking 78 = .ok (.iadd, 1) := by decide +kernel
theorem dX9_blocking_79 : decode cX9_blocking 79 = .ok (.invokevirtual 44, 3) := by decide +kernel
theorem dX9_blocking_82 : decode cX9_blocking 82 = .ok (.iadd, 1) := by decide +kernel
theorem dX9_blocking_83 : decode cX9_blocking 83 = .ok (.istore 6, 2) := by decide +kernel
theorem dX9_blocking_85 : decode cX9_blocking 85 = .ok (.iload 6, 2) := by decide +kernel
theorem dX9_blocking_87 : decode cX9_blocking 87 = .ok (.aload_n 0, 1) := by decide +kernel
theorem dX9_blocking_88 : decode cX9_blocking 88 = .ok (.iload_n 3, 1) := by decide +kernel
theorem dX9_blocking_89 : decode cX9_blocking 89 = .ok (.iconst 2, 1) := by decide +kernel
theorem dX9_blocking_90 : decode cX9_blocking 90 = .ok (.invokevirtual 44, 3) := by decide +kernel
theorem dX9_blocking_93 : decode cX9_blocking 93 = .ok (.if_icmp .ge 8, 3) := by decide +kernel
theorem dX9_blocking_96 : decode cX9_blocking 96 = .ok (.iload 6, 2) := by decide +kernel
theorem dX9_blocking_98 : decode cX9_blocking 98 = .ok (.goto 9, 3) := by decide +kernel
theorem dX9_blocking_101 : decode cX9_blocking 101 = .ok (.aload_n 0, 1) := by decide +kernel
theorem dX9_blocking_102 : decode cX9_blocking 102 = .ok (.iload_n 3, 1) := by decide +kernel
theorem dX9_blocking_103 : decode cX9_blocking 103 = .ok (.iconst 2, 1) := by decide +kernel
theorem dX9_blocking_104 : decode cX9_blocking 104 = .ok (.invokevirtual 44, 3) := by decide +kernel
theorem dX9_blocking_107 : decode cX9_blocking 107 = .ok (.istore 6, 2) := by decide +kernel
theorem dX9_blocking_109 : decode cX9_blocking 109 = .ok (.aload_n 0, 1) := by decide +kernel
theorem dX9_blocking_110 : decode cX9_blocking 110 = .ok (.iload_n 3, 1) := by decide +kernel
theorem dX9_blocking_111 : decode cX9_blocking 111 = .ok (.iconst 0, 1) := by decide +kernel
theorem dX9_blocking_112 : decode cX9_blocking 112 = .ok (.invokevirtual 44, 3) := by decide +kernel
theorem dX9_blocking_115 : decode cX9_blocking 115 = .ok (.aload_n 0, 1) := by decide +kernel
theorem dX9_blocking_116 : decode cX9_blocking 116 = .ok (.iload_n 1, 1) := by decide +kernel
theorem dX9_blocking_117 : decode cX9_blocking 117 = .ok (.iconst 0, 1) := by decide +kernel
theorem dX9_blocking_118 : decode cX9_blocking 118 = .ok (.invokevirtual 44, 3) := by decide +kernel
theorem dX9_blocking_121 : decode cX9_blocking 121 = .ok (.if_icmp .ge 30, 3) := by decide +kernel
theorem dX9_blocking_124 : decode cX9_blocking 124 = .ok (.aload_n 0, 1) := by decide +kernel
theorem dX9_blocking_125 : decode cX9_blocking 125 = .ok (.iload_n 3, 1) := by decide +kernel
theorem dX9_blocking_126 : decode cX9_blocking 126 = .ok (.bipush 8, 2) := by decide +kernel
theorem dX9_blocking_128 : decode cX9_blocking 128 = .ok (.iconst 3, 1) := by decide +kernel
theorem dX9_blocking_129 : decode cX9_blocking 129 = .ok (.iload 4, 2) := by decide +kernel
theorem dX9_blocking_131 : decode cX9_blocking 131 = .ok (.imul, 1) := by decide +kernel
theorem dX9_blocking_132 : decode cX9_blocking 132 = .ok (.iadd, 1) := by decide +kernel
theorem dX9_blocking_133 : decode cX9_blocking 133 = .ok (.iconst 2, 1) := by decide +kernel
theorem dX9_blocking_134 : decode cX9_blocking 134 = .ok (.iadd, 1) := by decide +kernel
theorem dX9_blocking_135 : decode cX9_blocking 135 = .ok (.invokevirtual 44, 3) := by decide +kernel
theorem dX9_blocking_138 : decode cX9_blocking 138 = .ok (.aload_n 0, 1) := by decide +kernel
theorem dX9_blocking_139 : decode cX9_blocking 139 = .ok (.iload_n 1, 1) := by decide +kernel
theorem dX9_blocking_140 : decode cX9_blocking 140 = .ok (.iconst 0, 1) := by decide +kernel
theorem dX9_blocking_141 : decode cX9_blocking 141 = .ok (.invokevirtual 44, 3) := by decide +kernel
theorem dX9_blocking_144 : decode cX9_blocking 144 = .ok (.if_icmp .lt 7, 3) := by decide +kernel
theorem dX9_blocking_147 : decode cX9_blocking 147 = .ok (.iconst 1, 1) := by decide +kernel
theorem dX9_blocking_148 : decode cX9_blocking 148 = .ok (.goto 4, 3) := by decide +kernel
theorem dX9_blocking_151 : decode cX9_blocking 151 = .ok (.iconst 0, 1) := by decide +kernel
theorem dX9_blocking_152 : decode cX9_blocking 152 = .ok (.istore 7, 2) := by decide +kernel
theorem dX9_blocking_154 : decode cX9_blocking 154 = .ok (.iload 7, 2) := by decide +kernel
theorem dX9_blocking_156 : decode cX9_blocking 156 = .ok (.ifCond .eq 15, 3) := by decide +kernel
theorem dX9_blocking_159 : decode cX9_blocking 159 = .ok (.iload_n 2, 1) := by decide +kernel
theorem dX9_blocking_160 : decode cX9_blocking 160 = .ok (.iload 6, 2) := by decide +kernel
theorem dX9_blocking_162 : decode cX9_blocking 162 = .ok (.iload 5, 2) := by decide +kernel
theorem dX9_blocking_164 : decode cX9_blocking 164 = .ok (.isub, 1) := by decide +kernel
theorem dX9_blocking_165 : decode cX9_blocking 165 = .ok (.invokestatic 120, 3) := by decide +kernel
theorem dX9_blocking_168 : decode cX9_blocking 168 = .ok (.goto 4, 3) := by decide +kernel
theorem dX9_blocking_171 : decode cX9_blocking 171 = .ok (.iload_n 2, 1) := by decide +kernel
theorem dX9_blocking_172 : decode cX9_blocking 172 = .ok (.istore_n 2, 1) := by decide +kernel
theorem dX9_blocking_173 : decode cX9_blocking 173 = .ok (.iinc 4 1, 3) := by decide +kernel
theorem dX9_blocking_176 : decode cX9_blocking 176 = .ok (.goto (-136), 3) := by decide +kernel
theorem dX9_blocking_179 : decode cX9_blocking 179 = .ok (.iinc 3 1, 3) := by decide +kernel
theorem dX9_blocking_182 : decode cX9_blocking 182 = .ok (.goto (-156), 3) := by decide +kernel
theorem dX9_blocking_185 : decode cX9_blocking 185 = .ok (.iload_n 2, 1) := by decide +kernel
theorem dX9_blocking_186 : decode cX9_blocking 186 = .ok (.ireturn, 1) := by decide +kernel
theorem dX9_type_0 : decode cX9_type 0 = .ok (.aload_n 0, 1) := by decide +kernel
theorem dX9_type_1 : decode cX9_type 1 = .ok (.iload_n 1, 1) := by decide +kernel
theorem dX9_type_2 : decode cX9_type 2 = .ok (.iconst 0, 1) := by decide +kernel
theorem dX9_type_3 : decode cX9_type 3 = .ok (.bipush 127, 2) := by decide +kernel
theorem dX9_type_5 : decode cX9_type 5 = .ok (.invokestatic 36, 3) := by decide +kernel
theorem dX9_type_8 : decode cX9_type 8 = .ok (.ifCond .ne 7, 3) := by decide +kernel
theorem dX9_type_11 : decode cX9_type 11 = .ok (.iconst 1, 1) := by decide +kernel
theorem dX9_type_12 : decode cX9_type 12 = .ok (.goto 18, 3) := by decide +kernel
theorem dX9_type_15 : decode cX9_type 15 = .ok (.aload_n 0, 1) := by decide +kernel
theorem dX9_type_16 : decode cX9_type 16 = .ok (.getfield 182, 3) := by decide +kernel
theorem dX9_type_19 : decode cX9_type 19 = .ok (.sipush 150, 3) := by decide +kernel
theorem dX9_type_22 : decode cX9_type 22 = .ok (.if_icmp .ne 7, 3) := by decide +kernel
theorem dX9_type_25 : decode cX9_type 25 = .ok (.iconst 2, 1) := by decide +kernel
theorem dX9_type_26 : decode cX9_type 26 = .ok (.goto 4, 3) := by decide +kernel
theorem dX9_type_29 : decode cX9_type 29 = .ok (.iconst 0, 1) := by decide +kernel
theorem dX9_type_30 : decode cX9_type 30 = .ok (.invokevirtual 32, 3) := by decide +kernel
theorem dX9_type_33 : decode cX9_type 33 = .ok (.ifCond .eq 5, 3) := by decide +kernel
theorem dX9_type_36 : decode cX9_type 36 = .ok (.iconst 0, 1) := by decide +kernel
theorem dX9_type_37 : decode cX9_type 37 = .ok (.ireturn, 1) := by decide +kernel
theorem dX9_type_38 : decode cX9_type 38 = .ok (.aload_n 0, 1) := by decide +kernel
theorem dX9_type_39 : decode cX9_type 39 = .ok (.getfield 19, 3) := by decide +kernel
theorem dX9_type_42 : decode cX9_type 42 = .ok (.aload_n 0, 1) := by decide +kernel
theorem dX9_type_43 : decode cX9_type 43 = .ok (.getfield 182, 3) := by decide +kernel
theorem dX9_type_46 : decode cX9_type 46 = .ok (.iload_n 1, 1) := by decide +kernel
theorem dX9_type_47 : decode cX9_type 47 = .ok (.iastore, 1) := by decide +kernel
theorem dX9_type_48 : decode cX9_type 48 = .ok (.aload_n 0, 1) := by decide +kernel
theorem dX9_type_49 : decode cX9_type 49 = .ok (.dup, 1) := by decide +kernel
theorem dX9_type_50 : decode cX9_type 50 = .ok (.getfield 182, 3) := by decide +kernel
theorem dX9_type_53 : decode cX9_type 53 = .ok (.iconst 1, 1) := by decide +kernel
theorem dX9_type_54 : decode cX9_type 54 = .ok (.iadd, 1) := by decide +kernel
theorem dX9_type_55 : decode cX9_type 55 = .ok (.putfield 182, 3) := by decide +kernel
theorem dX9_type_58 : decode cX9_type 58 = .ok (.aload_n 0, 1) := by decide +kernel
theorem dX9_type_59 : decode cX9_type 59 = .ok (.getfield 182, 3) := by decide +kernel
theorem dX9_type_62 : decode cX9_type 62 = .ok (.ireturn, 1) := by decide +kernel
theorem dX9_clearCommands_0 : decode cX9_clearCommands 0 = .ok (.aload_n 0, 1) := by decide +kernel
theorem dX9_clearCommands_1 : decode cX9_clearCommands 1 = .ok (.iconst 0, 1) := by decide +kernel
theorem dX9_clearCommands_2 : decode cX9_clearCommands 2 = .ok (.putfield 25, 3) := by decide +kernel
theorem dX9_clearCommands_5 : decode cX9_clearCommands 5 = .ok (.aload_n 0, 1) := by decide +kernel
theorem dX9_clearCommands_6 : decode cX9_clearCommands 6 = .ok (.getfield 182, 3) := by decide +kernel
theorem dX9_clearCommands_9 : decode cX9_clearCommands 9 = .ok (.istore_n 1, 1) := by decide +kernel
theorem dX9_clearCommands_10 : decode cX9_clearCommands 10 = .ok (.aload_n 0, 1) := by decide +kernel
theorem dX9_clearCommands_11 : decode cX9_clearCommands 11 = .ok (.iconst 0, 1) := by decide +kernel
theorem dX9_clearCommands_12 : decode cX9_clearCommands 12 = .ok (.putfield 182, 3) := by decide +kernel
theorem dX9_clearCommands_15 : decode cX9_clearCommands 15 = .ok (.iload_n 1, 1) := by decide +kernel
theorem dX9_clearCommands_16 : decode cX9_clearCommands 16 = .ok (.ireturn, 1) := by decide +kernel
theorem dX9_isAt_0 : decode cX9_isAt 0 = .ok (.aload_n 0, 1) := by decide +kernel
theorem dX9_isAt_1 : decode cX9_isAt 1 = .ok (.getfield 185, 3) := by decide +kernel
theorem dX9_isAt_4 : decode cX9_isAt 4 = .ok (.aload_n 0, 1) := by decide +kernel
theorem dX9_isAt_5 : decode cX9_isAt 5 = .ok (.getfield 182, 3) := by decide +kernel
theorem dX9_isAt_8 : decode cX9_isAt 8 = .ok (.if_icmp .ge 24, 3) := by decide +kernel
theorem dX9_isAt_11 : decode cX9_isAt 11 = .ok (.aload_n 0, 1) := by decide +kernel
theorem dX9_isAt_12 : decode cX9_isAt 12 = .ok (.getfield 19, 3) := by decide +kernel
theorem dX9_isAt_15 : decode cX9_isAt 15 = .ok (.aload_n 0, 1) := by decide +kernel
theorem dX9_isAt_16 : decode cX9_isAt 16 = .ok (.getfield 185, 3) := by decide +kernel
theorem dX9_isAt_19 : decode cX9_isAt 19 = .ok (.iaload, 1) := by decide +kernel
theorem dX9_isAt_20 : decode cX9_isAt 20 = .ok (.iload_n 1, 1) := by decide +kernel
theorem dX9_isAt_21 : decode cX9_isAt 21 = .ok (.iload_n 2, 1) := by decide +kernel
theorem dX9_isAt_22 : decode cX9_isAt 22 = .ok (.invokestatic 36, 3) := by decide +kernel
theorem dX9_isAt_25 : decode cX9_isAt 25 = .ok (.ifCond .eq 7, 3) := by decide +kernel
theorem dX9_isAt_28 : decode cX9_isAt 28 = .ok (.iconst 1, 1) := by decide +kernel
theorem dX9_isAt_29 : decode cX9_isAt 29 = .ok (.goto 4, 3) := by decide +kernel
theorem dX9_isAt_32 : decode cX9_isAt 32 = .ok (.iconst 0, 1) := by decide +kernel
theorem dX9_isAt_33 : decode cX9_isAt 33 = .ok (.ireturn, 1) := by decide +kernel
theorem dX9_skips_0 : decode cX9_skips 0 = .ok (.aload_n 0, 1) := by decide +kernel
theorem dX9_skips_1 : decode cX9_skips 1 = .ok (.bipush 32, 2) := by decide +kernel
theorem dX9_skips_3 : decode cX9_skips 3 = .ok (.bipush 32, 2) := by decide +kernel
theorem dX9_skips_5 : decode cX9_skips 5 = .ok (.invokevirtual 188, 3) := by decide +kernel
theorem dX9_skips_8 : decode cX9_skips 8 = .ok (.istore_n 1, 1) := by decide +kernel
theorem dX9_skips_9 : decode cX9_skips 9 = .ok (.aload_n 0, 1) := by decide +kernel
theorem dX9_skips_10 : decode cX9_skips 10 = .ok (.bipush 32, 2) := by decide +kernel
theorem dX9_skips_12 : decode cX9_skips 12 = .ok (.bipush 32, 2) := by decide +kernel
theorem dX9_skips_14 : decode cX9_skips 14 = .ok (.invokevirtual 188, 3) := by decide +kernel
theorem dX9_skips_17 : decode cX9_skips 17 = .ok (.ifCond .eq 16, 3) := by decide +kernel
theorem dX9_skips_20 : decode cX9_skips 20 = .ok (.aload_n 0, 1) := by decide +kernel
theorem dX9_skips_21 : decode cX9_skips 21 = .ok (.dup, 1) := by decide +kernel
theorem dX9_skips_22 : decode cX9_skips 22 = .ok (.getfield 185, 3) := by decide +kernel
theorem dX9_skips_25 : decode cX9_skips 25 = .ok (.iconst 1, 1) := by decide +kernel
theorem dX9_skips_26 : decode cX9_skips 26 = .ok (.iadd, 1) := by decide +kernel
theorem dX9_skips_27 : decode cX9_skips 27 = .ok (.putfield 185, 3) := by decide +kernel
theorem dX9_skips_30 : decode cX9_skips 30 = .ok (.goto (-21), 3) := by decide +kernel
theorem dX9_skips_33 : decode cX9_skips 33 = .ok (.iload_n 1, 1) := by decide +kernel
theorem dX9_skips_34 : decode cX9_skips 34 = .ok (.ireturn, 1) := by decide +kernel
theorem dX9_letters_0 : decode cX9_letters 0 = .ok (.iload_n 0, 1) := by decide +kernel
theorem dX9_letters_1 : decode cX9_letters 1 = .ok (.tableswitch 79 0 7 #[47, 51, 55, 59, 63, 67, 71, 75], 47) := by decide +kernel
theorem dX9_letters_48 : decode cX9_letters 48 = .ok (.ldc2_w 191, 3) := by decide +kernel
theorem dX9_letters_51 : decode cX9_letters 51 = .ok (.lreturn, 1) := by decide +kernel
theorem dX9_letters_52 : decode cX9_letters 52 = .ok (.ldc2_w 193, 3) := by decide +kernel
theorem dX9_letters_55 : decode cX9_letters 55 = .ok (.lreturn, 1) := by decide +kernel
theorem dX9_letters_56 : decode cX9_letters 56 = .ok (.ldc2_w 195, 3) := by decide +kernel
theorem dX9_letters_59 : decode cX9_letters 59 = .ok (.lreturn, 1) := by decide +kernel
theorem dX9_letters_60 : decode cX9_letters 60 = .ok (.ldc2_w 197, 3) := by decide +kernel
theorem dX9_letters_63 : decode cX9_letters 63 = .ok (.lreturn, 1) := by decide +kernel
theorem dX9_letters_64 : decode cX9_letters 64 = .ok (.ldc2_w 199, 3) := by decide +kernel
theorem dX9_letters_67 : decode cX9_letters 67 = .ok (.lreturn, 1) := by decide +kernel
theorem dX9_letters_68 : decode cX9_letters 68 = .ok (.ldc2_w 201, 3) := by decide +kernel
theorem dX9_letters_71 : decode cX9_letters 71 = .ok (.lreturn, 1) := by decide +kernel
theorem dX9_letters_72 : decode cX9_letters 72 = .ok (.ldc2_w 203, 3) := by decide +kernel
theorem dX9_letters_75 : decode cX9_letters 75 = .ok (.lreturn, 1) := by decide +kernel
theorem dX9_letters_76 : decode cX9_letters 76 = .ok (.ldc2_w 205, 3) := by decide +kernel
theorem dX9_letters_79 : decode cX9_letters 79 = .ok (.lreturn, 1) := by decide +kernel
theorem dX9_letters_80 : decode cX9_letters 80 = .ok (.ldc2_w 207, 3) := by decide +kernel
theorem dX9_letters_83 : decode cX9_letters 83 = .ok (.lreturn, 1) := by decide +kernel
theorem dX9_numbersOf_0 : decode cX9_numbersOf 0 = .ok (.iload_n 0, 1) := by decide +kernel
theorem dX9_numbersOf_1 : decode cX9_numbersOf 1 = .ok (.iconst 2, 1) := by decide +kernel
theorem dX9_numbersOf_2 : decode cX9_numbersOf 2 = .ok (.if_icmp .ne 7, 3) := by decide +kernel
theorem dX9_numbersOf_5 : decode cX9_numbersOf 5 = .ok (.iconst 4, 1) := by decide +kernel
theorem dX9_numbersOf_6 : decode cX9_numbersOf 6 = .ok (.goto 28, 3) := by decide +kernel
theorem dX9_numbersOf_9 : decode cX9_numbersOf 9 = .ok (.iload_n 0, 1) := by decide +kernel
theorem dX9_numbersOf_10 : decode cX9_numbersOf 10 = .ok (.iconst 3, 1) := by decide +kernel
theorem dX9_numbersOf_11 : decode cX9_numbersOf 11 = .ok (.if_icmp .ne 7, 3) := by decide +kernel
theorem dX9_numbersOf_14 : decode cX9_numbersOf 14 = .ok (.iconst 3, 1) := by decide +kernel
theorem dX9_numbersOf_15 : decode cX9_numbersOf 15 = .ok (.goto 19, 3) := by decide +kernel
theorem dX9_numbersOf_18 : decode cX9_numbersOf 18 = .ok (.iload_n 0, 1) := by decide +kernel
theorem dX9_numbersOf_19 : decode cX9_numbersOf 19 = .ok (.iconst 2, 1) := by decide +kernel
theorem dX9_numbersOf_20 : decode cX9_numbersOf 20 = .ok (.if_icmp .lt 9, 3) := by decide +kernel
theorem dX9_numbersOf_23 : decode cX9_numbersOf 23 = .ok (.iload_n 0, 1) := by decide +kernel
theorem dX9_numbersOf_24 : decode cX9_numbersOf 24 = .ok (.bipush 7, 2) := by decide +kernel
theorem dX9_numbersOf_26 : decode cX9_numbersOf 26 = .ok (.if_icmp .ne 7, 3) := by decide +kernel
theorem dX9_numbersOf_29 : decode cX9_numbersOf 29 = .ok (.iconst 2, 1) := by decide +kernel
theorem dX9_numbersOf_30 : decode cX9_numbersOf 30 = .ok (.goto 4, 3) := by decide +kernel
theorem dX9_numbersOf_33 : decode cX9_numbersOf 33 = .ok (.iconst 1, 1) := by decide +kernel
theorem dX9_numbersOf_34 : decode cX9_numbersOf 34 = .ok (.ireturn, 1) := by decide +kernel
theorem dX9_readsWord_0 : decode cX9_readsWord 0 = .ok (.lconst 0, 1) := by decide +kernel
theorem dX9_readsWord_1 : decode cX9_readsWord 1 = .ok (.lstore_n 1, 1) := by decide +kernel
theorem dX9_readsWord_2 : decode cX9_readsWord 2 = .ok (.iconst 0, 1) := by decide +kernel
theorem dX9_readsWord_3 : decode cX9_readsWord 3 = .ok (.istore_n 3, 1) := by decide +kernel
theorem dX9_readsWord_4 : decode cX9_readsWord 4 = .ok (.aload_n 0, 1) := by decide +kernel
theorem dX9_readsWord_5 : decode cX9_readsWord 5 = .ok (.bipush 97, 2) := by decide +kernel
theorem dX9_readsWord_7 : decode cX9_readsWord 7 = .ok (.bipush 122, 2) := by decide +kernel
theorem dX9_readsWord_9 : decode cX9_readsWord 9 = .ok (.invokevirtual 188, 3) := by decide +kernel
theorem dX9_readsWord_12 : decode cX9_readsWord 12 = .ok (.ifCond .eq 45, 3) := by decide +kernel
theorem dX9_readsWord_15 : decode cX9_readsWord 15 = .ok (.iload_n 3, 1) := by decide +kernel
theorem dX9_readsWord_16 : decode cX9_readsWord 16 = .ok (.bipush 8, 2) := by decide +kernel
theorem dX9_readsWord_18 : decode cX9_readsWord 18 = .ok (.if_icmp .ge 21, 3) := by decide +kernel
theorem dX9_readsWord_21 : decode cX9_readsWord 21 = .ok (.lload_n 1, 1) := by decide +kernel
theorem dX9_readsWord_22 : decode cX9_readsWord 22 = .ok (.bipush 8, 2) := by decide +kernel
theorem dX9_readsWord_24 : decode cX9_readsWord 24 = .ok (.lshl, 1) := by decide +kernel
theorem dX9_readsWord_25 : decode cX9_readsWord 25 = .ok (.aload_n 0, 1) := by decide +kernel
theorem dX9_readsWord_26 : decode cX9_readsWord 26 = .ok (.getfield 19, 3) := by decide +kernel
theorem dX9_readsWord_29 : decode cX9_readsWord 29 = .ok (.aload_n 0, 1) := by decide +kernel
theorem dX9_readsWord_30 : decode cX9_readsWord 30 = .ok (.getfield 185, 3) := by decide +kernel
theorem dX9_readsWord_33 : decode cX9_readsWord 33 = .ok (.iaload, 1) := by decide +kernel
theorem dX9_readsWord_34 : decode cX9_readsWord 34 = .ok (.i2l, 1) := by decide +kernel
theorem dX9_readsWord_35 : decode cX9_readsWord 35 = .ok (.lor, 1) := by decide +kernel
theorem dX9_readsWord_36 : decode cX9_readsWord 36 = .ok (.goto 4, 3) := by decide +kernel
theorem dX9_readsWord_39 : decode cX9_readsWord 39 = .ok (.lconst 0, 1) := by decide +kernel
theorem dX9_readsWord_40 : decode cX9_readsWord 40 = .ok (.lstore_n 1, 1) := by decide +kernel
theorem dX9_readsWord_41 : decode cX9_readsWord 41 = .ok (.iinc 3 1, 3) := by decide +kernel
theorem dX9_readsWord_44 : decode cX9_readsWord 44 = .ok (.aload_n 0, 1) := by decide +kernel
theorem dX9_readsWord_45 : decode cX9_readsWord 45 = .ok (.dup, 1) := by decide +kernel
theorem dX9_readsWord_46 : decode cX9_readsWord 46 = .ok (.getfield 185, 3) := by decide +kernel
theorem dX9_readsWord_49 : decode cX9_readsWord 49 = .ok (.iconst 1, 1) := by decide +kernel
theorem dX9_readsWord_50 : decode cX9_readsWord 50 = .ok (.iadd, 1) := by decide +kernel
theorem dX9_readsWord_51 : decode cX9_readsWord 51 = .ok (.putfield 185, 3) := by decide +kernel
theorem dX9_readsWord_54 : decode cX9_readsWord 54 = .ok (.goto (-50), 3) := by decide +kernel
theorem dX9_readsWord_57 : decode cX9_readsWord 57 = .ok (.iconst 0, 1) := by decide +kernel
theorem dX9_readsWord_58 : decode cX9_readsWord 58 = .ok (.istore 4, 2) := by decide +kernel
theorem dX9_readsWord_60 : decode cX9_readsWord 60 = .ok (.iload 4, 2) := by decide +kernel
theorem dX9_readsWord_62 : decode cX9_readsWord 62 = .ok (.bipush 9, 2) := by decide +kernel
theorem dX9_readsWord_64 : decode cX9_readsWord 64 = .ok (.if_icmp .ge 28, 3) := by decide +kernel
theorem dX9_readsWord_67 : decode cX9_readsWord 67 = .ok (.iload_n 3, 1) := by decide +kernel
theorem dX9_readsWord_68 : decode cX9_readsWord 68 = .ok (.bipush 8, 2) := by decide +kernel
theorem dX9_readsWord_70 : decode cX9_readsWord 70 = .ok (.if_icmp .ge 22, 3) := by decide +kernel
theorem dX9_readsWord_73 : decode cX9_readsWord 73 = .ok (.iload 4, 2) := by decide +kernel
theorem dX9_readsWord_75 : decode cX9_readsWord 75 = .ok (.invokestatic 209, 3) := by decide +kernel
theorem dX9_readsWord_78 : decode cX9_readsWord 78 = .ok (.lload_n 1, 1) := by decide +kernel
theorem dX9_readsWord_79 : decode cX9_readsWord 79 = .ok (.lcmp, 1) := by decide +kernel
theorem dX9_readsWord_80 : decode cX9_readsWord 80 = .ok (.ifCond .ne 6, 3) := by decide +kernel
theorem dX9_readsWord_83 : decode cX9_readsWord 83 = .ok (.iload 4, 2) := by decide +kernel
theorem dX9_readsWord_85 : decode cX9_readsWord 85 = .ok (.ireturn, 1) := by decide +kernel
theorem dX9_readsWord_86 : decode cX9_readsWord 86 = .ok (.iinc 4 1, 3) := by decide +kernel
theorem dX9_readsWord_89 : decode cX9_readsWord 89 = .ok (.goto (-29), 3) := by decide +kernel
theorem dX9_readsWord_92 : decode cX9_readsWord 92 = .ok (.iconst (-1), 1) := by decide +kernel
theorem dX9_readsWord_93 : decode cX9_readsWord 93 = .ok (.ireturn, 1) := by decide +kernel
theorem dX9_readsNumber_0 : decode cX9_readsNumber 0 = .ok (.aload_n 0, 1) := by decide +kernel
theorem dX9_readsNumber_1 : decode cX9_readsNumber 1 = .ok (.invokevirtual 213, 3) := by decide +kernel
theorem dX9_readsNumber_4 : decode cX9_readsNumber 4 = .ok (.ifCond .eq 14, 3) := by decide +kernel
theorem dX9_readsNumber_7 : decode cX9_readsNumber 7 = .ok (.aload_n 0, 1) := by decide +kernel
theorem dX9_readsNumber_8 : decode cX9_readsNumber 8 = .ok (.bipush 48, 2) := by decide +kernel
theorem dX9_readsNumber_10 : decode cX9_readsNumber 10 = .ok (.bipush 57, 2) := by decide +kernel
theorem dX9_readsNumber_12 : decode cX9_readsNumber 12 = .ok (.invokevirtual 188, 3) := by decide +kernel
theorem dX9_readsNumber_15 : decode cX9_readsNumber 15 = .ok (.ifCond .ne 5, 3) := by decide +kernel
theorem dX9_readsNumber_18 : decode cX9_readsNumber 18 = .ok (.iconst 0, 1) := by decide +kernel
theorem dX9_readsNumber_19 : decode cX9_readsNumber 19 = .ok (.ireturn, 1) := by decide +kernel
theorem dX9_readsNumber_20 : decode cX9_readsNumber 20 = .ok (.aload_n 0, 1) := by decide +kernel
theorem dX9_readsNumber_21 : decode cX9_readsNumber 21 = .ok (.getfield 185, 3) := by decide +kernel
theorem dX9_readsNumber_24 : decode cX9_readsNumber 24 = .ok (.istore_n 2, 1) := by decide +kernel
theorem dX9_readsNumber_25 : decode cX9_readsNumber 25 = .ok (.aload_n 0, 1) := by decide +kernel
theorem dX9_readsNumber_26 : decode cX9_readsNumber 26 = .ok (.getfield 22, 3) := by decide +kernel
theorem dX9_readsNumber_29 : decode cX9_readsNumber 29 = .ok (.iload_n 1, 1) := by decide +kernel
theorem dX9_readsNumber_30 : decode cX9_readsNumber 30 = .ok (.iconst 0, 1) := by decide +kernel
theorem dX9_readsNumber_31 : decode cX9_readsNumber 31 = .ok (.iastore, 1) := by decide +kernel
theorem dX9_readsNumber_32 : decode cX9_readsNumber 32 = .ok (.aload_n 0, 1) := by decide +kernel
theorem dX9_readsNumber_33 : decode cX9_readsNumber 33 = .ok (.bipush 48, 2) := by decide +kernel
theorem dX9_readsNumber_35 : decode cX9_readsNumber 35 = .ok (.bipush 57, 2) := by decide +kernel
theorem dX9_readsNumber_37 : decode cX9_readsNumber 37 = .ok (.invokevirtual 188, 3) := by decide +kernel
theorem dX9_readsNumber_40 : decode cX9_readsNumber 40 = .ok (.ifCond .eq 54, 3) := by decide +kernel
theorem dX9_readsNumber_43 : decode cX9_readsNumber 43 = .ok (.aload_n 0, 1) := by decide +kernel
theorem dX9_readsNumber_44 : decode cX9_readsNumber 44 = .ok (.getfield 185, 3) := by decide +kernel
theorem dX9_readsNumber_47 : decode cX9_readsNumber 47 = .ok (.iload_n 2, 1) := by decide +kernel
theorem dX9_readsNumber_48 : decode cX9_readsNumber 48 = .ok (.iconst 3, 1) := by decide +kernel
theorem dX9_readsNumber_49 : decode cX9_readsNumber 49 = .ok (.iadd, 1) := by decide +kernel
theorem dX9_readsNumber_50 : decode cX9_readsNumber 50 = .ok (.if_icmp .ge 44, 3) := by decide +kernel
theorem dX9_readsNumber_53 : decode cX9_readsNumber 53 = .ok (.aload_n 0, 1) := by decide +kernel
theorem dX9_readsNumber_54 : decode cX9_readsNumber 54 = .ok (.getfield 22, 3) := by decide +kernel
theorem dX9_readsNumber_57 : decode cX9_readsNumber 57 = .ok (.iload_n 1, 1) := by decide +kernel
theorem dX9_readsNumber_58 : decode cX9_readsNumber 58 = .ok (.bipush 10, 2) := by decide +kernel
theorem dX9_readsNumber_60 : decode cX9_readsNumber 60 = .ok (.aload_n 0, 1) := by decide +kernel
theorem dX9_readsNumber_61 : decode cX9_readsNumber 61 = .ok (.getfield 22, 3) := by decide +kernel
theorem dX9_readsNumber_64 : decode cX9_readsNumber 64 = .ok (.iload_n 1, 1) := by decide +kernel
theorem dX9_readsNumber_65 : decode cX9_readsNumber 65 = .ok (.iaload, 1) := by decide +kernel
theorem dX9_readsNumber_66 : decode cX9_readsNumber 66 = .ok (.imul, 1) := by decide +kernel
theorem dX9_readsNumber_67 : decode cX9_readsNumber 67 = .ok (.aload_n 0, 1) := by decide +kernel
theorem dX9_readsNumber_68 : decode cX9_readsNumber 68 = .ok (.getfield 19, 3) := by decide +kernel
theorem dX9_readsNumber_71 : decode cX9_readsNumber 71 = .ok (.aload_n 0, 1) := by decide +kernel
theorem dX9_readsNumber_72 : decode cX9_readsNumber 72 = .ok (.getfield 185, 3) := by decide +kernel
theorem dX9_readsNumber_75 : decode cX9_readsNumber 75 = .ok (.iaload, 1) := by decide +kernel
theorem dX9_readsNumber_76 : decode cX9_readsNumber 76 = .ok (.iadd, 1) := by decide +kernel
theorem dX9_readsNumber_77 : decode cX9_readsNumber 77 = .ok (.bipush 48, 2) := by decide +kernel
theorem dX9_readsNumber_79 : decode cX9_readsNumber 79 = .ok (.isub, 1) := by decide +kernel
theorem dX9_readsNumber_80 : decode cX9_readsNumber 80 = .ok (.iastore, 1) := by decide +kernel
theorem dX9_readsNumber_81 : decode cX9_readsNumber 81 = .ok (.aload_n 0, 1) := by decide +kernel
theorem dX9_readsNumber_82 : decode cX9_readsNumber 82 = .ok (.dup, 1) := by decide +kernel
theorem dX9_readsNumber_83 : decode cX9_readsNumber 83 = .ok (.getfield 185, 3) := by decide +kernel
theorem dX9_readsNumber_86 : decode cX9_readsNumber 86 = .ok (.iconst 1, 1) := by decide +kernel
theorem dX9_readsNumber_87 : decode cX9_readsNumber 87 = .ok (.iadd, 1) := by decide +kernel
theorem dX9_readsNumber_88 : decode cX9_readsNumber 88 = .ok (.putfield 185, 3) := by decide +kernel
theorem dX9_readsNumber_91 : decode cX9_readsNumber 91 = .ok (.goto (-59), 3) := by decide +kernel
theorem dX9_readsNumber_94 : decode cX9_readsNumber 94 = .ok (.iconst 1, 1) := by decide +kernel
theorem dX9_readsNumber_95 : decode cX9_readsNumber 95 = .ok (.ireturn, 1) := by decide +kernel
theorem dX9_reads_0 : decode cX9_reads 0 = .ok (.aload_n 0, 1) := by decide +kernel
theorem dX9_reads_1 : decode cX9_reads 1 = .ok (.getfield 185, 3) := by decide +kernel
theorem dX9_reads_4 : decode cX9_reads 4 = .ok (.istore_n 1, 1) := by decide +kernel
theorem dX9_reads_5 : decode cX9_reads 5 = .ok (.aload_n 0, 1) := by decide +kernel
theorem dX9_reads_6 : decode cX9_reads 6 = .ok (.aload_n 0, 1) := by decide +kernel
theorem dX9_reads_7 : decode cX9_reads 7 = .ok (.invokevirtual 216, 3) := by decide +kernel
theorem dX9_reads_10 : decode cX9_reads 10 = .ok (.putfield 219, 3) := by decide +kernel
theorem dX9_reads_13 : decode cX9_reads 13 = .ok (.aload_n 0, 1) := by decide +kernel
theorem dX9_reads_14 : decode cX9_reads 14 = .ok (.getfield 219, 3) := by decide +kernel
theorem dX9_reads_17 : decode cX9_reads 17 = .ok (.iconst (-1), 1) := by decide +kernel
theorem dX9_reads_18 : decode cX9_reads 18 = .ok (.if_icmp .ne 10, 3) := by decide +kernel
theorem dX9_reads_21 : decode cX9_reads 21 = .ok (.aload_n 0, 1) := by decide +kernel
theorem dX9_reads_22 : decode cX9_reads 22 = .ok (.iload_n 1, 1) := by decide +kernel
theorem dX9_reads_23 : decode cX9_reads 23 = .ok (.putfield 185, 3) := by decide +kernel
theorem dX9_reads_26 : decode cX9_reads 26 = .ok (.iconst 0, 1) := by decide +kernel
theorem dX9_reads_27 : decode cX9_reads 27 = .ok (.ireturn, 1) := by decide +kernel
theorem dX9_reads_28 : decode cX9_reads 28 = .ok (.iconst 0, 1) := by decide +kernel
theorem dX9_reads_29 : decode cX9_reads 29 = .ok (.istore_n 2, 1) := by decide +kernel
theorem dX9_reads_30 : decode cX9_reads 30 = .ok (.iload_n 2, 1) := by decide +kernel
theorem dX9_reads_31 : decode cX9_reads 31 = .ok (.aload_n 0, 1) := by decide +kernel
theorem dX9_reads_32 : decode cX9_reads 32 = .ok (.getfield 219, 3) := by decide +kernel
theorem dX9_reads_35 : decode cX9_reads 35 = .ok (.invokestatic 222, 3) := by decide +kernel
theorem dX9_reads_38 : decode cX9_reads 38 = .ok (.if_icmp .ge 19, 3) := by decide +kernel
theorem dX9_reads_41 : decode cX9_reads 41 = .ok (.aload_n 0, 1) := by decide +kernel
theorem dX9_reads_42 : decode cX9_reads 42 = .ok (.iload_n 2, 1) := by decide +kernel
theorem dX9_reads_43 : decode cX9_reads 43 = .ok (.invokevirtual 225, 3) := by decide +kernel
theorem dX9_reads_46 : decode cX9_reads 46 = .ok (.ifCond .ne 5, 3) := by decide +kernel
theorem dX9_reads_49 : decode cX9_reads 49 = .ok (.iconst 0, 1) := by decide +kernel
theorem dX9_reads_50 : decode cX9_reads 50 = .ok (.ireturn, 1) := by decide +kernel
theorem dX9_reads_51 : decode cX9_reads 51 = .ok (.iinc 2 1, 3) := by decide +kernel
theorem dX9_reads_54 : decode cX9_reads 54 = .ok (.goto (-24), 3) := by decide +kernel
theorem dX9_reads_57 : decode cX9_reads 57 = .ok (.aload_n 0, 1) := by decide +kernel
theorem dX9_reads_58 : decode cX9_reads 58 = .ok (.invokevirtual 213, 3) := by decide +kernel
theorem dX9_reads_61 : decode cX9_reads 61 = .ok (.pop, 1) := by decide +kernel
theorem dX9_reads_62 : decode cX9_reads 62 = .ok (.aload_n 0, 1) := by decide +kernel
theorem dX9_reads_63 : decode cX9_reads 63 = .ok (.bipush 59, 2) := by decide +kernel
theorem dX9_reads_65 : decode cX9_reads 65 = .ok (.bipush 59, 2) := by decide +kernel
theorem dX9_reads_67 : decode cX9_reads 67 = .ok (.invokevirtual 188, 3) := by decide +kernel
theorem dX9_reads_70 : decode cX9_reads 70 = .ok (.istore_n 2, 1) := by decide +kernel
theorem dX9_reads_71 : decode cX9_reads 71 = .ok (.aload_n 0, 1) := by decide +kernel
theorem dX9_reads_72 : decode cX9_reads 72 = .ok (.dup, 1) := by decide +kernel
theorem dX9_reads_73 : decode cX9_reads 73 = .ok (.getfield 185, 3) := by decide +kernel
theorem dX9_reads_76 : decode cX9_reads 76 = .ok (.iload_n 2, 1) := by decide +kernel
theorem dX9_reads_77 : decode cX9_reads 77 = .ok (.ifCond .eq 7, 3) := by decide +kernel
theorem dX9_reads_80 : decode cX9_reads 80 = .ok (.iconst 1, 1) := by decide +kernel
theorem dX9_reads_81 : decode cX9_reads 81 = .ok (.goto 4, 3) := by decide +kernel
theorem dX9_reads_84 : decode cX9_reads 84 = .ok (.iconst 0, 1) := by decide +kernel
theorem dX9_reads_85 : decode cX9_reads 85 = .ok (.iadd, 1) := by decide +kernel
theorem dX9_reads_86 : decode cX9_reads 86 = .ok (.putfield 185, 3) := by decide +kernel
theorem dX9_reads_89 : decode cX9_reads 89 = .ok (.iload_n 2, 1) := by decide +kernel
theorem dX9_reads_90 : decode cX9_reads 90 = .ok (.ireturn, 1) := by decide +kernel
theorem dX9_badCommand_0 : decode cX9_badCommand 0 = .ok (.aload_n 0, 1) := by decide +kernel
theorem dX9_badCommand_1 : decode cX9_badCommand 1 = .ok (.getfield 22, 3) := by decide +kernel
theorem dX9_badCommand_4 : decode cX9_badCommand 4 = .ok (.iconst 0, 1) := by decide +kernel
theorem dX9_badCommand_5 : decode cX9_badCommand 5 = .ok (.iaload, 1) := by decide +kernel
theorem dX9_badCommand_6 : decode cX9_badCommand 6 = .ok (.istore_n 1, 1) := by decide +kernel
theorem dX9_badCommand_7 : decode cX9_badCommand 7 = .ok (.aload_n 0, 1) := by decide +kernel
theorem dX9_badCommand_8 : decode cX9_badCommand 8 = .ok (.getfield 22, 3) := by decide +kernel
theorem dX9_badCommand_11 : decode cX9_badCommand 11 = .ok (.iconst 1, 1) := by decide +kernel
theorem dX9_badCommand_12 : decode cX9_badCommand 12 = .ok (.iaload, 1) := by decide +kernel
theorem dX9_badCommand_13 : decode cX9_badCommand 13 = .ok (.istore_n 2, 1) := by decide +kernel
theorem dX9_badCommand_14 : decode cX9_badCommand 14 = .ok (.aload_n 0, 1) := by decide +kernel
theorem dX9_badCommand_15 : decode cX9_badCommand 15 = .ok (.getfield 219, 3) := by decide +kernel
theorem dX9_badCommand_18 : decode cX9_badCommand 18 = .ok (.tableswitch 107 0 7 #[46, 46, 57, 76, 89, 95, 95, 101], 46) := by decide +kernel
theorem dX9_badCommand_64 : decode cX9_badCommand 64 = .ok (.aload_n 0, 1) := by decide +kernel
theorem dX9_badCommand_65 : decode cX9_badCommand 65 = .ok (.iload_n 1, 1) := by decide +kernel
theorem dX9_badCommand_66 : decode cX9_badCommand 66 = .ok (.aload_n 0, 1) := by decide +kernel
theorem dX9_badCommand_67 : decode cX9_badCommand 67 = .ok (.getfield 219, 3) := by decide +kernel
theorem dX9_badCommand_70 : decode cX9_badCommand 70 = .ok (.iload_n 2, 1) := by decide +kernel
theorem dX9_badCommand_71 : decode cX9_badCommand 71 = .ok (.invokevirtual 51, 3) := by decide +kernel
theorem dX9_badCommand_74 : decode cX9_badCommand 74 = .ok (.ireturn, 1) := by decide +kernel
theorem dX9_badCommand_75 : decode cX9_badCommand 75 = .ok (.aload_n 0, 1) := by decide +kernel
theorem dX9_badCommand_76 : decode cX9_badCommand 76 = .ok (.iload_n 1, 1) := by decide +kernel
theorem dX9_badCommand_77 : decode cX9_badCommand 77 = .ok (.iload_n 2, 1) := by decide +kernel
theorem dX9_badCommand_78 : decode cX9_badCommand 78 = .ok (.aload_n 0, 1) := by decide +kernel
theorem dX9_badCommand_79 : decode cX9_badCommand 79 = .ok (.getfield 22, 3) := by decide +kernel
theorem dX9_badCommand_82 : decode cX9_badCommand 82 = .ok (.iconst 2, 1) := by decide +kernel
theorem dX9_badCommand_83 : decode cX9_badCommand 83 = .ok (.iaload, 1) := by decide +kernel
theorem dX9_badCommand_84 : decode cX9_badCommand 84 = .ok (.aload_n 0, 1) := by decide +kernel
theorem dX9_badCommand_85 : decode cX9_badCommand 85 = .ok (.getfield 22, 3) := by decide +kernel
theorem dX9_badCommand_88 : decode cX9_badCommand 88 = .ok (.iconst 3, 1) := by decide +kernel
theorem dX9_badCommand_89 : decode cX9_badCommand 89 = .ok (.iaload, 1) := by decide +kernel
theorem dX9_badCommand_90 : decode cX9_badCommand 90 = .ok (.invokevirtual 71, 3) := by decide +kernel
theorem dX9_badCommand_93 : decode cX9_badCommand 93 = .ok (.ireturn, 1) := by decide +kernel
theorem dX9_badCommand_94 : decode cX9_badCommand 94 = .ok (.aload_n 0, 1) := by decide +kernel
theorem dX9_badCommand_95 : decode cX9_badCommand 95 = .ok (.iload_n 1, 1) := by decide +kernel
theorem dX9_badCommand_96 : decode cX9_badCommand 96 = .ok (.iload_n 2, 1) := by decide +kernel
theorem dX9_badCommand_97 : decode cX9_badCommand 97 = .ok (.aload_n 0, 1) := by decide +kernel
theorem dX9_badCommand_98 : decode cX9_badCommand 98 = .ok (.getfield 22, 3) := by decide +kernel
theorem dX9_badCommand_101 : decode cX9_badCommand 101 = .ok (.iconst 2, 1) := by decide +kernel
theorem dX9_badCommand_102 : decode cX9_badCommand 102 = .ok (.iaload, 1) := by decide +kernel
theorem dX9_badCommand_103 : decode cX9_badCommand 103 = .ok (.invokevirtual 78, 3) := by decide +kernel
theorem dX9_badCommand_106 : decode cX9_badCommand 106 = .ok (.ireturn, 1) := by decide +kernel
theorem dX9_badCommand_107 : decode cX9_badCommand 107 = .ok (.aload_n 0, 1) := by decide +kernel
theorem dX9_badCommand_108 : decode cX9_badCommand 108 = .ok (.iload_n 1, 1) := by decide +kernel
theorem dX9_badCommand_109 : decode cX9_badCommand 109 = .ok (.invokevirtual 88, 3) := by decide +kernel
theorem dX9_badCommand_112 : decode cX9_badCommand 112 = .ok (.ireturn, 1) := by decide +kernel
theorem dX9_badCommand_113 : decode cX9_badCommand 113 = .ok (.aload_n 0, 1) := by decide +kernel
theorem dX9_badCommand_114 : decode cX9_badCommand 114 = .ok (.iload_n 1, 1) := by decide +kernel
theorem dX9_badCommand_115 : decode cX9_badCommand 115 = .ok (.invokevirtual 97, 3) := by decide +kernel
theorem dX9_badCommand_118 : decode cX9_badCommand 118 = .ok (.ireturn, 1) := by decide +kernel
theorem dX9_badCommand_119 : decode cX9_badCommand 119 = .ok (.iload_n 1, 1) := by decide +kernel
theorem dX9_badCommand_120 : decode cX9_badCommand 120 = .ok (.iload_n 2, 1) := by decide +kernel
theorem dX9_badCommand_121 : decode cX9_badCommand 121 = .ok (.invokestatic 104, 3) := by decide +kernel
theorem dX9_badCommand_124 : decode cX9_badCommand 124 = .ok (.ireturn, 1) := by decide +kernel
theorem dX9_badCommand_125 : decode cX9_badCommand 125 = .ok (.iload_n 1, 1) := by decide +kernel
theorem dX9_badCommand_126 : decode cX9_badCommand 126 = .ok (.invokestatic 152, 3) := by decide +kernel
theorem dX9_badCommand_129 : decode cX9_badCommand 129 = .ok (.ireturn, 1) := by decide +kernel
theorem dX9_does_0 : decode cX9_does 0 = .ok (.aload_n 0, 1) := by decide +kernel
theorem dX9_does_1 : decode cX9_does 1 = .ok (.getfield 22, 3) := by decide +kernel
theorem dX9_does_4 : decode cX9_does 4 = .ok (.iconst 0, 1) := by decide +kernel
theorem dX9_does_5 : decode cX9_does 5 = .ok (.iaload, 1) := by decide +kernel
theorem dX9_does_6 : decode cX9_does 6 = .ok (.istore_n 1, 1) := by decide +kernel
theorem dX9_does_7 : decode cX9_does 7 = .ok (.aload_n 0, 1) := by decide +kernel
theorem dX9_does_8 : decode cX9_does 8 = .ok (.getfield 22, 3) := by decide +kernel
theorem dX9_does_11 : decode cX9_does 11 = .ok (.iconst 1, 1) := by decide +kernel
theorem dX9_does_12 : decode cX9_does 12 = .ok (.iaload, 1) := by decide +kernel
theorem dX9_does_13 : decode cX9_does 13 = .ok (.istore_n 2, 1) := by decide +kernel
theorem dX9_does_14 : decode cX9_does 14 = .ok (.aload_n 0, 1) := by decide +kernel
theorem dX9_does_15 : decode cX9_does 15 = .ok (.getfield 219, 3) := by decide +kernel
theorem dX9_does_18 : decode cX9_does 18 = .ok (.tableswitch 121 0 7 #[46, 46, 57, 76, 89, 95, 95, 114], 46) := by decide +kernel
theorem dX9_does_64 : decode cX9_does 64 = .ok (.aload_n 0, 1) := by decide +kernel
theorem dX9_does_65 : decode cX9_does 65 = .ok (.iload_n 1, 1) := by decide +kernel
theorem dX9_does_66 : decode cX9_does 66 = .ok (.aload_n 0, 1) := by decide +kernel
theorem dX9_does_67 : decode cX9_does 67 = .ok (.getfield 219, 3) := by decide +kernel
theorem dX9_does_70 : decode cX9_does 70 = .ok (.iload_n 2, 1) := by decide +kernel
theorem dX9_does_71 : decode cX9_does 71 = .ok (.invokevirtual 58, 3) := by decide +kernel
theorem dX9_does_74 : decode cX9_does 74 = .ok (.ireturn, 1) := by decide +kernel
theorem dX9_does_75 : decode cX9_does 75 = .ok (.aload_n 0, 1) := by decide +kernel
theorem dX9_does_76 : decode cX9_does 76 = .ok (.iload_n 1, 1) := by decide +kernel
theorem dX9_does_77 : decode cX9_does 77 = .ok (.iload_n 2, 1) := by decide +kernel
theorem dX9_does_78 : decode cX9_does 78 = .ok (.aload_n 0, 1) := by decide +kernel
theorem dX9_does_79 : decode cX9_does 79 = .ok (.getfield 22, 3) := by decide +kernel
theorem dX9_does_82 : decode cX9_does 82 = .ok (.iconst 2, 1) := by decide +kernel
theorem dX9_does_83 : decode cX9_does 83 = .ok (.iaload, 1) := by decide +kernel
theorem dX9_does_84 : decode cX9_does 84 = .ok (.aload_n 0, 1) := by decide +kernel
theorem dX9_does_85 : decode cX9_does 85 = .ok (.getfield 22, 3) := by decide +kernel
theorem dX9_does_88 : decode cX9_does 88 = .ok (.iconst 3, 1) := by decide +kernel
theorem dX9_does_89 : decode cX9_does 89 = .ok (.iaload, 1) := by decide +kernel
theorem dX9_does_90 : decode cX9_does 90 = .ok (.invokevirtual 75, 3) := by decide +kernel
theorem dX9_does_93 : decode cX9_does 93 = .ok (.ireturn, 1) := by decide +kernel
theorem dX9_does_94 : decode cX9_does 94 = .ok (.aload_n 0, 1) := by decide +kernel
theorem dX9_does_95 : decode cX9_does 95 = .ok (.iload_n 1, 1) := by decide +kernel
theorem dX9_does_96 : decode cX9_does 96 = .ok (.iload_n 2, 1) := by decide +kernel
theorem dX9_does_97 : decode cX9_does 97 = .ok (.aload_n 0, 1) := by decide +kernel
theorem dX9_does_98 : decode cX9_does 98 = .ok (.getfield 22, 3) := by decide +kernel
theorem dX9_does_101 : decode cX9_does 101 = .ok (.iconst 2, 1) := by decide +kernel
theorem dX9_does_102 : decode cX9_does 102 = .ok (.iaload, 1) := by decide +kernel
theorem dX9_does_103 : decode cX9_does 103 = .ok (.invokevirtual 81, 3) := by decide +kernel
theorem dX9_does_106 : decode cX9_does 106 = .ok (.ireturn, 1) := by decide +kernel
theorem dX9_does_107 : decode cX9_does 107 = .ok (.aload_n 0, 1) := by decide +kernel
theorem dX9_does_108 : decode cX9_does 108 = .ok (.iload_n 1, 1) := by decide +kernel
theorem dX9_does_109 : decode cX9_does 109 = .ok (.invokevirtual 94, 3) := by decide +kernel
theorem dX9_does_112 : decode cX9_does 112 = .ok (.ireturn, 1) := by decide +kernel
theorem dX9_does_113 : decode cX9_does 113 = .ok (.aload_n 0, 1) := by decide +kernel
theorem dX9_does_114 : decode cX9_does 114 = .ok (.iload_n 1, 1) := by decide +kernel
theorem dX9_does_115 : decode cX9_does 115 = .ok (.aload_n 0, 1) := by decide +kernel
theorem dX9_does_116 : decode cX9_does 116 = .ok (.getfield 219, 3) := by decide +kernel
theorem dX9_does_119 : decode cX9_does 119 = .ok (.iconst 5, 1) := by decide +kernel
theorem dX9_does_120 : decode cX9_does 120 = .ok (.if_icmp .ne 7, 3) := by decide +kernel
theorem dX9_does_123 : decode cX9_does 123 = .ok (.iconst 1, 1) := by decide +kernel
theorem dX9_does_124 : decode cX9_does 124 = .ok (.goto 4, 3) := by decide +kernel
theorem dX9_does_127 : decode cX9_does 127 = .ok (.iconst 0, 1) := by decide +kernel
theorem dX9_does_128 : decode cX9_does 128 = .ok (.invokevirtual 100, 3) := by decide +kernel
theorem dX9_does_131 : decode cX9_does 131 = .ok (.ireturn, 1) := by decide +kernel
theorem dX9_does_132 : decode cX9_does 132 = .ok (.aload_n 0, 1) := by decide +kernel
theorem dX9_does_133 : decode cX9_does 133 = .ok (.iload_n 1, 1) := by decide +kernel
theorem dX9_does_134 : decode cX9_does 134 = .ok (.iload_n 2, 1) := by decide +kernel
theorem dX9_does_135 : decode cX9_does 135 = .ok (.invokevirtual 107, 3) := by decide +kernel
theorem dX9_does_138 : decode cX9_does 138 = .ok (.ireturn, 1) := by decide +kernel
theorem dX9_does_139 : decode cX9_does 139 = .ok (.aload_n 0, 1) := by decide +kernel
theorem dX9_does_140 : decode cX9_does 140 = .ok (.iload_n 1, 1) := by decide +kernel
theorem dX9_does_141 : decode cX9_does 141 = .ok (.invokevirtual 155, 3) := by decide +kernel
theorem dX9_does_144 : decode cX9_does 144 = .ok (.ireturn, 1) := by decide +kernel
theorem dX9_runCommands_0 : decode cX9_runCommands 0 = .ok (.aload_n 0, 1) := by decide +kernel
theorem dX9_runCommands_1 : decode cX9_runCommands 1 = .ok (.iconst 0, 1) := by decide +kernel
theorem dX9_runCommands_2 : decode cX9_runCommands 2 = .ok (.putfield 25, 3) := by decide +kernel
theorem dX9_runCommands_5 : decode cX9_runCommands 5 = .ok (.aload_n 0, 1) := by decide +kernel
theorem dX9_runCommands_6 : decode cX9_runCommands 6 = .ok (.iconst 0, 1) := by decide +kernel
theorem dX9_runCommands_7 : decode cX9_runCommands 7 = .ok (.putfield 185, 3) := by decide +kernel
theorem dX9_runCommands_10 : decode cX9_runCommands 10 = .ok (.aload_n 0, 1) := by decide +kernel
theorem dX9_runCommands_11 : decode cX9_runCommands 11 = .ok (.invokevirtual 213, 3) := by decide +kernel
theorem dX9_runCommands_14 : decode cX9_runCommands 14 = .ok (.istore_n 1, 1) := by decide +kernel
theorem dX9_runCommands_15 : decode cX9_runCommands 15 = .ok (.aload_n 0, 1) := by decide +kernel
theorem dX9_runCommands_16 : decode cX9_runCommands 16 = .ok (.getfield 185, 3) := by decide +kernel
theorem dX9_runCommands_19 : decode cX9_runCommands 19 = .ok (.aload_n 0, 1) := by decide +kernel
theorem dX9_runCommands_20 : decode cX9_runCommands 20 = .ok (.getfield 182, 3) := by decide +kernel
theorem dX9_runCommands_23 : decode cX9_runCommands 23 = .ok (.if_icmp .ge 26, 3) := by decide +kernel
theorem dX9_runCommands_26 : decode cX9_runCommands 26 = .ok (.aload_n 0, 1) := by decide +kernel
theorem dX9_runCommands_27 : decode cX9_runCommands 27 = .ok (.invokevirtual 228, 3) := by decide +kernel
theorem dX9_runCommands_30 : decode cX9_runCommands 30 = .ok (.ifCond .ne 11, 3) := by decide +kernel
theorem dX9_runCommands_33 : decode cX9_runCommands 33 = .ok (.bipush (-10), 2) := by decide +kernel
theorem dX9_runCommands_35 : decode cX9_runCommands 35 = .ok (.aload_n 0, 1) := by decide +kernel
theorem dX9_runCommands_36 : decode cX9_runCommands 36 = .ok (.getfield 185, 3) := by decide +kernel
theorem dX9_runCommands_39 : decode cX9_runCommands 39 = .ok (.isub, 1) := by decide +kernel
theorem dX9_runCommands_40 : decode cX9_runCommands 40 = .ok (.ireturn, 1) := by decide +kernel
theorem dX9_runCommands_41 : decode cX9_runCommands 41 = .ok (.aload_n 0, 1) := by decide +kernel
theorem dX9_runCommands_42 : decode cX9_runCommands 42 = .ok (.invokevirtual 213, 3) := by decide +kernel
theorem dX9_runCommands_45 : decode cX9_runCommands 45 = .ok (.istore_n 1, 1) := by decide +kernel
theorem dX9_runCommands_46 : decode cX9_runCommands 46 = .ok (.goto (-31), 3) := by decide +kernel
theorem dX9_runCommands_49 : decode cX9_runCommands 49 = .ok (.aload_n 0, 1) := by decide +kernel
theorem dX9_runCommands_50 : decode cX9_runCommands 50 = .ok (.invokevirtual 55, 3) := by decide +kernel
theorem dX9_runCommands_53 : decode cX9_runCommands 53 = .ok (.aload_n 0, 1) := by decide +kernel
theorem dX9_runCommands_54 : decode cX9_runCommands 54 = .ok (.iconst 0, 1) := by decide +kernel
theorem dX9_runCommands_55 : decode cX9_runCommands 55 = .ok (.putfield 231, 3) := by decide +kernel
theorem dX9_runCommands_58 : decode cX9_runCommands 58 = .ok (.aload_n 0, 1) := by decide +kernel
theorem dX9_runCommands_59 : decode cX9_runCommands 59 = .ok (.iconst 0, 1) := by decide +kernel
theorem dX9_runCommands_60 : decode cX9_runCommands 60 = .ok (.putfield 185, 3) := by decide +kernel
theorem dX9_runCommands_63 : decode cX9_runCommands 63 = .ok (.iconst 0, 1) := by decide +kernel
theorem dX9_runCommands_64 : decode cX9_runCommands 64 = .ok (.istore_n 2, 1) := by decide +kernel
theorem dX9_runCommands_65 : decode cX9_runCommands 65 = .ok (.aload_n 0, 1) := by decide +kernel
theorem dX9_runCommands_66 : decode cX9_runCommands 66 = .ok (.invokevirtual 213, 3) := by decide +kernel
theorem dX9_runCommands_69 : decode cX9_runCommands 69 = .ok (.istore_n 1, 1) := by decide +kernel
theorem dX9_runCommands_70 : decode cX9_runCommands 70 = .ok (.aload_n 0, 1) := by decide +kernel
theorem dX9_runCommands_71 : decode cX9_runCommands 71 = .ok (.getfield 185, 3) := by decide +kernel
theorem dX9_runCommands_74 : decode cX9_runCommands 74 = .ok (.aload_n 0, 1) := by decide +kernel
theorem dX9_runCommands_75 : decode cX9_runCommands 75 = .ok (.getfield 182, 3) := by decide +kernel
theorem dX9_runCommands_78 : decode cX9_runCommands 78 = .ok (.if_icmp .ge 47, 3) := by decide +kernel
theorem dX9_runCommands_81 : decode cX9_runCommands 81 = .ok (.aload_n 0, 1) := by decide +kernel
theorem dX9_runCommands_82 : decode cX9_runCommands 82 = .ok (.getfield 231, 3) := by decide +kernel
theorem dX9_runCommands_85 : decode cX9_runCommands 85 = .ok (.ifCond .ne 40, 3) := by decide +kernel
theorem dX9_runCommands_88 : decode cX9_runCommands 88 = .ok (.aload_n 0, 1) := by decide +kernel
theorem dX9_runCommands_89 : decode cX9_runCommands 89 = .ok (.invokevirtual 228, 3) := by decide +kernel
theorem dX9_runCommands_92 : decode cX9_runCommands 92 = .ok (.istore_n 3, 1) := by decide +kernel
theorem dX9_runCommands_93 : decode cX9_runCommands 93 = .ok (.aload_n 0, 1) := by decide +kernel
theorem dX9_runCommands_94 : decode cX9_runCommands 94 = .ok (.aload_n 0, 1) := by decide +kernel
theorem dX9_runCommands_95 : decode cX9_runCommands 95 = .ok (.invokevirtual 234, 3) := by decide +kernel
theorem dX9_runCommands_98 : decode cX9_runCommands 98 = .ok (.putfield 231, 3) := by decide +kernel
theorem dX9_runCommands_101 : decode cX9_runCommands 101 = .ok (.aload_n 0, 1) := by decide +kernel
theorem dX9_runCommands_102 : decode cX9_runCommands 102 = .ok (.getfield 231, 3) := by decide +kernel
theorem dX9_runCommands_105 : decode cX9_runCommands 105 = .ok (.ifCond .ne 12, 3) := by decide +kernel
theorem dX9_runCommands_108 : decode cX9_runCommands 108 = .ok (.aload_n 0, 1) := by decide +kernel
theorem dX9_runCommands_109 : decode cX9_runCommands 109 = .ok (.invokevirtual 237, 3) := by decide +kernel
theorem dX9_runCommands_112 : decode cX9_runCommands 112 = .ok (.istore 4, 2) := by decide +kernel
theorem dX9_runCommands_114 : decode cX9_runCommands 114 = .ok (.iinc 2 1, 3) := by decide +kernel
theorem dX9_runCommands_117 : decode cX9_runCommands 117 = .ok (.aload_n 0, 1) := by decide +kernel
theorem dX9_runCommands_118 : decode cX9_runCommands 118 = .ok (.invokevirtual 213, 3) := by decide +kernel
theorem dX9_runCommands_121 : decode cX9_runCommands 121 = .ok (.istore_n 1, 1) := by decide +kernel
theorem dX9_runCommands_122 : decode cX9_runCommands 122 = .ok (.goto (-52), 3) := by decide +kernel
theorem dX9_runCommands_125 : decode cX9_runCommands 125 = .ok (.iload_n 2, 1) := by decide +kernel
theorem dX9_runCommands_126 : decode cX9_runCommands 126 = .ok (.ireturn, 1) := by decide +kernel
theorem dX9_stop_0 : decode cX9_stop 0 = .ok (.aload_n 0, 1) := by decide +kernel
theorem dX9_stop_1 : decode cX9_stop 1 = .ok (.iconst 0, 1) := by decide +kernel
theorem dX9_stop_2 : decode cX9_stop 2 = .ok (.putfield 25, 3) := by decide +kernel
theorem dX9_stop_5 : decode cX9_stop 5 = .ok (.aload_n 0, 1) := by decide +kernel
theorem dX9_stop_6 : decode cX9_stop 6 = .ok (.getfield 231, 3) := by decide +kernel
theorem dX9_stop_9 : decode cX9_stop 9 = .ok (.ireturn, 1) := by decide +kernel
theorem dX9_mix_0 : decode cX9_mix 0 = .ok (.aload_n 0, 1) := by decide +kernel
theorem dX9_mix_1 : decode cX9_mix 1 = .ok (.ldc2_w 240, 3) := by decide +kernel
theorem dX9_mix_4 : decode cX9_mix 4 = .ok (.aload_n 0, 1) := by decide +kernel
theorem dX9_mix_5 : decode cX9_mix 5 = .ok (.getfield 242, 3) := by decide +kernel
theorem dX9_mix_8 : decode cX9_mix 8 = .ok (.lmul, 1) := by decide +kernel
theorem dX9_mix_9 : decode cX9_mix 9 = .ok (.iload_n 1, 1) := by decide +kernel
theorem dX9_mix_10 : decode cX9_mix 10 = .ok (.i2l, 1) := by decide +kernel
theorem dX9_mix_11 : decode cX9_mix 11 = .ok (.ladd, 1) := by decide +kernel
theorem dX9_mix_12 : decode cX9_mix 12 = .ok (.putfield 242, 3) := by decide +kernel
theorem dX9_mix_15 : decode cX9_mix 15 = .ok (.return_, 1) := by decide +kernel
theorem dX9_mixSource_0 : decode cX9_mixSource 0 = .ok (.iconst 0, 1) := by decide +kernel
theorem dX9_mixSource_1 : decode cX9_mixSource 1 = .ok (.istore_n 2, 1) := by decide +kernel
theorem dX9_mixSource_2 : decode cX9_mixSource 2 = .ok (.iload_n 2, 1) := by decide +kernel
theorem dX9_mixSource_3 : decode cX9_mixSource 3 = .ok (.bipush 17, 2) := by decide +kernel
theorem dX9_mixSource_5 : decode cX9_mixSource 5 = .ok (.if_icmp .ge 19, 3) := by decide +kernel
theorem dX9_mixSource_8 : decode cX9_mixSource 8 = .ok (.aload_n 0, 1) := by decide +kernel
theorem dX9_mixSource_9 : decode cX9_mixSource 9 = .ok (.aload_n 0, 1) := by decide +kernel
theorem dX9_mixSource_10 : decode cX9_mixSource 10 = .ok (.iload_n 1, 1) := by decide +kernel
theorem dX9_mixSource_11 : decode cX9_mixSource 11 = .ok (.iload_n 2, 1) := by decide +kernel
theorem dX9_mixSource_12 : decode cX9_mixSource 12 = .ok (.invokevirtual 161, 3) := by decide +kernel
theorem dX9_mixSource_15 : decode cX9_mixSource 15 = .ok (.invokevirtual 246, 3) := by decide +kernel
theorem dX9_mixSource_18 : decode cX9_mixSource 18 = .ok (.iinc 2 1, 3) := by decide +kernel
theorem dX9_mixSource_21 : decode cX9_mixSource 21 = .ok (.goto (-19), 3) := by decide +kernel
theorem dX9_mixSource_24 : decode cX9_mixSource 24 = .ok (.iconst 0, 1) := by decide +kernel
theorem dX9_mixSource_25 : decode cX9_mixSource 25 = .ok (.istore_n 2, 1) := by decide +kernel
theorem dX9_mixSource_26 : decode cX9_mixSource 26 = .ok (.iload_n 2, 1) := by decide +kernel
theorem dX9_mixSource_27 : decode cX9_mixSource 27 = .ok (.iconst 4, 1) := by decide +kernel
theorem dX9_mixSource_28 : decode cX9_mixSource 28 = .ok (.aload_n 0, 1) := by decide +kernel
theorem dX9_mixSource_29 : decode cX9_mixSource 29 = .ok (.iload_n 1, 1) := by decide +kernel
theorem dX9_mixSource_30 : decode cX9_mixSource 30 = .ok (.bipush 7, 2) := by decide +kernel
theorem dX9_mixSource_32 : decode cX9_mixSource 32 = .ok (.invokevirtual 44, 3) := by decide +kernel
theorem dX9_mixSource_35 : decode cX9_mixSource 35 = .ok (.imul, 1) := by decide +kernel
theorem dX9_mixSource_36 : decode cX9_mixSource 36 = .ok (.if_icmp .ge 24, 3) := by decide +kernel
theorem dX9_mixSource_39 : decode cX9_mixSource 39 = .ok (.aload_n 0, 1) := by decide +kernel
theorem dX9_mixSource_40 : decode cX9_mixSource 40 = .ok (.aload_n 0, 1) := by decide +kernel
theorem dX9_mixSource_41 : decode cX9_mixSource 41 = .ok (.iload_n 1, 1) := by decide +kernel
theorem dX9_mixSource_42 : decode cX9_mixSource 42 = .ok (.iload_n 2, 1) := by decide +kernel
theorem dX9_mixSource_43 : decode cX9_mixSource 43 = .ok (.iconst 4, 1) := by decide +kernel
theorem dX9_mixSource_44 : decode cX9_mixSource 44 = .ok (.idiv, 1) := by decide +kernel
theorem dX9_mixSource_45 : decode cX9_mixSource 45 = .ok (.iload_n 2, 1) := by decide +kernel
theorem dX9_mixSource_46 : decode cX9_mixSource 46 = .ok (.iconst 4, 1) := by decide +kernel
theorem dX9_mixSource_47 : decode cX9_mixSource 47 = .ok (.irem, 1) := by decide +kernel
theorem dX9_mixSource_48 : decode cX9_mixSource 48 = .ok (.invokevirtual 164, 3) := by decide +kernel
theorem dX9_mixSource_51 : decode cX9_mixSource 51 = .ok (.invokevirtual 246, 3) := by decide +kernel
theorem dX9_mixSource_54 : decode cX9_mixSource 54 = .ok (.iinc 2 1, 3) := by decide +kernel
theorem dX9_mixSource_57 : decode cX9_mixSource 57 = .ok (.goto (-31), 3) := by decide +kernel
theorem dX9_mixSource_60 : decode cX9_mixSource 60 = .ok (.return_, 1) := by decide +kernel
theorem dX9_digest_0 : decode cX9_digest 0 = .ok (.aload_n 0, 1) := by decide +kernel
theorem dX9_digest_1 : decode cX9_digest 1 = .ok (.iconst 0, 1) := by decide +kernel
theorem dX9_digest_2 : decode cX9_digest 2 = .ok (.putfield 25, 3) := by decide +kernel
theorem dX9_digest_5 : decode cX9_digest 5 = .ok (.aload_n 0, 1) := by decide +kernel
theorem dX9_digest_6 : decode cX9_digest 6 = .ok (.ldc2_w 249, 3) := by decide +kernel
theorem dX9_digest_9 : decode cX9_digest 9 = .ok (.putfield 242, 3) := by decide +kernel
theorem dX9_digest_12 : decode cX9_digest 12 = .ok (.aload_n 0, 1) := by decide +kernel
theorem dX9_digest_13 : decode cX9_digest 13 = .ok (.aload_n 0, 1) := by decide +kernel
theorem dX9_digest_14 : decode cX9_digest 14 = .ok (.getfield 29, 3) := by decide +kernel
theorem dX9_digest_17 : decode cX9_digest 17 = .ok (.invokevirtual 246, 3) := by decide +kernel
theorem dX9_digest_20 : decode cX9_digest 20 = .ok (.aload_n 0, 1) := by decide +kernel
theorem dX9_digest_21 : decode cX9_digest 21 = .ok (.aload_n 0, 1) := by decide +kernel
theorem dX9_digest_22 : decode cX9_digest 22 = .ok (.getfield 182, 3) := by decide +kernel
theorem dX9_digest_25 : decode cX9_digest 25 = .ok (.invokevirtual 246, 3) := by decide +kernel
theorem dX9_digest_28 : decode cX9_digest 28 = .ok (.aload_n 0, 1) := by decide +kernel
theorem dX9_digest_29 : decode cX9_digest 29 = .ok (.aload_n 0, 1) := by decide +kernel
theorem dX9_digest_30 : decode cX9_digest 30 = .ok (.getfield 231, 3) := by decide +kernel
theorem dX9_digest_33 : decode cX9_digest 33 = .ok (.invokevirtual 246, 3) := by decide +kernel
theorem dX9_digest_36 : decode cX9_digest 36 = .ok (.iconst 0, 1) := by decide +kernel
theorem dX9_digest_37 : decode cX9_digest 37 = .ok (.istore_n 1, 1) := by decide +kernel
theorem dX9_digest_38 : decode cX9_digest 38 = .ok (.iload_n 1, 1) := by decide +kernel
theorem dX9_digest_39 : decode cX9_digest 39 = .ok (.bipush 12, 2) := by decide +kernel
theorem dX9_digest_41 : decode cX9_digest 41 = .ok (.if_icmp .ge 18, 3) := by decide +kernel
theorem dX9_digest_44 : decode cX9_digest 44 = .ok (.aload_n 0, 1) := by decide +kernel
theorem dX9_digest_45 : decode cX9_digest 45 = .ok (.aload_n 0, 1) := by decide +kernel
theorem dX9_digest_46 : decode cX9_digest 46 = .ok (.iload_n 1, 1) := by decide +kernel
theorem dX9_digest_47 : decode cX9_digest 47 = .ok (.invokevirtual 167, 3) := by decide +kernel
theorem dX9_digest_50 : decode cX9_digest 50 = .ok (.invokevirtual 246, 3) := by decide +kernel
theorem dX9_digest_53 : decode cX9_digest 53 = .ok (.iinc 1 1, 3) := by decide +kernel
theorem dX9_digest_56 : decode cX9_digest 56 = .ok (.goto (-18), 3) := by decide +kernel
theorem dX9_digest_59 : decode cX9_digest 59 = .ok (.iconst 0, 1) := by decide +kernel
theorem dX9_digest_60 : decode cX9_digest 60 = .ok (.istore_n 1, 1) := by decide +kernel
theorem dX9_digest_61 : decode cX9_digest 61 = .ok (.iload_n 1, 1) := by decide +kernel
theorem dX9_digest_62 : decode cX9_digest 62 = .ok (.bipush 10, 2) := by decide +kernel
theorem dX9_digest_64 : decode cX9_digest 64 = .ok (.if_icmp .ge 22, 3) := by decide +kernel
theorem dX9_digest_67 : decode cX9_digest 67 = .ok (.aload_n 0, 1) := by decide +kernel
theorem dX9_digest_68 : decode cX9_digest 68 = .ok (.aload_n 0, 1) := by decide +kernel
theorem dX9_digest_69 : decode cX9_digest 69 = .ok (.getfield 7, 3) := by decide +kernel
theorem dX9_digest_72 : decode cX9_digest 72 = .ok (.bipush 83, 2) := by decide +kernel
theorem dX9_digest_74 : decode cX9_digest 74 = .ok (.iload_n 1, 1) := by decide +kernel
theorem dX9_digest_75 : decode cX9_digest 75 = .ok (.iadd, 1) := by decide +kernel
theorem dX9_digest_76 : decode cX9_digest 76 = .ok (.iaload, 1) := by decide +kernel
theorem dX9_digest_77 : decode cX9_digest 77 = .ok (.invokevirtual 246, 3) := by decide +kernel
theorem dX9_digest_80 : decode cX9_digest 80 = .ok (.iinc 1 1, 3) := by decide +kernel
theorem dX9_digest_83 : decode cX9_digest 83 = .ok (.goto (-22), 3) := by decide +kernel
theorem dX9_digest_86 : decode cX9_digest 86 = .ok (.iconst 0, 1) := by decide +kernel
theorem dX9_digest_87 : decode cX9_digest 87 = .ok (.istore_n 1, 1) := by decide +kernel
theorem dX9_digest_88 : decode cX9_digest 88 = .ok (.iload_n 1, 1) := by decide +kernel
theorem dX9_digest_89 : decode cX9_digest 89 = .ok (.aload_n 0, 1) := by decide +kernel
theorem dX9_digest_90 : decode cX9_digest 90 = .ok (.getfield 7, 3) := by decide +kernel
theorem dX9_digest_93 : decode cX9_digest 93 = .ok (.bipush 8, 2) := by decide +kernel
theorem dX9_digest_95 : decode cX9_digest 95 = .ok (.iaload, 1) := by decide +kernel
theorem dX9_digest_96 : decode cX9_digest 96 = .ok (.if_icmp .ge 14, 3) := by decide +kernel
theorem dX9_digest_99 : decode cX9_digest 99 = .ok (.aload_n 0, 1) := by decide +kernel
theorem dX9_digest_100 : decode cX9_digest 100 = .ok (.iload_n 1, 1) := by decide +kernel
theorem dX9_digest_101 : decode cX9_digest 101 = .ok (.invokevirtual 251, 3) := by decide +kernel
theorem dX9_digest_104 : decode cX9_digest 104 = .ok (.iinc 1 1, 3) := by decide +kernel
theorem dX9_digest_107 : decode cX9_digest 107 = .ok (.goto (-19), 3) := by decide +kernel
theorem dX9_digest_110 : decode cX9_digest 110 = .ok (.iconst 0, 1) := by decide +kernel
theorem dX9_digest_111 : decode cX9_digest 111 = .ok (.istore_n 1, 1) := by decide +kernel
theorem dX9_digest_112 : decode cX9_digest 112 = .ok (.iload_n 1, 1) := by decide +kernel
theorem dX9_digest_113 : decode cX9_digest 113 = .ok (.aload_n 0, 1) := by decide +kernel
theorem dX9_digest_114 : decode cX9_digest 114 = .ok (.getfield 7, 3) := by decide +kernel
theorem dX9_digest_117 : decode cX9_digest 117 = .ok (.bipush 9, 2) := by decide +kernel
theorem dX9_digest_119 : decode cX9_digest 119 = .ok (.iaload, 1) := by decide +kernel
theorem dX9_digest_120 : decode cX9_digest 120 = .ok (.if_icmp .ge 22, 3) := by decide +kernel
theorem dX9_digest_123 : decode cX9_digest 123 = .ok (.aload_n 0, 1) := by decide +kernel
theorem dX9_digest_124 : decode cX9_digest 124 = .ok (.aload_n 0, 1) := by decide +kernel
theorem dX9_digest_125 : decode cX9_digest 125 = .ok (.getfield 7, 3) := by decide +kernel
theorem dX9_digest_128 : decode cX9_digest 128 = .ok (.bipush 10, 2) := by decide +kernel
theorem dX9_digest_130 : decode cX9_digest 130 = .ok (.iload_n 1, 1) := by decide +kernel
theorem dX9_digest_131 : decode cX9_digest 131 = .ok (.iadd, 1) := by decide +kernel
theorem dX9_digest_132 : decode cX9_digest 132 = .ok (.iaload, 1) := by decide +kernel
theorem dX9_digest_133 : decode cX9_digest 133 = .ok (.invokevirtual 246, 3) := by decide +kernel
theorem dX9_digest_136 : decode cX9_digest 136 = .ok (.iinc 1 1, 3) := by decide +kernel
theorem dX9_digest_139 : decode cX9_digest 139 = .ok (.goto (-27), 3) := by decide +kernel
theorem dX9_digest_142 : decode cX9_digest 142 = .ok (.iconst 0, 1) := by decide +kernel
theorem dX9_digest_143 : decode cX9_digest 143 = .ok (.istore_n 1, 1) := by decide +kernel
theorem dX9_digest_144 : decode cX9_digest 144 = .ok (.iload_n 1, 1) := by decide +kernel
theorem dX9_digest_145 : decode cX9_digest 145 = .ok (.iconst 3, 1) := by decide +kernel
theorem dX9_digest_146 : decode cX9_digest 146 = .ok (.aload_n 0, 1) := by decide +kernel
theorem dX9_digest_147 : decode cX9_digest 147 = .ok (.getfield 7, 3) := by decide +kernel
theorem dX9_digest_150 : decode cX9_digest 150 = .ok (.bipush 22, 2) := by decide +kernel
theorem dX9_digest_152 : decode cX9_digest 152 = .ok (.iaload, 1) := by decide +kernel
theorem dX9_digest_153 : decode cX9_digest 153 = .ok (.imul, 1) := by decide +kernel
theorem dX9_digest_154 : decode cX9_digest 154 = .ok (.if_icmp .ge 22, 3) := by decide +kernel
theorem dX9_digest_157 : decode cX9_digest 157 = .ok (.aload_n 0, 1) := by decide +kernel
theorem dX9_digest_158 : decode cX9_digest 158 = .ok (.aload_n 0, 1) := by decide +kernel
theorem dX9_digest_159 : decode cX9_digest 159 = .ok (.getfield 7, 3) := by decide +kernel
theorem dX9_digest_162 : decode cX9_digest 162 = .ok (.bipush 23, 2) := by decide +kernel
theorem dX9_digest_164 : decode cX9_digest 164 = .ok (.iload_n 1, 1) := by decide +kernel
theorem dX9_digest_165 : decode cX9_digest 165 = .ok (.iadd, 1) := by decide +kernel
theorem dX9_digest_166 : decode cX9_digest 166 = .ok (.iaload, 1) := by decide +kernel
theorem dX9_digest_167 : decode cX9_digest 167 = .ok (.invokevirtual 246, 3) := by decide +kernel
theorem dX9_digest_170 : decode cX9_digest 170 = .ok (.iinc 1 1, 3) := by decide +kernel
theorem dX9_digest_173 : decode cX9_digest 173 = .ok (.goto (-29), 3) := by decide +kernel
theorem dX9_digest_176 : decode cX9_digest 176 = .ok (.aload_n 0, 1) := by decide +kernel
theorem dX9_digest_177 : decode cX9_digest 177 = .ok (.getfield 242, 3) := by decide +kernel
theorem dX9_digest_180 : decode cX9_digest 180 = .ok (.lreturn, 1) := by decide +kernel
