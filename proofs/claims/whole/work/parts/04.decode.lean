theorem dX2_init_0 : decode cX2_init 0 = .ok (.aload_n 0, 1) := by decide +kernel
theorem dX2_init_1 : decode cX2_init 1 = .ok (.invokespecial 3, 3) := by decide +kernel
theorem dX2_init_4 : decode cX2_init 4 = .ok (.aload_n 0, 1) := by decide +kernel
theorem dX2_init_5 : decode cX2_init 5 = .ok (.sipush 150, 3) := by decide +kernel
theorem dX2_init_8 : decode cX2_init 8 = .ok (.newarray .byte, 2) := by decide +kernel
theorem dX2_init_10 : decode cX2_init 10 = .ok (.putfield 9, 3) := by decide +kernel
theorem dX2_init_13 : decode cX2_init 13 = .ok (.aload_n 0, 1) := by decide +kernel
theorem dX2_init_14 : decode cX2_init 14 = .ok (.iconst 0, 1) := by decide +kernel
theorem dX2_init_15 : decode cX2_init 15 = .ok (.putfield 15, 3) := by decide +kernel
theorem dX2_init_18 : decode cX2_init 18 = .ok (.aload_n 0, 1) := by decide +kernel
theorem dX2_init_19 : decode cX2_init 19 = .ok (.iconst 0, 1) := by decide +kernel
theorem dX2_init_20 : decode cX2_init 20 = .ok (.putfield 19, 3) := by decide +kernel
theorem dX2_init_23 : decode cX2_init 23 = .ok (.aload_n 0, 1) := by decide +kernel
theorem dX2_init_24 : decode cX2_init 24 = .ok (.iconst (-1), 1) := by decide +kernel
theorem dX2_init_25 : decode cX2_init 25 = .ok (.putfield 22, 3) := by decide +kernel
theorem dX2_init_28 : decode cX2_init 28 = .ok (.aload_n 0, 1) := by decide +kernel
theorem dX2_init_29 : decode cX2_init 29 = .ok (.getstatic 25, 3) := by decide +kernel
theorem dX2_init_32 : decode cX2_init 32 = .ok (.putfield 31, 3) := by decide +kernel
theorem dX2_init_35 : decode cX2_init 35 = .ok (.aload_n 0, 1) := by decide +kernel
theorem dX2_init_36 : decode cX2_init 36 = .ok (.iconst 4, 1) := by decide +kernel
theorem dX2_init_37 : decode cX2_init 37 = .ok (.newarray .int, 2) := by decide +kernel
theorem dX2_init_39 : decode cX2_init 39 = .ok (.putfield 34, 3) := by decide +kernel
theorem dX2_init_42 : decode cX2_init 42 = .ok (.return_, 1) := by decide +kernel
theorem dX2_append_0 : decode cX2_append 0 = .ok (.aload_n 0, 1) := by decide +kernel
theorem dX2_append_1 : decode cX2_append 1 = .ok (.getfield 15, 3) := by decide +kernel
theorem dX2_append_4 : decode cX2_append 4 = .ok (.sipush 150, 3) := by decide +kernel
theorem dX2_append_7 : decode cX2_append 7 = .ok (.if_icmp .lt 5, 3) := by decide +kernel
theorem dX2_append_10 : decode cX2_append 10 = .ok (.iconst 0, 1) := by decide +kernel
theorem dX2_append_11 : decode cX2_append 11 = .ok (.ireturn, 1) := by decide +kernel
theorem dX2_append_12 : decode cX2_append 12 = .ok (.aload_n 0, 1) := by decide +kernel
theorem dX2_append_13 : decode cX2_append 13 = .ok (.getfield 9, 3) := by decide +kernel
theorem dX2_append_16 : decode cX2_append 16 = .ok (.aload_n 0, 1) := by decide +kernel
theorem dX2_append_17 : decode cX2_append 17 = .ok (.getfield 15, 3) := by decide +kernel
theorem dX2_append_20 : decode cX2_append 20 = .ok (.iload_n 1, 1) := by decide +kernel
theorem dX2_append_21 : decode cX2_append 21 = .ok (.i2b, 1) := by decide +kernel
theorem dX2_append_22 : decode cX2_append 22 = .ok (.bastore, 1) := by decide +kernel
theorem dX2_append_23 : decode cX2_append 23 = .ok (.aload_n 0, 1) := by decide +kernel
theorem dX2_append_24 : decode cX2_append 24 = .ok (.dup, 1) := by decide +kernel
theorem dX2_append_25 : decode cX2_append 25 = .ok (.getfield 15, 3) := by decide +kernel
theorem dX2_append_28 : decode cX2_append 28 = .ok (.iconst 1, 1) := by decide +kernel
theorem dX2_append_29 : decode cX2_append 29 = .ok (.iadd, 1) := by decide +kernel
theorem dX2_append_30 : decode cX2_append 30 = .ok (.putfield 15, 3) := by decide +kernel
theorem dX2_append_33 : decode cX2_append 33 = .ok (.iconst 1, 1) := by decide +kernel
theorem dX2_append_34 : decode cX2_append 34 = .ok (.ireturn, 1) := by decide +kernel
theorem dX2_empty_0 : decode cX2_empty 0 = .ok (.aload_n 0, 1) := by decide +kernel
theorem dX2_empty_1 : decode cX2_empty 1 = .ok (.getfield 15, 3) := by decide +kernel
theorem dX2_empty_4 : decode cX2_empty 4 = .ok (.istore_n 1, 1) := by decide +kernel
theorem dX2_empty_5 : decode cX2_empty 5 = .ok (.aload_n 0, 1) := by decide +kernel
theorem dX2_empty_6 : decode cX2_empty 6 = .ok (.iconst 0, 1) := by decide +kernel
theorem dX2_empty_7 : decode cX2_empty 7 = .ok (.putfield 15, 3) := by decide +kernel
theorem dX2_empty_10 : decode cX2_empty 10 = .ok (.iload_n 1, 1) := by decide +kernel
theorem dX2_empty_11 : decode cX2_empty 11 = .ok (.ireturn, 1) := by decide +kernel
theorem dX2_findFault_0 : decode cX2_findFault 0 = .ok (.aload_n 0, 1) := by decide +kernel
theorem dX2_findFault_1 : decode cX2_findFault 1 = .ok (.invokevirtual 38, 3) := by decide +kernel
theorem dX2_findFault_4 : decode cX2_findFault 4 = .ok (.iconst 1, 1) := by decide +kernel
theorem dX2_findFault_5 : decode cX2_findFault 5 = .ok (.istore_n 1, 1) := by decide +kernel
theorem dX2_findFault_6 : decode cX2_findFault 6 = .ok (.iconst 0, 1) := by decide +kernel
theorem dX2_findFault_7 : decode cX2_findFault 7 = .ok (.istore_n 2, 1) := by decide +kernel
theorem dX2_findFault_8 : decode cX2_findFault 8 = .ok (.iload_n 1, 1) := by decide +kernel
theorem dX2_findFault_9 : decode cX2_findFault 9 = .ok (.ifCond .eq 21, 3) := by decide +kernel
theorem dX2_findFault_12 : decode cX2_findFault 12 = .ok (.iload_n 2, 1) := by decide +kernel
theorem dX2_findFault_13 : decode cX2_findFault 13 = .ok (.sipush 150, 3) := by decide +kernel
theorem dX2_findFault_16 : decode cX2_findFault 16 = .ok (.if_icmp .ge 14, 3) := by decide +kernel
theorem dX2_findFault_19 : decode cX2_findFault 19 = .ok (.aload_n 0, 1) := by decide +kernel
theorem dX2_findFault_20 : decode cX2_findFault 20 = .ok (.invokevirtual 41, 3) := by decide +kernel
theorem dX2_findFault_23 : decode cX2_findFault 23 = .ok (.istore_n 1, 1) := by decide +kernel
theorem dX2_findFault_24 : decode cX2_findFault 24 = .ok (.iinc 2 1, 3) := by decide +kernel
theorem dX2_findFault_27 : decode cX2_findFault 27 = .ok (.goto (-19), 3) := by decide +kernel
theorem dX2_findFault_30 : decode cX2_findFault 30 = .ok (.aload_n 0, 1) := by decide +kernel
theorem dX2_findFault_31 : decode cX2_findFault 31 = .ok (.getfield 22, 3) := by decide +kernel
theorem dX2_findFault_34 : decode cX2_findFault 34 = .ok (.ireturn, 1) := by decide +kernel
theorem dX2_rewind_0 : decode cX2_rewind 0 = .ok (.aload_n 0, 1) := by decide +kernel
theorem dX2_rewind_1 : decode cX2_rewind 1 = .ok (.iconst 0, 1) := by decide +kernel
theorem dX2_rewind_2 : decode cX2_rewind 2 = .ok (.putfield 19, 3) := by decide +kernel
theorem dX2_rewind_5 : decode cX2_rewind 5 = .ok (.aload_n 0, 1) := by decide +kernel
theorem dX2_rewind_6 : decode cX2_rewind 6 = .ok (.iconst (-1), 1) := by decide +kernel
theorem dX2_rewind_7 : decode cX2_rewind 7 = .ok (.putfield 22, 3) := by decide +kernel
theorem dX2_rewind_10 : decode cX2_rewind 10 = .ok (.return_, 1) := by decide +kernel
theorem dX2_readCommand_0 : decode cX2_readCommand 0 = .ok (.aload_n 0, 1) := by decide +kernel
theorem dX2_readCommand_1 : decode cX2_readCommand 1 = .ok (.invokevirtual 45, 3) := by decide +kernel
theorem dX2_readCommand_4 : decode cX2_readCommand 4 = .ok (.aload_n 0, 1) := by decide +kernel
theorem dX2_readCommand_5 : decode cX2_readCommand 5 = .ok (.getfield 19, 3) := by decide +kernel
theorem dX2_readCommand_8 : decode cX2_readCommand 8 = .ok (.aload_n 0, 1) := by decide +kernel
theorem dX2_readCommand_9 : decode cX2_readCommand 9 = .ok (.getfield 15, 3) := by decide +kernel
theorem dX2_readCommand_12 : decode cX2_readCommand 12 = .ok (.if_icmp .ge 10, 3) := by decide +kernel
theorem dX2_readCommand_15 : decode cX2_readCommand 15 = .ok (.aload_n 0, 1) := by decide +kernel
theorem dX2_readCommand_16 : decode cX2_readCommand 16 = .ok (.invokevirtual 48, 3) := by decide +kernel
theorem dX2_readCommand_19 : decode cX2_readCommand 19 = .ok (.ifCond .ne 5, 3) := by decide +kernel
theorem dX2_readCommand_22 : decode cX2_readCommand 22 = .ok (.iconst 0, 1) := by decide +kernel
theorem dX2_readCommand_23 : decode cX2_readCommand 23 = .ok (.ireturn, 1) := by decide +kernel
theorem dX2_readCommand_24 : decode cX2_readCommand 24 = .ok (.iconst 0, 1) := by decide +kernel
theorem dX2_readCommand_25 : decode cX2_readCommand 25 = .ok (.istore_n 1, 1) := by decide +kernel
theorem dX2_readCommand_26 : decode cX2_readCommand 26 = .ok (.iload_n 1, 1) := by decide +kernel
theorem dX2_readCommand_27 : decode cX2_readCommand 27 = .ok (.aload_n 0, 1) := by decide +kernel
theorem dX2_readCommand_28 : decode cX2_readCommand 28 = .ok (.getfield 31, 3) := by decide +kernel
theorem dX2_readCommand_31 : decode cX2_readCommand 31 = .ok (.getfield 51, 3) := by decide +kernel
theorem dX2_readCommand_34 : decode cX2_readCommand 34 = .ok (.if_icmp .ge 19, 3) := by decide +kernel
theorem dX2_readCommand_37 : decode cX2_readCommand 37 = .ok (.aload_n 0, 1) := by decide +kernel
theorem dX2_readCommand_38 : decode cX2_readCommand 38 = .ok (.iload_n 1, 1) := by decide +kernel
theorem dX2_readCommand_39 : decode cX2_readCommand 39 = .ok (.invokevirtual 54, 3) := by decide +kernel
theorem dX2_readCommand_42 : decode cX2_readCommand 42 = .ok (.ifCond .ne 5, 3) := by decide +kernel
theorem dX2_readCommand_45 : decode cX2_readCommand 45 = .ok (.iconst 0, 1) := by decide +kernel
theorem dX2_readCommand_46 : decode cX2_readCommand 46 = .ok (.ireturn, 1) := by decide +kernel
theorem dX2_readCommand_47 : decode cX2_readCommand 47 = .ok (.iinc 1 1, 3) := by decide +kernel
theorem dX2_readCommand_50 : decode cX2_readCommand 50 = .ok (.goto (-24), 3) := by decide +kernel
theorem dX2_readCommand_53 : decode cX2_readCommand 53 = .ok (.aload_n 0, 1) := by decide +kernel
theorem dX2_readCommand_54 : decode cX2_readCommand 54 = .ok (.invokevirtual 45, 3) := by decide +kernel
theorem dX2_readCommand_57 : decode cX2_readCommand 57 = .ok (.aload_n 0, 1) := by decide +kernel
theorem dX2_readCommand_58 : decode cX2_readCommand 58 = .ok (.invokevirtual 58, 3) := by decide +kernel
theorem dX2_readCommand_61 : decode cX2_readCommand 61 = .ok (.bipush 59, 2) := by decide +kernel
theorem dX2_readCommand_63 : decode cX2_readCommand 63 = .ok (.if_icmp .eq 13, 3) := by decide +kernel
theorem dX2_readCommand_66 : decode cX2_readCommand 66 = .ok (.aload_n 0, 1) := by decide +kernel
theorem dX2_readCommand_67 : decode cX2_readCommand 67 = .ok (.aload_n 0, 1) := by decide +kernel
theorem dX2_readCommand_68 : decode cX2_readCommand 68 = .ok (.getfield 19, 3) := by decide +kernel
theorem dX2_readCommand_71 : decode cX2_readCommand 71 = .ok (.putfield 22, 3) := by decide +kernel
theorem dX2_readCommand_74 : decode cX2_readCommand 74 = .ok (.iconst 0, 1) := by decide +kernel
theorem dX2_readCommand_75 : decode cX2_readCommand 75 = .ok (.ireturn, 1) := by decide +kernel
theorem dX2_readCommand_76 : decode cX2_readCommand 76 = .ok (.aload_n 0, 1) := by decide +kernel
theorem dX2_readCommand_77 : decode cX2_readCommand 77 = .ok (.dup, 1) := by decide +kernel
theorem dX2_readCommand_78 : decode cX2_readCommand 78 = .ok (.getfield 19, 3) := by decide +kernel
theorem dX2_readCommand_81 : decode cX2_readCommand 81 = .ok (.iconst 1, 1) := by decide +kernel
theorem dX2_readCommand_82 : decode cX2_readCommand 82 = .ok (.iadd, 1) := by decide +kernel
theorem dX2_readCommand_83 : decode cX2_readCommand 83 = .ok (.putfield 19, 3) := by decide +kernel
theorem dX2_readCommand_86 : decode cX2_readCommand 86 = .ok (.iconst 1, 1) := by decide +kernel
theorem dX2_readCommand_87 : decode cX2_readCommand 87 = .ok (.ireturn, 1) := by decide +kernel
theorem dX2_readWord_0 : decode cX2_readWord 0 = .ok (.aload_n 0, 1) := by decide +kernel
theorem dX2_readWord_1 : decode cX2_readWord 1 = .ok (.getfield 19, 3) := by decide +kernel
theorem dX2_readWord_4 : decode cX2_readWord 4 = .ok (.istore_n 1, 1) := by decide +kernel
theorem dX2_readWord_5 : decode cX2_readWord 5 = .ok (.aload_n 0, 1) := by decide +kernel
theorem dX2_readWord_6 : decode cX2_readWord 6 = .ok (.getfield 19, 3) := by decide +kernel
theorem dX2_readWord_9 : decode cX2_readWord 9 = .ok (.aload_n 0, 1) := by decide +kernel
theorem dX2_readWord_10 : decode cX2_readWord 10 = .ok (.getfield 15, 3) := by decide +kernel
theorem dX2_readWord_13 : decode cX2_readWord 13 = .ok (.if_icmp .ge 44, 3) := by decide +kernel
theorem dX2_readWord_16 : decode cX2_readWord 16 = .ok (.aload_n 0, 1) := by decide +kernel
theorem dX2_readWord_17 : decode cX2_readWord 17 = .ok (.getfield 9, 3) := by decide +kernel
theorem dX2_readWord_20 : decode cX2_readWord 20 = .ok (.aload_n 0, 1) := by decide +kernel
theorem dX2_readWord_21 : decode cX2_readWord 21 = .ok (.getfield 19, 3) := by decide +kernel
theorem dX2_readWord_24 : decode cX2_readWord 24 = .ok (.baload, 1) := by decide +kernel
theorem dX2_readWord_25 : decode cX2_readWord 25 = .ok (.bipush 97, 2) := by decide +kernel
theorem dX2_readWord_27 : decode cX2_readWord 27 = .ok (.if_icmp .lt 30, 3) := by decide +kernel
theorem dX2_readWord_30 : decode cX2_readWord 30 = .ok (.aload_n 0, 1) := by decide +kernel
theorem dX2_readWord_31 : decode cX2_readWord 31 = .ok (.getfield 9, 3) := by decide +kernel
theorem dX2_readWord_34 : decode cX2_readWord 34 = .ok (.aload_n 0, 1) := by decide +kernel
theorem dX2_readWord_35 : decode cX2_readWord 35 = .ok (.getfield 19, 3) := by decide +kernel
theorem dX2_readWord_38 : decode cX2_readWord 38 = .ok (.baload, 1) := by decide +kernel
theorem dX2_readWord_39 : decode cX2_readWord 39 = .ok (.bipush 122, 2) := by decide +kernel
theorem dX2_readWord_41 : decode cX2_readWord 41 = .ok (.if_icmp .gt 16, 3) := by decide +kernel
theorem dX2_readWord_44 : decode cX2_readWord 44 = .ok (.aload_n 0, 1) := by decide +kernel
theorem dX2_readWord_45 : decode cX2_readWord 45 = .ok (.dup, 1) := by decide +kernel
theorem dX2_readWord_46 : decode cX2_readWord 46 = .ok (.getfield 19, 3) := by decide +kernel
theorem dX2_readWord_49 : decode cX2_readWord 49 = .ok (.iconst 1, 1) := by decide +kernel
theorem dX2_readWord_50 : decode cX2_readWord 50 = .ok (.iadd, 1) := by decide +kernel
theorem dX2_readWord_51 : decode cX2_readWord 51 = .ok (.putfield 19, 3) := by decide +kernel
theorem dX2_readWord_54 : decode cX2_readWord 54 = .ok (.goto (-49), 3) := by decide +kernel
theorem dX2_readWord_57 : decode cX2_readWord 57 = .ok (.iconst 0, 1) := by decide +kernel
theorem dX2_readWord_58 : decode cX2_readWord 58 = .ok (.istore_n 2, 1) := by decide +kernel
theorem dX2_readWord_59 : decode cX2_readWord 59 = .ok (.iload_n 2, 1) := by decide +kernel
theorem dX2_readWord_60 : decode cX2_readWord 60 = .ok (.getstatic 62, 3) := by decide +kernel
theorem dX2_readWord_63 : decode cX2_readWord 63 = .ok (.arraylength, 1) := by decide +kernel
theorem dX2_readWord_64 : decode cX2_readWord 64 = .ok (.if_icmp .ge 36, 3) := by decide +kernel
theorem dX2_readWord_67 : decode cX2_readWord 67 = .ok (.aload_n 0, 1) := by decide +kernel
theorem dX2_readWord_68 : decode cX2_readWord 68 = .ok (.getstatic 62, 3) := by decide +kernel
theorem dX2_readWord_71 : decode cX2_readWord 71 = .ok (.iload_n 2, 1) := by decide +kernel
theorem dX2_readWord_72 : decode cX2_readWord 72 = .ok (.aaload, 1) := by decide +kernel
theorem dX2_readWord_73 : decode cX2_readWord 73 = .ok (.getfield 66, 3) := by decide +kernel
theorem dX2_readWord_76 : decode cX2_readWord 76 = .ok (.iload_n 1, 1) := by decide +kernel
theorem dX2_readWord_77 : decode cX2_readWord 77 = .ok (.invokevirtual 70, 3) := by decide +kernel
theorem dX2_readWord_80 : decode cX2_readWord 80 = .ok (.ifCond .eq 14, 3) := by decide +kernel
theorem dX2_readWord_83 : decode cX2_readWord 83 = .ok (.aload_n 0, 1) := by decide +kernel
theorem dX2_readWord_84 : decode cX2_readWord 84 = .ok (.getstatic 62, 3) := by decide +kernel
theorem dX2_readWord_87 : decode cX2_readWord 87 = .ok (.iload_n 2, 1) := by decide +kernel
theorem dX2_readWord_88 : decode cX2_readWord 88 = .ok (.aaload, 1) := by decide +kernel
theorem dX2_readWord_89 : decode cX2_readWord 89 = .ok (.putfield 31, 3) := by decide +kernel
theorem dX2_readWord_92 : decode cX2_readWord 92 = .ok (.iconst 1, 1) := by decide +kernel
theorem dX2_readWord_93 : decode cX2_readWord 93 = .ok (.ireturn, 1) := by decide +kernel
theorem dX2_readWord_94 : decode cX2_readWord 94 = .ok (.iinc 2 1, 3) := by decide +kernel
theorem dX2_readWord_97 : decode cX2_readWord 97 = .ok (.goto (-38), 3) := by decide +kernel
theorem dX2_readWord_100 : decode cX2_readWord 100 = .ok (.aload_n 0, 1) := by decide +kernel
theorem dX2_readWord_101 : decode cX2_readWord 101 = .ok (.iload_n 1, 1) := by decide +kernel
theorem dX2_readWord_102 : decode cX2_readWord 102 = .ok (.putfield 22, 3) := by decide +kernel
theorem dX2_readWord_105 : decode cX2_readWord 105 = .ok (.iconst 0, 1) := by decide +kernel
theorem dX2_readWord_106 : decode cX2_readWord 106 = .ok (.ireturn, 1) := by decide +kernel
theorem dX2_isWord_0 : decode cX2_isWord 0 = .ok (.aload_n 1, 1) := by decide +kernel
theorem dX2_isWord_1 : decode cX2_isWord 1 = .ok (.invokevirtual 74, 3) := by decide +kernel
theorem dX2_isWord_4 : decode cX2_isWord 4 = .ok (.aload_n 0, 1) := by decide +kernel
theorem dX2_isWord_5 : decode cX2_isWord 5 = .ok (.getfield 19, 3) := by decide +kernel
theorem dX2_isWord_8 : decode cX2_isWord 8 = .ok (.iload_n 2, 1) := by decide +kernel
theorem dX2_isWord_9 : decode cX2_isWord 9 = .ok (.isub, 1) := by decide +kernel
theorem dX2_isWord_10 : decode cX2_isWord 10 = .ok (.if_icmp .eq 5, 3) := by decide +kernel
theorem dX2_isWord_13 : decode cX2_isWord 13 = .ok (.iconst 0, 1) := by decide +kernel
theorem dX2_isWord_14 : decode cX2_isWord 14 = .ok (.ireturn, 1) := by decide +kernel
theorem dX2_isWord_15 : decode cX2_isWord 15 = .ok (.iconst 0, 1) := by decide +kernel
theorem dX2_isWord_16 : decode cX2_isWord 16 = .ok (.istore_n 3, 1) := by decide +kernel
theorem dX2_isWord_17 : decode cX2_isWord 17 = .ok (.iload_n 3, 1) := by decide +kernel
theorem dX2_isWord_18 : decode cX2_isWord 18 = .ok (.aload_n 1, 1) := by decide +kernel
theorem dX2_isWord_19 : decode cX2_isWord 19 = .ok (.invokevirtual 74, 3) := by decide +kernel
theorem dX2_isWord_22 : decode cX2_isWord 22 = .ok (.if_icmp .ge 27, 3) := by decide +kernel
theorem dX2_isWord_25 : decode cX2_isWord 25 = .ok (.aload_n 0, 1) := by decide +kernel
theorem dX2_isWord_26 : decode cX2_isWord 26 = .ok (.getfield 9, 3) := by decide +kernel
theorem dX2_isWord_29 : decode cX2_isWord 29 = .ok (.iload_n 2, 1) := by decide +kernel
theorem dX2_isWord_30 : decode cX2_isWord 30 = .ok (.iload_n 3, 1) := by decide +kernel
theorem dX2_isWord_31 : decode cX2_isWord 31 = .ok (.iadd, 1) := by decide +kernel
theorem dX2_isWord_32 : decode cX2_isWord 32 = .ok (.baload, 1) := by decide +kernel
theorem dX2_isWord_33 : decode cX2_isWord 33 = .ok (.aload_n 1, 1) := by decide +kernel
theorem dX2_isWord_34 : decode cX2_isWord 34 = .ok (.iload_n 3, 1) := by decide +kernel
theorem dX2_isWord_35 : decode cX2_isWord 35 = .ok (.invokevirtual 78, 3) := by decide +kernel
theorem dX2_isWord_38 : decode cX2_isWord 38 = .ok (.if_icmp .eq 5, 3) := by decide +kernel
theorem dX2_isWord_41 : decode cX2_isWord 41 = .ok (.iconst 0, 1) := by decide +kernel
theorem dX2_isWord_42 : decode cX2_isWord 42 = .ok (.ireturn, 1) := by decide +kernel
theorem dX2_isWord_43 : decode cX2_isWord 43 = .ok (.iinc 3 1, 3) := by decide +kernel
theorem dX2_isWord_46 : decode cX2_isWord 46 = .ok (.goto (-29), 3) := by decide +kernel
theorem dX2_isWord_49 : decode cX2_isWord 49 = .ok (.iconst 1, 1) := by decide +kernel
theorem dX2_isWord_50 : decode cX2_isWord 50 = .ok (.ireturn, 1) := by decide +kernel
theorem dX2_readNumber_0 : decode cX2_readNumber 0 = .ok (.aload_n 0, 1) := by decide +kernel
theorem dX2_readNumber_1 : decode cX2_readNumber 1 = .ok (.getfield 19, 3) := by decide +kernel
theorem dX2_readNumber_4 : decode cX2_readNumber 4 = .ok (.istore_n 2, 1) := by decide +kernel
theorem dX2_readNumber_5 : decode cX2_readNumber 5 = .ok (.aload_n 0, 1) := by decide +kernel
theorem dX2_readNumber_6 : decode cX2_readNumber 6 = .ok (.invokevirtual 45, 3) := by decide +kernel
theorem dX2_readNumber_9 : decode cX2_readNumber 9 = .ok (.aload_n 0, 1) := by decide +kernel
theorem dX2_readNumber_10 : decode cX2_readNumber 10 = .ok (.getfield 19, 3) := by decide +kernel
theorem dX2_readNumber_13 : decode cX2_readNumber 13 = .ok (.iload_n 2, 1) := by decide +kernel
theorem dX2_readNumber_14 : decode cX2_readNumber 14 = .ok (.if_icmp .eq 15, 3) := by decide +kernel
theorem dX2_readNumber_17 : decode cX2_readNumber 17 = .ok (.aload_n 0, 1) := by decide +kernel
theorem dX2_readNumber_18 : decode cX2_readNumber 18 = .ok (.invokevirtual 82, 3) := by decide +kernel
theorem dX2_readNumber_21 : decode cX2_readNumber 21 = .ok (.ifCond .eq 8, 3) := by decide +kernel
theorem dX2_readNumber_24 : decode cX2_readNumber 24 = .ok (.iload_n 1, 1) := by decide +kernel
theorem dX2_readNumber_25 : decode cX2_readNumber 25 = .ok (.iconst 4, 1) := by decide +kernel
theorem dX2_readNumber_26 : decode cX2_readNumber 26 = .ok (.if_icmp .lt 13, 3) := by decide +kernel
theorem dX2_readNumber_29 : decode cX2_readNumber 29 = .ok (.aload_n 0, 1) := by decide +kernel
theorem dX2_readNumber_30 : decode cX2_readNumber 30 = .ok (.aload_n 0, 1) := by decide +kernel
theorem dX2_readNumber_31 : decode cX2_readNumber 31 = .ok (.getfield 19, 3) := by decide +kernel
theorem dX2_readNumber_34 : decode cX2_readNumber 34 = .ok (.putfield 22, 3) := by decide +kernel
theorem dX2_readNumber_37 : decode cX2_readNumber 37 = .ok (.iconst 0, 1) := by decide +kernel
theorem dX2_readNumber_38 : decode cX2_readNumber 38 = .ok (.ireturn, 1) := by decide +kernel
theorem dX2_readNumber_39 : decode cX2_readNumber 39 = .ok (.iconst 0, 1) := by decide +kernel
theorem dX2_readNumber_40 : decode cX2_readNumber 40 = .ok (.istore_n 3, 1) := by decide +kernel
theorem dX2_readNumber_41 : decode cX2_readNumber 41 = .ok (.iconst 0, 1) := by decide +kernel
theorem dX2_readNumber_42 : decode cX2_readNumber 42 = .ok (.istore 4, 2) := by decide +kernel
theorem dX2_readNumber_44 : decode cX2_readNumber 44 = .ok (.iload 4, 2) := by decide +kernel
theorem dX2_readNumber_46 : decode cX2_readNumber 46 = .ok (.iconst 3, 1) := by decide +kernel
theorem dX2_readNumber_47 : decode cX2_readNumber 47 = .ok (.if_icmp .ge 39, 3) := by decide +kernel
theorem dX2_readNumber_50 : decode cX2_readNumber 50 = .ok (.aload_n 0, 1) := by decide +kernel
theorem dX2_readNumber_51 : decode cX2_readNumber 51 = .ok (.invokevirtual 82, 3) := by decide +kernel
theorem dX2_readNumber_54 : decode cX2_readNumber 54 = .ok (.ifCond .eq 32, 3) := by decide +kernel
theorem dX2_readNumber_57 : decode cX2_readNumber 57 = .ok (.bipush 10, 2) := by decide +kernel
theorem dX2_readNumber_59 : decode cX2_readNumber 59 = .ok (.iload_n 3, 1) := by decide +kernel
theorem dX2_readNumber_60 : decode cX2_readNumber 60 = .ok (.imul, 1) := by decide +kernel
theorem dX2_readNumber_61 : decode cX2_readNumber 61 = .ok (.aload_n 0, 1) := by decide +kernel
theorem dX2_readNumber_62 : decode cX2_readNumber 62 = .ok (.invokevirtual 58, 3) := by decide +kernel
theorem dX2_readNumber_65 : decode cX2_readNumber 65 = .ok (.iadd, 1) := by decide +kernel
theorem dX2_readNumber_66 : decode cX2_readNumber 66 = .ok (.bipush 48, 2) := by decide +kernel
theorem dX2_readNumber_68 : decode cX2_readNumber 68 = .ok (.isub, 1) := by decide +kernel
theorem dX2_readNumber_69 : decode cX2_readNumber 69 = .ok (.istore_n 3, 1) := by decide +kernel
theorem dX2_readNumber_70 : decode cX2_readNumber 70 = .ok (.aload_n 0, 1) := by decide +kernel
theorem dX2_readNumber_71 : decode cX2_readNumber 71 = .ok (.dup, 1) := by decide +kernel
theorem dX2_readNumber_72 : decode cX2_readNumber 72 = .ok (.getfield 19, 3) := by decide +kernel
theorem dX2_readNumber_75 : decode cX2_readNumber 75 = .ok (.iconst 1, 1) := by decide +kernel
theorem dX2_readNumber_76 : decode cX2_readNumber 76 = .ok (.iadd, 1) := by decide +kernel
theorem dX2_readNumber_77 : decode cX2_readNumber 77 = .ok (.putfield 19, 3) := by decide +kernel
theorem dX2_readNumber_80 : decode cX2_readNumber 80 = .ok (.iinc 4 1, 3) := by decide +kernel
theorem dX2_readNumber_83 : decode cX2_readNumber 83 = .ok (.goto (-39), 3) := by decide +kernel
theorem dX2_readNumber_86 : decode cX2_readNumber 86 = .ok (.aload_n 0, 1) := by decide +kernel
theorem dX2_readNumber_87 : decode cX2_readNumber 87 = .ok (.getfield 34, 3) := by decide +kernel
theorem dX2_readNumber_90 : decode cX2_readNumber 90 = .ok (.iload_n 1, 1) := by decide +kernel
theorem dX2_readNumber_91 : decode cX2_readNumber 91 = .ok (.iload_n 3, 1) := by decide +kernel
theorem dX2_readNumber_92 : decode cX2_readNumber 92 = .ok (.iastore, 1) := by decide +kernel
theorem dX2_readNumber_93 : decode cX2_readNumber 93 = .ok (.iconst 1, 1) := by decide +kernel
theorem dX2_readNumber_94 : decode cX2_readNumber 94 = .ok (.ireturn, 1) := by decide +kernel
theorem dX2_skipSpaces_0 : decode cX2_skipSpaces 0 = .ok (.aload_n 0, 1) := by decide +kernel
theorem dX2_skipSpaces_1 : decode cX2_skipSpaces 1 = .ok (.getfield 19, 3) := by decide +kernel
theorem dX2_skipSpaces_4 : decode cX2_skipSpaces 4 = .ok (.aload_n 0, 1) := by decide +kernel
theorem dX2_skipSpaces_5 : decode cX2_skipSpaces 5 = .ok (.getfield 15, 3) := by decide +kernel
theorem dX2_skipSpaces_8 : decode cX2_skipSpaces 8 = .ok (.if_icmp .ge 30, 3) := by decide +kernel
theorem dX2_skipSpaces_11 : decode cX2_skipSpaces 11 = .ok (.aload_n 0, 1) := by decide +kernel
theorem dX2_skipSpaces_12 : decode cX2_skipSpaces 12 = .ok (.getfield 9, 3) := by decide +kernel
theorem dX2_skipSpaces_15 : decode cX2_skipSpaces 15 = .ok (.aload_n 0, 1) := by decide +kernel
theorem dX2_skipSpaces_16 : decode cX2_skipSpaces 16 = .ok (.getfield 19, 3) := by decide +kernel
theorem dX2_skipSpaces_19 : decode cX2_skipSpaces 19 = .ok (.baload, 1) := by decide +kernel
theorem dX2_skipSpaces_20 : decode cX2_skipSpaces 20 = .ok (.bipush 32, 2) := by decide +kernel
theorem dX2_skipSpaces_22 : decode cX2_skipSpaces 22 = .ok (.if_icmp .ne 16, 3) := by decide +kernel
theorem dX2_skipSpaces_25 : decode cX2_skipSpaces 25 = .ok (.aload_n 0, 1) := by decide +kernel
theorem dX2_skipSpaces_26 : decode cX2_skipSpaces 26 = .ok (.dup, 1) := by decide +kernel
theorem dX2_skipSpaces_27 : decode cX2_skipSpaces 27 = .ok (.getfield 19, 3) := by decide +kernel
theorem dX2_skipSpaces_30 : decode cX2_skipSpaces 30 = .ok (.iconst 1, 1) := by decide +kernel
theorem dX2_skipSpaces_31 : decode cX2_skipSpaces 31 = .ok (.iadd, 1) := by decide +kernel
theorem dX2_skipSpaces_32 : decode cX2_skipSpaces 32 = .ok (.putfield 19, 3) := by decide +kernel
theorem dX2_skipSpaces_35 : decode cX2_skipSpaces 35 = .ok (.goto (-35), 3) := by decide +kernel
theorem dX2_skipSpaces_38 : decode cX2_skipSpaces 38 = .ok (.return_, 1) := by decide +kernel
theorem dX2_isDigitHere_0 : decode cX2_isDigitHere 0 = .ok (.aload_n 0, 1) := by decide +kernel
theorem dX2_isDigitHere_1 : decode cX2_isDigitHere 1 = .ok (.invokevirtual 58, 3) := by decide +kernel
theorem dX2_isDigitHere_4 : decode cX2_isDigitHere 4 = .ok (.bipush 48, 2) := by decide +kernel
theorem dX2_isDigitHere_6 : decode cX2_isDigitHere 6 = .ok (.if_icmp .lt 16, 3) := by decide +kernel
theorem dX2_isDigitHere_9 : decode cX2_isDigitHere 9 = .ok (.aload_n 0, 1) := by decide +kernel
theorem dX2_isDigitHere_10 : decode cX2_isDigitHere 10 = .ok (.invokevirtual 58, 3) := by decide +kernel
theorem dX2_isDigitHere_13 : decode cX2_isDigitHere 13 = .ok (.bipush 57, 2) := by decide +kernel
theorem dX2_isDigitHere_15 : decode cX2_isDigitHere 15 = .ok (.if_icmp .gt 7, 3) := by decide +kernel
theorem dX2_isDigitHere_18 : decode cX2_isDigitHere 18 = .ok (.iconst 1, 1) := by decide +kernel
theorem dX2_isDigitHere_19 : decode cX2_isDigitHere 19 = .ok (.goto 4, 3) := by decide +kernel
theorem dX2_isDigitHere_22 : decode cX2_isDigitHere 22 = .ok (.iconst 0, 1) := by decide +kernel
theorem dX2_isDigitHere_23 : decode cX2_isDigitHere 23 = .ok (.ireturn, 1) := by decide +kernel
theorem dX2_byteHere_0 : decode cX2_byteHere 0 = .ok (.aload_n 0, 1) := by decide +kernel
theorem dX2_byteHere_1 : decode cX2_byteHere 1 = .ok (.getfield 19, 3) := by decide +kernel
theorem dX2_byteHere_4 : decode cX2_byteHere 4 = .ok (.aload_n 0, 1) := by decide +kernel
theorem dX2_byteHere_5 : decode cX2_byteHere 5 = .ok (.getfield 15, 3) := by decide +kernel
theorem dX2_byteHere_8 : decode cX2_byteHere 8 = .ok (.if_icmp .ge 15, 3) := by decide +kernel
theorem dX2_byteHere_11 : decode cX2_byteHere 11 = .ok (.aload_n 0, 1) := by decide +kernel
theorem dX2_byteHere_12 : decode cX2_byteHere 12 = .ok (.getfield 9, 3) := by decide +kernel
theorem dX2_byteHere_15 : decode cX2_byteHere 15 = .ok (.aload_n 0, 1) := by decide +kernel
theorem dX2_byteHere_16 : decode cX2_byteHere 16 = .ok (.getfield 19, 3) := by decide +kernel
theorem dX2_byteHere_19 : decode cX2_byteHere 19 = .ok (.baload, 1) := by decide +kernel
theorem dX2_byteHere_20 : decode cX2_byteHere 20 = .ok (.goto 4, 3) := by decide +kernel
theorem dX2_byteHere_23 : decode cX2_byteHere 23 = .ok (.iconst (-1), 1) := by decide +kernel
theorem dX2_byteHere_24 : decode cX2_byteHere 24 = .ok (.ireturn, 1) := by decide +kernel
theorem dX3_init_0 : decode cX3_init 0 = .ok (.aload_n 0, 1) := by decide +kernel
theorem dX3_init_1 : decode cX3_init 1 = .ok (.invokespecial 3, 3) := by decide +kernel
theorem dX3_init_4 : decode cX3_init 4 = .ok (.aload_n 0, 1) := by decide +kernel
theorem dX3_init_5 : decode cX3_init 5 = .ok (.bipush 20, 2) := by decide +kernel
theorem dX3_init_7 : decode cX3_init 7 = .ok (.newarray .int, 2) := by decide +kernel
theorem dX3_init_9 : decode cX3_init 9 = .ok (.putfield 9, 3) := by decide +kernel
theorem dX3_init_12 : decode cX3_init 12 = .ok (.aload_n 0, 1) := by decide +kernel
theorem dX3_init_13 : decode cX3_init 13 = .ok (.bipush 20, 2) := by decide +kernel
theorem dX3_init_15 : decode cX3_init 15 = .ok (.newarray .int, 2) := by decide +kernel
theorem dX3_init_17 : decode cX3_init 17 = .ok (.putfield 15, 3) := by decide +kernel
theorem dX3_init_20 : decode cX3_init 20 = .ok (.aload_n 0, 1) := by decide +kernel
theorem dX3_init_21 : decode cX3_init 21 = .ok (.bipush 20, 2) := by decide +kernel
theorem dX3_init_23 : decode cX3_init 23 = .ok (.newarray .int, 2) := by decide +kernel
theorem dX3_init_25 : decode cX3_init 25 = .ok (.putfield 18, 3) := by decide +kernel
theorem dX3_init_28 : decode cX3_init 28 = .ok (.aload_n 0, 1) := by decide +kernel
theorem dX3_init_29 : decode cX3_init 29 = .ok (.iconst 0, 1) := by decide +kernel
theorem dX3_init_30 : decode cX3_init 30 = .ok (.putfield 21, 3) := by decide +kernel
theorem dX3_init_33 : decode cX3_init 33 = .ok (.aload_n 0, 1) := by decide +kernel
theorem dX3_init_34 : decode cX3_init 34 = .ok (.iconst 0, 1) := by decide +kernel
theorem dX3_init_35 : decode cX3_init 35 = .ok (.putfield 25, 3) := by decide +kernel
theorem dX3_init_38 : decode cX3_init 38 = .ok (.return_, 1) := by decide +kernel
theorem dX3_copyFrom_0 : decode cX3_copyFrom 0 = .ok (.aload_n 1, 1) := by decide +kernel
theorem dX3_copyFrom_1 : decode cX3_copyFrom 1 = .ok (.getfield 9, 3) := by decide +kernel
theorem dX3_copyFrom_4 : decode cX3_copyFrom 4 = .ok (.iconst 0, 1) := by decide +kernel
theorem dX3_copyFrom_5 : decode cX3_copyFrom 5 = .ok (.aload_n 0, 1) := by decide +kernel
theorem dX3_copyFrom_6 : decode cX3_copyFrom 6 = .ok (.getfield 9, 3) := by decide +kernel
theorem dX3_copyFrom_9 : decode cX3_copyFrom 9 = .ok (.iconst 0, 1) := by decide +kernel
theorem dX3_copyFrom_10 : decode cX3_copyFrom 10 = .ok (.bipush 20, 2) := by decide +kernel
theorem dX3_copyFrom_12 : decode cX3_copyFrom 12 = .ok (.invokestatic 28, 3) := by decide +kernel
theorem dX3_copyFrom_15 : decode cX3_copyFrom 15 = .ok (.aload_n 1, 1) := by decide +kernel
theorem dX3_copyFrom_16 : decode cX3_copyFrom 16 = .ok (.getfield 15, 3) := by decide +kernel
theorem dX3_copyFrom_19 : decode cX3_copyFrom 19 = .ok (.iconst 0, 1) := by decide +kernel
theorem dX3_copyFrom_20 : decode cX3_copyFrom 20 = .ok (.aload_n 0, 1) := by decide +kernel
theorem dX3_copyFrom_21 : decode cX3_copyFrom 21 = .ok (.getfield 15, 3) := by decide +kernel
theorem dX3_copyFrom_24 : decode cX3_copyFrom 24 = .ok (.iconst 0, 1) := by decide +kernel
theorem dX3_copyFrom_25 : decode cX3_copyFrom 25 = .ok (.bipush 20, 2) := by decide +kernel
theorem dX3_copyFrom_27 : decode cX3_copyFrom 27 = .ok (.invokestatic 28, 3) := by decide +kernel
theorem dX3_copyFrom_30 : decode cX3_copyFrom 30 = .ok (.aload_n 1, 1) := by decide +kernel
theorem dX3_copyFrom_31 : decode cX3_copyFrom 31 = .ok (.getfield 18, 3) := by decide +kernel
theorem dX3_copyFrom_34 : decode cX3_copyFrom 34 = .ok (.iconst 0, 1) := by decide +kernel
theorem dX3_copyFrom_35 : decode cX3_copyFrom 35 = .ok (.aload_n 0, 1) := by decide +kernel
theorem dX3_copyFrom_36 : decode cX3_copyFrom 36 = .ok (.getfield 18, 3) := by decide +kernel
theorem dX3_copyFrom_39 : decode cX3_copyFrom 39 = .ok (.iconst 0, 1) := by decide +kernel
theorem dX3_copyFrom_40 : decode cX3_copyFrom 40 = .ok (.bipush 20, 2) := by decide +kernel
theorem dX3_copyFrom_42 : decode cX3_copyFrom 42 = .ok (.invokestatic 28, 3) := by decide +kernel
theorem dX3_copyFrom_45 : decode cX3_copyFrom 45 = .ok (.aload_n 0, 1) := by decide +kernel
theorem dX3_copyFrom_46 : decode cX3_copyFrom 46 = .ok (.aload_n 1, 1) := by decide +kernel
theorem dX3_copyFrom_47 : decode cX3_copyFrom 47 = .ok (.getfield 21, 3) := by decide +kernel
theorem dX3_copyFrom_50 : decode cX3_copyFrom 50 = .ok (.putfield 21, 3) := by decide +kernel
theorem dX3_copyFrom_53 : decode cX3_copyFrom 53 = .ok (.aload_n 0, 1) := by decide +kernel
theorem dX3_copyFrom_54 : decode cX3_copyFrom 54 = .ok (.aload_n 1, 1) := by decide +kernel
theorem dX3_copyFrom_55 : decode cX3_copyFrom 55 = .ok (.getfield 25, 3) := by decide +kernel
theorem dX3_copyFrom_58 : decode cX3_copyFrom 58 = .ok (.putfield 25, 3) := by decide +kernel
theorem dX3_copyFrom_61 : decode cX3_copyFrom 61 = .ok (.return_, 1) := by decide +kernel
theorem dX3_add_0 : decode cX3_add 0 = .ok (.aload_n 0, 1) := by decide +kernel
theorem dX3_add_1 : decode cX3_add 1 = .ok (.getfield 9, 3) := by decide +kernel
theorem dX3_add_4 : decode cX3_add 4 = .ok (.aload_n 0, 1) := by decide +kernel
theorem dX3_add_5 : decode cX3_add 5 = .ok (.getfield 21, 3) := by decide +kernel
theorem dX3_add_8 : decode cX3_add 8 = .ok (.iload_n 1, 1) := by decide +kernel
theorem dX3_add_9 : decode cX3_add 9 = .ok (.iastore, 1) := by decide +kernel
theorem dX3_add_10 : decode cX3_add 10 = .ok (.aload_n 0, 1) := by decide +kernel
theorem dX3_add_11 : decode cX3_add 11 = .ok (.getfield 15, 3) := by decide +kernel
theorem dX3_add_14 : decode cX3_add 14 = .ok (.aload_n 0, 1) := by decide +kernel
theorem dX3_add_15 : decode cX3_add 15 = .ok (.getfield 21, 3) := by decide +kernel
theorem dX3_add_18 : decode cX3_add 18 = .ok (.iload_n 2, 1) := by decide +kernel
theorem dX3_add_19 : decode cX3_add 19 = .ok (.iastore, 1) := by decide +kernel
theorem dX3_add_20 : decode cX3_add 20 = .ok (.aload_n 0, 1) := by decide +kernel
theorem dX3_add_21 : decode cX3_add 21 = .ok (.getfield 18, 3) := by decide +kernel
theorem dX3_add_24 : decode cX3_add 24 = .ok (.aload_n 0, 1) := by decide +kernel
theorem dX3_add_25 : decode cX3_add 25 = .ok (.getfield 21, 3) := by decide +kernel
theorem dX3_add_28 : decode cX3_add 28 = .ok (.iload_n 3, 1) := by decide +kernel
theorem dX3_add_29 : decode cX3_add 29 = .ok (.iastore, 1) := by decide +kernel
theorem dX3_add_30 : decode cX3_add 30 = .ok (.aload_n 0, 1) := by decide +kernel
theorem dX3_add_31 : decode cX3_add 31 = .ok (.aload_n 0, 1) := by decide +kernel
theorem dX3_add_32 : decode cX3_add 32 = .ok (.getfield 21, 3) := by decide +kernel
theorem dX3_add_35 : decode cX3_add 35 = .ok (.iconst 1, 1) := by decide +kernel
theorem dX3_add_36 : decode cX3_add 36 = .ok (.iadd, 1) := by decide +kernel
theorem dX3_add_37 : decode cX3_add 37 = .ok (.bipush 20, 2) := by decide +kernel
theorem dX3_add_39 : decode cX3_add 39 = .ok (.irem, 1) := by decide +kernel
theorem dX3_add_40 : decode cX3_add 40 = .ok (.putfield 21, 3) := by decide +kernel
theorem dX3_add_43 : decode cX3_add 43 = .ok (.aload_n 0, 1) := by decide +kernel
theorem dX3_add_44 : decode cX3_add 44 = .ok (.getfield 25, 3) := by decide +kernel
theorem dX3_add_47 : decode cX3_add 47 = .ok (.bipush 20, 2) := by decide +kernel
theorem dX3_add_49 : decode cX3_add 49 = .ok (.if_icmp .ge 13, 3) := by decide +kernel
theorem dX3_add_52 : decode cX3_add 52 = .ok (.aload_n 0, 1) := by decide +kernel
theorem dX3_add_53 : decode cX3_add 53 = .ok (.dup, 1) := by decide +kernel
theorem dX3_add_54 : decode cX3_add 54 = .ok (.getfield 25, 3) := by decide +kernel
theorem dX3_add_57 : decode cX3_add 57 = .ok (.iconst 1, 1) := by decide +kernel
theorem dX3_add_58 : decode cX3_add 58 = .ok (.iadd, 1) := by decide +kernel
theorem dX3_add_59 : decode cX3_add 59 = .ok (.putfield 25, 3) := by decide +kernel
theorem dX3_add_62 : decode cX3_add 62 = .ok (.return_, 1) := by decide +kernel
theorem dX3_value_0 : decode cX3_value 0 = .ok (.iload_n 1, 1) := by decide +kernel
theorem dX3_value_1 : decode cX3_value 1 = .ok (.ifCond .lt 11, 3) := by decide +kernel
theorem dX3_value_4 : decode cX3_value 4 = .ok (.iload_n 1, 1) := by decide +kernel
theorem dX3_value_5 : decode cX3_value 5 = .ok (.aload_n 0, 1) := by decide +kernel
theorem dX3_value_6 : decode cX3_value 6 = .ok (.getfield 25, 3) := by decide +kernel
theorem dX3_value_9 : decode cX3_value 9 = .ok (.if_icmp .lt 5, 3) := by decide +kernel
theorem dX3_value_12 : decode cX3_value 12 = .ok (.iconst (-1), 1) := by decide +kernel
theorem dX3_value_13 : decode cX3_value 13 = .ok (.ireturn, 1) := by decide +kernel
theorem dX3_value_14 : decode cX3_value 14 = .ok (.aload_n 0, 1) := by decide +kernel
theorem dX3_value_15 : decode cX3_value 15 = .ok (.getfield 21, 3) := by decide +kernel
theorem dX3_value_18 : decode cX3_value 18 = .ok (.bipush 20, 2) := by decide +kernel
theorem dX3_value_20 : decode cX3_value 20 = .ok (.iadd, 1) := by decide +kernel
theorem dX3_value_21 : decode cX3_value 21 = .ok (.iconst 1, 1) := by decide +kernel
theorem dX3_value_22 : decode cX3_value 22 = .ok (.isub, 1) := by decide +kernel
theorem dX3_value_23 : decode cX3_value 23 = .ok (.iload_n 1, 1) := by decide +kernel
theorem dX3_value_24 : decode cX3_value 24 = .ok (.isub, 1) := by decide +kernel
theorem dX3_value_25 : decode cX3_value 25 = .ok (.bipush 20, 2) := by decide +kernel
theorem dX3_value_27 : decode cX3_value 27 = .ok (.irem, 1) := by decide +kernel
theorem dX3_value_28 : decode cX3_value 28 = .ok (.istore_n 3, 1) := by decide +kernel
theorem dX3_value_29 : decode cX3_value 29 = .ok (.iload_n 2, 1) := by decide +kernel
theorem dX3_value_30 : decode cX3_value 30 = .ok (.lookupswitch 40 #[(0, 26), (1, 33)], 26) := by decide +kernel
theorem dX3_value_56 : decode cX3_value 56 = .ok (.aload_n 0, 1) := by decide +kernel
theorem dX3_value_57 : decode cX3_value 57 = .ok (.getfield 9, 3) := by decide +kernel
theorem dX3_value_60 : decode cX3_value 60 = .ok (.iload_n 3, 1) := by decide +kernel
theorem dX3_value_61 : decode cX3_value 61 = .ok (.iaload, 1) := by decide +kernel
theorem dX3_value_62 : decode cX3_value 62 = .ok (.ireturn, 1) := by decide +kernel
theorem dX3_value_63 : decode cX3_value 63 = .ok (.aload_n 0, 1) := by decide +kernel
theorem dX3_value_64 : decode cX3_value 64 = .ok (.getfield 15, 3) := by decide +kernel
theorem dX3_value_67 : decode cX3_value 67 = .ok (.iload_n 3, 1) := by decide +kernel
theorem dX3_value_68 : decode cX3_value 68 = .ok (.iaload, 1) := by decide +kernel
theorem dX3_value_69 : decode cX3_value 69 = .ok (.ireturn, 1) := by decide +kernel
theorem dX3_value_70 : decode cX3_value 70 = .ok (.aload_n 0, 1) := by decide +kernel
theorem dX3_value_71 : decode cX3_value 71 = .ok (.getfield 18, 3) := by decide +kernel
theorem dX3_value_74 : decode cX3_value 74 = .ok (.iload_n 3, 1) := by decide +kernel
theorem dX3_value_75 : decode cX3_value 75 = .ok (.iaload, 1) := by decide +kernel
theorem dX3_value_76 : decode cX3_value 76 = .ok (.ireturn, 1) := by decide +kernel
theorem dX4_init_0 : decode cX4_init 0 = .ok (.aload_n 0, 1) := by decide +kernel
theorem dX4_init_1 : decode cX4_init 1 = .ok (.invokespecial 3, 3) := by decide +kernel
theorem dX4_init_4 : decode cX4_init 4 = .ok (.aload_n 0, 1) := by decide +kernel
theorem dX4_init_5 : decode cX4_init 5 = .ok (.iconst 5, 1) := by decide +kernel
theorem dX4_init_6 : decode cX4_init 6 = .ok (.anewarray 11, 3) := by decide +kernel
theorem dX4_init_9 : decode cX4_init 9 = .ok (.putfield 13, 3) := by decide +kernel
theorem dX4_init_12 : decode cX4_init 12 = .ok (.aload_n 0, 1) := by decide +kernel
theorem dX4_init_13 : decode cX4_init 13 = .ok (.iconst 0, 1) := by decide +kernel
theorem dX4_init_14 : decode cX4_init 14 = .ok (.putfield 17, 3) := by decide +kernel
theorem dX4_init_17 : decode cX4_init 17 = .ok (.aload_n 0, 1) := by decide +kernel
theorem dX4_init_18 : decode cX4_init 18 = .ok (.iconst 0, 1) := by decide +kernel
theorem dX4_init_19 : decode cX4_init 19 = .ok (.putfield 21, 3) := by decide +kernel
theorem dX4_init_22 : decode cX4_init 22 = .ok (.iconst 0, 1) := by decide +kernel
theorem dX4_init_23 : decode cX4_init 23 = .ok (.istore_n 1, 1) := by decide +kernel
theorem dX4_init_24 : decode cX4_init 24 = .ok (.iload_n 1, 1) := by decide +kernel
theorem dX4_init_25 : decode cX4_init 25 = .ok (.iconst 5, 1) := by decide +kernel
theorem dX4_init_26 : decode cX4_init 26 = .ok (.if_icmp .ge 22, 3) := by decide +kernel
theorem dX4_init_29 : decode cX4_init 29 = .ok (.aload_n 0, 1) := by decide +kernel
theorem dX4_init_30 : decode cX4_init 30 = .ok (.getfield 13, 3) := by decide +kernel
theorem dX4_init_33 : decode cX4_init 33 = .ok (.iload_n 1, 1) := by decide +kernel
theorem dX4_init_34 : decode cX4_init 34 = .ok (.new 11, 3) := by decide +kernel
theorem dX4_init_37 : decode cX4_init 37 = .ok (.dup, 1) := by decide +kernel
theorem dX4_init_38 : decode cX4_init 38 = .ok (.invokespecial 24, 3) := by decide +kernel
theorem dX4_init_41 : decode cX4_init 41 = .ok (.aastore, 1) := by decide +kernel
theorem dX4_init_42 : decode cX4_init 42 = .ok (.iinc 1 1, 3) := by decide +kernel
theorem dX4_init_45 : decode cX4_init 45 = .ok (.goto (-21), 3) := by decide +kernel
theorem dX4_init_48 : decode cX4_init 48 = .ok (.return_, 1) := by decide +kernel
theorem dX4_prepare_0 : decode cX4_prepare 0 = .ok (.aload_n 0, 1) := by decide +kernel
theorem dX4_prepare_1 : decode cX4_prepare 1 = .ok (.getfield 13, 3) := by decide +kernel
theorem dX4_prepare_4 : decode cX4_prepare 4 = .ok (.aload_n 0, 1) := by decide +kernel
theorem dX4_prepare_5 : decode cX4_prepare 5 = .ok (.getfield 17, 3) := by decide +kernel
theorem dX4_prepare_8 : decode cX4_prepare 8 = .ok (.aaload, 1) := by decide +kernel
theorem dX4_prepare_9 : decode cX4_prepare 9 = .ok (.aload_n 1, 1) := by decide +kernel
theorem dX4_prepare_10 : decode cX4_prepare 10 = .ok (.invokevirtual 25, 3) := by decide +kernel
theorem dX4_prepare_13 : decode cX4_prepare 13 = .ok (.return_, 1) := by decide +kernel
theorem dX4_keep_0 : decode cX4_keep 0 = .ok (.aload_n 0, 1) := by decide +kernel
theorem dX4_keep_1 : decode cX4_keep 1 = .ok (.aload_n 0, 1) := by decide +kernel
theorem dX4_keep_2 : decode cX4_keep 2 = .ok (.getfield 17, 3) := by decide +kernel
theorem dX4_keep_5 : decode cX4_keep 5 = .ok (.iconst 1, 1) := by decide +kernel
theorem dX4_keep_6 : decode cX4_keep 6 = .ok (.iadd, 1) := by decide +kernel
theorem dX4_keep_7 : decode cX4_keep 7 = .ok (.iconst 5, 1) := by decide +kernel
theorem dX4_keep_8 : decode cX4_keep 8 = .ok (.irem, 1) := by decide +kernel
theorem dX4_keep_9 : decode cX4_keep 9 = .ok (.putfield 17, 3) := by decide +kernel
theorem dX4_keep_12 : decode cX4_keep 12 = .ok (.aload_n 0, 1) := by decide +kernel
theorem dX4_keep_13 : decode cX4_keep 13 = .ok (.getfield 21, 3) := by decide +kernel
theorem dX4_keep_16 : decode cX4_keep 16 = .ok (.iconst 4, 1) := by decide +kernel
theorem dX4_keep_17 : decode cX4_keep 17 = .ok (.if_icmp .ge 13, 3) := by decide +kernel
theorem dX4_keep_20 : decode cX4_keep 20 = .ok (.aload_n 0, 1) := by decide +kernel
theorem dX4_keep_21 : decode cX4_keep 21 = .ok (.dup, 1) := by decide +kernel
theorem dX4_keep_22 : decode cX4_keep 22 = .ok (.getfield 21, 3) := by decide +kernel
theorem dX4_keep_25 : decode cX4_keep 25 = .ok (.iconst 1, 1) := by decide +kernel
theorem dX4_keep_26 : decode cX4_keep 26 = .ok (.iadd, 1) := by decide +kernel
theorem dX4_keep_27 : decode cX4_keep 27 = .ok (.putfield 21, 3) := by decide +kernel
theorem dX4_keep_30 : decode cX4_keep 30 = .ok (.return_, 1) := by decide +kernel
theorem dX4_restore_0 : decode cX4_restore 0 = .ok (.aload_n 0, 1) := by decide +kernel
theorem dX4_restore_1 : decode cX4_restore 1 = .ok (.getfield 21, 3) := by decide +kernel
theorem dX4_restore_4 : decode cX4_restore 4 = .ok (.ifCond .ne 5, 3) := by decide +kernel
theorem dX4_restore_7 : decode cX4_restore 7 = .ok (.iconst 0, 1) := by decide +kernel
theorem dX4_restore_8 : decode cX4_restore 8 = .ok (.ireturn, 1) := by decide +kernel
theorem dX4_restore_9 : decode cX4_restore 9 = .ok (.aload_n 0, 1) := by decide +kernel
theorem dX4_restore_10 : decode cX4_restore 10 = .ok (.aload_n 0, 1) := by decide +kernel
theorem dX4_restore_11 : decode cX4_restore 11 = .ok (.getfield 17, 3) := by decide +kernel
theorem dX4_restore_14 : decode cX4_restore 14 = .ok (.iconst 5, 1) := by decide +kernel
theorem dX4_restore_15 : decode cX4_restore 15 = .ok (.iadd, 1) := by decide +kernel
theorem dX4_restore_16 : decode cX4_restore 16 = .ok (.iconst 1, 1) := by decide +kernel
theorem dX4_restore_17 : decode cX4_restore 17 = .ok (.isub, 1) := by decide +kernel
theorem dX4_restore_18 : decode cX4_restore 18 = .ok (.iconst 5, 1) := by decide +kernel
theorem dX4_restore_19 : decode cX4_restore 19 = .ok (.irem, 1) := by decide +kernel
theorem dX4_restore_20 : decode cX4_restore 20 = .ok (.putfield 17, 3) := by decide +kernel
theorem dX4_restore_23 : decode cX4_restore 23 = .ok (.aload_n 0, 1) := by decide +kernel
theorem dX4_restore_24 : decode cX4_restore 24 = .ok (.dup, 1) := by decide +kernel
theorem dX4_restore_25 : decode cX4_restore 25 = .ok (.getfield 21, 3) := by decide +kernel
theorem dX4_restore_28 : decode cX4_restore 28 = .ok (.iconst 1, 1) := by decide +kernel
theorem dX4_restore_29 : decode cX4_restore 29 = .ok (.isub, 1) := by decide +kernel
theorem dX4_restore_30 : decode cX4_restore 30 = .ok (.putfield 21, 3) := by decide +kernel
theorem dX4_restore_33 : decode cX4_restore 33 = .ok (.aload_n 1, 1) := by decide +kernel
theorem dX4_restore_34 : decode cX4_restore 34 = .ok (.aload_n 0, 1) := by decide +kernel
theorem dX4_restore_35 : decode cX4_restore 35 = .ok (.getfield 13, 3) := by decide +kernel
theorem dX4_restore_38 : decode cX4_restore 38 = .ok (.aload_n 0, 1) := by decide +kernel
theorem dX4_restore_39 : decode cX4_restore 39 = .ok (.getfield 17, 3) := by decide +kernel
theorem dX4_restore_42 : decode cX4_restore 42 = .ok (.aaload, 1) := by decide +kernel
theorem dX4_restore_43 : decode cX4_restore 43 = .ok (.invokevirtual 25, 3) := by decide +kernel
theorem dX4_restore_46 : decode cX4_restore 46 = .ok (.iconst 1, 1) := by decide +kernel
theorem dX4_restore_47 : decode cX4_restore 47 = .ok (.ireturn, 1) := by decide +kernel
theorem dX5_init_0 : decode cX5_init 0 = .ok (.aload_n 0, 1) := by decide +kernel
theorem dX5_init_1 : decode cX5_init 1 = .ok (.invokespecial 3, 3) := by decide +kernel
theorem dX5_init_4 : decode cX5_init 4 = .ok (.aload_n 0, 1) := by decide +kernel
theorem dX5_init_5 : decode cX5_init 5 = .ok (.iconst 0, 1) := by decide +kernel
theorem dX5_init_6 : decode cX5_init 6 = .ok (.putfield 9, 3) := by decide +kernel
theorem dX5_init_9 : decode cX5_init 9 = .ok (.aload_n 0, 1) := by decide +kernel
theorem dX5_init_10 : decode cX5_init 10 = .ok (.iconst 4, 1) := by decide +kernel
theorem dX5_init_11 : decode cX5_init 11 = .ok (.newarray .int, 2) := by decide +kernel
theorem dX5_init_13 : decode cX5_init 13 = .ok (.putfield 15, 3) := by decide +kernel
theorem dX5_init_16 : decode cX5_init 16 = .ok (.aload_n 0, 1) := by decide +kernel
theorem dX5_init_17 : decode cX5_init 17 = .ok (.bipush 10, 2) := by decide +kernel
theorem dX5_init_19 : decode cX5_init 19 = .ok (.newarray .int, 2) := by decide +kernel
theorem dX5_init_21 : decode cX5_init 21 = .ok (.putfield 19, 3) := by decide +kernel
theorem dX5_init_24 : decode cX5_init 24 = .ok (.aload_n 0, 1) := by decide +kernel
theorem dX5_init_25 : decode cX5_init 25 = .ok (.bipush 12, 2) := by decide +kernel
theorem dX5_init_27 : decode cX5_init 27 = .ok (.anewarray 22, 3) := by decide +kernel
theorem dX5_init_30 : decode cX5_init 30 = .ok (.putfield 24, 3) := by decide +kernel
theorem dX5_init_33 : decode cX5_init 33 = .ok (.aload_n 0, 1) := by decide +kernel
theorem dX5_init_34 : decode cX5_init 34 = .ok (.iconst 0, 1) := by decide +kernel
theorem dX5_init_35 : decode cX5_init 35 = .ok (.putfield 28, 3) := by decide +kernel
theorem dX5_init_38 : decode cX5_init 38 = .ok (.aload_n 0, 1) := by decide +kernel
theorem dX5_init_39 : decode cX5_init 39 = .ok (.bipush 12, 2) := by decide +kernel
theorem dX5_init_41 : decode cX5_init 41 = .ok (.newarray .int, 2) := by decide +kernel
theorem dX5_init_43 : decode cX5_init 43 = .ok (.putfield 31, 3) := by decide +kernel
theorem dX5_init_46 : decode cX5_init 46 = .ok (.aload_n 0, 1) := by decide +kernel
theorem dX5_init_47 : decode cX5_init 47 = .ok (.iconst 0, 1) := by decide +kernel
theorem dX5_init_48 : decode cX5_init 48 = .ok (.putfield 34, 3) := by decide +kernel
theorem dX5_init_51 : decode cX5_init 51 = .ok (.aload_n 0, 1) := by decide +kernel
theorem dX5_init_52 : decode cX5_init 52 = .ok (.iconst 0, 1) := by decide +kernel
theorem dX5_init_53 : decode cX5_init 53 = .ok (.putfield 37, 3) := by decide +kernel
theorem dX5_init_56 : decode cX5_init 56 = .ok (.aload_n 0, 1) := by decide +kernel
theorem dX5_init_57 : decode cX5_init 57 = .ok (.iconst (-1), 1) := by decide +kernel
theorem dX5_init_58 : decode cX5_init 58 = .ok (.putfield 40, 3) := by decide +kernel
theorem dX5_init_61 : decode cX5_init 61 = .ok (.aload_n 0, 1) := by decide +kernel
theorem dX5_init_62 : decode cX5_init 62 = .ok (.iconst 0, 1) := by decide +kernel
theorem dX5_init_63 : decode cX5_init 63 = .ok (.putfield 43, 3) := by decide +kernel
theorem dX5_init_66 : decode cX5_init 66 = .ok (.aload_n 0, 1) := by decide +kernel
theorem dX5_init_67 : decode cX5_init 67 = .ok (.new 46, 3) := by decide +kernel
theorem dX5_init_70 : decode cX5_init 70 = .ok (.dup, 1) := by decide +kernel
theorem dX5_init_71 : decode cX5_init 71 = .ok (.invokespecial 48, 3) := by decide +kernel
theorem dX5_init_74 : decode cX5_init 74 = .ok (.putfield 49, 3) := by decide +kernel
theorem dX5_init_77 : decode cX5_init 77 = .ok (.aload_n 0, 1) := by decide +kernel
theorem dX5_init_78 : decode cX5_init 78 = .ok (.getfield 15, 3) := by decide +kernel
theorem dX5_init_81 : decode cX5_init 81 = .ok (.iconst 1, 1) := by decide +kernel
theorem dX5_init_82 : decode cX5_init 82 = .ok (.bipush 12, 2) := by decide +kernel
theorem dX5_init_84 : decode cX5_init 84 = .ok (.iastore, 1) := by decide +kernel
theorem dX5_init_85 : decode cX5_init 85 = .ok (.aload_n 0, 1) := by decide +kernel
theorem dX5_init_86 : decode cX5_init 86 = .ok (.getfield 15, 3) := by decide +kernel
theorem dX5_init_89 : decode cX5_init 89 = .ok (.iconst 2, 1) := by decide +kernel
theorem dX5_init_90 : decode cX5_init 90 = .ok (.bipush 10, 2) := by decide +kernel
theorem dX5_init_92 : decode cX5_init 92 = .ok (.iastore, 1) := by decide +kernel
theorem dX5_init_93 : decode cX5_init 93 = .ok (.aload_n 0, 1) := by decide +kernel
theorem dX5_init_94 : decode cX5_init 94 = .ok (.getfield 15, 3) := by decide +kernel
theorem dX5_init_97 : decode cX5_init 97 = .ok (.iconst 3, 1) := by decide +kernel
theorem dX5_init_98 : decode cX5_init 98 = .ok (.bipush 6, 2) := by decide +kernel
theorem dX5_init_100 : decode cX5_init 100 = .ok (.iastore, 1) := by decide +kernel
theorem dX5_init_101 : decode cX5_init 101 = .ok (.iconst 0, 1) := by decide +kernel
theorem dX5_init_102 : decode cX5_init 102 = .ok (.istore_n 1, 1) := by decide +kernel
theorem dX5_init_103 : decode cX5_init 103 = .ok (.iload_n 1, 1) := by decide +kernel
theorem dX5_init_104 : decode cX5_init 104 = .ok (.bipush 12, 2) := by decide +kernel
theorem dX5_init_106 : decode cX5_init 106 = .ok (.if_icmp .ge 22, 3) := by decide +kernel
theorem dX5_init_109 : decode cX5_init 109 = .ok (.aload_n 0, 1) := by decide +kernel
theorem dX5_init_110 : decode cX5_init 110 = .ok (.getfield 24, 3) := by decide +kernel
theorem dX5_init_113 : decode cX5_init 113 = .ok (.iload_n 1, 1) := by decide +kernel
theorem dX5_init_114 : decode cX5_init 114 = .ok (.new 22, 3) := by decide +kernel
theorem dX5_init_117 : decode cX5_init 117 = .ok (.dup, 1) := by decide +kernel
theorem dX5_init_118 : decode cX5_init 118 = .ok (.invokespecial 53, 3) := by decide +kernel
theorem dX5_init_121 : decode cX5_init 121 = .ok (.aastore, 1) := by decide +kernel
theorem dX5_init_122 : decode cX5_init 122 = .ok (.iinc 1 1, 3) := by decide +kernel
theorem dX5_init_125 : decode cX5_init 125 = .ok (.goto (-22), 3) := by decide +kernel
theorem dX5_init_128 : decode cX5_init 128 = .ok (.return_, 1) := by decide +kernel
theorem dX5_copyFrom_0 : decode cX5_copyFrom 0 = .ok (.aload_n 0, 1) := by decide +kernel
theorem dX5_copyFrom_1 : decode cX5_copyFrom 1 = .ok (.aload_n 1, 1) := by decide +kernel
theorem dX5_copyFrom_2 : decode cX5_copyFrom 2 = .ok (.getfield 9, 3) := by decide +kernel
theorem dX5_copyFrom_5 : decode cX5_copyFrom 5 = .ok (.putfield 9, 3) := by decide +kernel
theorem dX5_copyFrom_8 : decode cX5_copyFrom 8 = .ok (.aload_n 1, 1) := by decide +kernel
theorem dX5_copyFrom_9 : decode cX5_copyFrom 9 = .ok (.getfield 15, 3) := by decide +kernel
theorem dX5_copyFrom_12 : decode cX5_copyFrom 12 = .ok (.iconst 0, 1) := by decide +kernel
theorem dX5_copyFrom_13 : decode cX5_copyFrom 13 = .ok (.aload_n 0, 1) := by decide +kernel
theorem dX5_copyFrom_14 : decode cX5_copyFrom 14 = .ok (.getfield 15, 3) := by decide +kernel
theorem dX5_copyFrom_17 : decode cX5_copyFrom 17 = .ok (.iconst 0, 1) := by decide +kernel
theorem dX5_copyFrom_18 : decode cX5_copyFrom 18 = .ok (.iconst 4, 1) := by decide +kernel
theorem dX5_copyFrom_19 : decode cX5_copyFrom 19 = .ok (.invokestatic 54, 3) := by decide +kernel
theorem dX5_copyFrom_22 : decode cX5_copyFrom 22 = .ok (.aload_n 1, 1) := by decide +kernel
theorem dX5_copyFrom_23 : decode cX5_copyFrom 23 = .ok (.getfield 19, 3) := by decide +kernel
theorem dX5_copyFrom_26 : decode cX5_copyFrom 26 = .ok (.iconst 0, 1) := by decide +kernel
theorem dX5_copyFrom_27 : decode cX5_copyFrom 27 = .ok (.aload_n 0, 1) := by decide +kernel
theorem dX5_copyFrom_28 : decode cX5_copyFrom 28 = .ok (.getfield 19, 3) := by decide +kernel
theorem dX5_copyFrom_31 : decode cX5_copyFrom 31 = .ok (.iconst 0, 1) := by decide +kernel
theorem dX5_copyFrom_32 : decode cX5_copyFrom 32 = .ok (.bipush 10, 2) := by decide +kernel
theorem dX5_copyFrom_34 : decode cX5_copyFrom 34 = .ok (.invokestatic 54, 3) := by decide +kernel
theorem dX5_copyFrom_37 : decode cX5_copyFrom 37 = .ok (.iconst 0, 1) := by decide +kernel
theorem dX5_copyFrom_38 : decode cX5_copyFrom 38 = .ok (.istore_n 2, 1) := by decide +kernel
theorem dX5_copyFrom_39 : decode cX5_copyFrom 39 = .ok (.iload_n 2, 1) := by decide +kernel
theorem dX5_copyFrom_40 : decode cX5_copyFrom 40 = .ok (.bipush 12, 2) := by decide +kernel
theorem dX5_copyFrom_42 : decode cX5_copyFrom 42 = .ok (.if_icmp .ge 24, 3) := by decide +kernel
theorem dX5_copyFrom_45 : decode cX5_copyFrom 45 = .ok (.aload_n 0, 1) := by decide +kernel
theorem dX5_copyFrom_46 : decode cX5_copyFrom 46 = .ok (.getfield 24, 3) := by decide +kernel
theorem dX5_copyFrom_49 : decode cX5_copyFrom 49 = .ok (.iload_n 2, 1) := by decide +kernel
theorem dX5_copyFrom_50 : decode cX5_copyFrom 50 = .ok (.aaload, 1) := by decide +kernel
theorem dX5_copyFrom_51 : decode cX5_copyFrom 51 = .ok (.aload_n 1, 1) := by decide +kernel
theorem dX5_copyFrom_52 : decode cX5_copyFrom 52 = .ok (.getfield 24, 3) := by decide +kernel
theorem dX5_copyFrom_55 : decode cX5_copyFrom 55 = .ok (.iload_n 2, 1) := by decide +kernel
theorem dX5_copyFrom_56 : decode cX5_copyFrom 56 = .ok (.aaload, 1) := by decide +kernel
theorem dX5_copyFrom_57 : decode cX5_copyFrom 57 = .ok (.invokevirtual 60, 3) := by decide +kernel
theorem dX5_copyFrom_60 : decode cX5_copyFrom 60 = .ok (.iinc 2 1, 3) := by decide +kernel
theorem dX5_copyFrom_63 : decode cX5_copyFrom 63 = .ok (.goto (-24), 3) := by decide +kernel
theorem dX5_copyFrom_66 : decode cX5_copyFrom 66 = .ok (.aload_n 0, 1) := by decide +kernel
theorem dX5_copyFrom_67 : decode cX5_copyFrom 67 = .ok (.aload_n 1, 1) := by decide +kernel
theorem dX5_copyFrom_68 : decode cX5_copyFrom 68 = .ok (.getfield 28, 3) := by decide +kernel
theorem dX5_copyFrom_71 : decode cX5_copyFrom 71 = .ok (.putfield 28, 3) := by decide +kernel
theorem dX5_copyFrom_74 : decode cX5_copyFrom 74 = .ok (.aload_n 1, 1) := by decide +kernel
theorem dX5_copyFrom_75 : decode cX5_copyFrom 75 = .ok (.getfield 31, 3) := by decide +kernel
theorem dX5_copyFrom_78 : decode cX5_copyFrom 78 = .ok (.iconst 0, 1) := by decide +kernel
theorem dX5_copyFrom_79 : decode cX5_copyFrom 79 = .ok (.aload_n 0, 1) := by decide +kernel
theorem dX5_copyFrom_80 : decode cX5_copyFrom 80 = .ok (.getfield 31, 3) := by decide +kernel
theorem dX5_copyFrom_83 : decode cX5_copyFrom 83 = .ok (.iconst 0, 1) := by decide +kernel
theorem dX5_copyFrom_84 : decode cX5_copyFrom 84 = .ok (.bipush 12, 2) := by decide +kernel
theorem dX5_copyFrom_86 : decode cX5_copyFrom 86 = .ok (.invokestatic 54, 3) := by decide +kernel
theorem dX5_copyFrom_89 : decode cX5_copyFrom 89 = .ok (.aload_n 0, 1) := by decide +kernel
theorem dX5_copyFrom_90 : decode cX5_copyFrom 90 = .ok (.aload_n 1, 1) := by decide +kernel
theorem dX5_copyFrom_91 : decode cX5_copyFrom 91 = .ok (.getfield 34, 3) := by decide +kernel
theorem dX5_copyFrom_94 : decode cX5_copyFrom 94 = .ok (.putfield 34, 3) := by decide +kernel
theorem dX5_copyFrom_97 : decode cX5_copyFrom 97 = .ok (.aload_n 0, 1) := by decide +kernel
theorem dX5_copyFrom_98 : decode cX5_copyFrom 98 = .ok (.aload_n 1, 1) := by decide +kernel
theorem dX5_copyFrom_99 : decode cX5_copyFrom 99 = .ok (.getfield 37, 3) := by decide +kernel
theorem dX5_copyFrom_102 : decode cX5_copyFrom 102 = .ok (.putfield 37, 3) := by decide +kernel
theorem dX5_copyFrom_105 : decode cX5_copyFrom 105 = .ok (.aload_n 0, 1) := by decide +kernel
theorem dX5_copyFrom_106 : decode cX5_copyFrom 106 = .ok (.aload_n 1, 1) := by decide +kernel
theorem dX5_copyFrom_107 : decode cX5_copyFrom 107 = .ok (.getfield 40, 3) := by decide +kernel
theorem dX5_copyFrom_110 : decode cX5_copyFrom 110 = .ok (.putfield 40, 3) := by decide +kernel
theorem dX5_copyFrom_113 : decode cX5_copyFrom 113 = .ok (.aload_n 0, 1) := by decide +kernel
theorem dX5_copyFrom_114 : decode cX5_copyFrom 114 = .ok (.aload_n 1, 1) := by decide +kernel
theorem dX5_copyFrom_115 : decode cX5_copyFrom 115 = .ok (.getfield 43, 3) := by decide +kernel
theorem dX5_copyFrom_118 : decode cX5_copyFrom 118 = .ok (.putfield 43, 3) := by decide +kernel
theorem dX5_copyFrom_121 : decode cX5_copyFrom 121 = .ok (.aload_n 0, 1) := by decide +kernel
theorem dX5_copyFrom_122 : decode cX5_copyFrom 122 = .ok (.getfield 49, 3) := by decide +kernel
theorem dX5_copyFrom_125 : decode cX5_copyFrom 125 = .ok (.aload_n 1, 1) := by decide +kernel
theorem dX5_copyFrom_126 : decode cX5_copyFrom 126 = .ok (.getfield 49, 3) := by decide +kernel
theorem dX5_copyFrom_129 : decode cX5_copyFrom 129 = .ok (.invokevirtual 64, 3) := by decide +kernel
theorem dX5_copyFrom_132 : decode cX5_copyFrom 132 = .ok (.return_, 1) := by decide +kernel
theorem dX5_find_0 : decode cX5_find 0 = .ok (.iload_n 1, 1) := by decide +kernel
theorem dX5_find_1 : decode cX5_find 1 = .ok (.ifCond .lt 20, 3) := by decide +kernel
theorem dX5_find_4 : decode cX5_find 4 = .ok (.iload_n 1, 1) := by decide +kernel
theorem dX5_find_5 : decode cX5_find 5 = .ok (.aload_n 0, 1) := by decide +kernel
theorem dX5_find_6 : decode cX5_find 6 = .ok (.getfield 28, 3) := by decide +kernel
theorem dX5_find_9 : decode cX5_find 9 = .ok (.if_icmp .ge 12, 3) := by decide +kernel
theorem dX5_find_12 : decode cX5_find 12 = .ok (.aload_n 0, 1) := by decide +kernel
theorem dX5_find_13 : decode cX5_find 13 = .ok (.getfield 24, 3) := by decide +kernel
theorem dX5_find_16 : decode cX5_find 16 = .ok (.iload_n 1, 1) := by decide +kernel
theorem dX5_find_17 : decode cX5_find 17 = .ok (.aaload, 1) := by decide +kernel
theorem dX5_find_18 : decode cX5_find 18 = .ok (.goto 4, 3) := by decide +kernel
theorem dX5_find_21 : decode cX5_find 21 = .ok (.aconst_null, 1) := by decide +kernel
theorem dX5_find_22 : decode cX5_find 22 = .ok (.areturn, 1) := by decide +kernel
theorem dX5_makeSource_0 : decode cX5_makeSource 0 = .ok (.iload_n 1, 1) := by decide +kernel
theorem dX5_makeSource_1 : decode cX5_makeSource 1 = .ok (.iconst 1, 1) := by decide +kernel
theorem dX5_makeSource_2 : decode cX5_makeSource 2 = .ok (.bipush 15, 2) := by decide +kernel
theorem dX5_makeSource_4 : decode cX5_makeSource 4 = .ok (.invokestatic 67, 3) := by decide +kernel
theorem dX5_makeSource_7 : decode cX5_makeSource 7 = .ok (.ifCond .eq 23, 3) := by decide +kernel
theorem dX5_makeSource_10 : decode cX5_makeSource 10 = .ok (.iload_n 2, 1) := by decide +kernel
theorem dX5_makeSource_11 : decode cX5_makeSource 11 = .ok (.iconst 0, 1) := by decide +kernel
theorem dX5_makeSource_12 : decode cX5_makeSource 12 = .ok (.iconst 1, 1) := by decide +kernel
theorem dX5_makeSource_13 : decode cX5_makeSource 13 = .ok (.invokestatic 67, 3) := by decide +kernel
theorem dX5_makeSource_16 : decode cX5_makeSource 16 = .ok (.ifCond .eq 14, 3) := by decide +kernel
theorem dX5_makeSource_19 : decode cX5_makeSource 19 = .ok (.iload_n 3, 1) := by decide +kernel
theorem dX5_makeSource_20 : decode cX5_makeSource 20 = .ok (.iconst 1, 1) := by decide +kernel
theorem dX5_makeSource_21 : decode cX5_makeSource 21 = .ok (.sipush 500, 3) := by decide +kernel
theorem dX5_makeSource_24 : decode cX5_makeSource 24 = .ok (.invokestatic 67, 3) := by decide +kernel
theorem dX5_makeSource_27 : decode cX5_makeSource 27 = .ok (.ifCond .ne 6, 3) := by decide +kernel
theorem dX5_makeSource_30 : decode cX5_makeSource 30 = .ok (.bipush (-2), 2) := by decide +kernel
theorem dX5_makeSource_32 : decode cX5_makeSource 32 = .ok (.ireturn, 1) := by decide +kernel
theorem dX5_makeSource_33 : decode cX5_makeSource 33 = .ok (.aload_n 0, 1) := by decide +kernel
theorem dX5_makeSource_34 : decode cX5_makeSource 34 = .ok (.getfield 28, 3) := by decide +kernel
theorem dX5_makeSource_37 : decode cX5_makeSource 37 = .ok (.bipush 12, 2) := by decide +kernel
theorem dX5_makeSource_39 : decode cX5_makeSource 39 = .ok (.if_icmp .lt 6, 3) := by decide +kernel
theorem dX5_makeSource_42 : decode cX5_makeSource 42 = .ok (.bipush (-3), 2) := by decide +kernel
theorem dX5_makeSource_44 : decode cX5_makeSource 44 = .ok (.ireturn, 1) := by decide +kernel
theorem dX5_makeSource_45 : decode cX5_makeSource 45 = .ok (.aload_n 0, 1) := by decide +kernel
theorem dX5_makeSource_46 : decode cX5_makeSource 46 = .ok (.getfield 24, 3) := by decide +kernel
theorem dX5_makeSource_49 : decode cX5_makeSource 49 = .ok (.aload_n 0, 1) := by decide +kernel
theorem dX5_makeSource_50 : decode cX5_makeSource 50 = .ok (.getfield 28, 3) := by decide +kernel
theorem dX5_makeSource_53 : decode cX5_makeSource 53 = .ok (.aaload, 1) := by decide +kernel
theorem dX5_makeSource_54 : decode cX5_makeSource 54 = .ok (.astore 4, 2) := by decide +kernel
theorem dX5_makeSource_56 : decode cX5_makeSource 56 = .ok (.aload 4, 2) := by decide +kernel
theorem dX5_makeSource_58 : decode cX5_makeSource 58 = .ok (.iload_n 1, 1) := by decide +kernel
theorem dX5_makeSource_59 : decode cX5_makeSource 59 = .ok (.putfield 71, 3) := by decide +kernel
theorem dX5_makeSource_62 : decode cX5_makeSource 62 = .ok (.aload 4, 2) := by decide +kernel
theorem dX5_makeSource_64 : decode cX5_makeSource 64 = .ok (.iload_n 2, 1) := by decide +kernel
theorem dX5_makeSource_65 : decode cX5_makeSource 65 = .ok (.putfield 74, 3) := by decide +kernel
theorem dX5_makeSource_68 : decode cX5_makeSource 68 = .ok (.aload 4, 2) := by decide +kernel
theorem dX5_makeSource_70 : decode cX5_makeSource 70 = .ok (.iload_n 3, 1) := by decide +kernel
theorem dX5_makeSource_71 : decode cX5_makeSource 71 = .ok (.putfield 77, 3) := by decide +kernel
theorem dX5_makeSource_74 : decode cX5_makeSource 74 = .ok (.aload_n 0, 1) := by decide +kernel
theorem dX5_makeSource_75 : decode cX5_makeSource 75 = .ok (.dup, 1) := by decide +kernel
theorem dX5_makeSource_76 : decode cX5_makeSource 76 = .ok (.getfield 28, 3) := by decide +kernel
theorem dX5_makeSource_79 : decode cX5_makeSource 79 = .ok (.iconst 1, 1) := by decide +kernel
theorem dX5_makeSource_80 : decode cX5_makeSource 80 = .ok (.iadd, 1) := by decide +kernel
theorem dX5_makeSource_81 : decode cX5_makeSource 81 = .ok (.putfield 28, 3) := by decide +kernel
theorem dX5_makeSource_84 : decode cX5_makeSource 84 = .ok (.aload_n 0, 1) := by decide +kernel
theorem dX5_makeSource_85 : decode cX5_makeSource 85 = .ok (.getfield 28, 3) := by decide +kernel
theorem dX5_makeSource_88 : decode cX5_makeSource 88 = .ok (.iconst 1, 1) := by decide +kernel
theorem dX5_makeSource_89 : decode cX5_makeSource 89 = .ok (.isub, 1) := by decide +kernel
theorem dX5_makeSource_90 : decode cX5_makeSource 90 = .ok (.ireturn, 1) := by decide +kernel
theorem dX5_changeSource_0 : decode cX5_changeSource 0 = .ok (.aload_n 0, 1) := by decide +kernel
theorem dX5_changeSource_1 : decode cX5_changeSource 1 = .ok (.iload_n 1, 1) := by decide +kernel
theorem dX5_changeSource_2 : decode cX5_changeSource 2 = .ok (.invokevirtual 80, 3) := by decide +kernel
theorem dX5_changeSource_5 : decode cX5_changeSource 5 = .ok (.astore 4, 2) := by decide +kernel
theorem dX5_changeSource_7 : decode cX5_changeSource 7 = .ok (.aload 4, 2) := by decide +kernel
theorem dX5_changeSource_9 : decode cX5_changeSource 9 = .ok (.ifnonnull 5, 3) := by decide +kernel
theorem dX5_changeSource_12 : decode cX5_changeSource 12 = .ok (.iconst (-1), 1) := by decide +kernel
theorem dX5_changeSource_13 : decode cX5_changeSource 13 = .ok (.ireturn, 1) := by decide +kernel
theorem dX5_changeSource_14 : decode cX5_changeSource 14 = .ok (.iload_n 2, 1) := by decide +kernel
theorem dX5_changeSource_15 : decode cX5_changeSource 15 = .ok (.tableswitch 51 0 2 #[25, 34, 43], 25) := by decide +kernel
theorem dX5_changeSource_40 : decode cX5_changeSource 40 = .ok (.aload_n 0, 1) := by decide +kernel
theorem dX5_changeSource_41 : decode cX5_changeSource 41 = .ok (.iload_n 1, 1) := by decide +kernel
theorem dX5_changeSource_42 : decode cX5_changeSource 42 = .ok (.aload 4, 2) := by decide +kernel
theorem dX5_changeSource_44 : decode cX5_changeSource 44 = .ok (.iload_n 3, 1) := by decide +kernel
theorem dX5_changeSource_45 : decode cX5_changeSource 45 = .ok (.invokevirtual 84, 3) := by decide +kernel
theorem dX5_changeSource_48 : decode cX5_changeSource 48 = .ok (.ireturn, 1) := by decide +kernel
theorem dX5_changeSource_49 : decode cX5_changeSource 49 = .ok (.aload_n 0, 1) := by decide +kernel
theorem dX5_changeSource_50 : decode cX5_changeSource 50 = .ok (.iload_n 1, 1) := by decide +kernel
theorem dX5_changeSource_51 : decode cX5_changeSource 51 = .ok (.aload 4, 2) := by decide +kernel
theorem dX5_changeSource_53 : decode cX5_changeSource 53 = .ok (.iload_n 3, 1) := by decide +kernel
theorem dX5_changeSource_54 : decode cX5_changeSource 54 = .ok (.invokevirtual 88, 3) := by decide +kernel
theorem dX5_changeSource_57 : decode cX5_changeSource 57 = .ok (.ireturn, 1) := by decide +kernel
theorem dX5_changeSource_58 : decode cX5_changeSource 58 = .ok (.aload_n 0, 1) := by decide +kernel
theorem dX5_changeSource_59 : decode cX5_changeSource 59 = .ok (.aload 4, 2) := by decide +kernel
theorem dX5_changeSource_61 : decode cX5_changeSource 61 = .ok (.iload_n 3, 1) := by decide +kernel
theorem dX5_changeSource_62 : decode cX5_changeSource 62 = .ok (.invokevirtual 91, 3) := by decide +kernel
theorem dX5_changeSource_65 : decode cX5_changeSource 65 = .ok (.ireturn, 1) := by decide +kernel
theorem dX5_changeSource_66 : decode cX5_changeSource 66 = .ok (.bipush (-2), 2) := by decide +kernel
theorem dX5_changeSource_68 : decode cX5_changeSource 68 = .ok (.ireturn, 1) := by decide +kernel
theorem dX5_changePriority_0 : decode cX5_changePriority 0 = .ok (.iload_n 3, 1) := by decide +kernel
theorem dX5_changePriority_1 : decode cX5_changePriority 1 = .ok (.iconst 1, 1) := by decide +kernel
theorem dX5_changePriority_2 : decode cX5_changePriority 2 = .ok (.bipush 15, 2) := by decide +kernel
theorem dX5_changePriority_4 : decode cX5_changePriority 4 = .ok (.invokestatic 67, 3) := by decide +kernel
theorem dX5_changePriority_7 : decode cX5_changePriority 7 = .ok (.ifCond .ne 6, 3) := by decide +kernel
theorem dX5_changePriority_10 : decode cX5_changePriority 10 = .ok (.bipush (-2), 2) := by decide +kernel
theorem dX5_changePriority_12 : decode cX5_changePriority 12 = .ok (.ireturn, 1) := by decide +kernel
theorem dX5_changePriority_13 : decode cX5_changePriority 13 = .ok (.aload_n 2, 1) := by decide +kernel
theorem dX5_changePriority_14 : decode cX5_changePriority 14 = .ok (.invokevirtual 95, 3) := by decide +kernel
theorem dX5_changePriority_17 : decode cX5_changePriority 17 = .ok (.ifCond .ne 11, 3) := by decide +kernel
theorem dX5_changePriority_20 : decode cX5_changePriority 20 = .ok (.iload_n 1, 1) := by decide +kernel
theorem dX5_changePriority_21 : decode cX5_changePriority 21 = .ok (.aload_n 0, 1) := by decide +kernel
theorem dX5_changePriority_22 : decode cX5_changePriority 22 = .ok (.getfield 40, 3) := by decide +kernel
theorem dX5_changePriority_25 : decode cX5_changePriority 25 = .ok (.if_icmp .ne 6, 3) := by decide +kernel
theorem dX5_changePriority_28 : decode cX5_changePriority 28 = .ok (.bipush (-3), 2) := by decide +kernel
theorem dX5_changePriority_30 : decode cX5_changePriority 30 = .ok (.ireturn, 1) := by decide +kernel
theorem dX5_changePriority_31 : decode cX5_changePriority 31 = .ok (.aload_n 2, 1) := by decide +kernel
theorem dX5_changePriority_32 : decode cX5_changePriority 32 = .ok (.getfield 71, 3) := by decide +kernel
theorem dX5_changePriority_35 : decode cX5_changePriority 35 = .ok (.istore 4, 2) := by decide +kernel
theorem dX5_changePriority_37 : decode cX5_changePriority 37 = .ok (.aload_n 2, 1) := by decide +kernel
theorem dX5_changePriority_38 : decode cX5_changePriority 38 = .ok (.iload_n 3, 1) := by decide +kernel
theorem dX5_changePriority_39 : decode cX5_changePriority 39 = .ok (.putfield 71, 3) := by decide +kernel
theorem dX5_changePriority_42 : decode cX5_changePriority 42 = .ok (.iload 4, 2) := by decide +kernel
theorem dX5_changePriority_44 : decode cX5_changePriority 44 = .ok (.ireturn, 1) := by decide +kernel
theorem dX5_changeLength_0 : decode cX5_changeLength 0 = .ok (.iload_n 3, 1) := by decide +kernel
theorem dX5_changeLength_1 : decode cX5_changeLength 1 = .ok (.iconst 1, 1) := by decide +kernel
theorem dX5_changeLength_2 : decode cX5_changeLength 2 = .ok (.sipush 500, 3) := by decide +kernel
theorem dX5_changeLength_5 : decode cX5_changeLength 5 = .ok (.invokestatic 67, 3) := by decide +kernel
theorem dX5_changeLength_8 : decode cX5_changeLength 8 = .ok (.ifCond .ne 6, 3) := by decide +kernel
theorem dX5_changeLength_11 : decode cX5_changeLength 11 = .ok (.bipush (-2), 2) := by decide +kernel
theorem dX5_changeLength_13 : decode cX5_changeLength 13 = .ok (.ireturn, 1) := by decide +kernel
theorem dX5_changeLength_14 : decode cX5_changeLength 14 = .ok (.aload_n 2, 1) := by decide +kernel
theorem dX5_changeLength_15 : decode cX5_changeLength 15 = .ok (.invokevirtual 95, 3) := by decide +kernel
theorem dX5_changeLength_18 : decode cX5_changeLength 18 = .ok (.ifCond .ne 11, 3) := by decide +kernel
theorem dX5_changeLength_21 : decode cX5_changeLength 21 = .ok (.iload_n 1, 1) := by decide +kernel
theorem dX5_changeLength_22 : decode cX5_changeLength 22 = .ok (.aload_n 0, 1) := by decide +kernel
theorem dX5_changeLength_23 : decode cX5_changeLength 23 = .ok (.getfield 40, 3) := by decide +kernel
theorem dX5_changeLength_26 : decode cX5_changeLength 26 = .ok (.if_icmp .ne 6, 3) := by decide +kernel
theorem dX5_changeLength_29 : decode cX5_changeLength 29 = .ok (.bipush (-3), 2) := by decide +kernel
theorem dX5_changeLength_31 : decode cX5_changeLength 31 = .ok (.ireturn, 1) := by decide +kernel
theorem dX5_changeLength_32 : decode cX5_changeLength 32 = .ok (.aload_n 2, 1) := by decide +kernel
theorem dX5_changeLength_33 : decode cX5_changeLength 33 = .ok (.getfield 77, 3) := by decide +kernel
theorem dX5_changeLength_36 : decode cX5_changeLength 36 = .ok (.istore 4, 2) := by decide +kernel
theorem dX5_changeLength_38 : decode cX5_changeLength 38 = .ok (.aload_n 2, 1) := by decide +kernel
theorem dX5_changeLength_39 : decode cX5_changeLength 39 = .ok (.iload_n 3, 1) := by decide +kernel
theorem dX5_changeLength_40 : decode cX5_changeLength 40 = .ok (.putfield 77, 3) := by decide +kernel
theorem dX5_changeLength_43 : decode cX5_changeLength 43 = .ok (.iload 4, 2) := by decide +kernel
theorem dX5_changeLength_45 : decode cX5_changeLength 45 = .ok (.ireturn, 1) := by decide +kernel
theorem dX5_changeEnabled_0 : decode cX5_changeEnabled 0 = .ok (.iload_n 2, 1) := by decide +kernel
theorem dX5_changeEnabled_1 : decode cX5_changeEnabled 1 = .ok (.iconst 0, 1) := by decide +kernel
theorem dX5_changeEnabled_2 : decode cX5_changeEnabled 2 = .ok (.iconst 1, 1) := by decide +kernel
theorem dX5_changeEnabled_3 : decode cX5_changeEnabled 3 = .ok (.invokestatic 67, 3) := by decide +kernel
theorem dX5_changeEnabled_6 : decode cX5_changeEnabled 6 = .ok (.ifCond .ne 6, 3) := by decide +kernel
theorem dX5_changeEnabled_9 : decode cX5_changeEnabled 9 = .ok (.bipush (-2), 2) := by decide +kernel
theorem dX5_changeEnabled_11 : decode cX5_changeEnabled 11 = .ok (.ireturn, 1) := by decide +kernel
theorem dX5_changeEnabled_12 : decode cX5_changeEnabled 12 = .ok (.aload_n 1, 1) := by decide +kernel
theorem dX5_changeEnabled_13 : decode cX5_changeEnabled 13 = .ok (.getfield 99, 3) := by decide +kernel
theorem dX5_changeEnabled_16 : decode cX5_changeEnabled 16 = .ok (.ifCond .eq 7, 3) := by decide +kernel
theorem dX5_changeEnabled_19 : decode cX5_changeEnabled 19 = .ok (.iconst 1, 1) := by decide +kernel
theorem dX5_changeEnabled_20 : decode cX5_changeEnabled 20 = .ok (.goto 4, 3) := by decide +kernel
theorem dX5_changeEnabled_23 : decode cX5_changeEnabled 23 = .ok (.iconst 0, 1) := by decide +kernel
theorem dX5_changeEnabled_24 : decode cX5_changeEnabled 24 = .ok (.istore_n 3, 1) := by decide +kernel
theorem dX5_changeEnabled_25 : decode cX5_changeEnabled 25 = .ok (.aload_n 1, 1) := by decide +kernel
theorem dX5_changeEnabled_26 : decode cX5_changeEnabled 26 = .ok (.iload_n 2, 1) := by decide +kernel
theorem dX5_changeEnabled_27 : decode cX5_changeEnabled 27 = .ok (.iconst 1, 1) := by decide +kernel
theorem dX5_changeEnabled_28 : decode cX5_changeEnabled 28 = .ok (.if_icmp .ne 7, 3) := by decide +kernel
theorem dX5_changeEnabled_31 : decode cX5_changeEnabled 31 = .ok (.iconst 1, 1) := by decide +kernel
theorem dX5_changeEnabled_32 : decode cX5_changeEnabled 32 = .ok (.goto 4, 3) := by decide +kernel
theorem dX5_changeEnabled_35 : decode cX5_changeEnabled 35 = .ok (.iconst 0, 1) := by decide +kernel
theorem dX5_changeEnabled_36 : decode cX5_changeEnabled 36 = .ok (.putfield 99, 3) := by decide +kernel
theorem dX5_changeEnabled_39 : decode cX5_changeEnabled 39 = .ok (.iload_n 3, 1) := by decide +kernel
theorem dX5_changeEnabled_40 : decode cX5_changeEnabled 40 = .ok (.ireturn, 1) := by decide +kernel
theorem dX5_makeSection_0 : decode cX5_makeSection 0 = .ok (.aload_n 0, 1) := by decide +kernel
theorem dX5_makeSection_1 : decode cX5_makeSection 1 = .ok (.iload_n 1, 1) := by decide +kernel
theorem dX5_makeSection_2 : decode cX5_makeSection 2 = .ok (.invokevirtual 80, 3) := by decide +kernel
theorem dX5_makeSection_5 : decode cX5_makeSection 5 = .ok (.astore 5, 2) := by decide +kernel
theorem dX5_makeSection_7 : decode cX5_makeSection 7 = .ok (.aload 5, 2) := by decide +kernel
theorem dX5_makeSection_9 : decode cX5_makeSection 9 = .ok (.ifnonnull 5, 3) := by decide +kernel
theorem dX5_makeSection_12 : decode cX5_makeSection 12 = .ok (.iconst (-1), 1) := by decide +kernel
theorem dX5_makeSection_13 : decode cX5_makeSection 13 = .ok (.ireturn, 1) := by decide +kernel
theorem dX5_makeSection_14 : decode cX5_makeSection 14 = .ok (.iload_n 2, 1) := by decide +kernel
theorem dX5_makeSection_15 : decode cX5_makeSection 15 = .ok (.iconst 0, 1) := by decide +kernel
theorem dX5_makeSection_16 : decode cX5_makeSection 16 = .ok (.sipush 499, 3) := by decide +kernel
theorem dX5_makeSection_19 : decode cX5_makeSection 19 = .ok (.invokestatic 67, 3) := by decide +kernel
theorem dX5_makeSection_22 : decode cX5_makeSection 22 = .ok (.ifCond .eq 25, 3) := by decide +kernel
theorem dX5_makeSection_25 : decode cX5_makeSection 25 = .ok (.iload_n 3, 1) := by decide +kernel
theorem dX5_makeSection_26 : decode cX5_makeSection 26 = .ok (.iconst 1, 1) := by decide +kernel
theorem dX5_makeSection_27 : decode cX5_makeSection 27 = .ok (.sipush 500, 3) := by decide +kernel
theorem dX5_makeSection_30 : decode cX5_makeSection 30 = .ok (.invokestatic 67, 3) := by decide +kernel
theorem dX5_makeSection_33 : decode cX5_makeSection 33 = .ok (.ifCond .eq 14, 3) := by decide +kernel
theorem dX5_makeSection_36 : decode cX5_makeSection 36 = .ok (.iload 4, 2) := by decide +kernel
theorem dX5_makeSection_38 : decode cX5_makeSection 38 = .ok (.iconst 1, 1) := by decide +kernel
theorem dX5_makeSection_39 : decode cX5_makeSection 39 = .ok (.bipush 15, 2) := by decide +kernel
theorem dX5_makeSection_41 : decode cX5_makeSection 41 = .ok (.invokestatic 67, 3) := by decide +kernel
theorem dX5_makeSection_44 : decode cX5_makeSection 44 = .ok (.ifCond .ne 6, 3) := by decide +kernel
theorem dX5_makeSection_47 : decode cX5_makeSection 47 = .ok (.bipush (-2), 2) := by decide +kernel
theorem dX5_makeSection_49 : decode cX5_makeSection 49 = .ok (.ireturn, 1) := by decide +kernel
theorem dX5_makeSection_50 : decode cX5_makeSection 50 = .ok (.aload 5, 2) := by decide +kernel
theorem dX5_makeSection_52 : decode cX5_makeSection 52 = .ok (.getfield 103, 3) := by decide +kernel
theorem dX5_makeSection_55 : decode cX5_makeSection 55 = .ok (.iconst 2, 1) := by decide +kernel
theorem dX5_makeSection_56 : decode cX5_makeSection 56 = .ok (.if_icmp .ge 11, 3) := by decide +kernel
theorem dX5_makeSection_59 : decode cX5_makeSection 59 = .ok (.aload 5, 2) := by decide +kernel
theorem dX5_makeSection_61 : decode cX5_makeSection 61 = .ok (.invokevirtual 95, 3) := by decide +kernel
theorem dX5_makeSection_64 : decode cX5_makeSection 64 = .ok (.ifCond .eq 6, 3) := by decide +kernel
theorem dX5_makeSection_67 : decode cX5_makeSection 67 = .ok (.bipush (-3), 2) := by decide +kernel
theorem dX5_makeSection_69 : decode cX5_makeSection 69 = .ok (.ireturn, 1) := by decide +kernel
theorem dX5_makeSection_70 : decode cX5_makeSection 70 = .ok (.aload 5, 2) := by decide +kernel
theorem dX5_makeSection_72 : decode cX5_makeSection 72 = .ok (.getfield 106, 3) := by decide +kernel
theorem dX5_makeSection_75 : decode cX5_makeSection 75 = .ok (.aload 5, 2) := by decide +kernel
theorem dX5_makeSection_77 : decode cX5_makeSection 77 = .ok (.getfield 103, 3) := by decide +kernel
theorem dX5_makeSection_80 : decode cX5_makeSection 80 = .ok (.aaload, 1) := by decide +kernel
theorem dX5_makeSection_81 : decode cX5_makeSection 81 = .ok (.astore 6, 2) := by decide +kernel
theorem dX5_makeSection_83 : decode cX5_makeSection 83 = .ok (.aload 6, 2) := by decide +kernel
theorem dX5_makeSection_85 : decode cX5_makeSection 85 = .ok (.iload_n 2, 1) := by decide +kernel
theorem dX5_makeSection_86 : decode cX5_makeSection 86 = .ok (.putfield 110, 3) := by decide +kernel
theorem dX5_makeSection_89 : decode cX5_makeSection 89 = .ok (.aload 6, 2) := by decide +kernel
theorem dX5_makeSection_91 : decode cX5_makeSection 91 = .ok (.iload_n 3, 1) := by decide +kernel
theorem dX5_makeSection_92 : decode cX5_makeSection 92 = .ok (.putfield 115, 3) := by decide +kernel
theorem dX5_makeSection_95 : decode cX5_makeSection 95 = .ok (.aload 6, 2) := by decide +kernel
theorem dX5_makeSection_97 : decode cX5_makeSection 97 = .ok (.iload 4, 2) := by decide +kernel
theorem dX5_makeSection_99 : decode cX5_makeSection 99 = .ok (.putfield 116, 3) := by decide +kernel
theorem dX5_makeSection_102 : decode cX5_makeSection 102 = .ok (.aload 5, 2) := by decide +kernel
theorem dX5_makeSection_104 : decode cX5_makeSection 104 = .ok (.dup, 1) := by decide +kernel
theorem dX5_makeSection_105 : decode cX5_makeSection 105 = .ok (.getfield 103, 3) := by decide +kernel
theorem dX5_makeSection_108 : decode cX5_makeSection 108 = .ok (.iconst 1, 1) := by decide +kernel
theorem dX5_makeSection_109 : decode cX5_makeSection 109 = .ok (.iadd, 1) := by decide +kernel
theorem dX5_makeSection_110 : decode cX5_makeSection 110 = .ok (.putfield 103, 3) := by decide +kernel
theorem dX5_makeSection_113 : decode cX5_makeSection 113 = .ok (.aload 5, 2) := by decide +kernel
theorem dX5_makeSection_115 : decode cX5_makeSection 115 = .ok (.getfield 103, 3) := by decide +kernel
theorem dX5_makeSection_118 : decode cX5_makeSection 118 = .ok (.ireturn, 1) := by decide +kernel
theorem dX5_dropSections_0 : decode cX5_dropSections 0 = .ok (.aload_n 0, 1) := by decide +kernel
theorem dX5_dropSections_1 : decode cX5_dropSections 1 = .ok (.iload_n 1, 1) := by decide +kernel
theorem dX5_dropSections_2 : decode cX5_dropSections 2 = .ok (.invokevirtual 80, 3) := by decide +kernel
theorem dX5_dropSections_5 : decode cX5_dropSections 5 = .ok (.astore_n 2, 1) := by decide +kernel
theorem dX5_dropSections_6 : decode cX5_dropSections 6 = .ok (.aload_n 2, 1) := by decide +kernel
theorem dX5_dropSections_7 : decode cX5_dropSections 7 = .ok (.ifnonnull 5, 3) := by decide +kernel
theorem dX5_dropSections_10 : decode cX5_dropSections 10 = .ok (.iconst (-1), 1) := by decide +kernel
theorem dX5_dropSections_11 : decode cX5_dropSections 11 = .ok (.ireturn, 1) := by decide +kernel
theorem dX5_dropSections_12 : decode cX5_dropSections 12 = .ok (.aload_n 2, 1) := by decide +kernel
theorem dX5_dropSections_13 : decode cX5_dropSections 13 = .ok (.invokevirtual 95, 3) := by decide +kernel
theorem dX5_dropSections_16 : decode cX5_dropSections 16 = .ok (.ifCond .eq 6, 3) := by decide +kernel
theorem dX5_dropSections_19 : decode cX5_dropSections 19 = .ok (.bipush (-3), 2) := by decide +kernel
theorem dX5_dropSections_21 : decode cX5_dropSections 21 = .ok (.ireturn, 1) := by decide +kernel
theorem dX5_dropSections_22 : decode cX5_dropSections 22 = .ok (.aload_n 2, 1) := by decide +kernel
theorem dX5_dropSections_23 : decode cX5_dropSections 23 = .ok (.getfield 103, 3) := by decide +kernel
theorem dX5_dropSections_26 : decode cX5_dropSections 26 = .ok (.istore_n 3, 1) := by decide +kernel
theorem dX5_dropSections_27 : decode cX5_dropSections 27 = .ok (.aload_n 2, 1) := by decide +kernel
theorem dX5_dropSections_28 : decode cX5_dropSections 28 = .ok (.iconst 0, 1) := by decide +kernel
theorem dX5_dropSections_29 : decode cX5_dropSections 29 = .ok (.putfield 103, 3) := by decide +kernel
theorem dX5_dropSections_32 : decode cX5_dropSections 32 = .ok (.iload_n 3, 1) := by decide +kernel
theorem dX5_dropSections_33 : decode cX5_dropSections 33 = .ok (.ireturn, 1) := by decide +kernel
theorem dX5_changeTimer_0 : decode cX5_changeTimer 0 = .ok (.aload_n 0, 1) := by decide +kernel
theorem dX5_changeTimer_1 : decode cX5_changeTimer 1 = .ok (.iload_n 1, 1) := by decide +kernel
theorem dX5_changeTimer_2 : decode cX5_changeTimer 2 = .ok (.invokevirtual 80, 3) := by decide +kernel
theorem dX5_changeTimer_5 : decode cX5_changeTimer 5 = .ok (.astore 4, 2) := by decide +kernel
theorem dX5_changeTimer_7 : decode cX5_changeTimer 7 = .ok (.aload 4, 2) := by decide +kernel
theorem dX5_changeTimer_9 : decode cX5_changeTimer 9 = .ok (.ifnonnull 5, 3) := by decide +kernel
theorem dX5_changeTimer_12 : decode cX5_changeTimer 12 = .ok (.iconst (-1), 1) := by decide +kernel
theorem dX5_changeTimer_13 : decode cX5_changeTimer 13 = .ok (.ireturn, 1) := by decide +kernel
theorem dX5_changeTimer_14 : decode cX5_changeTimer 14 = .ok (.iload_n 2, 1) := by decide +kernel
theorem dX5_changeTimer_15 : decode cX5_changeTimer 15 = .ok (.iconst 0, 1) := by decide +kernel
theorem dX5_changeTimer_16 : decode cX5_changeTimer 16 = .ok (.sipush 999, 3) := by decide +kernel
theorem dX5_changeTimer_19 : decode cX5_changeTimer 19 = .ok (.invokestatic 67, 3) := by decide +kernel
theorem dX5_changeTimer_22 : decode cX5_changeTimer 22 = .ok (.ifCond .eq 14, 3) := by decide +kernel
theorem dX5_changeTimer_25 : decode cX5_changeTimer 25 = .ok (.iload_n 3, 1) := by decide +kernel
theorem dX5_changeTimer_26 : decode cX5_changeTimer 26 = .ok (.iconst 0, 1) := by decide +kernel
theorem dX5_changeTimer_27 : decode cX5_changeTimer 27 = .ok (.sipush 1000, 3) := by decide +kernel
theorem dX5_changeTimer_30 : decode cX5_changeTimer 30 = .ok (.invokestatic 67, 3) := by decide +kernel
theorem dX5_changeTimer_33 : decode cX5_changeTimer 33 = .ok (.ifCond .ne 6, 3) := by decide +kernel
theorem dX5_changeTimer_36 : decode cX5_changeTimer 36 = .ok (.bipush (-2), 2) := by decide +kernel
theorem dX5_changeTimer_38 : decode cX5_changeTimer 38 = .ok (.ireturn, 1) := by decide +kernel
theorem dX5_changeTimer_39 : decode cX5_changeTimer 39 = .ok (.aload 4, 2) := by decide +kernel
theorem dX5_changeTimer_41 : decode cX5_changeTimer 41 = .ok (.getfield 74, 3) := by decide +kernel
theorem dX5_changeTimer_44 : decode cX5_changeTimer 44 = .ok (.iconst 1, 1) := by decide +kernel
theorem dX5_changeTimer_45 : decode cX5_changeTimer 45 = .ok (.if_icmp .ne 6, 3) := by decide +kernel
theorem dX5_changeTimer_48 : decode cX5_changeTimer 48 = .ok (.bipush (-3), 2) := by decide +kernel
theorem dX5_changeTimer_50 : decode cX5_changeTimer 50 = .ok (.ireturn, 1) := by decide +kernel
theorem dX5_changeTimer_51 : decode cX5_changeTimer 51 = .ok (.aload 4, 2) := by decide +kernel
theorem dX5_changeTimer_53 : decode cX5_changeTimer 53 = .ok (.getfield 119, 3) := by decide +kernel
theorem dX5_changeTimer_56 : decode cX5_changeTimer 56 = .ok (.istore 5, 2) := by decide +kernel
theorem dX5_changeTimer_58 : decode cX5_changeTimer 58 = .ok (.aload 4, 2) := by decide +kernel
theorem dX5_changeTimer_60 : decode cX5_changeTimer 60 = .ok (.aload_n 0, 1) := by decide +kernel
theorem dX5_changeTimer_61 : decode cX5_changeTimer 61 = .ok (.getfield 9, 3) := by decide +kernel
theorem dX5_changeTimer_64 : decode cX5_changeTimer 64 = .ok (.iload_n 2, 1) := by decide +kernel
theorem dX5_changeTimer_65 : decode cX5_changeTimer 65 = .ok (.iadd, 1) := by decide +kernel
theorem dX5_changeTimer_66 : decode cX5_changeTimer 66 = .ok (.putfield 122, 3) := by decide +kernel
theorem dX5_changeTimer_69 : decode cX5_changeTimer 69 = .ok (.aload 4, 2) := by decide +kernel
theorem dX5_changeTimer_71 : decode cX5_changeTimer 71 = .ok (.iload_n 3, 1) := by decide +kernel
theorem dX5_changeTimer_72 : decode cX5_changeTimer 72 = .ok (.putfield 119, 3) := by decide +kernel
theorem dX5_changeTimer_75 : decode cX5_changeTimer 75 = .ok (.iload 5, 2) := by decide +kernel
theorem dX5_changeTimer_77 : decode cX5_changeTimer 77 = .ok (.ireturn, 1) := by decide +kernel
theorem dX5_raiseSource_0 : decode cX5_raiseSource 0 = .ok (.aload_n 0, 1) := by decide +kernel
theorem dX5_raiseSource_1 : decode cX5_raiseSource 1 = .ok (.iload_n 1, 1) := by decide +kernel
theorem dX5_raiseSource_2 : decode cX5_raiseSource 2 = .ok (.invokevirtual 80, 3) := by decide +kernel
theorem dX5_raiseSource_5 : decode cX5_raiseSource 5 = .ok (.astore_n 2, 1) := by decide +kernel
theorem dX5_raiseSource_6 : decode cX5_raiseSource 6 = .ok (.aload_n 2, 1) := by decide +kernel
theorem dX5_raiseSource_7 : decode cX5_raiseSource 7 = .ok (.ifnonnull 5, 3) := by decide +kernel
theorem dX5_raiseSource_10 : decode cX5_raiseSource 10 = .ok (.iconst (-1), 1) := by decide +kernel
theorem dX5_raiseSource_11 : decode cX5_raiseSource 11 = .ok (.ireturn, 1) := by decide +kernel
theorem dX5_raiseSource_12 : decode cX5_raiseSource 12 = .ok (.aload_n 2, 1) := by decide +kernel
theorem dX5_raiseSource_13 : decode cX5_raiseSource 13 = .ok (.getfield 74, 3) := by decide +kernel
theorem dX5_raiseSource_16 : decode cX5_raiseSource 16 = .ok (.ifCond .ne 12, 3) := by decide +kernel
theorem dX5_raiseSource_19 : decode cX5_raiseSource 19 = .ok (.aload_n 0, 1) := by decide +kernel
theorem dX5_raiseSource_20 : decode cX5_raiseSource 20 = .ok (.iload_n 1, 1) := by decide +kernel
theorem dX5_raiseSource_21 : decode cX5_raiseSource 21 = .ok (.aload_n 2, 1) := by decide +kernel
theorem dX5_raiseSource_22 : decode cX5_raiseSource 22 = .ok (.invokevirtual 125, 3) := by decide +kernel
theorem dX5_raiseSource_25 : decode cX5_raiseSource 25 = .ok (.goto 5, 3) := by decide +kernel
theorem dX5_raiseSource_28 : decode cX5_raiseSource 28 = .ok (.bipush (-3), 2) := by decide +kernel
theorem dX5_raiseSource_30 : decode cX5_raiseSource 30 = .ok (.ireturn, 1) := by decide +kernel
theorem dX5_changeLine_0 : decode cX5_changeLine 0 = .ok (.aload_n 0, 1) := by decide +kernel
theorem dX5_changeLine_1 : decode cX5_changeLine 1 = .ok (.iload_n 1, 1) := by decide +kernel
theorem dX5_changeLine_2 : decode cX5_changeLine 2 = .ok (.invokevirtual 80, 3) := by decide +kernel
theorem dX5_changeLine_5 : decode cX5_changeLine 5 = .ok (.astore_n 3, 1) := by decide +kernel
theorem dX5_changeLine_6 : decode cX5_changeLine 6 = .ok (.aload_n 3, 1) := by decide +kernel
theorem dX5_changeLine_7 : decode cX5_changeLine 7 = .ok (.ifnonnull 5, 3) := by decide +kernel
theorem dX5_changeLine_10 : decode cX5_changeLine 10 = .ok (.iconst (-1), 1) := by decide +kernel
theorem dX5_changeLine_11 : decode cX5_changeLine 11 = .ok (.ireturn, 1) := by decide +kernel
theorem dX5_changeLine_12 : decode cX5_changeLine 12 = .ok (.aload_n 3, 1) := by decide +kernel
theorem dX5_changeLine_13 : decode cX5_changeLine 13 = .ok (.getfield 74, 3) := by decide +kernel
theorem dX5_changeLine_16 : decode cX5_changeLine 16 = .ok (.ifCond .ne 6, 3) := by decide +kernel
theorem dX5_changeLine_19 : decode cX5_changeLine 19 = .ok (.bipush (-3), 2) := by decide +kernel
theorem dX5_changeLine_21 : decode cX5_changeLine 21 = .ok (.ireturn, 1) := by decide +kernel
theorem dX5_changeLine_22 : decode cX5_changeLine 22 = .ok (.aload_n 3, 1) := by decide +kernel
theorem dX5_changeLine_23 : decode cX5_changeLine 23 = .ok (.getfield 129, 3) := by decide +kernel
theorem dX5_changeLine_26 : decode cX5_changeLine 26 = .ok (.ifCond .eq 7, 3) := by decide +kernel
theorem dX5_changeLine_29 : decode cX5_changeLine 29 = .ok (.iconst 1, 1) := by decide +kernel
theorem dX5_changeLine_30 : decode cX5_changeLine 30 = .ok (.goto 4, 3) := by decide +kernel
theorem dX5_changeLine_33 : decode cX5_changeLine 33 = .ok (.iconst 0, 1) := by decide +kernel
theorem dX5_changeLine_34 : decode cX5_changeLine 34 = .ok (.istore 4, 2) := by decide +kernel
theorem dX5_changeLine_36 : decode cX5_changeLine 36 = .ok (.iload_n 2, 1) := by decide +kernel
theorem dX5_changeLine_37 : decode cX5_changeLine 37 = .ok (.ifCond .eq 18, 3) := by decide +kernel
theorem dX5_changeLine_40 : decode cX5_changeLine 40 = .ok (.aload_n 3, 1) := by decide +kernel
theorem dX5_changeLine_41 : decode cX5_changeLine 41 = .ok (.getfield 129, 3) := by decide +kernel
theorem dX5_changeLine_44 : decode cX5_changeLine 44 = .ok (.ifCond .ne 11, 3) := by decide +kernel
theorem dX5_changeLine_47 : decode cX5_changeLine 47 = .ok (.aload_n 3, 1) := by decide +kernel
theorem dX5_changeLine_48 : decode cX5_changeLine 48 = .ok (.aload_n 0, 1) := by decide +kernel
theorem dX5_changeLine_49 : decode cX5_changeLine 49 = .ok (.getfield 9, 3) := by decide +kernel
theorem dX5_changeLine_52 : decode cX5_changeLine 52 = .ok (.putfield 132, 3) := by decide +kernel
theorem dX5_changeLine_55 : decode cX5_changeLine 55 = .ok (.aload_n 3, 1) := by decide +kernel
theorem dX5_changeLine_56 : decode cX5_changeLine 56 = .ok (.iload_n 2, 1) := by decide +kernel
theorem dX5_changeLine_57 : decode cX5_changeLine 57 = .ok (.putfield 129, 3) := by decide +kernel
theorem dX5_changeLine_60 : decode cX5_changeLine 60 = .ok (.iload 4, 2) := by decide +kernel
theorem dX5_changeLine_62 : decode cX5_changeLine 62 = .ok (.ireturn, 1) := by decide +kernel
theorem dX5_changeSetting_0 : decode cX5_changeSetting 0 = .ok (.iload_n 1, 1) := by decide +kernel
theorem dX5_changeSetting_1 : decode cX5_changeSetting 1 = .ok (.iconst 0, 1) := by decide +kernel
theorem dX5_changeSetting_2 : decode cX5_changeSetting 2 = .ok (.iconst 3, 1) := by decide +kernel
theorem dX5_changeSetting_3 : decode cX5_changeSetting 3 = .ok (.invokestatic 67, 3) := by decide +kernel
theorem dX5_changeSetting_6 : decode cX5_changeSetting 6 = .ok (.ifCond .eq 22, 3) := by decide +kernel
theorem dX5_changeSetting_9 : decode cX5_changeSetting 9 = .ok (.iload_n 2, 1) := by decide +kernel
theorem dX5_changeSetting_10 : decode cX5_changeSetting 10 = .ok (.iconst 0, 1) := by decide +kernel
theorem dX5_changeSetting_11 : decode cX5_changeSetting 11 = .ok (.iload_n 1, 1) := by decide +kernel
theorem dX5_changeSetting_12 : decode cX5_changeSetting 12 = .ok (.ifCond .ne 8, 3) := by decide +kernel
theorem dX5_changeSetting_15 : decode cX5_changeSetting 15 = .ok (.bipush 15, 2) := by decide +kernel
theorem dX5_changeSetting_17 : decode cX5_changeSetting 17 = .ok (.goto 5, 3) := by decide +kernel
theorem dX5_changeSetting_20 : decode cX5_changeSetting 20 = .ok (.bipush 50, 2) := by decide +kernel
theorem dX5_changeSetting_22 : decode cX5_changeSetting 22 = .ok (.invokestatic 67, 3) := by decide +kernel
theorem dX5_changeSetting_25 : decode cX5_changeSetting 25 = .ok (.ifCond .ne 6, 3) := by decide +kernel
theorem dX5_changeSetting_28 : decode cX5_changeSetting 28 = .ok (.bipush (-2), 2) := by decide +kernel
theorem dX5_changeSetting_30 : decode cX5_changeSetting 30 = .ok (.ireturn, 1) := by decide +kernel
theorem dX5_changeSetting_31 : decode cX5_changeSetting 31 = .ok (.aload_n 0, 1) := by decide +kernel
theorem dX5_changeSetting_32 : decode cX5_changeSetting 32 = .ok (.getfield 15, 3) := by decide +kernel
theorem dX5_changeSetting_35 : decode cX5_changeSetting 35 = .ok (.iload_n 1, 1) := by decide +kernel
theorem dX5_changeSetting_36 : decode cX5_changeSetting 36 = .ok (.iaload, 1) := by decide +kernel
theorem dX5_changeSetting_37 : decode cX5_changeSetting 37 = .ok (.istore_n 3, 1) := by decide +kernel
theorem dX5_changeSetting_38 : decode cX5_changeSetting 38 = .ok (.aload_n 0, 1) := by decide +kernel
theorem dX5_changeSetting_39 : decode cX5_changeSetting 39 = .ok (.getfield 15, 3) := by decide +kernel
theorem dX5_changeSetting_42 : decode cX5_changeSetting 42 = .ok (.iload_n 1, 1) := by decide +kernel
theorem dX5_changeSetting_43 : decode cX5_changeSetting 43 = .ok (.iload_n 2, 1) := by decide +kernel
theorem dX5_changeSetting_44 : decode cX5_changeSetting 44 = .ok (.iastore, 1) := by decide +kernel
theorem dX5_changeSetting_45 : decode cX5_changeSetting 45 = .ok (.iload_n 3, 1) := by decide +kernel
theorem dX5_changeSetting_46 : decode cX5_changeSetting 46 = .ok (.ireturn, 1) := by decide +kernel
theorem dX5_spendTicks_0 : decode cX5_spendTicks 0 = .ok (.iload_n 1, 1) := by decide +kernel
theorem dX5_spendTicks_1 : decode cX5_spendTicks 1 = .ok (.iconst 1, 1) := by decide +kernel
theorem dX5_spendTicks_2 : decode cX5_spendTicks 2 = .ok (.sipush 500, 3) := by decide +kernel
theorem dX5_spendTicks_5 : decode cX5_spendTicks 5 = .ok (.invokestatic 67, 3) := by decide +kernel
theorem dX5_spendTicks_8 : decode cX5_spendTicks 8 = .ok (.ifCond .ne 6, 3) := by decide +kernel
theorem dX5_spendTicks_11 : decode cX5_spendTicks 11 = .ok (.bipush (-2), 2) := by decide +kernel
theorem dX5_spendTicks_13 : decode cX5_spendTicks 13 = .ok (.ireturn, 1) := by decide +kernel
theorem dX5_spendTicks_14 : decode cX5_spendTicks 14 = .ok (.iconst 0, 1) := by decide +kernel
theorem dX5_spendTicks_15 : decode cX5_spendTicks 15 = .ok (.istore_n 2, 1) := by decide +kernel
theorem dX5_spendTicks_16 : decode cX5_spendTicks 16 = .ok (.iconst 0, 1) := by decide +kernel
theorem dX5_spendTicks_17 : decode cX5_spendTicks 17 = .ok (.istore_n 3, 1) := by decide +kernel
theorem dX5_spendTicks_18 : decode cX5_spendTicks 18 = .ok (.iload_n 3, 1) := by decide +kernel
theorem dX5_spendTicks_19 : decode cX5_spendTicks 19 = .ok (.iload_n 1, 1) := by decide +kernel
theorem dX5_spendTicks_20 : decode cX5_spendTicks 20 = .ok (.if_icmp .ge 16, 3) := by decide +kernel
theorem dX5_spendTicks_23 : decode cX5_spendTicks 23 = .ok (.iload_n 2, 1) := by decide +kernel
theorem dX5_spendTicks_24 : decode cX5_spendTicks 24 = .ok (.aload_n 0, 1) := by decide +kernel
theorem dX5_spendTicks_25 : decode cX5_spendTicks 25 = .ok (.invokevirtual 135, 3) := by decide +kernel
theorem dX5_spendTicks_28 : decode cX5_spendTicks 28 = .ok (.iadd, 1) := by decide +kernel
theorem dX5_spendTicks_29 : decode cX5_spendTicks 29 = .ok (.istore_n 2, 1) := by decide +kernel
theorem dX5_spendTicks_30 : decode cX5_spendTicks 30 = .ok (.iinc 3 1, 3) := by decide +kernel
theorem dX5_spendTicks_33 : decode cX5_spendTicks 33 = .ok (.goto (-15), 3) := by decide +kernel
theorem dX5_spendTicks_36 : decode cX5_spendTicks 36 = .ok (.iload_n 2, 1) := by decide +kernel
theorem dX5_spendTicks_37 : decode cX5_spendTicks 37 = .ok (.ireturn, 1) := by decide +kernel
theorem dX5_tick_0 : decode cX5_tick 0 = .ok (.aload_n 0, 1) := by decide +kernel
theorem dX5_tick_1 : decode cX5_tick 1 = .ok (.invokevirtual 139, 3) := by decide +kernel
theorem dX5_tick_4 : decode cX5_tick 4 = .ok (.aload_n 0, 1) := by decide +kernel
theorem dX5_tick_5 : decode cX5_tick 5 = .ok (.aload_n 0, 1) := by decide +kernel
theorem dX5_tick_6 : decode cX5_tick 6 = .ok (.aload_n 0, 1) := by decide +kernel
theorem dX5_tick_7 : decode cX5_tick 7 = .ok (.invokevirtual 142, 3) := by decide +kernel
theorem dX5_tick_10 : decode cX5_tick 10 = .ok (.invokevirtual 145, 3) := by decide +kernel
theorem dX5_tick_13 : decode cX5_tick 13 = .ok (.invokevirtual 149, 3) := by decide +kernel
theorem dX5_tick_16 : decode cX5_tick 16 = .ok (.aload_n 0, 1) := by decide +kernel
theorem dX5_tick_17 : decode cX5_tick 17 = .ok (.invokevirtual 153, 3) := by decide +kernel
theorem dX5_tick_20 : decode cX5_tick 20 = .ok (.ifCond .eq 18, 3) := by decide +kernel
theorem dX5_tick_23 : decode cX5_tick 23 = .ok (.aload_n 0, 1) := by decide +kernel
theorem dX5_tick_24 : decode cX5_tick 24 = .ok (.getfield 43, 3) := by decide +kernel
theorem dX5_tick_27 : decode cX5_tick 27 = .ok (.ifCond .ne 11, 3) := by decide +kernel
theorem dX5_tick_30 : decode cX5_tick 30 = .ok (.aload_n 0, 1) := by decide +kernel
theorem dX5_tick_31 : decode cX5_tick 31 = .ok (.aload_n 0, 1) := by decide +kernel
theorem dX5_tick_32 : decode cX5_tick 32 = .ok (.getfield 9, 3) := by decide +kernel
theorem dX5_tick_35 : decode cX5_tick 35 = .ok (.invokevirtual 156, 3) := by decide +kernel
theorem dX5_tick_38 : decode cX5_tick 38 = .ok (.iconst 0, 1) := by decide +kernel
theorem dX5_tick_39 : decode cX5_tick 39 = .ok (.istore_n 1, 1) := by decide +kernel
theorem dX5_tick_40 : decode cX5_tick 40 = .ok (.aload_n 0, 1) := by decide +kernel
theorem dX5_tick_41 : decode cX5_tick 41 = .ok (.getfield 37, 3) := by decide +kernel
theorem dX5_tick_44 : decode cX5_tick 44 = .ok (.ifCond .eq 10, 3) := by decide +kernel
theorem dX5_tick_47 : decode cX5_tick 47 = .ok (.aload_n 0, 1) := by decide +kernel
theorem dX5_tick_48 : decode cX5_tick 48 = .ok (.invokevirtual 159, 3) := by decide +kernel
theorem dX5_tick_51 : decode cX5_tick 51 = .ok (.goto 28, 3) := by decide +kernel
theorem dX5_tick_54 : decode cX5_tick 54 = .ok (.aload_n 0, 1) := by decide +kernel
theorem dX5_tick_55 : decode cX5_tick 55 = .ok (.getfield 34, 3) := by decide +kernel
theorem dX5_tick_58 : decode cX5_tick 58 = .ok (.ifCond .le 11, 3) := by decide +kernel
theorem dX5_tick_61 : decode cX5_tick 61 = .ok (.aload_n 0, 1) := by decide +kernel
theorem dX5_tick_62 : decode cX5_tick 62 = .ok (.invokevirtual 162, 3) := by decide +kernel
theorem dX5_tick_65 : decode cX5_tick 65 = .ok (.istore_n 1, 1) := by decide +kernel
theorem dX5_tick_66 : decode cX5_tick 66 = .ok (.goto 13, 3) := by decide +kernel
theorem dX5_tick_69 : decode cX5_tick 69 = .ok (.aload_n 0, 1) := by decide +kernel
theorem dX5_tick_70 : decode cX5_tick 70 = .ok (.getfield 19, 3) := by decide +kernel
theorem dX5_tick_73 : decode cX5_tick 73 = .ok (.iconst 0, 1) := by decide +kernel
theorem dX5_tick_74 : decode cX5_tick 74 = .ok (.dup2, 1) := by decide +kernel
theorem dX5_tick_75 : decode cX5_tick 75 = .ok (.iaload, 1) := by decide +kernel
theorem dX5_tick_76 : decode cX5_tick 76 = .ok (.iconst 1, 1) := by decide +kernel
theorem dX5_tick_77 : decode cX5_tick 77 = .ok (.iadd, 1) := by decide +kernel
theorem dX5_tick_78 : decode cX5_tick 78 = .ok (.iastore, 1) := by decide +kernel
theorem dX5_tick_79 : decode cX5_tick 79 = .ok (.aload_n 0, 1) := by decide +kernel
theorem dX5_tick_80 : decode cX5_tick 80 = .ok (.dup, 1) := by decide +kernel
theorem dX5_tick_81 : decode cX5_tick 81 = .ok (.getfield 9, 3) := by decide +kernel
theorem dX5_tick_84 : decode cX5_tick 84 = .ok (.iconst 1, 1) := by decide +kernel
theorem dX5_tick_85 : decode cX5_tick 85 = .ok (.iadd, 1) := by decide +kernel
theorem dX5_tick_86 : decode cX5_tick 86 = .ok (.putfield 9, 3) := by decide +kernel
theorem dX5_tick_89 : decode cX5_tick 89 = .ok (.iload_n 1, 1) := by decide +kernel
theorem dX5_tick_90 : decode cX5_tick 90 = .ok (.ireturn, 1) := by decide +kernel
theorem dX5_ringTimers_0 : decode cX5_ringTimers 0 = .ok (.iconst 0, 1) := by decide +kernel
theorem dX5_ringTimers_1 : decode cX5_ringTimers 1 = .ok (.istore_n 1, 1) := by decide +kernel
theorem dX5_ringTimers_2 : decode cX5_ringTimers 2 = .ok (.iload_n 1, 1) := by decide +kernel
theorem dX5_ringTimers_3 : decode cX5_ringTimers 3 = .ok (.aload_n 0, 1) := by decide +kernel
theorem dX5_ringTimers_4 : decode cX5_ringTimers 4 = .ok (.getfield 28, 3) := by decide +kernel
theorem dX5_ringTimers_7 : decode cX5_ringTimers 7 = .ok (.if_icmp .ge 54, 3) := by decide +kernel
theorem dX5_ringTimers_10 : decode cX5_ringTimers 10 = .ok (.aload_n 0, 1) := by decide +kernel
theorem dX5_ringTimers_11 : decode cX5_ringTimers 11 = .ok (.getfield 24, 3) := by decide +kernel
theorem dX5_ringTimers_14 : decode cX5_ringTimers 14 = .ok (.iload_n 1, 1) := by decide +kernel
theorem dX5_ringTimers_15 : decode cX5_ringTimers 15 = .ok (.aaload, 1) := by decide +kernel
theorem dX5_ringTimers_16 : decode cX5_ringTimers 16 = .ok (.astore_n 2, 1) := by decide +kernel
theorem dX5_ringTimers_17 : decode cX5_ringTimers 17 = .ok (.aload_n 2, 1) := by decide +kernel
theorem dX5_ringTimers_18 : decode cX5_ringTimers 18 = .ok (.getfield 119, 3) := by decide +kernel
theorem dX5_ringTimers_21 : decode cX5_ringTimers 21 = .ok (.ifCond .le 34, 3) := by decide +kernel
theorem dX5_ringTimers_24 : decode cX5_ringTimers 24 = .ok (.aload_n 2, 1) := by decide +kernel
theorem dX5_ringTimers_25 : decode cX5_ringTimers 25 = .ok (.getfield 122, 3) := by decide +kernel
theorem dX5_ringTimers_28 : decode cX5_ringTimers 28 = .ok (.aload_n 0, 1) := by decide +kernel
theorem dX5_ringTimers_29 : decode cX5_ringTimers 29 = .ok (.getfield 9, 3) := by decide +kernel
theorem dX5_ringTimers_32 : decode cX5_ringTimers 32 = .ok (.if_icmp .ne 23, 3) := by decide +kernel
theorem dX5_ringTimers_35 : decode cX5_ringTimers 35 = .ok (.aload_n 0, 1) := by decide +kernel
theorem dX5_ringTimers_36 : decode cX5_ringTimers 36 = .ok (.iload_n 1, 1) := by decide +kernel
theorem dX5_ringTimers_37 : decode cX5_ringTimers 37 = .ok (.aload_n 2, 1) := by decide +kernel
theorem dX5_ringTimers_38 : decode cX5_ringTimers 38 = .ok (.invokevirtual 125, 3) := by decide +kernel
theorem dX5_ringTimers_41 : decode cX5_ringTimers 41 = .ok (.pop, 1) := by decide +kernel
theorem dX5_ringTimers_42 : decode cX5_ringTimers 42 = .ok (.aload_n 2, 1) := by decide +kernel
theorem dX5_ringTimers_43 : decode cX5_ringTimers 43 = .ok (.dup, 1) := by decide +kernel
theorem dX5_ringTimers_44 : decode cX5_ringTimers 44 = .ok (.getfield 122, 3) := by decide +kernel
theorem dX5_ringTimers_47 : decode cX5_ringTimers 47 = .ok (.aload_n 2, 1) := by decide +kernel
theorem dX5_ringTimers_48 : decode cX5_ringTimers 48 = .ok (.getfield 119, 3) := by decide +kernel
theorem dX5_ringTimers_51 : decode cX5_ringTimers 51 = .ok (.iadd, 1) := by decide +kernel
theorem dX5_ringTimers_52 : decode cX5_ringTimers 52 = .ok (.putfield 122, 3) := by decide +kernel
theorem dX5_ringTimers_55 : decode cX5_ringTimers 55 = .ok (.iinc 1 1, 3) := by decide +kernel
theorem dX5_ringTimers_58 : decode cX5_ringTimers 58 = .ok (.goto (-56), 3) := by decide +kernel
theorem dX5_ringTimers_61 : decode cX5_ringTimers 61 = .ok (.return_, 1) := by decide +kernel
theorem dX5_receiveEdge_0 : decode cX5_receiveEdge 0 = .ok (.aload_n 2, 1) := by decide +kernel
theorem dX5_receiveEdge_1 : decode cX5_receiveEdge 1 = .ok (.getfield 165, 3) := by decide +kernel
theorem dX5_receiveEdge_4 : decode cX5_receiveEdge 4 = .ok (.ifCond .eq 39, 3) := by decide +kernel
theorem dX5_receiveEdge_7 : decode cX5_receiveEdge 7 = .ok (.aload_n 2, 1) := by decide +kernel
theorem dX5_receiveEdge_8 : decode cX5_receiveEdge 8 = .ok (.dup, 1) := by decide +kernel
theorem dX5_receiveEdge_9 : decode cX5_receiveEdge 9 = .ok (.getfield 168, 3) := by decide +kernel
theorem dX5_receiveEdge_12 : decode cX5_receiveEdge 12 = .ok (.iconst 1, 1) := by decide +kernel
theorem dX5_receiveEdge_13 : decode cX5_receiveEdge 13 = .ok (.iadd, 1) := by decide +kernel
theorem dX5_receiveEdge_14 : decode cX5_receiveEdge 14 = .ok (.putfield 168, 3) := by decide +kernel
theorem dX5_receiveEdge_17 : decode cX5_receiveEdge 17 = .ok (.aload_n 0, 1) := by decide +kernel
theorem dX5_receiveEdge_18 : decode cX5_receiveEdge 18 = .ok (.getfield 19, 3) := by decide +kernel
theorem dX5_receiveEdge_21 : decode cX5_receiveEdge 21 = .ok (.bipush 7, 2) := by decide +kernel
theorem dX5_receiveEdge_23 : decode cX5_receiveEdge 23 = .ok (.dup2, 1) := by decide +kernel
theorem dX5_receiveEdge_24 : decode cX5_receiveEdge 24 = .ok (.iaload, 1) := by decide +kernel
theorem dX5_receiveEdge_25 : decode cX5_receiveEdge 25 = .ok (.iconst 1, 1) := by decide +kernel
theorem dX5_receiveEdge_26 : decode cX5_receiveEdge 26 = .ok (.iadd, 1) := by decide +kernel
theorem dX5_receiveEdge_27 : decode cX5_receiveEdge 27 = .ok (.iastore, 1) := by decide +kernel
theorem dX5_receiveEdge_28 : decode cX5_receiveEdge 28 = .ok (.aload_n 0, 1) := by decide +kernel
theorem dX5_receiveEdge_29 : decode cX5_receiveEdge 29 = .ok (.getfield 49, 3) := by decide +kernel
theorem dX5_receiveEdge_32 : decode cX5_receiveEdge 32 = .ok (.iconst 3, 1) := by decide +kernel
theorem dX5_receiveEdge_33 : decode cX5_receiveEdge 33 = .ok (.iload_n 1, 1) := by decide +kernel
theorem dX5_receiveEdge_34 : decode cX5_receiveEdge 34 = .ok (.aload_n 0, 1) := by decide +kernel
theorem dX5_receiveEdge_35 : decode cX5_receiveEdge 35 = .ok (.getfield 9, 3) := by decide +kernel
theorem dX5_receiveEdge_38 : decode cX5_receiveEdge 38 = .ok (.invokevirtual 171, 3) := by decide +kernel
theorem dX5_receiveEdge_41 : decode cX5_receiveEdge 41 = .ok (.iconst 0, 1) := by decide +kernel
theorem dX5_receiveEdge_42 : decode cX5_receiveEdge 42 = .ok (.ireturn, 1) := by decide +kernel
theorem dX5_receiveEdge_43 : decode cX5_receiveEdge 43 = .ok (.aload_n 2, 1) := by decide +kernel
theorem dX5_receiveEdge_44 : decode cX5_receiveEdge 44 = .ok (.iconst 1, 1) := by decide +kernel
theorem dX5_receiveEdge_45 : decode cX5_receiveEdge 45 = .ok (.putfield 165, 3) := by decide +kernel
theorem dX5_receiveEdge_48 : decode cX5_receiveEdge 48 = .ok (.aload_n 2, 1) := by decide +kernel
theorem dX5_receiveEdge_49 : decode cX5_receiveEdge 49 = .ok (.aload_n 0, 1) := by decide +kernel
theorem dX5_receiveEdge_50 : decode cX5_receiveEdge 50 = .ok (.getfield 9, 3) := by decide +kernel
theorem dX5_receiveEdge_53 : decode cX5_receiveEdge 53 = .ok (.putfield 132, 3) := by decide +kernel
theorem dX5_receiveEdge_56 : decode cX5_receiveEdge 56 = .ok (.iconst 1, 1) := by decide +kernel
theorem dX5_receiveEdge_57 : decode cX5_receiveEdge 57 = .ok (.ireturn, 1) := by decide +kernel
theorem dX5_arrange_0 : decode cX5_arrange 0 = .ok (.aload_n 0, 1) := by decide +kernel
theorem dX5_arrange_1 : decode cX5_arrange 1 = .ok (.invokevirtual 153, 3) := by decide +kernel
theorem dX5_arrange_4 : decode cX5_arrange 4 = .ok (.ifCond .eq 31, 3) := by decide +kernel
theorem dX5_arrange_7 : decode cX5_arrange 7 = .ok (.iload_n 1, 1) := by decide +kernel
theorem dX5_arrange_8 : decode cX5_arrange 8 = .ok (.iconst (-1), 1) := by decide +kernel
theorem dX5_arrange_9 : decode cX5_arrange 9 = .ok (.if_icmp .ne 10, 3) := by decide +kernel
theorem dX5_arrange_12 : decode cX5_arrange 12 = .ok (.aload_n 0, 1) := by decide +kernel
theorem dX5_arrange_13 : decode cX5_arrange 13 = .ok (.invokevirtual 175, 3) := by decide +kernel
theorem dX5_arrange_16 : decode cX5_arrange 16 = .ok (.goto 45, 3) := by decide +kernel
theorem dX5_arrange_19 : decode cX5_arrange 19 = .ok (.iload_n 1, 1) := by decide +kernel
theorem dX5_arrange_20 : decode cX5_arrange 20 = .ok (.aload_n 0, 1) := by decide +kernel
theorem dX5_arrange_21 : decode cX5_arrange 21 = .ok (.getfield 40, 3) := by decide +kernel
theorem dX5_arrange_24 : decode cX5_arrange 24 = .ok (.if_icmp .eq 37, 3) := by decide +kernel
theorem dX5_arrange_27 : decode cX5_arrange 27 = .ok (.aload_n 0, 1) := by decide +kernel
theorem dX5_arrange_28 : decode cX5_arrange 28 = .ok (.iload_n 1, 1) := by decide +kernel
theorem dX5_arrange_29 : decode cX5_arrange 29 = .ok (.invokevirtual 178, 3) := by decide +kernel
theorem dX5_arrange_32 : decode cX5_arrange 32 = .ok (.goto 29, 3) := by decide +kernel
theorem dX5_arrange_35 : decode cX5_arrange 35 = .ok (.iload_n 1, 1) := by decide +kernel
theorem dX5_arrange_36 : decode cX5_arrange 36 = .ok (.iconst (-1), 1) := by decide +kernel
theorem dX5_arrange_37 : decode cX5_arrange 37 = .ok (.if_icmp .eq 24, 3) := by decide +kernel
theorem dX5_arrange_40 : decode cX5_arrange 40 = .ok (.aload_n 0, 1) := by decide +kernel
theorem dX5_arrange_41 : decode cX5_arrange 41 = .ok (.getfield 37, 3) := by decide +kernel
theorem dX5_arrange_44 : decode cX5_arrange 44 = .ok (.iconst 2, 1) := by decide +kernel
theorem dX5_arrange_45 : decode cX5_arrange 45 = .ok (.if_icmp .ne 11, 3) := by decide +kernel
theorem dX5_arrange_48 : decode cX5_arrange 48 = .ok (.aload_n 0, 1) := by decide +kernel
theorem dX5_arrange_49 : decode cX5_arrange 49 = .ok (.iload_n 1, 1) := by decide +kernel
theorem dX5_arrange_50 : decode cX5_arrange 50 = .ok (.invokevirtual 181, 3) := by decide +kernel
theorem dX5_arrange_53 : decode cX5_arrange 53 = .ok (.goto 8, 3) := by decide +kernel
theorem dX5_arrange_56 : decode cX5_arrange 56 = .ok (.aload_n 0, 1) := by decide +kernel
theorem dX5_arrange_57 : decode cX5_arrange 57 = .ok (.iload_n 1, 1) := by decide +kernel
theorem dX5_arrange_58 : decode cX5_arrange 58 = .ok (.invokevirtual 184, 3) := by decide +kernel
theorem dX5_arrange_61 : decode cX5_arrange 61 = .ok (.return_, 1) := by decide +kernel
theorem dX5_giveUpEntry_0 : decode cX5_giveUpEntry 0 = .ok (.aload_n 0, 1) := by decide +kernel
theorem dX5_giveUpEntry_1 : decode cX5_giveUpEntry 1 = .ok (.getfield 19, 3) := by decide +kernel
theorem dX5_giveUpEntry_4 : decode cX5_giveUpEntry 4 = .ok (.bipush 6, 2) := by decide +kernel
theorem dX5_giveUpEntry_6 : decode cX5_giveUpEntry 6 = .ok (.dup2, 1) := by decide +kernel
theorem dX5_giveUpEntry_7 : decode cX5_giveUpEntry 7 = .ok (.iaload, 1) := by decide +kernel
theorem dX5_giveUpEntry_8 : decode cX5_giveUpEntry 8 = .ok (.iconst 1, 1) := by decide +kernel
theorem dX5_giveUpEntry_9 : decode cX5_giveUpEntry 9 = .ok (.iadd, 1) := by decide +kernel
theorem dX5_giveUpEntry_10 : decode cX5_giveUpEntry 10 = .ok (.iastore, 1) := by decide +kernel
theorem dX5_giveUpEntry_11 : decode cX5_giveUpEntry 11 = .ok (.aload_n 0, 1) := by decide +kernel
theorem dX5_giveUpEntry_12 : decode cX5_giveUpEntry 12 = .ok (.getfield 49, 3) := by decide +kernel
theorem dX5_giveUpEntry_15 : decode cX5_giveUpEntry 15 = .ok (.bipush 7, 2) := by decide +kernel
theorem dX5_giveUpEntry_17 : decode cX5_giveUpEntry 17 = .ok (.aload_n 0, 1) := by decide +kernel
theorem dX5_giveUpEntry_18 : decode cX5_giveUpEntry 18 = .ok (.getfield 40, 3) := by decide +kernel
theorem dX5_giveUpEntry_21 : decode cX5_giveUpEntry 21 = .ok (.aload_n 0, 1) := by decide +kernel
theorem dX5_giveUpEntry_22 : decode cX5_giveUpEntry 22 = .ok (.getfield 9, 3) := by decide +kernel
theorem dX5_giveUpEntry_25 : decode cX5_giveUpEntry 25 = .ok (.invokevirtual 171, 3) := by decide +kernel
theorem dX5_giveUpEntry_28 : decode cX5_giveUpEntry 28 = .ok (.aload_n 0, 1) := by decide +kernel
theorem dX5_giveUpEntry_29 : decode cX5_giveUpEntry 29 = .ok (.invokevirtual 187, 3) := by decide +kernel
theorem dX5_giveUpEntry_32 : decode cX5_giveUpEntry 32 = .ok (.return_, 1) := by decide +kernel
theorem dX5_takeOver_0 : decode cX5_takeOver 0 = .ok (.aload_n 0, 1) := by decide +kernel
theorem dX5_takeOver_1 : decode cX5_takeOver 1 = .ok (.iload_n 1, 1) := by decide +kernel
theorem dX5_takeOver_2 : decode cX5_takeOver 2 = .ok (.putfield 40, 3) := by decide +kernel
theorem dX5_takeOver_5 : decode cX5_takeOver 5 = .ok (.aload_n 0, 1) := by decide +kernel
theorem dX5_takeOver_6 : decode cX5_takeOver 6 = .ok (.getfield 19, 3) := by decide +kernel
theorem dX5_takeOver_9 : decode cX5_takeOver 9 = .ok (.iconst 3, 1) := by decide +kernel
theorem dX5_takeOver_10 : decode cX5_takeOver 10 = .ok (.dup2, 1) := by decide +kernel
theorem dX5_takeOver_11 : decode cX5_takeOver 11 = .ok (.iaload, 1) := by decide +kernel
theorem dX5_takeOver_12 : decode cX5_takeOver 12 = .ok (.iconst 1, 1) := by decide +kernel
theorem dX5_takeOver_13 : decode cX5_takeOver 13 = .ok (.iadd, 1) := by decide +kernel
theorem dX5_takeOver_14 : decode cX5_takeOver 14 = .ok (.iastore, 1) := by decide +kernel
theorem dX5_takeOver_15 : decode cX5_takeOver 15 = .ok (.aload_n 0, 1) := by decide +kernel
theorem dX5_takeOver_16 : decode cX5_takeOver 16 = .ok (.getfield 49, 3) := by decide +kernel
theorem dX5_takeOver_19 : decode cX5_takeOver 19 = .ok (.iconst 4, 1) := by decide +kernel
theorem dX5_takeOver_20 : decode cX5_takeOver 20 = .ok (.iload_n 1, 1) := by decide +kernel
theorem dX5_takeOver_21 : decode cX5_takeOver 21 = .ok (.aload_n 0, 1) := by decide +kernel
theorem dX5_takeOver_22 : decode cX5_takeOver 22 = .ok (.getfield 9, 3) := by decide +kernel
theorem dX5_takeOver_25 : decode cX5_takeOver 25 = .ok (.invokevirtual 171, 3) := by decide +kernel
theorem dX5_takeOver_28 : decode cX5_takeOver 28 = .ok (.return_, 1) := by decide +kernel
theorem dX5_beginTail_0 : decode cX5_beginTail 0 = .ok (.aload_n 0, 1) := by decide +kernel
theorem dX5_beginTail_1 : decode cX5_beginTail 1 = .ok (.iconst 3, 1) := by decide +kernel
theorem dX5_beginTail_2 : decode cX5_beginTail 2 = .ok (.iload_n 1, 1) := by decide +kernel
theorem dX5_beginTail_3 : decode cX5_beginTail 3 = .ok (.aload_n 0, 1) := by decide +kernel
theorem dX5_beginTail_4 : decode cX5_beginTail 4 = .ok (.getfield 15, 3) := by decide +kernel
theorem dX5_beginTail_7 : decode cX5_beginTail 7 = .ok (.iconst 3, 1) := by decide +kernel
theorem dX5_beginTail_8 : decode cX5_beginTail 8 = .ok (.iaload, 1) := by decide +kernel
theorem dX5_beginTail_9 : decode cX5_beginTail 9 = .ok (.invokevirtual 190, 3) := by decide +kernel
theorem dX5_beginTail_12 : decode cX5_beginTail 12 = .ok (.aload_n 0, 1) := by decide +kernel
theorem dX5_beginTail_13 : decode cX5_beginTail 13 = .ok (.getfield 19, 3) := by decide +kernel
theorem dX5_beginTail_16 : decode cX5_beginTail 16 = .ok (.iconst 4, 1) := by decide +kernel
theorem dX5_beginTail_17 : decode cX5_beginTail 17 = .ok (.dup2, 1) := by decide +kernel
theorem dX5_beginTail_18 : decode cX5_beginTail 18 = .ok (.iaload, 1) := by decide +kernel
theorem dX5_beginTail_19 : decode cX5_beginTail 19 = .ok (.iconst 1, 1) := by decide +kernel
theorem dX5_beginTail_20 : decode cX5_beginTail 20 = .ok (.iadd, 1) := by decide +kernel
theorem dX5_beginTail_21 : decode cX5_beginTail 21 = .ok (.iastore, 1) := by decide +kernel
theorem dX5_beginTail_22 : decode cX5_beginTail 22 = .ok (.aload_n 0, 1) := by decide +kernel
theorem dX5_beginTail_23 : decode cX5_beginTail 23 = .ok (.getfield 49, 3) := by decide +kernel
theorem dX5_beginTail_26 : decode cX5_beginTail 26 = .ok (.iconst 5, 1) := by decide +kernel
theorem dX5_beginTail_27 : decode cX5_beginTail 27 = .ok (.iload_n 1, 1) := by decide +kernel
theorem dX5_beginTail_28 : decode cX5_beginTail 28 = .ok (.aload_n 0, 1) := by decide +kernel
theorem dX5_beginTail_29 : decode cX5_beginTail 29 = .ok (.getfield 9, 3) := by decide +kernel
theorem dX5_beginTail_32 : decode cX5_beginTail 32 = .ok (.invokevirtual 171, 3) := by decide +kernel
theorem dX5_beginTail_35 : decode cX5_beginTail 35 = .ok (.return_, 1) := by decide +kernel
theorem dX5_beginEntry_0 : decode cX5_beginEntry 0 = .ok (.aload_n 0, 1) := by decide +kernel
theorem dX5_beginEntry_1 : decode cX5_beginEntry 1 = .ok (.iconst 1, 1) := by decide +kernel
theorem dX5_beginEntry_2 : decode cX5_beginEntry 2 = .ok (.iload_n 1, 1) := by decide +kernel
theorem dX5_beginEntry_3 : decode cX5_beginEntry 3 = .ok (.aload_n 0, 1) := by decide +kernel
theorem dX5_beginEntry_4 : decode cX5_beginEntry 4 = .ok (.getfield 15, 3) := by decide +kernel
theorem dX5_beginEntry_7 : decode cX5_beginEntry 7 = .ok (.iconst 1, 1) := by decide +kernel
theorem dX5_beginEntry_8 : decode cX5_beginEntry 8 = .ok (.iaload, 1) := by decide +kernel
theorem dX5_beginEntry_9 : decode cX5_beginEntry 9 = .ok (.invokevirtual 190, 3) := by decide +kernel
theorem dX5_beginEntry_12 : decode cX5_beginEntry 12 = .ok (.aload_n 0, 1) := by decide +kernel
theorem dX5_beginEntry_13 : decode cX5_beginEntry 13 = .ok (.aload_n 0, 1) := by decide +kernel
theorem dX5_beginEntry_14 : decode cX5_beginEntry 14 = .ok (.getfield 34, 3) := by decide +kernel
theorem dX5_beginEntry_17 : decode cX5_beginEntry 17 = .ok (.iconst 1, 1) := by decide +kernel
theorem dX5_beginEntry_18 : decode cX5_beginEntry 18 = .ok (.isub, 1) := by decide +kernel
theorem dX5_beginEntry_19 : decode cX5_beginEntry 19 = .ok (.invokevirtual 193, 3) := by decide +kernel
theorem dX5_beginEntry_22 : decode cX5_beginEntry 22 = .ok (.istore_n 2, 1) := by decide +kernel
theorem dX5_beginEntry_23 : decode cX5_beginEntry 23 = .ok (.aload_n 0, 1) := by decide +kernel
theorem dX5_beginEntry_24 : decode cX5_beginEntry 24 = .ok (.iload_n 2, 1) := by decide +kernel
theorem dX5_beginEntry_25 : decode cX5_beginEntry 25 = .ok (.invokevirtual 80, 3) := by decide +kernel
theorem dX5_beginEntry_28 : decode cX5_beginEntry 28 = .ok (.astore_n 3, 1) := by decide +kernel
theorem dX5_beginEntry_29 : decode cX5_beginEntry 29 = .ok (.aload_n 3, 1) := by decide +kernel
theorem dX5_beginEntry_30 : decode cX5_beginEntry 30 = .ok (.ifnull 37, 3) := by decide +kernel
theorem dX5_beginEntry_33 : decode cX5_beginEntry 33 = .ok (.aload_n 3, 1) := by decide +kernel
theorem dX5_beginEntry_34 : decode cX5_beginEntry 34 = .ok (.dup, 1) := by decide +kernel
theorem dX5_beginEntry_35 : decode cX5_beginEntry 35 = .ok (.getfield 196, 3) := by decide +kernel
theorem dX5_beginEntry_38 : decode cX5_beginEntry 38 = .ok (.iconst 1, 1) := by decide +kernel
theorem dX5_beginEntry_39 : decode cX5_beginEntry 39 = .ok (.iadd, 1) := by decide +kernel
theorem dX5_beginEntry_40 : decode cX5_beginEntry 40 = .ok (.putfield 196, 3) := by decide +kernel
theorem dX5_beginEntry_43 : decode cX5_beginEntry 43 = .ok (.aload_n 0, 1) := by decide +kernel
theorem dX5_beginEntry_44 : decode cX5_beginEntry 44 = .ok (.getfield 19, 3) := by decide +kernel
theorem dX5_beginEntry_47 : decode cX5_beginEntry 47 = .ok (.iconst 5, 1) := by decide +kernel
theorem dX5_beginEntry_48 : decode cX5_beginEntry 48 = .ok (.dup2, 1) := by decide +kernel
theorem dX5_beginEntry_49 : decode cX5_beginEntry 49 = .ok (.iaload, 1) := by decide +kernel
theorem dX5_beginEntry_50 : decode cX5_beginEntry 50 = .ok (.iconst 1, 1) := by decide +kernel
theorem dX5_beginEntry_51 : decode cX5_beginEntry 51 = .ok (.iadd, 1) := by decide +kernel
theorem dX5_beginEntry_52 : decode cX5_beginEntry 52 = .ok (.iastore, 1) := by decide +kernel
theorem dX5_beginEntry_53 : decode cX5_beginEntry 53 = .ok (.aload_n 0, 1) := by decide +kernel
theorem dX5_beginEntry_54 : decode cX5_beginEntry 54 = .ok (.getfield 49, 3) := by decide +kernel
theorem dX5_beginEntry_57 : decode cX5_beginEntry 57 = .ok (.bipush 6, 2) := by decide +kernel
theorem dX5_beginEntry_59 : decode cX5_beginEntry 59 = .ok (.iload_n 2, 1) := by decide +kernel
theorem dX5_beginEntry_60 : decode cX5_beginEntry 60 = .ok (.aload_n 0, 1) := by decide +kernel
theorem dX5_beginEntry_61 : decode cX5_beginEntry 61 = .ok (.getfield 9, 3) := by decide +kernel
theorem dX5_beginEntry_64 : decode cX5_beginEntry 64 = .ok (.invokevirtual 171, 3) := by decide +kernel
theorem dX5_beginEntry_67 : decode cX5_beginEntry 67 = .ok (.return_, 1) := by decide +kernel
theorem dX5_beginExit_0 : decode cX5_beginExit 0 = .ok (.aload_n 0, 1) := by decide +kernel
theorem dX5_beginExit_1 : decode cX5_beginExit 1 = .ok (.aload_n 0, 1) := by decide +kernel
theorem dX5_beginExit_2 : decode cX5_beginExit 2 = .ok (.getfield 15, 3) := by decide +kernel
theorem dX5_beginExit_5 : decode cX5_beginExit 5 = .ok (.iconst 2, 1) := by decide +kernel
theorem dX5_beginExit_6 : decode cX5_beginExit 6 = .ok (.iaload, 1) := by decide +kernel
theorem dX5_beginExit_7 : decode cX5_beginExit 7 = .ok (.ifCond .le 7, 3) := by decide +kernel
theorem dX5_beginExit_10 : decode cX5_beginExit 10 = .ok (.iconst 2, 1) := by decide +kernel
theorem dX5_beginExit_11 : decode cX5_beginExit 11 = .ok (.goto 4, 3) := by decide +kernel
theorem dX5_beginExit_14 : decode cX5_beginExit 14 = .ok (.iconst 0, 1) := by decide +kernel
theorem dX5_beginExit_15 : decode cX5_beginExit 15 = .ok (.putfield 37, 3) := by decide +kernel
theorem dX5_beginExit_18 : decode cX5_beginExit 18 = .ok (.aload_n 0, 1) := by decide +kernel
theorem dX5_beginExit_19 : decode cX5_beginExit 19 = .ok (.iconst (-1), 1) := by decide +kernel
theorem dX5_beginExit_20 : decode cX5_beginExit 20 = .ok (.putfield 40, 3) := by decide +kernel
theorem dX5_beginExit_23 : decode cX5_beginExit 23 = .ok (.aload_n 0, 1) := by decide +kernel
theorem dX5_beginExit_24 : decode cX5_beginExit 24 = .ok (.aload_n 0, 1) := by decide +kernel
theorem dX5_beginExit_25 : decode cX5_beginExit 25 = .ok (.getfield 15, 3) := by decide +kernel
theorem dX5_beginExit_28 : decode cX5_beginExit 28 = .ok (.iconst 2, 1) := by decide +kernel
theorem dX5_beginExit_29 : decode cX5_beginExit 29 = .ok (.iaload, 1) := by decide +kernel
theorem dX5_beginExit_30 : decode cX5_beginExit 30 = .ok (.putfield 43, 3) := by decide +kernel
theorem dX5_beginExit_33 : decode cX5_beginExit 33 = .ok (.return_, 1) := by decide +kernel
theorem dX5_setChange_0 : decode cX5_setChange 0 = .ok (.aload_n 0, 1) := by decide +kernel
theorem dX5_setChange_1 : decode cX5_setChange 1 = .ok (.iload_n 1, 1) := by decide +kernel
theorem dX5_setChange_2 : decode cX5_setChange 2 = .ok (.putfield 37, 3) := by decide +kernel
theorem dX5_setChange_5 : decode cX5_setChange 5 = .ok (.aload_n 0, 1) := by decide +kernel
theorem dX5_setChange_6 : decode cX5_setChange 6 = .ok (.iload_n 2, 1) := by decide +kernel
theorem dX5_setChange_7 : decode cX5_setChange 7 = .ok (.putfield 40, 3) := by decide +kernel
theorem dX5_setChange_10 : decode cX5_setChange 10 = .ok (.aload_n 0, 1) := by decide +kernel
theorem dX5_setChange_11 : decode cX5_setChange 11 = .ok (.iload_n 3, 1) := by decide +kernel
theorem dX5_setChange_12 : decode cX5_setChange 12 = .ok (.putfield 43, 3) := by decide +kernel
theorem dX5_setChange_15 : decode cX5_setChange 15 = .ok (.return_, 1) := by decide +kernel
theorem dX5_isEntering_0 : decode cX5_isEntering 0 = .ok (.aload_n 0, 1) := by decide +kernel
theorem dX5_isEntering_1 : decode cX5_isEntering 1 = .ok (.getfield 37, 3) := by decide +kernel
theorem dX5_isEntering_4 : decode cX5_isEntering 4 = .ok (.iconst 1, 1) := by decide +kernel
theorem dX5_isEntering_5 : decode cX5_isEntering 5 = .ok (.if_icmp .eq 11, 3) := by decide +kernel
theorem dX5_isEntering_8 : decode cX5_isEntering 8 = .ok (.aload_n 0, 1) := by decide +kernel
theorem dX5_isEntering_9 : decode cX5_isEntering 9 = .ok (.getfield 37, 3) := by decide +kernel
theorem dX5_isEntering_12 : decode cX5_isEntering 12 = .ok (.iconst 3, 1) := by decide +kernel
theorem dX5_isEntering_13 : decode cX5_isEntering 13 = .ok (.if_icmp .ne 7, 3) := by decide +kernel
theorem dX5_isEntering_16 : decode cX5_isEntering 16 = .ok (.iconst 1, 1) := by decide +kernel
theorem dX5_isEntering_17 : decode cX5_isEntering 17 = .ok (.goto 4, 3) := by decide +kernel
theorem dX5_isEntering_20 : decode cX5_isEntering 20 = .ok (.iconst 0, 1) := by decide +kernel
theorem dX5_isEntering_21 : decode cX5_isEntering 21 = .ok (.ireturn, 1) := by decide +kernel
theorem dX5_bringOnTop_0 : decode cX5_bringOnTop 0 = .ok (.aload_n 0, 1) := by decide +kernel
theorem dX5_bringOnTop_1 : decode cX5_bringOnTop 1 = .ok (.getfield 40, 3) := by decide +kernel
theorem dX5_bringOnTop_4 : decode cX5_bringOnTop 4 = .ok (.istore_n 2, 1) := by decide +kernel
theorem dX5_bringOnTop_5 : decode cX5_bringOnTop 5 = .ok (.aload_n 0, 1) := by decide +kernel
theorem dX5_bringOnTop_6 : decode cX5_bringOnTop 6 = .ok (.iload_n 2, 1) := by decide +kernel
theorem dX5_bringOnTop_7 : decode cX5_bringOnTop 7 = .ok (.invokevirtual 80, 3) := by decide +kernel
theorem dX5_bringOnTop_10 : decode cX5_bringOnTop 10 = .ok (.astore_n 3, 1) := by decide +kernel
theorem dX5_bringOnTop_11 : decode cX5_bringOnTop 11 = .ok (.aload_n 0, 1) := by decide +kernel
theorem dX5_bringOnTop_12 : decode cX5_bringOnTop 12 = .ok (.iconst 0, 1) := by decide +kernel
theorem dX5_bringOnTop_13 : decode cX5_bringOnTop 13 = .ok (.iconst (-1), 1) := by decide +kernel
theorem dX5_bringOnTop_14 : decode cX5_bringOnTop 14 = .ok (.iconst 0, 1) := by decide +kernel
theorem dX5_bringOnTop_15 : decode cX5_bringOnTop 15 = .ok (.invokevirtual 190, 3) := by decide +kernel
theorem dX5_bringOnTop_18 : decode cX5_bringOnTop 18 = .ok (.aload_n 3, 1) := by decide +kernel
theorem dX5_bringOnTop_19 : decode cX5_bringOnTop 19 = .ok (.ifnull 12, 3) := by decide +kernel
theorem dX5_bringOnTop_22 : decode cX5_bringOnTop 22 = .ok (.aload_n 0, 1) := by decide +kernel
theorem dX5_bringOnTop_23 : decode cX5_bringOnTop 23 = .ok (.getfield 34, 3) := by decide +kernel
theorem dX5_bringOnTop_26 : decode cX5_bringOnTop 26 = .ok (.bipush 12, 2) := by decide +kernel
theorem dX5_bringOnTop_28 : decode cX5_bringOnTop 28 = .ok (.if_icmp .lt 4, 3) := by decide +kernel
theorem dX5_bringOnTop_31 : decode cX5_bringOnTop 31 = .ok (.return_, 1) := by decide +kernel
theorem dX5_bringOnTop_32 : decode cX5_bringOnTop 32 = .ok (.aload_n 0, 1) := by decide +kernel
theorem dX5_bringOnTop_33 : decode cX5_bringOnTop 33 = .ok (.getfield 19, 3) := by decide +kernel
theorem dX5_bringOnTop_36 : decode cX5_bringOnTop 36 = .ok (.bipush 9, 2) := by decide +kernel
theorem dX5_bringOnTop_38 : decode cX5_bringOnTop 38 = .ok (.dup2, 1) := by decide +kernel
theorem dX5_bringOnTop_39 : decode cX5_bringOnTop 39 = .ok (.iaload, 1) := by decide +kernel
theorem dX5_bringOnTop_40 : decode cX5_bringOnTop 40 = .ok (.aload_n 3, 1) := by decide +kernel
theorem dX5_bringOnTop_41 : decode cX5_bringOnTop 41 = .ok (.aload_n 0, 1) := by decide +kernel
theorem dX5_bringOnTop_42 : decode cX5_bringOnTop 42 = .ok (.getfield 34, 3) := by decide +kernel
theorem dX5_bringOnTop_45 : decode cX5_bringOnTop 45 = .ok (.iload_n 1, 1) := by decide +kernel
theorem dX5_bringOnTop_46 : decode cX5_bringOnTop 46 = .ok (.invokevirtual 199, 3) := by decide +kernel
theorem dX5_bringOnTop_49 : decode cX5_bringOnTop 49 = .ok (.iadd, 1) := by decide +kernel
theorem dX5_bringOnTop_50 : decode cX5_bringOnTop 50 = .ok (.iastore, 1) := by decide +kernel
theorem dX5_bringOnTop_51 : decode cX5_bringOnTop 51 = .ok (.aload_n 0, 1) := by decide +kernel
theorem dX5_bringOnTop_52 : decode cX5_bringOnTop 52 = .ok (.getfield 31, 3) := by decide +kernel
theorem dX5_bringOnTop_55 : decode cX5_bringOnTop 55 = .ok (.aload_n 0, 1) := by decide +kernel
theorem dX5_bringOnTop_56 : decode cX5_bringOnTop 56 = .ok (.getfield 34, 3) := by decide +kernel
theorem dX5_bringOnTop_59 : decode cX5_bringOnTop 59 = .ok (.iload_n 2, 1) := by decide +kernel
theorem dX5_bringOnTop_60 : decode cX5_bringOnTop 60 = .ok (.iastore, 1) := by decide +kernel
theorem dX5_bringOnTop_61 : decode cX5_bringOnTop 61 = .ok (.aload_n 0, 1) := by decide +kernel
theorem dX5_bringOnTop_62 : decode cX5_bringOnTop 62 = .ok (.dup, 1) := by decide +kernel
theorem dX5_bringOnTop_63 : decode cX5_bringOnTop 63 = .ok (.getfield 34, 3) := by decide +kernel
theorem dX5_bringOnTop_66 : decode cX5_bringOnTop 66 = .ok (.iconst 1, 1) := by decide +kernel
theorem dX5_bringOnTop_67 : decode cX5_bringOnTop 67 = .ok (.iadd, 1) := by decide +kernel
theorem dX5_bringOnTop_68 : decode cX5_bringOnTop 68 = .ok (.putfield 34, 3) := by decide +kernel
theorem dX5_bringOnTop_71 : decode cX5_bringOnTop 71 = .ok (.aload_n 0, 1) := by decide +kernel
theorem dX5_bringOnTop_72 : decode cX5_bringOnTop 72 = .ok (.getfield 19, 3) := by decide +kernel
theorem dX5_bringOnTop_75 : decode cX5_bringOnTop 75 = .ok (.bipush 8, 2) := by decide +kernel
theorem dX5_bringOnTop_77 : decode cX5_bringOnTop 77 = .ok (.aload_n 0, 1) := by decide +kernel
theorem dX5_bringOnTop_78 : decode cX5_bringOnTop 78 = .ok (.getfield 19, 3) := by decide +kernel
theorem dX5_bringOnTop_81 : decode cX5_bringOnTop 81 = .ok (.bipush 8, 2) := by decide +kernel
theorem dX5_bringOnTop_83 : decode cX5_bringOnTop 83 = .ok (.iaload, 1) := by decide +kernel
theorem dX5_bringOnTop_84 : decode cX5_bringOnTop 84 = .ok (.aload_n 0, 1) := by decide +kernel
theorem dX5_bringOnTop_85 : decode cX5_bringOnTop 85 = .ok (.getfield 34, 3) := by decide +kernel
theorem dX5_bringOnTop_88 : decode cX5_bringOnTop 88 = .ok (.invokestatic 203, 3) := by decide +kernel
theorem dX5_bringOnTop_91 : decode cX5_bringOnTop 91 = .ok (.iastore, 1) := by decide +kernel
theorem dX5_bringOnTop_92 : decode cX5_bringOnTop 92 = .ok (.aload_n 0, 1) := by decide +kernel
theorem dX5_bringOnTop_93 : decode cX5_bringOnTop 93 = .ok (.getfield 49, 3) := by decide +kernel
theorem dX5_bringOnTop_96 : decode cX5_bringOnTop 96 = .ok (.iconst 1, 1) := by decide +kernel
theorem dX5_bringOnTop_97 : decode cX5_bringOnTop 97 = .ok (.iload_n 2, 1) := by decide +kernel
theorem dX5_bringOnTop_98 : decode cX5_bringOnTop 98 = .ok (.iload_n 1, 1) := by decide +kernel
theorem dX5_bringOnTop_99 : decode cX5_bringOnTop 99 = .ok (.invokevirtual 171, 3) := by decide +kernel
theorem dX5_bringOnTop_102 : decode cX5_bringOnTop 102 = .ok (.return_, 1) := by decide +kernel
theorem dX5_spendOnChange_0 : decode cX5_spendOnChange 0 = .ok (.aload_n 0, 1) := by decide +kernel
theorem dX5_spendOnChange_1 : decode cX5_spendOnChange 1 = .ok (.getfield 19, 3) := by decide +kernel
theorem dX5_spendOnChange_4 : decode cX5_spendOnChange 4 = .ok (.iconst 2, 1) := by decide +kernel
theorem dX5_spendOnChange_5 : decode cX5_spendOnChange 5 = .ok (.dup2, 1) := by decide +kernel
theorem dX5_spendOnChange_6 : decode cX5_spendOnChange 6 = .ok (.iaload, 1) := by decide +kernel
theorem dX5_spendOnChange_7 : decode cX5_spendOnChange 7 = .ok (.iconst 1, 1) := by decide +kernel
theorem dX5_spendOnChange_8 : decode cX5_spendOnChange 8 = .ok (.iadd, 1) := by decide +kernel
theorem dX5_spendOnChange_9 : decode cX5_spendOnChange 9 = .ok (.iastore, 1) := by decide +kernel
theorem dX5_spendOnChange_10 : decode cX5_spendOnChange 10 = .ok (.aload_n 0, 1) := by decide +kernel
theorem dX5_spendOnChange_11 : decode cX5_spendOnChange 11 = .ok (.dup, 1) := by decide +kernel
theorem dX5_spendOnChange_12 : decode cX5_spendOnChange 12 = .ok (.getfield 43, 3) := by decide +kernel
theorem dX5_spendOnChange_15 : decode cX5_spendOnChange 15 = .ok (.iconst 1, 1) := by decide +kernel
theorem dX5_spendOnChange_16 : decode cX5_spendOnChange 16 = .ok (.isub, 1) := by decide +kernel
theorem dX5_spendOnChange_17 : decode cX5_spendOnChange 17 = .ok (.putfield 43, 3) := by decide +kernel
theorem dX5_spendOnChange_20 : decode cX5_spendOnChange 20 = .ok (.aload_n 0, 1) := by decide +kernel
theorem dX5_spendOnChange_21 : decode cX5_spendOnChange 21 = .ok (.getfield 43, 3) := by decide +kernel
theorem dX5_spendOnChange_24 : decode cX5_spendOnChange 24 = .ok (.ifCond .le 4, 3) := by decide +kernel
theorem dX5_spendOnChange_27 : decode cX5_spendOnChange 27 = .ok (.return_, 1) := by decide +kernel
theorem dX5_spendOnChange_28 : decode cX5_spendOnChange 28 = .ok (.aload_n 0, 1) := by decide +kernel
theorem dX5_spendOnChange_29 : decode cX5_spendOnChange 29 = .ok (.invokevirtual 153, 3) := by decide +kernel
theorem dX5_spendOnChange_32 : decode cX5_spendOnChange 32 = .ok (.ifCond .eq 16, 3) := by decide +kernel
theorem dX5_spendOnChange_35 : decode cX5_spendOnChange 35 = .ok (.aload_n 0, 1) := by decide +kernel
theorem dX5_spendOnChange_36 : decode cX5_spendOnChange 36 = .ok (.aload_n 0, 1) := by decide +kernel
theorem dX5_spendOnChange_37 : decode cX5_spendOnChange 37 = .ok (.getfield 9, 3) := by decide +kernel
theorem dX5_spendOnChange_40 : decode cX5_spendOnChange 40 = .ok (.iconst 1, 1) := by decide +kernel
theorem dX5_spendOnChange_41 : decode cX5_spendOnChange 41 = .ok (.iadd, 1) := by decide +kernel
theorem dX5_spendOnChange_42 : decode cX5_spendOnChange 42 = .ok (.invokevirtual 156, 3) := by decide +kernel
theorem dX5_spendOnChange_45 : decode cX5_spendOnChange 45 = .ok (.goto 10, 3) := by decide +kernel
theorem dX5_spendOnChange_48 : decode cX5_spendOnChange 48 = .ok (.aload_n 0, 1) := by decide +kernel
theorem dX5_spendOnChange_49 : decode cX5_spendOnChange 49 = .ok (.iconst 0, 1) := by decide +kernel
theorem dX5_spendOnChange_50 : decode cX5_spendOnChange 50 = .ok (.iconst (-1), 1) := by decide +kernel
theorem dX5_spendOnChange_51 : decode cX5_spendOnChange 51 = .ok (.iconst 0, 1) := by decide +kernel
theorem dX5_spendOnChange_52 : decode cX5_spendOnChange 52 = .ok (.invokevirtual 190, 3) := by decide +kernel
theorem dX5_spendOnChange_55 : decode cX5_spendOnChange 55 = .ok (.return_, 1) := by decide +kernel
theorem dX5_spendOnHandler_0 : decode cX5_spendOnHandler 0 = .ok (.aload_n 0, 1) := by decide +kernel
theorem dX5_spendOnHandler_1 : decode cX5_spendOnHandler 1 = .ok (.aload_n 0, 1) := by decide +kernel
theorem dX5_spendOnHandler_2 : decode cX5_spendOnHandler 2 = .ok (.getfield 34, 3) := by decide +kernel
theorem dX5_spendOnHandler_5 : decode cX5_spendOnHandler 5 = .ok (.iconst 1, 1) := by decide +kernel
theorem dX5_spendOnHandler_6 : decode cX5_spendOnHandler 6 = .ok (.isub, 1) := by decide +kernel
theorem dX5_spendOnHandler_7 : decode cX5_spendOnHandler 7 = .ok (.invokevirtual 193, 3) := by decide +kernel
theorem dX5_spendOnHandler_10 : decode cX5_spendOnHandler 10 = .ok (.istore_n 1, 1) := by decide +kernel
theorem dX5_spendOnHandler_11 : decode cX5_spendOnHandler 11 = .ok (.aload_n 0, 1) := by decide +kernel
theorem dX5_spendOnHandler_12 : decode cX5_spendOnHandler 12 = .ok (.iload_n 1, 1) := by decide +kernel
theorem dX5_spendOnHandler_13 : decode cX5_spendOnHandler 13 = .ok (.invokevirtual 80, 3) := by decide +kernel
theorem dX5_spendOnHandler_16 : decode cX5_spendOnHandler 16 = .ok (.astore_n 2, 1) := by decide +kernel
theorem dX5_spendOnHandler_17 : decode cX5_spendOnHandler 17 = .ok (.aload_n 2, 1) := by decide +kernel
theorem dX5_spendOnHandler_18 : decode cX5_spendOnHandler 18 = .ok (.ifnonnull 5, 3) := by decide +kernel
theorem dX5_spendOnHandler_21 : decode cX5_spendOnHandler 21 = .ok (.iconst 0, 1) := by decide +kernel
theorem dX5_spendOnHandler_22 : decode cX5_spendOnHandler 22 = .ok (.ireturn, 1) := by decide +kernel
theorem dX5_spendOnHandler_23 : decode cX5_spendOnHandler 23 = .ok (.aload_n 0, 1) := by decide +kernel
theorem dX5_spendOnHandler_24 : decode cX5_spendOnHandler 24 = .ok (.getfield 19, 3) := by decide +kernel
theorem dX5_spendOnHandler_27 : decode cX5_spendOnHandler 27 = .ok (.iconst 1, 1) := by decide +kernel
theorem dX5_spendOnHandler_28 : decode cX5_spendOnHandler 28 = .ok (.dup2, 1) := by decide +kernel
theorem dX5_spendOnHandler_29 : decode cX5_spendOnHandler 29 = .ok (.iaload, 1) := by decide +kernel
theorem dX5_spendOnHandler_30 : decode cX5_spendOnHandler 30 = .ok (.iconst 1, 1) := by decide +kernel
theorem dX5_spendOnHandler_31 : decode cX5_spendOnHandler 31 = .ok (.iadd, 1) := by decide +kernel
theorem dX5_spendOnHandler_32 : decode cX5_spendOnHandler 32 = .ok (.iastore, 1) := by decide +kernel
theorem dX5_spendOnHandler_33 : decode cX5_spendOnHandler 33 = .ok (.aload_n 2, 1) := by decide +kernel
theorem dX5_spendOnHandler_34 : decode cX5_spendOnHandler 34 = .ok (.dup, 1) := by decide +kernel
theorem dX5_spendOnHandler_35 : decode cX5_spendOnHandler 35 = .ok (.getfield 208, 3) := by decide +kernel
theorem dX5_spendOnHandler_38 : decode cX5_spendOnHandler 38 = .ok (.iconst 1, 1) := by decide +kernel
theorem dX5_spendOnHandler_39 : decode cX5_spendOnHandler 39 = .ok (.iadd, 1) := by decide +kernel
theorem dX5_spendOnHandler_40 : decode cX5_spendOnHandler 40 = .ok (.putfield 208, 3) := by decide +kernel
theorem dX5_spendOnHandler_43 : decode cX5_spendOnHandler 43 = .ok (.aload_n 2, 1) := by decide +kernel
theorem dX5_spendOnHandler_44 : decode cX5_spendOnHandler 44 = .ok (.dup, 1) := by decide +kernel
theorem dX5_spendOnHandler_45 : decode cX5_spendOnHandler 45 = .ok (.getfield 211, 3) := by decide +kernel
theorem dX5_spendOnHandler_48 : decode cX5_spendOnHandler 48 = .ok (.iconst 1, 1) := by decide +kernel
theorem dX5_spendOnHandler_49 : decode cX5_spendOnHandler 49 = .ok (.iadd, 1) := by decide +kernel
theorem dX5_spendOnHandler_50 : decode cX5_spendOnHandler 50 = .ok (.putfield 211, 3) := by decide +kernel
theorem dX5_spendOnHandler_53 : decode cX5_spendOnHandler 53 = .ok (.aload_n 2, 1) := by decide +kernel
theorem dX5_spendOnHandler_54 : decode cX5_spendOnHandler 54 = .ok (.getfield 211, 3) := by decide +kernel
theorem dX5_spendOnHandler_57 : decode cX5_spendOnHandler 57 = .ok (.aload_n 2, 1) := by decide +kernel
theorem dX5_spendOnHandler_58 : decode cX5_spendOnHandler 58 = .ok (.getfield 77, 3) := by decide +kernel
theorem dX5_spendOnHandler_61 : decode cX5_spendOnHandler 61 = .ok (.if_icmp .ge 5, 3) := by decide +kernel
theorem dX5_spendOnHandler_64 : decode cX5_spendOnHandler 64 = .ok (.iconst 0, 1) := by decide +kernel
theorem dX5_spendOnHandler_65 : decode cX5_spendOnHandler 65 = .ok (.ireturn, 1) := by decide +kernel
theorem dX5_spendOnHandler_66 : decode cX5_spendOnHandler 66 = .ok (.aload_n 2, 1) := by decide +kernel
theorem dX5_spendOnHandler_67 : decode cX5_spendOnHandler 67 = .ok (.aload_n 0, 1) := by decide +kernel
theorem dX5_spendOnHandler_68 : decode cX5_spendOnHandler 68 = .ok (.getfield 9, 3) := by decide +kernel
theorem dX5_spendOnHandler_71 : decode cX5_spendOnHandler 71 = .ok (.iconst 1, 1) := by decide +kernel
theorem dX5_spendOnHandler_72 : decode cX5_spendOnHandler 72 = .ok (.iadd, 1) := by decide +kernel
theorem dX5_spendOnHandler_73 : decode cX5_spendOnHandler 73 = .ok (.invokevirtual 214, 3) := by decide +kernel
theorem dX5_spendOnHandler_76 : decode cX5_spendOnHandler 76 = .ok (.aload_n 0, 1) := by decide +kernel
theorem dX5_spendOnHandler_77 : decode cX5_spendOnHandler 77 = .ok (.dup, 1) := by decide +kernel
theorem dX5_spendOnHandler_78 : decode cX5_spendOnHandler 78 = .ok (.getfield 34, 3) := by decide +kernel
theorem dX5_spendOnHandler_81 : decode cX5_spendOnHandler 81 = .ok (.iconst 1, 1) := by decide +kernel
theorem dX5_spendOnHandler_82 : decode cX5_spendOnHandler 82 = .ok (.isub, 1) := by decide +kernel
theorem dX5_spendOnHandler_83 : decode cX5_spendOnHandler 83 = .ok (.putfield 34, 3) := by decide +kernel
theorem dX5_spendOnHandler_86 : decode cX5_spendOnHandler 86 = .ok (.aload_n 0, 1) := by decide +kernel
theorem dX5_spendOnHandler_87 : decode cX5_spendOnHandler 87 = .ok (.getfield 49, 3) := by decide +kernel
theorem dX5_spendOnHandler_90 : decode cX5_spendOnHandler 90 = .ok (.iconst 2, 1) := by decide +kernel
theorem dX5_spendOnHandler_91 : decode cX5_spendOnHandler 91 = .ok (.iload_n 1, 1) := by decide +kernel
theorem dX5_spendOnHandler_92 : decode cX5_spendOnHandler 92 = .ok (.aload_n 0, 1) := by decide +kernel
theorem dX5_spendOnHandler_93 : decode cX5_spendOnHandler 93 = .ok (.getfield 9, 3) := by decide +kernel
theorem dX5_spendOnHandler_96 : decode cX5_spendOnHandler 96 = .ok (.iconst 1, 1) := by decide +kernel
theorem dX5_spendOnHandler_97 : decode cX5_spendOnHandler 97 = .ok (.iadd, 1) := by decide +kernel
theorem dX5_spendOnHandler_98 : decode cX5_spendOnHandler 98 = .ok (.invokevirtual 171, 3) := by decide +kernel
theorem dX5_spendOnHandler_101 : decode cX5_spendOnHandler 101 = .ok (.aload_n 0, 1) := by decide +kernel
theorem dX5_spendOnHandler_102 : decode cX5_spendOnHandler 102 = .ok (.invokevirtual 187, 3) := by decide +kernel
theorem dX5_spendOnHandler_105 : decode cX5_spendOnHandler 105 = .ok (.iconst 1, 1) := by decide +kernel
theorem dX5_spendOnHandler_106 : decode cX5_spendOnHandler 106 = .ok (.ireturn, 1) := by decide +kernel
theorem dX5_level_0 : decode cX5_level 0 = .ok (.aload_n 0, 1) := by decide +kernel
theorem dX5_level_1 : decode cX5_level 1 = .ok (.getfield 15, 3) := by decide +kernel
theorem dX5_level_4 : decode cX5_level 4 = .ok (.iconst 0, 1) := by decide +kernel
theorem dX5_level_5 : decode cX5_level 5 = .ok (.iaload, 1) := by decide +kernel
theorem dX5_level_6 : decode cX5_level 6 = .ok (.aload_n 0, 1) := by decide +kernel
theorem dX5_level_7 : decode cX5_level 7 = .ok (.invokevirtual 217, 3) := by decide +kernel
theorem dX5_level_10 : decode cX5_level 10 = .ok (.aload_n 0, 1) := by decide +kernel
theorem dX5_level_11 : decode cX5_level 11 = .ok (.invokevirtual 220, 3) := by decide +kernel
theorem dX5_level_14 : decode cX5_level 14 = .ok (.invokestatic 203, 3) := by decide +kernel
theorem dX5_level_17 : decode cX5_level 17 = .ok (.invokestatic 203, 3) := by decide +kernel
theorem dX5_level_20 : decode cX5_level 20 = .ok (.ireturn, 1) := by decide +kernel
theorem dX5_greatestCeiling_0 : decode cX5_greatestCeiling 0 = .ok (.iconst 0, 1) := by decide +kernel
theorem dX5_greatestCeiling_1 : decode cX5_greatestCeiling 1 = .ok (.istore_n 1, 1) := by decide +kernel
theorem dX5_greatestCeiling_2 : decode cX5_greatestCeiling 2 = .ok (.iconst 0, 1) := by decide +kernel
theorem dX5_greatestCeiling_3 : decode cX5_greatestCeiling 3 = .ok (.istore_n 2, 1) := by decide +kernel
theorem dX5_greatestCeiling_4 : decode cX5_greatestCeiling 4 = .ok (.iload_n 2, 1) := by decide +kernel
theorem dX5_greatestCeiling_5 : decode cX5_greatestCeiling 5 = .ok (.aload_n 0, 1) := by decide +kernel
theorem dX5_greatestCeiling_6 : decode cX5_greatestCeiling 6 = .ok (.getfield 34, 3) := by decide +kernel
theorem dX5_greatestCeiling_9 : decode cX5_greatestCeiling 9 = .ok (.if_icmp .ge 73, 3) := by decide +kernel
theorem dX5_greatestCeiling_12 : decode cX5_greatestCeiling 12 = .ok (.aload_n 0, 1) := by decide +kernel
theorem dX5_greatestCeiling_13 : decode cX5_greatestCeiling 13 = .ok (.aload_n 0, 1) := by decide +kernel
theorem dX5_greatestCeiling_14 : decode cX5_greatestCeiling 14 = .ok (.iload_n 2, 1) := by decide +kernel
theorem dX5_greatestCeiling_15 : decode cX5_greatestCeiling 15 = .ok (.invokevirtual 193, 3) := by decide +kernel
theorem dX5_greatestCeiling_18 : decode cX5_greatestCeiling 18 = .ok (.invokevirtual 80, 3) := by decide +kernel
theorem dX5_greatestCeiling_21 : decode cX5_greatestCeiling 21 = .ok (.astore_n 3, 1) := by decide +kernel
theorem dX5_greatestCeiling_22 : decode cX5_greatestCeiling 22 = .ok (.iconst 0, 1) := by decide +kernel
theorem dX5_greatestCeiling_23 : decode cX5_greatestCeiling 23 = .ok (.istore 4, 2) := by decide +kernel
theorem dX5_greatestCeiling_25 : decode cX5_greatestCeiling 25 = .ok (.aload_n 3, 1) := by decide +kernel
theorem dX5_greatestCeiling_26 : decode cX5_greatestCeiling 26 = .ok (.ifnull 50, 3) := by decide +kernel
theorem dX5_greatestCeiling_29 : decode cX5_greatestCeiling 29 = .ok (.iload 4, 2) := by decide +kernel
theorem dX5_greatestCeiling_31 : decode cX5_greatestCeiling 31 = .ok (.aload_n 3, 1) := by decide +kernel
theorem dX5_greatestCeiling_32 : decode cX5_greatestCeiling 32 = .ok (.getfield 103, 3) := by decide +kernel
theorem dX5_greatestCeiling_35 : decode cX5_greatestCeiling 35 = .ok (.if_icmp .ge 41, 3) := by decide +kernel
theorem dX5_greatestCeiling_38 : decode cX5_greatestCeiling 38 = .ok (.aload_n 3, 1) := by decide +kernel
theorem dX5_greatestCeiling_39 : decode cX5_greatestCeiling 39 = .ok (.getfield 106, 3) := by decide +kernel
theorem dX5_greatestCeiling_42 : decode cX5_greatestCeiling 42 = .ok (.iload 4, 2) := by decide +kernel
theorem dX5_greatestCeiling_44 : decode cX5_greatestCeiling 44 = .ok (.aaload, 1) := by decide +kernel
theorem dX5_greatestCeiling_45 : decode cX5_greatestCeiling 45 = .ok (.aload_n 3, 1) := by decide +kernel
theorem dX5_greatestCeiling_46 : decode cX5_greatestCeiling 46 = .ok (.getfield 211, 3) := by decide +kernel
theorem dX5_greatestCeiling_49 : decode cX5_greatestCeiling 49 = .ok (.invokevirtual 223, 3) := by decide +kernel
theorem dX5_greatestCeiling_52 : decode cX5_greatestCeiling 52 = .ok (.ifCond .eq 18, 3) := by decide +kernel
theorem dX5_greatestCeiling_55 : decode cX5_greatestCeiling 55 = .ok (.iload_n 1, 1) := by decide +kernel
theorem dX5_greatestCeiling_56 : decode cX5_greatestCeiling 56 = .ok (.aload_n 3, 1) := by decide +kernel
theorem dX5_greatestCeiling_57 : decode cX5_greatestCeiling 57 = .ok (.getfield 106, 3) := by decide +kernel
theorem dX5_greatestCeiling_60 : decode cX5_greatestCeiling 60 = .ok (.iload 4, 2) := by decide +kernel
theorem dX5_greatestCeiling_62 : decode cX5_greatestCeiling 62 = .ok (.aaload, 1) := by decide +kernel
theorem dX5_greatestCeiling_63 : decode cX5_greatestCeiling 63 = .ok (.getfield 116, 3) := by decide +kernel
theorem dX5_greatestCeiling_66 : decode cX5_greatestCeiling 66 = .ok (.invokestatic 203, 3) := by decide +kernel
theorem dX5_greatestCeiling_69 : decode cX5_greatestCeiling 69 = .ok (.istore_n 1, 1) := by decide +kernel
theorem dX5_greatestCeiling_70 : decode cX5_greatestCeiling 70 = .ok (.iinc 4 1, 3) := by decide +kernel
theorem dX5_greatestCeiling_73 : decode cX5_greatestCeiling 73 = .ok (.goto (-48), 3) := by decide +kernel
theorem dX5_greatestCeiling_76 : decode cX5_greatestCeiling 76 = .ok (.iinc 2 1, 3) := by decide +kernel
theorem dX5_greatestCeiling_79 : decode cX5_greatestCeiling 79 = .ok (.goto (-75), 3) := by decide +kernel
theorem dX5_greatestCeiling_82 : decode cX5_greatestCeiling 82 = .ok (.iload_n 1, 1) := by decide +kernel
theorem dX5_greatestCeiling_83 : decode cX5_greatestCeiling 83 = .ok (.ireturn, 1) := by decide +kernel
theorem dX5_greatestPriority_0 : decode cX5_greatestPriority 0 = .ok (.iconst 0, 1) := by decide +kernel
theorem dX5_greatestPriority_1 : decode cX5_greatestPriority 1 = .ok (.istore_n 1, 1) := by decide +kernel
theorem dX5_greatestPriority_2 : decode cX5_greatestPriority 2 = .ok (.iconst 0, 1) := by decide +kernel
theorem dX5_greatestPriority_3 : decode cX5_greatestPriority 3 = .ok (.istore_n 2, 1) := by decide +kernel
theorem dX5_greatestPriority_4 : decode cX5_greatestPriority 4 = .ok (.iload_n 2, 1) := by decide +kernel
theorem dX5_greatestPriority_5 : decode cX5_greatestPriority 5 = .ok (.aload_n 0, 1) := by decide +kernel
theorem dX5_greatestPriority_6 : decode cX5_greatestPriority 6 = .ok (.getfield 34, 3) := by decide +kernel
theorem dX5_greatestPriority_9 : decode cX5_greatestPriority 9 = .ok (.if_icmp .ge 32, 3) := by decide +kernel
theorem dX5_greatestPriority_12 : decode cX5_greatestPriority 12 = .ok (.aload_n 0, 1) := by decide +kernel
theorem dX5_greatestPriority_13 : decode cX5_greatestPriority 13 = .ok (.aload_n 0, 1) := by decide +kernel
theorem dX5_greatestPriority_14 : decode cX5_greatestPriority 14 = .ok (.iload_n 2, 1) := by decide +kernel
theorem dX5_greatestPriority_15 : decode cX5_greatestPriority 15 = .ok (.invokevirtual 193, 3) := by decide +kernel
theorem dX5_greatestPriority_18 : decode cX5_greatestPriority 18 = .ok (.invokevirtual 80, 3) := by decide +kernel
theorem dX5_greatestPriority_21 : decode cX5_greatestPriority 21 = .ok (.astore_n 3, 1) := by decide +kernel
theorem dX5_greatestPriority_22 : decode cX5_greatestPriority 22 = .ok (.aload_n 3, 1) := by decide +kernel
theorem dX5_greatestPriority_23 : decode cX5_greatestPriority 23 = .ok (.ifnull 12, 3) := by decide +kernel
theorem dX5_greatestPriority_26 : decode cX5_greatestPriority 26 = .ok (.iload_n 1, 1) := by decide +kernel
theorem dX5_greatestPriority_27 : decode cX5_greatestPriority 27 = .ok (.aload_n 3, 1) := by decide +kernel
theorem dX5_greatestPriority_28 : decode cX5_greatestPriority 28 = .ok (.getfield 71, 3) := by decide +kernel
theorem dX5_greatestPriority_31 : decode cX5_greatestPriority 31 = .ok (.invokestatic 203, 3) := by decide +kernel
theorem dX5_greatestPriority_34 : decode cX5_greatestPriority 34 = .ok (.istore_n 1, 1) := by decide +kernel
theorem dX5_greatestPriority_35 : decode cX5_greatestPriority 35 = .ok (.iinc 2 1, 3) := by decide +kernel
theorem dX5_greatestPriority_38 : decode cX5_greatestPriority 38 = .ok (.goto (-34), 3) := by decide +kernel
theorem dX5_greatestPriority_41 : decode cX5_greatestPriority 41 = .ok (.iload_n 1, 1) := by decide +kernel
theorem dX5_greatestPriority_42 : decode cX5_greatestPriority 42 = .ok (.ireturn, 1) := by decide +kernel
theorem dX5_candidateAbove_0 : decode cX5_candidateAbove 0 = .ok (.iconst (-1), 1) := by decide +kernel
theorem dX5_candidateAbove_1 : decode cX5_candidateAbove 1 = .ok (.istore_n 2, 1) := by decide +kernel
theorem dX5_candidateAbove_2 : decode cX5_candidateAbove 2 = .ok (.iload_n 1, 1) := by decide +kernel
theorem dX5_candidateAbove_3 : decode cX5_candidateAbove 3 = .ok (.istore_n 3, 1) := by decide +kernel
theorem dX5_candidateAbove_4 : decode cX5_candidateAbove 4 = .ok (.iconst 0, 1) := by decide +kernel
theorem dX5_candidateAbove_5 : decode cX5_candidateAbove 5 = .ok (.istore 4, 2) := by decide +kernel
theorem dX5_candidateAbove_7 : decode cX5_candidateAbove 7 = .ok (.iload 4, 2) := by decide +kernel
theorem dX5_candidateAbove_9 : decode cX5_candidateAbove 9 = .ok (.aload_n 0, 1) := by decide +kernel
theorem dX5_candidateAbove_10 : decode cX5_candidateAbove 10 = .ok (.getfield 28, 3) := by decide +kernel
theorem dX5_candidateAbove_13 : decode cX5_candidateAbove 13 = .ok (.if_icmp .ge 52, 3) := by decide +kernel
theorem dX5_candidateAbove_16 : decode cX5_candidateAbove 16 = .ok (.aload_n 0, 1) := by decide +kernel
theorem dX5_candidateAbove_17 : decode cX5_candidateAbove 17 = .ok (.getfield 24, 3) := by decide +kernel
theorem dX5_candidateAbove_20 : decode cX5_candidateAbove 20 = .ok (.iload 4, 2) := by decide +kernel
theorem dX5_candidateAbove_22 : decode cX5_candidateAbove 22 = .ok (.aaload, 1) := by decide +kernel
theorem dX5_candidateAbove_23 : decode cX5_candidateAbove 23 = .ok (.astore 5, 2) := by decide +kernel
theorem dX5_candidateAbove_25 : decode cX5_candidateAbove 25 = .ok (.aload 5, 2) := by decide +kernel
theorem dX5_candidateAbove_27 : decode cX5_candidateAbove 27 = .ok (.getfield 71, 3) := by decide +kernel
theorem dX5_candidateAbove_30 : decode cX5_candidateAbove 30 = .ok (.iload_n 3, 1) := by decide +kernel
theorem dX5_candidateAbove_31 : decode cX5_candidateAbove 31 = .ok (.if_icmp .le 28, 3) := by decide +kernel
theorem dX5_candidateAbove_34 : decode cX5_candidateAbove 34 = .ok (.aload 5, 2) := by decide +kernel
theorem dX5_candidateAbove_36 : decode cX5_candidateAbove 36 = .ok (.getfield 99, 3) := by decide +kernel
theorem dX5_candidateAbove_39 : decode cX5_candidateAbove 39 = .ok (.ifCond .eq 20, 3) := by decide +kernel
theorem dX5_candidateAbove_42 : decode cX5_candidateAbove 42 = .ok (.aload 5, 2) := by decide +kernel
theorem dX5_candidateAbove_44 : decode cX5_candidateAbove 44 = .ok (.invokevirtual 227, 3) := by decide +kernel
theorem dX5_candidateAbove_47 : decode cX5_candidateAbove 47 = .ok (.ifCond .eq 12, 3) := by decide +kernel
theorem dX5_candidateAbove_50 : decode cX5_candidateAbove 50 = .ok (.iload 4, 2) := by decide +kernel
theorem dX5_candidateAbove_52 : decode cX5_candidateAbove 52 = .ok (.istore_n 2, 1) := by decide +kernel
theorem dX5_candidateAbove_53 : decode cX5_candidateAbove 53 = .ok (.aload 5, 2) := by decide +kernel
theorem dX5_candidateAbove_55 : decode cX5_candidateAbove 55 = .ok (.getfield 71, 3) := by decide +kernel
theorem dX5_candidateAbove_58 : decode cX5_candidateAbove 58 = .ok (.istore_n 3, 1) := by decide +kernel
theorem dX5_candidateAbove_59 : decode cX5_candidateAbove 59 = .ok (.iinc 4 1, 3) := by decide +kernel
theorem dX5_candidateAbove_62 : decode cX5_candidateAbove 62 = .ok (.goto (-55), 3) := by decide +kernel
theorem dX5_candidateAbove_65 : decode cX5_candidateAbove 65 = .ok (.iload_n 2, 1) := by decide +kernel
theorem dX5_candidateAbove_66 : decode cX5_candidateAbove 66 = .ok (.ireturn, 1) := by decide +kernel
theorem dX5_whyWaits_0 : decode cX5_whyWaits 0 = .ok (.aload_n 2, 1) := by decide +kernel
theorem dX5_whyWaits_1 : decode cX5_whyWaits 1 = .ok (.invokevirtual 227, 3) := by decide +kernel
theorem dX5_whyWaits_4 : decode cX5_whyWaits 4 = .ok (.ifCond .ne 5, 3) := by decide +kernel
theorem dX5_whyWaits_7 : decode cX5_whyWaits 7 = .ok (.iconst (-1), 1) := by decide +kernel
theorem dX5_whyWaits_8 : decode cX5_whyWaits 8 = .ok (.ireturn, 1) := by decide +kernel
theorem dX5_whyWaits_9 : decode cX5_whyWaits 9 = .ok (.aload_n 2, 1) := by decide +kernel
theorem dX5_whyWaits_10 : decode cX5_whyWaits 10 = .ok (.getfield 99, 3) := by decide +kernel
theorem dX5_whyWaits_13 : decode cX5_whyWaits 13 = .ok (.ifCond .ne 5, 3) := by decide +kernel
theorem dX5_whyWaits_16 : decode cX5_whyWaits 16 = .ok (.iconst 1, 1) := by decide +kernel
theorem dX5_whyWaits_17 : decode cX5_whyWaits 17 = .ok (.ireturn, 1) := by decide +kernel
theorem dX5_whyWaits_18 : decode cX5_whyWaits 18 = .ok (.aload_n 2, 1) := by decide +kernel
theorem dX5_whyWaits_19 : decode cX5_whyWaits 19 = .ok (.getfield 71, 3) := by decide +kernel
theorem dX5_whyWaits_22 : decode cX5_whyWaits 22 = .ok (.aload_n 0, 1) := by decide +kernel
theorem dX5_whyWaits_23 : decode cX5_whyWaits 23 = .ok (.getfield 15, 3) := by decide +kernel
theorem dX5_whyWaits_26 : decode cX5_whyWaits 26 = .ok (.iconst 0, 1) := by decide +kernel
theorem dX5_whyWaits_27 : decode cX5_whyWaits 27 = .ok (.iaload, 1) := by decide +kernel
theorem dX5_whyWaits_28 : decode cX5_whyWaits 28 = .ok (.if_icmp .gt 5, 3) := by decide +kernel
theorem dX5_whyWaits_31 : decode cX5_whyWaits 31 = .ok (.iconst 2, 1) := by decide +kernel
theorem dX5_whyWaits_32 : decode cX5_whyWaits 32 = .ok (.ireturn, 1) := by decide +kernel
theorem dX5_whyWaits_33 : decode cX5_whyWaits 33 = .ok (.aload_n 2, 1) := by decide +kernel
theorem dX5_whyWaits_34 : decode cX5_whyWaits 34 = .ok (.getfield 71, 3) := by decide +kernel
theorem dX5_whyWaits_37 : decode cX5_whyWaits 37 = .ok (.aload_n 0, 1) := by decide +kernel
theorem dX5_whyWaits_38 : decode cX5_whyWaits 38 = .ok (.invokevirtual 217, 3) := by decide +kernel
theorem dX5_whyWaits_41 : decode cX5_whyWaits 41 = .ok (.if_icmp .gt 5, 3) := by decide +kernel
theorem dX5_whyWaits_44 : decode cX5_whyWaits 44 = .ok (.iconst 3, 1) := by decide +kernel
theorem dX5_whyWaits_45 : decode cX5_whyWaits 45 = .ok (.ireturn, 1) := by decide +kernel
theorem dX5_whyWaits_46 : decode cX5_whyWaits 46 = .ok (.aload_n 2, 1) := by decide +kernel
theorem dX5_whyWaits_47 : decode cX5_whyWaits 47 = .ok (.getfield 71, 3) := by decide +kernel
theorem dX5_whyWaits_50 : decode cX5_whyWaits 50 = .ok (.aload_n 0, 1) := by decide +kernel
theorem dX5_whyWaits_51 : decode cX5_whyWaits 51 = .ok (.invokevirtual 220, 3) := by decide +kernel
theorem dX5_whyWaits_54 : decode cX5_whyWaits 54 = .ok (.if_icmp .gt 5, 3) := by decide +kernel
theorem dX5_whyWaits_57 : decode cX5_whyWaits 57 = .ok (.iconst 4, 1) := by decide +kernel
theorem dX5_whyWaits_58 : decode cX5_whyWaits 58 = .ok (.ireturn, 1) := by decide +kernel
theorem dX5_whyWaits_59 : decode cX5_whyWaits 59 = .ok (.aload_n 0, 1) := by decide +kernel
theorem dX5_whyWaits_60 : decode cX5_whyWaits 60 = .ok (.aload_n 0, 1) := by decide +kernel
theorem dX5_whyWaits_61 : decode cX5_whyWaits 61 = .ok (.invokevirtual 142, 3) := by decide +kernel
theorem dX5_whyWaits_64 : decode cX5_whyWaits 64 = .ok (.invokevirtual 145, 3) := by decide +kernel
theorem dX5_whyWaits_67 : decode cX5_whyWaits 67 = .ok (.iload_n 1, 1) := by decide +kernel
theorem dX5_whyWaits_68 : decode cX5_whyWaits 68 = .ok (.if_icmp .eq 5, 3) := by decide +kernel
theorem dX5_whyWaits_71 : decode cX5_whyWaits 71 = .ok (.iconst 5, 1) := by decide +kernel
theorem dX5_whyWaits_72 : decode cX5_whyWaits 72 = .ok (.ireturn, 1) := by decide +kernel
theorem dX5_whyWaits_73 : decode cX5_whyWaits 73 = .ok (.aload_n 0, 1) := by decide +kernel
theorem dX5_whyWaits_74 : decode cX5_whyWaits 74 = .ok (.getfield 37, 3) := by decide +kernel
theorem dX5_whyWaits_77 : decode cX5_whyWaits 77 = .ok (.ifCond .eq 8, 3) := by decide +kernel
theorem dX5_whyWaits_80 : decode cX5_whyWaits 80 = .ok (.bipush 6, 2) := by decide +kernel
theorem dX5_whyWaits_82 : decode cX5_whyWaits 82 = .ok (.goto 4, 3) := by decide +kernel
theorem dX5_whyWaits_85 : decode cX5_whyWaits 85 = .ok (.iconst 0, 1) := by decide +kernel
theorem dX5_whyWaits_86 : decode cX5_whyWaits 86 = .ok (.ireturn, 1) := by decide +kernel
theorem dX5_sourceValue_0 : decode cX5_sourceValue 0 = .ok (.aload_n 0, 1) := by decide +kernel
theorem dX5_sourceValue_1 : decode cX5_sourceValue 1 = .ok (.iload_n 1, 1) := by decide +kernel
theorem dX5_sourceValue_2 : decode cX5_sourceValue 2 = .ok (.invokevirtual 80, 3) := by decide +kernel
theorem dX5_sourceValue_5 : decode cX5_sourceValue 5 = .ok (.astore_n 3, 1) := by decide +kernel
theorem dX5_sourceValue_6 : decode cX5_sourceValue 6 = .ok (.aload_n 3, 1) := by decide +kernel
theorem dX5_sourceValue_7 : decode cX5_sourceValue 7 = .ok (.ifnonnull 5, 3) := by decide +kernel
theorem dX5_sourceValue_10 : decode cX5_sourceValue 10 = .ok (.iconst (-1), 1) := by decide +kernel
theorem dX5_sourceValue_11 : decode cX5_sourceValue 11 = .ok (.ireturn, 1) := by decide +kernel
theorem dX5_sourceValue_12 : decode cX5_sourceValue 12 = .ok (.iload_n 2, 1) := by decide +kernel
theorem dX5_sourceValue_13 : decode cX5_sourceValue 13 = .ok (.tableswitch 175 0 16 #[83, 88, 93, 98, 111, 124, 137, 142, 175, 175, 175, 175, 175, 175, 175, 147, 168], 83) := by decide +kernel
theorem dX5_sourceValue_96 : decode cX5_sourceValue 96 = .ok (.aload_n 3, 1) := by decide +kernel
theorem dX5_sourceValue_97 : decode cX5_sourceValue 97 = .ok (.getfield 71, 3) := by decide +kernel
theorem dX5_sourceValue_100 : decode cX5_sourceValue 100 = .ok (.ireturn, 1) := by decide +kernel
theorem dX5_sourceValue_101 : decode cX5_sourceValue 101 = .ok (.aload_n 3, 1) := by decide +kernel
theorem dX5_sourceValue_102 : decode cX5_sourceValue 102 = .ok (.getfield 74, 3) := by decide +kernel
theorem dX5_sourceValue_105 : decode cX5_sourceValue 105 = .ok (.ireturn, 1) := by decide +kernel
theorem dX5_sourceValue_106 : decode cX5_sourceValue 106 = .ok (.aload_n 3, 1) := by decide +kernel
theorem dX5_sourceValue_107 : decode cX5_sourceValue 107 = .ok (.getfield 77, 3) := by decide +kernel
theorem dX5_sourceValue_110 : decode cX5_sourceValue 110 = .ok (.ireturn, 1) := by decide +kernel
theorem dX5_sourceValue_111 : decode cX5_sourceValue 111 = .ok (.aload_n 3, 1) := by decide +kernel
theorem dX5_sourceValue_112 : decode cX5_sourceValue 112 = .ok (.getfield 99, 3) := by decide +kernel
theorem dX5_sourceValue_115 : decode cX5_sourceValue 115 = .ok (.ifCond .eq 7, 3) := by decide +kernel
theorem dX5_sourceValue_118 : decode cX5_sourceValue 118 = .ok (.iconst 1, 1) := by decide +kernel
theorem dX5_sourceValue_119 : decode cX5_sourceValue 119 = .ok (.goto 4, 3) := by decide +kernel
theorem dX5_sourceValue_122 : decode cX5_sourceValue 122 = .ok (.iconst 0, 1) := by decide +kernel
theorem dX5_sourceValue_123 : decode cX5_sourceValue 123 = .ok (.ireturn, 1) := by decide +kernel
theorem dX5_sourceValue_124 : decode cX5_sourceValue 124 = .ok (.aload_n 3, 1) := by decide +kernel
theorem dX5_sourceValue_125 : decode cX5_sourceValue 125 = .ok (.invokevirtual 227, 3) := by decide +kernel
theorem dX5_sourceValue_128 : decode cX5_sourceValue 128 = .ok (.ifCond .eq 7, 3) := by decide +kernel
theorem dX5_sourceValue_131 : decode cX5_sourceValue 131 = .ok (.iconst 1, 1) := by decide +kernel
theorem dX5_sourceValue_132 : decode cX5_sourceValue 132 = .ok (.goto 4, 3) := by decide +kernel
theorem dX5_sourceValue_135 : decode cX5_sourceValue 135 = .ok (.iconst 0, 1) := by decide +kernel
theorem dX5_sourceValue_136 : decode cX5_sourceValue 136 = .ok (.ireturn, 1) := by decide +kernel
theorem dX5_sourceValue_137 : decode cX5_sourceValue 137 = .ok (.aload_n 3, 1) := by decide +kernel
theorem dX5_sourceValue_138 : decode cX5_sourceValue 138 = .ok (.getfield 129, 3) := by decide +kernel
theorem dX5_sourceValue_141 : decode cX5_sourceValue 141 = .ok (.ifCond .eq 7, 3) := by decide +kernel
theorem dX5_sourceValue_144 : decode cX5_sourceValue 144 = .ok (.iconst 1, 1) := by decide +kernel
theorem dX5_sourceValue_145 : decode cX5_sourceValue 145 = .ok (.goto 4, 3) := by decide +kernel
theorem dX5_sourceValue_148 : decode cX5_sourceValue 148 = .ok (.iconst 0, 1) := by decide +kernel
theorem dX5_sourceValue_149 : decode cX5_sourceValue 149 = .ok (.ireturn, 1) := by decide +kernel
theorem dX5_sourceValue_150 : decode cX5_sourceValue 150 = .ok (.aload_n 3, 1) := by decide +kernel
theorem dX5_sourceValue_151 : decode cX5_sourceValue 151 = .ok (.getfield 230, 3) := by decide +kernel
theorem dX5_sourceValue_154 : decode cX5_sourceValue 154 = .ok (.ireturn, 1) := by decide +kernel
theorem dX5_sourceValue_155 : decode cX5_sourceValue 155 = .ok (.aload_n 3, 1) := by decide +kernel
theorem dX5_sourceValue_156 : decode cX5_sourceValue 156 = .ok (.getfield 211, 3) := by decide +kernel
theorem dX5_sourceValue_159 : decode cX5_sourceValue 159 = .ok (.ireturn, 1) := by decide +kernel
theorem dX5_sourceValue_160 : decode cX5_sourceValue 160 = .ok (.aload_n 3, 1) := by decide +kernel
theorem dX5_sourceValue_161 : decode cX5_sourceValue 161 = .ok (.getfield 119, 3) := by decide +kernel
theorem dX5_sourceValue_164 : decode cX5_sourceValue 164 = .ok (.ifCond .le 15, 3) := by decide +kernel
theorem dX5_sourceValue_167 : decode cX5_sourceValue 167 = .ok (.aload_n 3, 1) := by decide +kernel
theorem dX5_sourceValue_168 : decode cX5_sourceValue 168 = .ok (.getfield 122, 3) := by decide +kernel
theorem dX5_sourceValue_171 : decode cX5_sourceValue 171 = .ok (.aload_n 0, 1) := by decide +kernel
theorem dX5_sourceValue_172 : decode cX5_sourceValue 172 = .ok (.getfield 9, 3) := by decide +kernel
theorem dX5_sourceValue_175 : decode cX5_sourceValue 175 = .ok (.isub, 1) := by decide +kernel
theorem dX5_sourceValue_176 : decode cX5_sourceValue 176 = .ok (.goto 4, 3) := by decide +kernel
theorem dX5_sourceValue_179 : decode cX5_sourceValue 179 = .ok (.iconst (-1), 1) := by decide +kernel
theorem dX5_sourceValue_180 : decode cX5_sourceValue 180 = .ok (.ireturn, 1) := by decide +kernel
theorem dX5_sourceValue_181 : decode cX5_sourceValue 181 = .ok (.aload_n 0, 1) := by decide +kernel
theorem dX5_sourceValue_182 : decode cX5_sourceValue 182 = .ok (.iload_n 1, 1) := by decide +kernel
theorem dX5_sourceValue_183 : decode cX5_sourceValue 183 = .ok (.aload_n 3, 1) := by decide +kernel
theorem dX5_sourceValue_184 : decode cX5_sourceValue 184 = .ok (.invokevirtual 233, 3) := by decide +kernel
theorem dX5_sourceValue_187 : decode cX5_sourceValue 187 = .ok (.ireturn, 1) := by decide +kernel
theorem dX5_sourceValue_188 : decode cX5_sourceValue 188 = .ok (.aload_n 3, 1) := by decide +kernel
theorem dX5_sourceValue_189 : decode cX5_sourceValue 189 = .ok (.iload_n 2, 1) := by decide +kernel
theorem dX5_sourceValue_190 : decode cX5_sourceValue 190 = .ok (.invokestatic 236, 3) := by decide +kernel
theorem dX5_sourceValue_193 : decode cX5_sourceValue 193 = .ok (.ireturn, 1) := by decide +kernel
theorem dX5_tallyOf_0 : decode cX5_tallyOf 0 = .ok (.iload_n 1, 1) := by decide +kernel
theorem dX5_tallyOf_1 : decode cX5_tallyOf 1 = .ok (.tableswitch 69 8 13 #[39, 44, 49, 54, 59, 64], 39) := by decide +kernel
theorem dX5_tallyOf_40 : decode cX5_tallyOf 40 = .ok (.aload_n 0, 1) := by decide +kernel
theorem dX5_tallyOf_41 : decode cX5_tallyOf 41 = .ok (.getfield 239, 3) := by decide +kernel
theorem dX5_tallyOf_44 : decode cX5_tallyOf 44 = .ok (.ireturn, 1) := by decide +kernel
theorem dX5_tallyOf_45 : decode cX5_tallyOf 45 = .ok (.aload_n 0, 1) := by decide +kernel
theorem dX5_tallyOf_46 : decode cX5_tallyOf 46 = .ok (.getfield 242, 3) := by decide +kernel
theorem dX5_tallyOf_49 : decode cX5_tallyOf 49 = .ok (.ireturn, 1) := by decide +kernel
theorem dX5_tallyOf_50 : decode cX5_tallyOf 50 = .ok (.aload_n 0, 1) := by decide +kernel
theorem dX5_tallyOf_51 : decode cX5_tallyOf 51 = .ok (.getfield 168, 3) := by decide +kernel
theorem dX5_tallyOf_54 : decode cX5_tallyOf 54 = .ok (.ireturn, 1) := by decide +kernel
theorem dX5_tallyOf_55 : decode cX5_tallyOf 55 = .ok (.aload_n 0, 1) := by decide +kernel
theorem dX5_tallyOf_56 : decode cX5_tallyOf 56 = .ok (.getfield 245, 3) := by decide +kernel
theorem dX5_tallyOf_59 : decode cX5_tallyOf 59 = .ok (.ireturn, 1) := by decide +kernel
theorem dX5_tallyOf_60 : decode cX5_tallyOf 60 = .ok (.aload_n 0, 1) := by decide +kernel
theorem dX5_tallyOf_61 : decode cX5_tallyOf 61 = .ok (.getfield 248, 3) := by decide +kernel
theorem dX5_tallyOf_64 : decode cX5_tallyOf 64 = .ok (.ireturn, 1) := by decide +kernel
theorem dX5_tallyOf_65 : decode cX5_tallyOf 65 = .ok (.aload_n 0, 1) := by decide +kernel
theorem dX5_tallyOf_66 : decode cX5_tallyOf 66 = .ok (.getfield 196, 3) := by decide +kernel
theorem dX5_tallyOf_69 : decode cX5_tallyOf 69 = .ok (.ireturn, 1) := by decide +kernel
theorem dX5_tallyOf_70 : decode cX5_tallyOf 70 = .ok (.aload_n 0, 1) := by decide +kernel
theorem dX5_tallyOf_71 : decode cX5_tallyOf 71 = .ok (.getfield 208, 3) := by decide +kernel
theorem dX5_tallyOf_74 : decode cX5_tallyOf 74 = .ok (.ireturn, 1) := by decide +kernel
theorem dX5_sectionsOf_0 : decode cX5_sectionsOf 0 = .ok (.aload_n 0, 1) := by decide +kernel
theorem dX5_sectionsOf_1 : decode cX5_sectionsOf 1 = .ok (.iload_n 1, 1) := by decide +kernel
theorem dX5_sectionsOf_2 : decode cX5_sectionsOf 2 = .ok (.invokevirtual 80, 3) := by decide +kernel
theorem dX5_sectionsOf_5 : decode cX5_sectionsOf 5 = .ok (.astore_n 2, 1) := by decide +kernel
theorem dX5_sectionsOf_6 : decode cX5_sectionsOf 6 = .ok (.aload_n 2, 1) := by decide +kernel
theorem dX5_sectionsOf_7 : decode cX5_sectionsOf 7 = .ok (.ifnonnull 7, 3) := by decide +kernel
theorem dX5_sectionsOf_10 : decode cX5_sectionsOf 10 = .ok (.iconst 0, 1) := by decide +kernel
theorem dX5_sectionsOf_11 : decode cX5_sectionsOf 11 = .ok (.goto 7, 3) := by decide +kernel
theorem dX5_sectionsOf_14 : decode cX5_sectionsOf 14 = .ok (.aload_n 2, 1) := by decide +kernel
theorem dX5_sectionsOf_15 : decode cX5_sectionsOf 15 = .ok (.getfield 103, 3) := by decide +kernel
theorem dX5_sectionsOf_18 : decode cX5_sectionsOf 18 = .ok (.ireturn, 1) := by decide +kernel
theorem dX5_sectionValue_0 : decode cX5_sectionValue 0 = .ok (.aload_n 0, 1) := by decide +kernel
theorem dX5_sectionValue_1 : decode cX5_sectionValue 1 = .ok (.iload_n 1, 1) := by decide +kernel
theorem dX5_sectionValue_2 : decode cX5_sectionValue 2 = .ok (.invokevirtual 80, 3) := by decide +kernel
theorem dX5_sectionValue_5 : decode cX5_sectionValue 5 = .ok (.astore 4, 2) := by decide +kernel
theorem dX5_sectionValue_7 : decode cX5_sectionValue 7 = .ok (.aload 4, 2) := by decide +kernel
theorem dX5_sectionValue_9 : decode cX5_sectionValue 9 = .ok (.ifnull 18, 3) := by decide +kernel
theorem dX5_sectionValue_12 : decode cX5_sectionValue 12 = .ok (.iload_n 2, 1) := by decide +kernel
theorem dX5_sectionValue_13 : decode cX5_sectionValue 13 = .ok (.iconst 0, 1) := by decide +kernel
theorem dX5_sectionValue_14 : decode cX5_sectionValue 14 = .ok (.aload 4, 2) := by decide +kernel
theorem dX5_sectionValue_16 : decode cX5_sectionValue 16 = .ok (.getfield 103, 3) := by decide +kernel
theorem dX5_sectionValue_19 : decode cX5_sectionValue 19 = .ok (.iconst 1, 1) := by decide +kernel
theorem dX5_sectionValue_20 : decode cX5_sectionValue 20 = .ok (.isub, 1) := by decide +kernel
theorem dX5_sectionValue_21 : decode cX5_sectionValue 21 = .ok (.invokestatic 67, 3) := by decide +kernel
theorem dX5_sectionValue_24 : decode cX5_sectionValue 24 = .ok (.ifCond .ne 5, 3) := by decide +kernel
theorem dX5_sectionValue_27 : decode cX5_sectionValue 27 = .ok (.iconst (-1), 1) := by decide +kernel
theorem dX5_sectionValue_28 : decode cX5_sectionValue 28 = .ok (.ireturn, 1) := by decide +kernel
theorem dX5_sectionValue_29 : decode cX5_sectionValue 29 = .ok (.aload 4, 2) := by decide +kernel
theorem dX5_sectionValue_31 : decode cX5_sectionValue 31 = .ok (.getfield 106, 3) := by decide +kernel
theorem dX5_sectionValue_34 : decode cX5_sectionValue 34 = .ok (.iload_n 2, 1) := by decide +kernel
theorem dX5_sectionValue_35 : decode cX5_sectionValue 35 = .ok (.aaload, 1) := by decide +kernel
theorem dX5_sectionValue_36 : decode cX5_sectionValue 36 = .ok (.astore 5, 2) := by decide +kernel
theorem dX5_sectionValue_38 : decode cX5_sectionValue 38 = .ok (.iload_n 3, 1) := by decide +kernel
theorem dX5_sectionValue_39 : decode cX5_sectionValue 39 = .ok (.tableswitch 43 0 2 #[25, 31, 37], 25) := by decide +kernel
theorem dX5_sectionValue_64 : decode cX5_sectionValue 64 = .ok (.aload 5, 2) := by decide +kernel
theorem dX5_sectionValue_66 : decode cX5_sectionValue 66 = .ok (.getfield 110, 3) := by decide +kernel
theorem dX5_sectionValue_69 : decode cX5_sectionValue 69 = .ok (.ireturn, 1) := by decide +kernel
theorem dX5_sectionValue_70 : decode cX5_sectionValue 70 = .ok (.aload 5, 2) := by decide +kernel
theorem dX5_sectionValue_72 : decode cX5_sectionValue 72 = .ok (.getfield 115, 3) := by decide +kernel
theorem dX5_sectionValue_75 : decode cX5_sectionValue 75 = .ok (.ireturn, 1) := by decide +kernel
theorem dX5_sectionValue_76 : decode cX5_sectionValue 76 = .ok (.aload 5, 2) := by decide +kernel
theorem dX5_sectionValue_78 : decode cX5_sectionValue 78 = .ok (.getfield 116, 3) := by decide +kernel
theorem dX5_sectionValue_81 : decode cX5_sectionValue 81 = .ok (.ireturn, 1) := by decide +kernel
theorem dX5_sectionValue_82 : decode cX5_sectionValue 82 = .ok (.aload 4, 2) := by decide +kernel
theorem dX5_sectionValue_84 : decode cX5_sectionValue 84 = .ok (.invokevirtual 95, 3) := by decide +kernel
theorem dX5_sectionValue_87 : decode cX5_sectionValue 87 = .ok (.ifCond .eq 20, 3) := by decide +kernel
theorem dX5_sectionValue_90 : decode cX5_sectionValue 90 = .ok (.aload 5, 2) := by decide +kernel
theorem dX5_sectionValue_92 : decode cX5_sectionValue 92 = .ok (.aload 4, 2) := by decide +kernel
theorem dX5_sectionValue_94 : decode cX5_sectionValue 94 = .ok (.getfield 211, 3) := by decide +kernel
theorem dX5_sectionValue_97 : decode cX5_sectionValue 97 = .ok (.invokevirtual 223, 3) := by decide +kernel
theorem dX5_sectionValue_100 : decode cX5_sectionValue 100 = .ok (.ifCond .eq 7, 3) := by decide +kernel
theorem dX5_sectionValue_103 : decode cX5_sectionValue 103 = .ok (.iconst 1, 1) := by decide +kernel
theorem dX5_sectionValue_104 : decode cX5_sectionValue 104 = .ok (.goto 4, 3) := by decide +kernel
theorem dX5_sectionValue_107 : decode cX5_sectionValue 107 = .ok (.iconst 0, 1) := by decide +kernel
theorem dX5_sectionValue_108 : decode cX5_sectionValue 108 = .ok (.ireturn, 1) := by decide +kernel
theorem dX5_stackedAt_0 : decode cX5_stackedAt 0 = .ok (.iload_n 1, 1) := by decide +kernel
theorem dX5_stackedAt_1 : decode cX5_stackedAt 1 = .ok (.ifCond .lt 20, 3) := by decide +kernel
theorem dX5_stackedAt_4 : decode cX5_stackedAt 4 = .ok (.iload_n 1, 1) := by decide +kernel
theorem dX5_stackedAt_5 : decode cX5_stackedAt 5 = .ok (.aload_n 0, 1) := by decide +kernel
theorem dX5_stackedAt_6 : decode cX5_stackedAt 6 = .ok (.getfield 34, 3) := by decide +kernel
theorem dX5_stackedAt_9 : decode cX5_stackedAt 9 = .ok (.if_icmp .ge 12, 3) := by decide +kernel
theorem dX5_stackedAt_12 : decode cX5_stackedAt 12 = .ok (.aload_n 0, 1) := by decide +kernel
theorem dX5_stackedAt_13 : decode cX5_stackedAt 13 = .ok (.getfield 31, 3) := by decide +kernel
theorem dX5_stackedAt_16 : decode cX5_stackedAt 16 = .ok (.iload_n 1, 1) := by decide +kernel
theorem dX5_stackedAt_17 : decode cX5_stackedAt 17 = .ok (.iaload, 1) := by decide +kernel
theorem dX5_stackedAt_18 : decode cX5_stackedAt 18 = .ok (.goto 4, 3) := by decide +kernel
theorem dX5_stackedAt_21 : decode cX5_stackedAt 21 = .ok (.iconst (-1), 1) := by decide +kernel
theorem dX5_stackedAt_22 : decode cX5_stackedAt 22 = .ok (.ireturn, 1) := by decide +kernel
theorem dX5_processorValue_0 : decode cX5_processorValue 0 = .ok (.iload_n 1, 1) := by decide +kernel
theorem dX5_processorValue_1 : decode cX5_processorValue 1 = .ok (.tableswitch 126 0 10 #[59, 64, 71, 78, 85, 92, 97, 106, 111, 116, 121], 59) := by decide +kernel
theorem dX5_processorValue_60 : decode cX5_processorValue 60 = .ok (.aload_n 0, 1) := by decide +kernel
theorem dX5_processorValue_61 : decode cX5_processorValue 61 = .ok (.getfield 9, 3) := by decide +kernel
theorem dX5_processorValue_64 : decode cX5_processorValue 64 = .ok (.ireturn, 1) := by decide +kernel
theorem dX5_processorValue_65 : decode cX5_processorValue 65 = .ok (.aload_n 0, 1) := by decide +kernel
theorem dX5_processorValue_66 : decode cX5_processorValue 66 = .ok (.getfield 15, 3) := by decide +kernel
theorem dX5_processorValue_69 : decode cX5_processorValue 69 = .ok (.iconst 0, 1) := by decide +kernel
theorem dX5_processorValue_70 : decode cX5_processorValue 70 = .ok (.iaload, 1) := by decide +kernel
theorem dX5_processorValue_71 : decode cX5_processorValue 71 = .ok (.ireturn, 1) := by decide +kernel
theorem dX5_processorValue_72 : decode cX5_processorValue 72 = .ok (.aload_n 0, 1) := by decide +kernel
theorem dX5_processorValue_73 : decode cX5_processorValue 73 = .ok (.getfield 15, 3) := by decide +kernel
theorem dX5_processorValue_76 : decode cX5_processorValue 76 = .ok (.iconst 1, 1) := by decide +kernel
theorem dX5_processorValue_77 : decode cX5_processorValue 77 = .ok (.iaload, 1) := by decide +kernel
theorem dX5_processorValue_78 : decode cX5_processorValue 78 = .ok (.ireturn, 1) := by decide +kernel
theorem dX5_processorValue_79 : decode cX5_processorValue 79 = .ok (.aload_n 0, 1) := by decide +kernel
theorem dX5_processorValue_80 : decode cX5_processorValue 80 = .ok (.getfield 15, 3) := by decide +kernel
theorem dX5_processorValue_83 : decode cX5_processorValue 83 = .ok (.iconst 2, 1) := by decide +kernel
theorem dX5_processorValue_84 : decode cX5_processorValue 84 = .ok (.iaload, 1) := by decide +kernel
theorem dX5_processorValue_85 : decode cX5_processorValue 85 = .ok (.ireturn, 1) := by decide +kernel
theorem dX5_processorValue_86 : decode cX5_processorValue 86 = .ok (.aload_n 0, 1) := by decide +kernel
theorem dX5_processorValue_87 : decode cX5_processorValue 87 = .ok (.getfield 15, 3) := by decide +kernel
theorem dX5_processorValue_90 : decode cX5_processorValue 90 = .ok (.iconst 3, 1) := by decide +kernel
theorem dX5_processorValue_91 : decode cX5_processorValue 91 = .ok (.iaload, 1) := by decide +kernel
theorem dX5_processorValue_92 : decode cX5_processorValue 92 = .ok (.ireturn, 1) := by decide +kernel
theorem dX5_processorValue_93 : decode cX5_processorValue 93 = .ok (.aload_n 0, 1) := by decide +kernel
theorem dX5_processorValue_94 : decode cX5_processorValue 94 = .ok (.invokevirtual 142, 3) := by decide +kernel
theorem dX5_processorValue_97 : decode cX5_processorValue 97 = .ok (.ireturn, 1) := by decide +kernel
theorem dX5_processorValue_98 : decode cX5_processorValue 98 = .ok (.aload_n 0, 1) := by decide +kernel
theorem dX5_processorValue_99 : decode cX5_processorValue 99 = .ok (.aload_n 0, 1) := by decide +kernel
theorem dX5_processorValue_100 : decode cX5_processorValue 100 = .ok (.invokevirtual 142, 3) := by decide +kernel
theorem dX5_processorValue_103 : decode cX5_processorValue 103 = .ok (.invokevirtual 145, 3) := by decide +kernel
theorem dX5_processorValue_106 : decode cX5_processorValue 106 = .ok (.ireturn, 1) := by decide +kernel
theorem dX5_processorValue_107 : decode cX5_processorValue 107 = .ok (.aload_n 0, 1) := by decide +kernel
theorem dX5_processorValue_108 : decode cX5_processorValue 108 = .ok (.getfield 34, 3) := by decide +kernel
theorem dX5_processorValue_111 : decode cX5_processorValue 111 = .ok (.ireturn, 1) := by decide +kernel
theorem dX5_processorValue_112 : decode cX5_processorValue 112 = .ok (.aload_n 0, 1) := by decide +kernel
theorem dX5_processorValue_113 : decode cX5_processorValue 113 = .ok (.getfield 37, 3) := by decide +kernel
theorem dX5_processorValue_116 : decode cX5_processorValue 116 = .ok (.ireturn, 1) := by decide +kernel
theorem dX5_processorValue_117 : decode cX5_processorValue 117 = .ok (.aload_n 0, 1) := by decide +kernel
theorem dX5_processorValue_118 : decode cX5_processorValue 118 = .ok (.getfield 40, 3) := by decide +kernel
theorem dX5_processorValue_121 : decode cX5_processorValue 121 = .ok (.ireturn, 1) := by decide +kernel
theorem dX5_processorValue_122 : decode cX5_processorValue 122 = .ok (.aload_n 0, 1) := by decide +kernel
theorem dX5_processorValue_123 : decode cX5_processorValue 123 = .ok (.getfield 43, 3) := by decide +kernel
theorem dX5_processorValue_126 : decode cX5_processorValue 126 = .ok (.ireturn, 1) := by decide +kernel
theorem dX5_processorValue_127 : decode cX5_processorValue 127 = .ok (.aload_n 0, 1) := by decide +kernel
theorem dX5_processorValue_128 : decode cX5_processorValue 128 = .ok (.getfield 28, 3) := by decide +kernel
theorem dX5_processorValue_131 : decode cX5_processorValue 131 = .ok (.ireturn, 1) := by decide +kernel
theorem dX5_accountValue_0 : decode cX5_accountValue 0 = .ok (.iload_n 1, 1) := by decide +kernel
theorem dX5_accountValue_1 : decode cX5_accountValue 1 = .ok (.iconst 0, 1) := by decide +kernel
theorem dX5_accountValue_2 : decode cX5_accountValue 2 = .ok (.bipush 9, 2) := by decide +kernel
theorem dX5_accountValue_4 : decode cX5_accountValue 4 = .ok (.invokestatic 67, 3) := by decide +kernel
theorem dX5_accountValue_7 : decode cX5_accountValue 7 = .ok (.ifCond .eq 12, 3) := by decide +kernel
theorem dX5_accountValue_10 : decode cX5_accountValue 10 = .ok (.aload_n 0, 1) := by decide +kernel
theorem dX5_accountValue_11 : decode cX5_accountValue 11 = .ok (.getfield 19, 3) := by decide +kernel
theorem dX5_accountValue_14 : decode cX5_accountValue 14 = .ok (.iload_n 1, 1) := by decide +kernel
theorem dX5_accountValue_15 : decode cX5_accountValue 15 = .ok (.iaload, 1) := by decide +kernel
theorem dX5_accountValue_16 : decode cX5_accountValue 16 = .ok (.goto 4, 3) := by decide +kernel
theorem dX5_accountValue_19 : decode cX5_accountValue 19 = .ok (.iconst (-1), 1) := by decide +kernel
theorem dX5_accountValue_20 : decode cX5_accountValue 20 = .ok (.ireturn, 1) := by decide +kernel
theorem dX5_spendUntilOnTop_0 : decode cX5_spendUntilOnTop 0 = .ok (.aload_n 0, 1) := by decide +kernel
theorem dX5_spendUntilOnTop_1 : decode cX5_spendUntilOnTop 1 = .ok (.iload_n 1, 1) := by decide +kernel
theorem dX5_spendUntilOnTop_2 : decode cX5_spendUntilOnTop 2 = .ok (.invokevirtual 80, 3) := by decide +kernel
theorem dX5_spendUntilOnTop_5 : decode cX5_spendUntilOnTop 5 = .ok (.astore_n 3, 1) := by decide +kernel
theorem dX5_spendUntilOnTop_6 : decode cX5_spendUntilOnTop 6 = .ok (.aload_n 3, 1) := by decide +kernel
theorem dX5_spendUntilOnTop_7 : decode cX5_spendUntilOnTop 7 = .ok (.ifnonnull 5, 3) := by decide +kernel
theorem dX5_spendUntilOnTop_10 : decode cX5_spendUntilOnTop 10 = .ok (.iconst (-1), 1) := by decide +kernel
theorem dX5_spendUntilOnTop_11 : decode cX5_spendUntilOnTop 11 = .ok (.ireturn, 1) := by decide +kernel
theorem dX5_spendUntilOnTop_12 : decode cX5_spendUntilOnTop 12 = .ok (.aload_n 3, 1) := by decide +kernel
theorem dX5_spendUntilOnTop_13 : decode cX5_spendUntilOnTop 13 = .ok (.getfield 239, 3) := by decide +kernel
theorem dX5_spendUntilOnTop_16 : decode cX5_spendUntilOnTop 16 = .ok (.istore 4, 2) := by decide +kernel
theorem dX5_spendUntilOnTop_18 : decode cX5_spendUntilOnTop 18 = .ok (.iconst 1, 1) := by decide +kernel
theorem dX5_spendUntilOnTop_19 : decode cX5_spendUntilOnTop 19 = .ok (.istore 5, 2) := by decide +kernel
theorem dX5_spendUntilOnTop_21 : decode cX5_spendUntilOnTop 21 = .ok (.iload 5, 2) := by decide +kernel
theorem dX5_spendUntilOnTop_23 : decode cX5_spendUntilOnTop 23 = .ok (.iload_n 2, 1) := by decide +kernel
theorem dX5_spendUntilOnTop_24 : decode cX5_spendUntilOnTop 24 = .ok (.if_icmp .gt 26, 3) := by decide +kernel
theorem dX5_spendUntilOnTop_27 : decode cX5_spendUntilOnTop 27 = .ok (.aload_n 0, 1) := by decide +kernel
theorem dX5_spendUntilOnTop_28 : decode cX5_spendUntilOnTop 28 = .ok (.invokevirtual 135, 3) := by decide +kernel
theorem dX5_spendUntilOnTop_31 : decode cX5_spendUntilOnTop 31 = .ok (.pop, 1) := by decide +kernel
theorem dX5_spendUntilOnTop_32 : decode cX5_spendUntilOnTop 32 = .ok (.aload_n 3, 1) := by decide +kernel
theorem dX5_spendUntilOnTop_33 : decode cX5_spendUntilOnTop 33 = .ok (.getfield 239, 3) := by decide +kernel
theorem dX5_spendUntilOnTop_36 : decode cX5_spendUntilOnTop 36 = .ok (.iload 4, 2) := by decide +kernel
theorem dX5_spendUntilOnTop_38 : decode cX5_spendUntilOnTop 38 = .ok (.if_icmp .le 6, 3) := by decide +kernel
theorem dX5_spendUntilOnTop_41 : decode cX5_spendUntilOnTop 41 = .ok (.iload 5, 2) := by decide +kernel
theorem dX5_spendUntilOnTop_43 : decode cX5_spendUntilOnTop 43 = .ok (.ireturn, 1) := by decide +kernel
theorem dX5_spendUntilOnTop_44 : decode cX5_spendUntilOnTop 44 = .ok (.iinc 5 1, 3) := by decide +kernel
theorem dX5_spendUntilOnTop_47 : decode cX5_spendUntilOnTop 47 = .ok (.goto (-26), 3) := by decide +kernel
theorem dX5_spendUntilOnTop_50 : decode cX5_spendUntilOnTop 50 = .ok (.iconst (-1), 1) := by decide +kernel
theorem dX5_spendUntilOnTop_51 : decode cX5_spendUntilOnTop 51 = .ok (.ireturn, 1) := by decide +kernel
theorem dX5_spendUntilIdle_0 : decode cX5_spendUntilIdle 0 = .ok (.iconst 0, 1) := by decide +kernel
theorem dX5_spendUntilIdle_1 : decode cX5_spendUntilIdle 1 = .ok (.istore_n 2, 1) := by decide +kernel
theorem dX5_spendUntilIdle_2 : decode cX5_spendUntilIdle 2 = .ok (.iload_n 2, 1) := by decide +kernel
theorem dX5_spendUntilIdle_3 : decode cX5_spendUntilIdle 3 = .ok (.iload_n 1, 1) := by decide +kernel
theorem dX5_spendUntilIdle_4 : decode cX5_spendUntilIdle 4 = .ok (.if_icmp .ge 23, 3) := by decide +kernel
theorem dX5_spendUntilIdle_7 : decode cX5_spendUntilIdle 7 = .ok (.aload_n 0, 1) := by decide +kernel
theorem dX5_spendUntilIdle_8 : decode cX5_spendUntilIdle 8 = .ok (.invokevirtual 251, 3) := by decide +kernel
theorem dX5_spendUntilIdle_11 : decode cX5_spendUntilIdle 11 = .ok (.ifCond .eq 5, 3) := by decide +kernel
theorem dX5_spendUntilIdle_14 : decode cX5_spendUntilIdle 14 = .ok (.iload_n 2, 1) := by decide +kernel
theorem dX5_spendUntilIdle_15 : decode cX5_spendUntilIdle 15 = .ok (.ireturn, 1) := by decide +kernel
theorem dX5_spendUntilIdle_16 : decode cX5_spendUntilIdle 16 = .ok (.aload_n 0, 1) := by decide +kernel
theorem dX5_spendUntilIdle_17 : decode cX5_spendUntilIdle 17 = .ok (.invokevirtual 135, 3) := by decide +kernel
theorem dX5_spendUntilIdle_20 : decode cX5_spendUntilIdle 20 = .ok (.pop, 1) := by decide +kernel
theorem dX5_spendUntilIdle_21 : decode cX5_spendUntilIdle 21 = .ok (.iinc 2 1, 3) := by decide +kernel
theorem dX5_spendUntilIdle_24 : decode cX5_spendUntilIdle 24 = .ok (.goto (-22), 3) := by decide +kernel
theorem dX5_spendUntilIdle_27 : decode cX5_spendUntilIdle 27 = .ok (.aload_n 0, 1) := by decide +kernel
theorem dX5_spendUntilIdle_28 : decode cX5_spendUntilIdle 28 = .ok (.invokevirtual 251, 3) := by decide +kernel
theorem dX5_spendUntilIdle_31 : decode cX5_spendUntilIdle 31 = .ok (.ifCond .eq 7, 3) := by decide +kernel
theorem dX5_spendUntilIdle_34 : decode cX5_spendUntilIdle 34 = .ok (.iload_n 1, 1) := by decide +kernel
theorem dX5_spendUntilIdle_35 : decode cX5_spendUntilIdle 35 = .ok (.goto 4, 3) := by decide +kernel
theorem dX5_spendUntilIdle_38 : decode cX5_spendUntilIdle 38 = .ok (.iconst (-1), 1) := by decide +kernel
theorem dX5_spendUntilIdle_39 : decode cX5_spendUntilIdle 39 = .ok (.ireturn, 1) := by decide +kernel
theorem dX5_isIdle_0 : decode cX5_isIdle 0 = .ok (.aload_n 0, 1) := by decide +kernel
theorem dX5_isIdle_1 : decode cX5_isIdle 1 = .ok (.getfield 34, 3) := by decide +kernel
theorem dX5_isIdle_4 : decode cX5_isIdle 4 = .ok (.ifCond .ne 14, 3) := by decide +kernel
theorem dX5_isIdle_7 : decode cX5_isIdle 7 = .ok (.aload_n 0, 1) := by decide +kernel
theorem dX5_isIdle_8 : decode cX5_isIdle 8 = .ok (.getfield 37, 3) := by decide +kernel
theorem dX5_isIdle_11 : decode cX5_isIdle 11 = .ok (.ifCond .ne 7, 3) := by decide +kernel
theorem dX5_isIdle_14 : decode cX5_isIdle 14 = .ok (.iconst 1, 1) := by decide +kernel
theorem dX5_isIdle_15 : decode cX5_isIdle 15 = .ok (.goto 4, 3) := by decide +kernel
theorem dX5_isIdle_18 : decode cX5_isIdle 18 = .ok (.iconst 0, 1) := by decide +kernel
theorem dX5_isIdle_19 : decode cX5_isIdle 19 = .ok (.ireturn, 1) := by decide +kernel
theorem dX5_makePending_0 : decode cX5_makePending 0 = .ok (.aload_n 0, 1) := by decide +kernel
theorem dX5_makePending_1 : decode cX5_makePending 1 = .ok (.iload_n 1, 1) := by decide +kernel
theorem dX5_makePending_2 : decode cX5_makePending 2 = .ok (.invokevirtual 80, 3) := by decide +kernel
theorem dX5_makePending_5 : decode cX5_makePending 5 = .ok (.astore_n 2, 1) := by decide +kernel
theorem dX5_makePending_6 : decode cX5_makePending 6 = .ok (.aload_n 2, 1) := by decide +kernel
theorem dX5_makePending_7 : decode cX5_makePending 7 = .ok (.ifnonnull 4, 3) := by decide +kernel
theorem dX5_makePending_10 : decode cX5_makePending 10 = .ok (.return_, 1) := by decide +kernel
theorem dX5_makePending_11 : decode cX5_makePending 11 = .ok (.aload_n 2, 1) := by decide +kernel
theorem dX5_makePending_12 : decode cX5_makePending 12 = .ok (.getfield 74, 3) := by decide +kernel
theorem dX5_makePending_15 : decode cX5_makePending 15 = .ok (.ifCond .ne 13, 3) := by decide +kernel
theorem dX5_makePending_18 : decode cX5_makePending 18 = .ok (.aload_n 0, 1) := by decide +kernel
theorem dX5_makePending_19 : decode cX5_makePending 19 = .ok (.iload_n 1, 1) := by decide +kernel
theorem dX5_makePending_20 : decode cX5_makePending 20 = .ok (.aload_n 2, 1) := by decide +kernel
theorem dX5_makePending_21 : decode cX5_makePending 21 = .ok (.invokevirtual 125, 3) := by decide +kernel
theorem dX5_makePending_24 : decode cX5_makePending 24 = .ok (.pop, 1) := by decide +kernel
theorem dX5_makePending_25 : decode cX5_makePending 25 = .ok (.goto 10, 3) := by decide +kernel
theorem dX5_makePending_28 : decode cX5_makePending 28 = .ok (.aload_n 0, 1) := by decide +kernel
theorem dX5_makePending_29 : decode cX5_makePending 29 = .ok (.iload_n 1, 1) := by decide +kernel
theorem dX5_makePending_30 : decode cX5_makePending 30 = .ok (.iconst 1, 1) := by decide +kernel
theorem dX5_makePending_31 : decode cX5_makePending 31 = .ok (.invokevirtual 254, 3) := by decide +kernel
theorem dX5_makePending_34 : decode cX5_makePending 34 = .ok (.pop, 1) := by decide +kernel
theorem dX5_makePending_35 : decode cX5_makePending 35 = .ok (.return_, 1) := by decide +kernel
theorem dX5_latestLatency_0 : decode cX5_latestLatency 0 = .ok (.aload_n 0, 1) := by decide +kernel
theorem dX5_latestLatency_1 : decode cX5_latestLatency 1 = .ok (.iload_n 1, 1) := by decide +kernel
theorem dX5_latestLatency_2 : decode cX5_latestLatency 2 = .ok (.invokevirtual 80, 3) := by decide +kernel
theorem dX5_latestLatency_5 : decode cX5_latestLatency 5 = .ok (.astore_n 2, 1) := by decide +kernel
theorem dX5_latestLatency_6 : decode cX5_latestLatency 6 = .ok (.aload_n 2, 1) := by decide +kernel
theorem dX5_latestLatency_7 : decode cX5_latestLatency 7 = .ok (.ifnonnull 7, 3) := by decide +kernel
theorem dX5_latestLatency_10 : decode cX5_latestLatency 10 = .ok (.iconst (-1), 1) := by decide +kernel
theorem dX5_latestLatency_11 : decode cX5_latestLatency 11 = .ok (.goto 7, 3) := by decide +kernel
theorem dX5_latestLatency_14 : decode cX5_latestLatency 14 = .ok (.aload_n 2, 1) := by decide +kernel
theorem dX5_latestLatency_15 : decode cX5_latestLatency 15 = .ok (.getfield 245, 3) := by decide +kernel
theorem dX5_latestLatency_18 : decode cX5_latestLatency 18 = .ok (.ireturn, 1) := by decide +kernel
theorem dX5_longestBlocking_0 : decode cX5_longestBlocking 0 = .ok (.aload_n 0, 1) := by decide +kernel
theorem dX5_longestBlocking_1 : decode cX5_longestBlocking 1 = .ok (.iload_n 1, 1) := by decide +kernel
theorem dX5_longestBlocking_2 : decode cX5_longestBlocking 2 = .ok (.invokevirtual 80, 3) := by decide +kernel
theorem dX5_longestBlocking_5 : decode cX5_longestBlocking 5 = .ok (.astore_n 2, 1) := by decide +kernel
theorem dX5_longestBlocking_6 : decode cX5_longestBlocking 6 = .ok (.iconst 0, 1) := by decide +kernel
theorem dX5_longestBlocking_7 : decode cX5_longestBlocking 7 = .ok (.istore_n 3, 1) := by decide +kernel
theorem dX5_longestBlocking_8 : decode cX5_longestBlocking 8 = .ok (.iconst 0, 1) := by decide +kernel
theorem dX5_longestBlocking_9 : decode cX5_longestBlocking 9 = .ok (.istore 4, 2) := by decide +kernel
theorem dX5_longestBlocking_11 : decode cX5_longestBlocking 11 = .ok (.aload_n 2, 1) := by decide +kernel
theorem dX5_longestBlocking_12 : decode cX5_longestBlocking 12 = .ok (.ifnull 95, 3) := by decide +kernel
theorem dX5_longestBlocking_15 : decode cX5_longestBlocking 15 = .ok (.iload 4, 2) := by decide +kernel
theorem dX5_longestBlocking_17 : decode cX5_longestBlocking 17 = .ok (.aload_n 0, 1) := by decide +kernel
theorem dX5_longestBlocking_18 : decode cX5_longestBlocking 18 = .ok (.getfield 28, 3) := by decide +kernel
theorem dX5_longestBlocking_21 : decode cX5_longestBlocking 21 = .ok (.if_icmp .ge 86, 3) := by decide +kernel
theorem dX5_longestBlocking_24 : decode cX5_longestBlocking 24 = .ok (.aload_n 0, 1) := by decide +kernel
theorem dX5_longestBlocking_25 : decode cX5_longestBlocking 25 = .ok (.getfield 24, 3) := by decide +kernel
theorem dX5_longestBlocking_28 : decode cX5_longestBlocking 28 = .ok (.iload 4, 2) := by decide +kernel
theorem dX5_longestBlocking_30 : decode cX5_longestBlocking 30 = .ok (.aaload, 1) := by decide +kernel
theorem dX5_longestBlocking_31 : decode cX5_longestBlocking 31 = .ok (.astore 5, 2) := by decide +kernel
theorem dX5_longestBlocking_33 : decode cX5_longestBlocking 33 = .ok (.iconst 0, 1) := by decide +kernel
theorem dX5_longestBlocking_34 : decode cX5_longestBlocking 34 = .ok (.istore 6, 2) := by decide +kernel
theorem dX5_longestBlocking_36 : decode cX5_longestBlocking 36 = .ok (.aload 5, 2) := by decide +kernel
theorem dX5_longestBlocking_38 : decode cX5_longestBlocking 38 = .ok (.getfield 71, 3) := by decide +kernel
theorem dX5_longestBlocking_41 : decode cX5_longestBlocking 41 = .ok (.aload_n 2, 1) := by decide +kernel
theorem dX5_longestBlocking_42 : decode cX5_longestBlocking 42 = .ok (.getfield 71, 3) := by decide +kernel
theorem dX5_longestBlocking_45 : decode cX5_longestBlocking 45 = .ok (.if_icmp .ge 56, 3) := by decide +kernel
theorem dX5_longestBlocking_48 : decode cX5_longestBlocking 48 = .ok (.iload 6, 2) := by decide +kernel
theorem dX5_longestBlocking_50 : decode cX5_longestBlocking 50 = .ok (.aload 5, 2) := by decide +kernel
theorem dX5_longestBlocking_52 : decode cX5_longestBlocking 52 = .ok (.getfield 103, 3) := by decide +kernel
theorem dX5_longestBlocking_55 : decode cX5_longestBlocking 55 = .ok (.if_icmp .ge 46, 3) := by decide +kernel
theorem dX5_longestBlocking_58 : decode cX5_longestBlocking 58 = .ok (.aload 5, 2) := by decide +kernel
theorem dX5_longestBlocking_60 : decode cX5_longestBlocking 60 = .ok (.getfield 106, 3) := by decide +kernel
theorem dX5_longestBlocking_63 : decode cX5_longestBlocking 63 = .ok (.iload 6, 2) := by decide +kernel
theorem dX5_longestBlocking_65 : decode cX5_longestBlocking 65 = .ok (.aaload, 1) := by decide +kernel
theorem dX5_longestBlocking_66 : decode cX5_longestBlocking 66 = .ok (.astore 7, 2) := by decide +kernel
theorem dX5_longestBlocking_68 : decode cX5_longestBlocking 68 = .ok (.aload 7, 2) := by decide +kernel
theorem dX5_longestBlocking_70 : decode cX5_longestBlocking 70 = .ok (.getfield 116, 3) := by decide +kernel
theorem dX5_longestBlocking_73 : decode cX5_longestBlocking 73 = .ok (.aload_n 2, 1) := by decide +kernel
theorem dX5_longestBlocking_74 : decode cX5_longestBlocking 74 = .ok (.getfield 71, 3) := by decide +kernel
theorem dX5_longestBlocking_77 : decode cX5_longestBlocking 77 = .ok (.if_icmp .lt 18, 3) := by decide +kernel
theorem dX5_longestBlocking_80 : decode cX5_longestBlocking 80 = .ok (.iload_n 3, 1) := by decide +kernel
theorem dX5_longestBlocking_81 : decode cX5_longestBlocking 81 = .ok (.aload 7, 2) := by decide +kernel
theorem dX5_longestBlocking_83 : decode cX5_longestBlocking 83 = .ok (.aload 5, 2) := by decide +kernel
theorem dX5_longestBlocking_85 : decode cX5_longestBlocking 85 = .ok (.getfield 77, 3) := by decide +kernel
theorem dX5_longestBlocking_88 : decode cX5_longestBlocking 88 = .ok (.invokevirtual 258, 3) := by decide +kernel
theorem dX5_longestBlocking_91 : decode cX5_longestBlocking 91 = .ok (.invokestatic 203, 3) := by decide +kernel
theorem dX5_longestBlocking_94 : decode cX5_longestBlocking 94 = .ok (.istore_n 3, 1) := by decide +kernel
theorem dX5_longestBlocking_95 : decode cX5_longestBlocking 95 = .ok (.iinc 6 1, 3) := by decide +kernel
theorem dX5_longestBlocking_98 : decode cX5_longestBlocking 98 = .ok (.goto (-62), 3) := by decide +kernel
theorem dX5_longestBlocking_101 : decode cX5_longestBlocking 101 = .ok (.iinc 4 1, 3) := by decide +kernel
theorem dX5_longestBlocking_104 : decode cX5_longestBlocking 104 = .ok (.goto (-93), 3) := by decide +kernel
theorem dX5_longestBlocking_107 : decode cX5_longestBlocking 107 = .ok (.iload_n 3, 1) := by decide +kernel
theorem dX5_longestBlocking_108 : decode cX5_longestBlocking 108 = .ok (.ireturn, 1) := by decide +kernel
theorem dX6_init_0 : decode cX6_init 0 = .ok (.aload_n 0, 1) := by decide +kernel
theorem dX6_init_1 : decode cX6_init 1 = .ok (.invokespecial 1, 3) := by decide +kernel
theorem dX6_init_4 : decode cX6_init 4 = .ok (.aload_n 0, 1) := by decide +kernel
theorem dX6_init_5 : decode cX6_init 5 = .ok (.iconst 0, 1) := by decide +kernel
theorem dX6_init_6 : decode cX6_init 6 = .ok (.putfield 7, 3) := by decide +kernel
theorem dX6_init_9 : decode cX6_init 9 = .ok (.aload_n 0, 1) := by decide +kernel
theorem dX6_init_10 : decode cX6_init 10 = .ok (.iconst 0, 1) := by decide +kernel
theorem dX6_init_11 : decode cX6_init 11 = .ok (.putfield 13, 3) := by decide +kernel
theorem dX6_init_14 : decode cX6_init 14 = .ok (.aload_n 0, 1) := by decide +kernel
theorem dX6_init_15 : decode cX6_init 15 = .ok (.iconst 0, 1) := by decide +kernel
theorem dX6_init_16 : decode cX6_init 16 = .ok (.putfield 16, 3) := by decide +kernel
theorem dX6_init_19 : decode cX6_init 19 = .ok (.return_, 1) := by decide +kernel
theorem dX6_copyFrom_0 : decode cX6_copyFrom 0 = .ok (.aload_n 0, 1) := by decide +kernel
theorem dX6_copyFrom_1 : decode cX6_copyFrom 1 = .ok (.aload_n 1, 1) := by decide +kernel
theorem dX6_copyFrom_2 : decode cX6_copyFrom 2 = .ok (.getfield 7, 3) := by decide +kernel
theorem dX6_copyFrom_5 : decode cX6_copyFrom 5 = .ok (.putfield 7, 3) := by decide +kernel
theorem dX6_copyFrom_8 : decode cX6_copyFrom 8 = .ok (.aload_n 0, 1) := by decide +kernel
theorem dX6_copyFrom_9 : decode cX6_copyFrom 9 = .ok (.aload_n 1, 1) := by decide +kernel
theorem dX6_copyFrom_10 : decode cX6_copyFrom 10 = .ok (.getfield 13, 3) := by decide +kernel
theorem dX6_copyFrom_13 : decode cX6_copyFrom 13 = .ok (.putfield 13, 3) := by decide +kernel
theorem dX6_copyFrom_16 : decode cX6_copyFrom 16 = .ok (.aload_n 0, 1) := by decide +kernel
theorem dX6_copyFrom_17 : decode cX6_copyFrom 17 = .ok (.aload_n 1, 1) := by decide +kernel
theorem dX6_copyFrom_18 : decode cX6_copyFrom 18 = .ok (.getfield 16, 3) := by decide +kernel
theorem dX6_copyFrom_21 : decode cX6_copyFrom 21 = .ok (.putfield 16, 3) := by decide +kernel
theorem dX6_copyFrom_24 : decode cX6_copyFrom 24 = .ok (.return_, 1) := by decide +kernel
theorem dX6_holds_0 : decode cX6_holds 0 = .ok (.iload_n 1, 1) := by decide +kernel
theorem dX6_holds_1 : decode cX6_holds 1 = .ok (.aload_n 0, 1) := by decide +kernel
theorem dX6_holds_2 : decode cX6_holds 2 = .ok (.getfield 7, 3) := by decide +kernel
theorem dX6_holds_5 : decode cX6_holds 5 = .ok (.if_icmp .lt 20, 3) := by decide +kernel
theorem dX6_holds_8 : decode cX6_holds 8 = .ok (.iload_n 1, 1) := by decide +kernel
theorem dX6_holds_9 : decode cX6_holds 9 = .ok (.aload_n 0, 1) := by decide +kernel
theorem dX6_holds_10 : decode cX6_holds 10 = .ok (.getfield 7, 3) := by decide +kernel
theorem dX6_holds_13 : decode cX6_holds 13 = .ok (.aload_n 0, 1) := by decide +kernel
theorem dX6_holds_14 : decode cX6_holds 14 = .ok (.getfield 13, 3) := by decide +kernel
theorem dX6_holds_17 : decode cX6_holds 17 = .ok (.iadd, 1) := by decide +kernel
theorem dX6_holds_18 : decode cX6_holds 18 = .ok (.if_icmp .ge 7, 3) := by decide +kernel
theorem dX6_holds_21 : decode cX6_holds 21 = .ok (.iconst 1, 1) := by decide +kernel
theorem dX6_holds_22 : decode cX6_holds 22 = .ok (.goto 4, 3) := by decide +kernel
theorem dX6_holds_25 : decode cX6_holds 25 = .ok (.iconst 0, 1) := by decide +kernel
theorem dX6_holds_26 : decode cX6_holds 26 = .ok (.ireturn, 1) := by decide +kernel
theorem dX6_ticksWithin_0 : decode cX6_ticksWithin 0 = .ok (.iconst 0, 1) := by decide +kernel
theorem dX6_ticksWithin_1 : decode cX6_ticksWithin 1 = .ok (.aload_n 0, 1) := by decide +kernel
theorem dX6_ticksWithin_2 : decode cX6_ticksWithin 2 = .ok (.getfield 7, 3) := by decide +kernel
theorem dX6_ticksWithin_5 : decode cX6_ticksWithin 5 = .ok (.aload_n 0, 1) := by decide +kernel
theorem dX6_ticksWithin_6 : decode cX6_ticksWithin 6 = .ok (.getfield 13, 3) := by decide +kernel
theorem dX6_ticksWithin_9 : decode cX6_ticksWithin 9 = .ok (.iadd, 1) := by decide +kernel
theorem dX6_ticksWithin_10 : decode cX6_ticksWithin 10 = .ok (.iload_n 1, 1) := by decide +kernel
theorem dX6_ticksWithin_11 : decode cX6_ticksWithin 11 = .ok (.invokestatic 19, 3) := by decide +kernel
theorem dX6_ticksWithin_14 : decode cX6_ticksWithin 14 = .ok (.aload_n 0, 1) := by decide +kernel
theorem dX6_ticksWithin_15 : decode cX6_ticksWithin 15 = .ok (.getfield 7, 3) := by decide +kernel
theorem dX6_ticksWithin_18 : decode cX6_ticksWithin 18 = .ok (.isub, 1) := by decide +kernel
theorem dX6_ticksWithin_19 : decode cX6_ticksWithin 19 = .ok (.invokestatic 25, 3) := by decide +kernel
theorem dX6_ticksWithin_22 : decode cX6_ticksWithin 22 = .ok (.ireturn, 1) := by decide +kernel
theorem dX7_init_0 : decode cX7_init 0 = .ok (.aload_n 0, 1) := by decide +kernel
theorem dX7_init_1 : decode cX7_init 1 = .ok (.invokespecial 3, 3) := by decide +kernel
theorem dX7_init_4 : decode cX7_init 4 = .ok (.aload_n 0, 1) := by decide +kernel
theorem dX7_init_5 : decode cX7_init 5 = .ok (.iconst 0, 1) := by decide +kernel
theorem dX7_init_6 : decode cX7_init 6 = .ok (.putfield 9, 3) := by decide +kernel
theorem dX7_init_9 : decode cX7_init 9 = .ok (.aload_n 0, 1) := by decide +kernel
theorem dX7_init_10 : decode cX7_init 10 = .ok (.iconst 0, 1) := by decide +kernel
theorem dX7_init_11 : decode cX7_init 11 = .ok (.putfield 15, 3) := by decide +kernel
theorem dX7_init_14 : decode cX7_init 14 = .ok (.aload_n 0, 1) := by decide +kernel
theorem dX7_init_15 : decode cX7_init 15 = .ok (.iconst 0, 1) := by decide +kernel
theorem dX7_init_16 : decode cX7_init 16 = .ok (.putfield 18, 3) := by decide +kernel
theorem dX7_init_19 : decode cX7_init 19 = .ok (.aload_n 0, 1) := by decide +kernel
theorem dX7_init_20 : decode cX7_init 20 = .ok (.iconst 1, 1) := by decide +kernel
theorem dX7_init_21 : decode cX7_init 21 = .ok (.putfield 21, 3) := by decide +kernel
theorem dX7_init_24 : decode cX7_init 24 = .ok (.aload_n 0, 1) := by decide +kernel
theorem dX7_init_25 : decode cX7_init 25 = .ok (.iconst 0, 1) := by decide +kernel
theorem dX7_init_26 : decode cX7_init 26 = .ok (.putfield 25, 3) := by decide +kernel
theorem dX7_init_29 : decode cX7_init 29 = .ok (.aload_n 0, 1) := by decide +kernel
theorem dX7_init_30 : decode cX7_init 30 = .ok (.iconst 0, 1) := by decide +kernel
theorem dX7_init_31 : decode cX7_init 31 = .ok (.putfield 28, 3) := by decide +kernel
theorem dX7_init_34 : decode cX7_init 34 = .ok (.aload_n 0, 1) := by decide +kernel
theorem dX7_init_35 : decode cX7_init 35 = .ok (.iconst 0, 1) := by decide +kernel
theorem dX7_init_36 : decode cX7_init 36 = .ok (.putfield 31, 3) := by decide +kernel
theorem dX7_init_39 : decode cX7_init 39 = .ok (.aload_n 0, 1) := by decide +kernel
theorem dX7_init_40 : decode cX7_init 40 = .ok (.iconst (-1), 1) := by decide +kernel
theorem dX7_init_41 : decode cX7_init 41 = .ok (.putfield 34, 3) := by decide +kernel
theorem dX7_init_44 : decode cX7_init 44 = .ok (.aload_n 0, 1) := by decide +kernel
theorem dX7_init_45 : decode cX7_init 45 = .ok (.iconst 0, 1) := by decide +kernel
theorem dX7_init_46 : decode cX7_init 46 = .ok (.putfield 37, 3) := by decide +kernel
theorem dX7_init_49 : decode cX7_init 49 = .ok (.aload_n 0, 1) := by decide +kernel
theorem dX7_init_50 : decode cX7_init 50 = .ok (.iconst 0, 1) := by decide +kernel
theorem dX7_init_51 : decode cX7_init 51 = .ok (.putfield 40, 3) := by decide +kernel
theorem dX7_init_54 : decode cX7_init 54 = .ok (.aload_n 0, 1) := by decide +kernel
theorem dX7_init_55 : decode cX7_init 55 = .ok (.iconst 0, 1) := by decide +kernel
theorem dX7_init_56 : decode cX7_init 56 = .ok (.putfield 43, 3) := by decide +kernel
theorem dX7_init_59 : decode cX7_init 59 = .ok (.aload_n 0, 1) := by decide +kernel
theorem dX7_init_60 : decode cX7_init 60 = .ok (.iconst 0, 1) := by decide +kernel
theorem dX7_init_61 : decode cX7_init 61 = .ok (.putfield 46, 3) := by decide +kernel
theorem dX7_init_64 : decode cX7_init 64 = .ok (.aload_n 0, 1) := by decide +kernel
theorem dX7_init_65 : decode cX7_init 65 = .ok (.iconst (-1), 1) := by decide +kernel
theorem dX7_init_66 : decode cX7_init 66 = .ok (.putfield 49, 3) := by decide +kernel
theorem dX7_init_69 : decode cX7_init 69 = .ok (.aload_n 0, 1) := by decide +kernel
theorem dX7_init_70 : decode cX7_init 70 = .ok (.iconst (-1), 1) := by decide +kernel
theorem dX7_init_71 : decode cX7_init 71 = .ok (.putfield 52, 3) := by decide +kernel
theorem dX7_init_74 : decode cX7_init 74 = .ok (.aload_n 0, 1) := by decide +kernel
theorem dX7_init_75 : decode cX7_init 75 = .ok (.iconst 0, 1) := by decide +kernel
theorem dX7_init_76 : decode cX7_init 76 = .ok (.putfield 55, 3) := by decide +kernel
theorem dX7_init_79 : decode cX7_init 79 = .ok (.aload_n 0, 1) := by decide +kernel
theorem dX7_init_80 : decode cX7_init 80 = .ok (.iconst 0, 1) := by decide +kernel
theorem dX7_init_81 : decode cX7_init 81 = .ok (.putfield 58, 3) := by decide +kernel
theorem dX7_init_84 : decode cX7_init 84 = .ok (.aload_n 0, 1) := by decide +kernel
theorem dX7_init_85 : decode cX7_init 85 = .ok (.iconst 0, 1) := by decide +kernel
theorem dX7_init_86 : decode cX7_init 86 = .ok (.putfield 61, 3) := by decide +kernel
theorem dX7_init_89 : decode cX7_init 89 = .ok (.aload_n 0, 1) := by decide +kernel
theorem dX7_init_90 : decode cX7_init 90 = .ok (.iconst 0, 1) := by decide +kernel
theorem dX7_init_91 : decode cX7_init 91 = .ok (.putfield 64, 3) := by decide +kernel
theorem dX7_init_94 : decode cX7_init 94 = .ok (.aload_n 0, 1) := by decide +kernel
theorem dX7_init_95 : decode cX7_init 95 = .ok (.iconst 0, 1) := by decide +kernel
theorem dX7_init_96 : decode cX7_init 96 = .ok (.putfield 67, 3) := by decide +kernel
theorem dX7_init_99 : decode cX7_init 99 = .ok (.aload_n 0, 1) := by decide +kernel
theorem dX7_init_100 : decode cX7_init 100 = .ok (.iconst 2, 1) := by decide +kernel
theorem dX7_init_101 : decode cX7_init 101 = .ok (.anewarray 70, 3) := by decide +kernel
theorem dX7_init_104 : decode cX7_init 104 = .ok (.putfield 72, 3) := by decide +kernel
theorem dX7_init_107 : decode cX7_init 107 = .ok (.iconst 0, 1) := by decide +kernel
theorem dX7_init_108 : decode cX7_init 108 = .ok (.istore_n 1, 1) := by decide +kernel
theorem dX7_init_109 : decode cX7_init 109 = .ok (.iload_n 1, 1) := by decide +kernel
theorem dX7_init_110 : decode cX7_init 110 = .ok (.iconst 2, 1) := by decide +kernel
theorem dX7_init_111 : decode cX7_init 111 = .ok (.if_icmp .ge 22, 3) := by decide +kernel
theorem dX7_init_114 : decode cX7_init 114 = .ok (.aload_n 0, 1) := by decide +kernel
theorem dX7_init_115 : decode cX7_init 115 = .ok (.getfield 72, 3) := by decide +kernel
theorem dX7_init_118 : decode cX7_init 118 = .ok (.iload_n 1, 1) := by decide +kernel
theorem dX7_init_119 : decode cX7_init 119 = .ok (.new 70, 3) := by decide +kernel
theorem dX7_init_122 : decode cX7_init 122 = .ok (.dup, 1) := by decide +kernel
theorem dX7_init_123 : decode cX7_init 123 = .ok (.invokespecial 76, 3) := by decide +kernel
theorem dX7_init_126 : decode cX7_init 126 = .ok (.aastore, 1) := by decide +kernel
theorem dX7_init_127 : decode cX7_init 127 = .ok (.iinc 1 1, 3) := by decide +kernel
theorem dX7_init_130 : decode cX7_init 130 = .ok (.goto (-21), 3) := by decide +kernel
theorem dX7_init_133 : decode cX7_init 133 = .ok (.return_, 1) := by decide +kernel
theorem dX7_copyFrom_0 : decode cX7_copyFrom 0 = .ok (.aload_n 0, 1) := by decide +kernel
theorem dX7_copyFrom_1 : decode cX7_copyFrom 1 = .ok (.aload_n 1, 1) := by decide +kernel
theorem dX7_copyFrom_2 : decode cX7_copyFrom 2 = .ok (.getfield 9, 3) := by decide +kernel
theorem dX7_copyFrom_5 : decode cX7_copyFrom 5 = .ok (.putfield 9, 3) := by decide +kernel
theorem dX7_copyFrom_8 : decode cX7_copyFrom 8 = .ok (.aload_n 0, 1) := by decide +kernel
theorem dX7_copyFrom_9 : decode cX7_copyFrom 9 = .ok (.aload_n 1, 1) := by decide +kernel
theorem dX7_copyFrom_10 : decode cX7_copyFrom 10 = .ok (.getfield 15, 3) := by decide +kernel
theorem dX7_copyFrom_13 : decode cX7_copyFrom 13 = .ok (.putfield 15, 3) := by decide +kernel
theorem dX7_copyFrom_16 : decode cX7_copyFrom 16 = .ok (.aload_n 0, 1) := by decide +kernel
theorem dX7_copyFrom_17 : decode cX7_copyFrom 17 = .ok (.aload_n 1, 1) := by decide +kernel
theorem dX7_copyFrom_18 : decode cX7_copyFrom 18 = .ok (.getfield 18, 3) := by decide +kernel
theorem dX7_copyFrom_21 : decode cX7_copyFrom 21 = .ok (.putfield 18, 3) := by decide +kernel
theorem dX7_copyFrom_24 : decode cX7_copyFrom 24 = .ok (.aload_n 0, 1) := by decide +kernel
theorem dX7_copyFrom_25 : decode cX7_copyFrom 25 = .ok (.aload_n 1, 1) := by decide +kernel
theorem dX7_copyFrom_26 : decode cX7_copyFrom 26 = .ok (.getfield 21, 3) := by decide +kernel
theorem dX7_copyFrom_29 : decode cX7_copyFrom 29 = .ok (.putfield 21, 3) := by decide +kernel
theorem dX7_copyFrom_32 : decode cX7_copyFrom 32 = .ok (.aload_n 0, 1) := by decide +kernel
theorem dX7_copyFrom_33 : decode cX7_copyFrom 33 = .ok (.aload_n 1, 1) := by decide +kernel
theorem dX7_copyFrom_34 : decode cX7_copyFrom 34 = .ok (.getfield 25, 3) := by decide +kernel
theorem dX7_copyFrom_37 : decode cX7_copyFrom 37 = .ok (.putfield 25, 3) := by decide +kernel
theorem dX7_copyFrom_40 : decode cX7_copyFrom 40 = .ok (.aload_n 0, 1) := by decide +kernel
theorem dX7_copyFrom_41 : decode cX7_copyFrom 41 = .ok (.aload_n 1, 1) := by decide +kernel
theorem dX7_copyFrom_42 : decode cX7_copyFrom 42 = .ok (.getfield 28, 3) := by decide +kernel
theorem dX7_copyFrom_45 : decode cX7_copyFrom 45 = .ok (.putfield 28, 3) := by decide +kernel
theorem dX7_copyFrom_48 : decode cX7_copyFrom 48 = .ok (.aload_n 0, 1) := by decide +kernel
theorem dX7_copyFrom_49 : decode cX7_copyFrom 49 = .ok (.aload_n 1, 1) := by decide +kernel
theorem dX7_copyFrom_50 : decode cX7_copyFrom 50 = .ok (.getfield 31, 3) := by decide +kernel
theorem dX7_copyFrom_53 : decode cX7_copyFrom 53 = .ok (.putfield 31, 3) := by decide +kernel
theorem dX7_copyFrom_56 : decode cX7_copyFrom 56 = .ok (.aload_n 0, 1) := by decide +kernel
theorem dX7_copyFrom_57 : decode cX7_copyFrom 57 = .ok (.aload_n 1, 1) := by decide +kernel
theorem dX7_copyFrom_58 : decode cX7_copyFrom 58 = .ok (.getfield 34, 3) := by decide +kernel
theorem dX7_copyFrom_61 : decode cX7_copyFrom 61 = .ok (.putfield 34, 3) := by decide +kernel
theorem dX7_copyFrom_64 : decode cX7_copyFrom 64 = .ok (.aload_n 0, 1) := by decide +kernel
theorem dX7_copyFrom_65 : decode cX7_copyFrom 65 = .ok (.aload_n 1, 1) := by decide +kernel
theorem dX7_copyFrom_66 : decode cX7_copyFrom 66 = .ok (.getfield 37, 3) := by decide +kernel
theorem dX7_copyFrom_69 : decode cX7_copyFrom 69 = .ok (.putfield 37, 3) := by decide +kernel
theorem dX7_copyFrom_72 : decode cX7_copyFrom 72 = .ok (.aload_n 0, 1) := by decide +kernel
theorem dX7_copyFrom_73 : decode cX7_copyFrom 73 = .ok (.aload_n 1, 1) := by decide +kernel
theorem dX7_copyFrom_74 : decode cX7_copyFrom 74 = .ok (.getfield 40, 3) := by decide +kernel
theorem dX7_copyFrom_77 : decode cX7_copyFrom 77 = .ok (.putfield 40, 3) := by decide +kernel
theorem dX7_copyFrom_80 : decode cX7_copyFrom 80 = .ok (.aload_n 0, 1) := by decide +kernel
theorem dX7_copyFrom_81 : decode cX7_copyFrom 81 = .ok (.aload_n 1, 1) := by decide +kernel
theorem dX7_copyFrom_82 : decode cX7_copyFrom 82 = .ok (.getfield 43, 3) := by decide +kernel
theorem dX7_copyFrom_85 : decode cX7_copyFrom 85 = .ok (.putfield 43, 3) := by decide +kernel
theorem dX7_copyFrom_88 : decode cX7_copyFrom 88 = .ok (.aload_n 0, 1) := by decide +kernel
theorem dX7_copyFrom_89 : decode cX7_copyFrom 89 = .ok (.aload_n 1, 1) := by decide +kernel
theorem dX7_copyFrom_90 : decode cX7_copyFrom 90 = .ok (.getfield 46, 3) := by decide +kernel
theorem dX7_copyFrom_93 : decode cX7_copyFrom 93 = .ok (.putfield 46, 3) := by decide +kernel
theorem dX7_copyFrom_96 : decode cX7_copyFrom 96 = .ok (.aload_n 0, 1) := by decide +kernel
theorem dX7_copyFrom_97 : decode cX7_copyFrom 97 = .ok (.aload_n 1, 1) := by decide +kernel
theorem dX7_copyFrom_98 : decode cX7_copyFrom 98 = .ok (.getfield 49, 3) := by decide +kernel
theorem dX7_copyFrom_101 : decode cX7_copyFrom 101 = .ok (.putfield 49, 3) := by decide +kernel
theorem dX7_copyFrom_104 : decode cX7_copyFrom 104 = .ok (.aload_n 0, 1) := by decide +kernel
theorem dX7_copyFrom_105 : decode cX7_copyFrom 105 = .ok (.aload_n 1, 1) := by decide +kernel
theorem dX7_copyFrom_106 : decode cX7_copyFrom 106 = .ok (.getfield 52, 3) := by decide +kernel
theorem dX7_copyFrom_109 : decode cX7_copyFrom 109 = .ok (.putfield 52, 3) := by decide +kernel
theorem dX7_copyFrom_112 : decode cX7_copyFrom 112 = .ok (.aload_n 0, 1) := by decide +kernel
theorem dX7_copyFrom_113 : decode cX7_copyFrom 113 = .ok (.aload_n 1, 1) := by decide +kernel
theorem dX7_copyFrom_114 : decode cX7_copyFrom 114 = .ok (.getfield 55, 3) := by decide +kernel
theorem dX7_copyFrom_117 : decode cX7_copyFrom 117 = .ok (.putfield 55, 3) := by decide +kernel
theorem dX7_copyFrom_120 : decode cX7_copyFrom 120 = .ok (.aload_n 0, 1) := by decide +kernel
theorem dX7_copyFrom_121 : decode cX7_copyFrom 121 = .ok (.aload_n 1, 1) := by decide +kernel
theorem dX7_copyFrom_122 : decode cX7_copyFrom 122 = .ok (.getfield 58, 3) := by decide +kernel
theorem dX7_copyFrom_125 : decode cX7_copyFrom 125 = .ok (.putfield 58, 3) := by decide +kernel
theorem dX7_copyFrom_128 : decode cX7_copyFrom 128 = .ok (.aload_n 0, 1) := by decide +kernel
theorem dX7_copyFrom_129 : decode cX7_copyFrom 129 = .ok (.aload_n 1, 1) := by decide +kernel
theorem dX7_copyFrom_130 : decode cX7_copyFrom 130 = .ok (.getfield 61, 3) := by decide +kernel
theorem dX7_copyFrom_133 : decode cX7_copyFrom 133 = .ok (.putfield 61, 3) := by decide +kernel
theorem dX7_copyFrom_136 : decode cX7_copyFrom 136 = .ok (.aload_n 0, 1) := by decide +kernel
theorem dX7_copyFrom_137 : decode cX7_copyFrom 137 = .ok (.aload_n 1, 1) := by decide +kernel
theorem dX7_copyFrom_138 : decode cX7_copyFrom 138 = .ok (.getfield 64, 3) := by decide +kernel
theorem dX7_copyFrom_141 : decode cX7_copyFrom 141 = .ok (.putfield 64, 3) := by decide +kernel
theorem dX7_copyFrom_144 : decode cX7_copyFrom 144 = .ok (.aload_n 0, 1) := by decide +kernel
theorem dX7_copyFrom_145 : decode cX7_copyFrom 145 = .ok (.aload_n 1, 1) := by decide +kernel
theorem dX7_copyFrom_146 : decode cX7_copyFrom 146 = .ok (.getfield 67, 3) := by decide +kernel
theorem dX7_copyFrom_149 : decode cX7_copyFrom 149 = .ok (.putfield 67, 3) := by decide +kernel
theorem dX7_copyFrom_152 : decode cX7_copyFrom 152 = .ok (.iconst 0, 1) := by decide +kernel
theorem dX7_copyFrom_153 : decode cX7_copyFrom 153 = .ok (.istore_n 2, 1) := by decide +kernel
theorem dX7_copyFrom_154 : decode cX7_copyFrom 154 = .ok (.iload_n 2, 1) := by decide +kernel
theorem dX7_copyFrom_155 : decode cX7_copyFrom 155 = .ok (.iconst 2, 1) := by decide +kernel
theorem dX7_copyFrom_156 : decode cX7_copyFrom 156 = .ok (.if_icmp .ge 24, 3) := by decide +kernel
theorem dX7_copyFrom_159 : decode cX7_copyFrom 159 = .ok (.aload_n 0, 1) := by decide +kernel
theorem dX7_copyFrom_160 : decode cX7_copyFrom 160 = .ok (.getfield 72, 3) := by decide +kernel
theorem dX7_copyFrom_163 : decode cX7_copyFrom 163 = .ok (.iload_n 2, 1) := by decide +kernel
theorem dX7_copyFrom_164 : decode cX7_copyFrom 164 = .ok (.aaload, 1) := by decide +kernel
theorem dX7_copyFrom_165 : decode cX7_copyFrom 165 = .ok (.aload_n 1, 1) := by decide +kernel
theorem dX7_copyFrom_166 : decode cX7_copyFrom 166 = .ok (.getfield 72, 3) := by decide +kernel
theorem dX7_copyFrom_169 : decode cX7_copyFrom 169 = .ok (.iload_n 2, 1) := by decide +kernel
theorem dX7_copyFrom_170 : decode cX7_copyFrom 170 = .ok (.aaload, 1) := by decide +kernel
theorem dX7_copyFrom_171 : decode cX7_copyFrom 171 = .ok (.invokevirtual 77, 3) := by decide +kernel
theorem dX7_copyFrom_174 : decode cX7_copyFrom 174 = .ok (.iinc 2 1, 3) := by decide +kernel
theorem dX7_copyFrom_177 : decode cX7_copyFrom 177 = .ok (.goto (-23), 3) := by decide +kernel
theorem dX7_copyFrom_180 : decode cX7_copyFrom 180 = .ok (.return_, 1) := by decide +kernel
theorem dX7_isStacked_0 : decode cX7_isStacked 0 = .ok (.aload_n 0, 1) := by decide +kernel
theorem dX7_isStacked_1 : decode cX7_isStacked 1 = .ok (.getfield 34, 3) := by decide +kernel
theorem dX7_isStacked_4 : decode cX7_isStacked 4 = .ok (.iconst (-1), 1) := by decide +kernel
theorem dX7_isStacked_5 : decode cX7_isStacked 5 = .ok (.if_icmp .eq 7, 3) := by decide +kernel
theorem dX7_isStacked_8 : decode cX7_isStacked 8 = .ok (.iconst 1, 1) := by decide +kernel
theorem dX7_isStacked_9 : decode cX7_isStacked 9 = .ok (.goto 4, 3) := by decide +kernel
theorem dX7_isStacked_12 : decode cX7_isStacked 12 = .ok (.iconst 0, 1) := by decide +kernel
theorem dX7_isStacked_13 : decode cX7_isStacked 13 = .ok (.ireturn, 1) := by decide +kernel
theorem dX7_isPending_0 : decode cX7_isPending 0 = .ok (.aload_n 0, 1) := by decide +kernel
theorem dX7_isPending_1 : decode cX7_isPending 1 = .ok (.getfield 15, 3) := by decide +kernel
theorem dX7_isPending_4 : decode cX7_isPending 4 = .ok (.ifCond .ne 10, 3) := by decide +kernel
theorem dX7_isPending_7 : decode cX7_isPending 7 = .ok (.aload_n 0, 1) := by decide +kernel
theorem dX7_isPending_8 : decode cX7_isPending 8 = .ok (.getfield 25, 3) := by decide +kernel
theorem dX7_isPending_11 : decode cX7_isPending 11 = .ok (.goto 22, 3) := by decide +kernel
theorem dX7_isPending_14 : decode cX7_isPending 14 = .ok (.aload_n 0, 1) := by decide +kernel
theorem dX7_isPending_15 : decode cX7_isPending 15 = .ok (.getfield 28, 3) := by decide +kernel
theorem dX7_isPending_18 : decode cX7_isPending 18 = .ok (.ifCond .eq 14, 3) := by decide +kernel
theorem dX7_isPending_21 : decode cX7_isPending 21 = .ok (.aload_n 0, 1) := by decide +kernel
theorem dX7_isPending_22 : decode cX7_isPending 22 = .ok (.invokevirtual 81, 3) := by decide +kernel
theorem dX7_isPending_25 : decode cX7_isPending 25 = .ok (.ifCond .ne 7, 3) := by decide +kernel
theorem dX7_isPending_28 : decode cX7_isPending 28 = .ok (.iconst 1, 1) := by decide +kernel
theorem dX7_isPending_29 : decode cX7_isPending 29 = .ok (.goto 4, 3) := by decide +kernel
theorem dX7_isPending_32 : decode cX7_isPending 32 = .ok (.iconst 0, 1) := by decide +kernel
theorem dX7_isPending_33 : decode cX7_isPending 33 = .ok (.ireturn, 1) := by decide +kernel
theorem dX7_comeOn_0 : decode cX7_comeOn 0 = .ok (.aload_n 0, 1) := by decide +kernel
theorem dX7_comeOn_1 : decode cX7_comeOn 1 = .ok (.iload_n 1, 1) := by decide +kernel
theorem dX7_comeOn_2 : decode cX7_comeOn 2 = .ok (.putfield 34, 3) := by decide +kernel
theorem dX7_comeOn_5 : decode cX7_comeOn 5 = .ok (.aload_n 0, 1) := by decide +kernel
theorem dX7_comeOn_6 : decode cX7_comeOn 6 = .ok (.iconst 0, 1) := by decide +kernel
theorem dX7_comeOn_7 : decode cX7_comeOn 7 = .ok (.putfield 37, 3) := by decide +kernel
theorem dX7_comeOn_10 : decode cX7_comeOn 10 = .ok (.aload_n 0, 1) := by decide +kernel
theorem dX7_comeOn_11 : decode cX7_comeOn 11 = .ok (.iconst 0, 1) := by decide +kernel
theorem dX7_comeOn_12 : decode cX7_comeOn 12 = .ok (.putfield 25, 3) := by decide +kernel
theorem dX7_comeOn_15 : decode cX7_comeOn 15 = .ok (.aload_n 0, 1) := by decide +kernel
theorem dX7_comeOn_16 : decode cX7_comeOn 16 = .ok (.dup, 1) := by decide +kernel
theorem dX7_comeOn_17 : decode cX7_comeOn 17 = .ok (.getfield 40, 3) := by decide +kernel
theorem dX7_comeOn_20 : decode cX7_comeOn 20 = .ok (.iconst 1, 1) := by decide +kernel
theorem dX7_comeOn_21 : decode cX7_comeOn 21 = .ok (.iadd, 1) := by decide +kernel
theorem dX7_comeOn_22 : decode cX7_comeOn 22 = .ok (.putfield 40, 3) := by decide +kernel
theorem dX7_comeOn_25 : decode cX7_comeOn 25 = .ok (.aload_n 0, 1) := by decide +kernel
theorem dX7_comeOn_26 : decode cX7_comeOn 26 = .ok (.iload_n 2, 1) := by decide +kernel
theorem dX7_comeOn_27 : decode cX7_comeOn 27 = .ok (.aload_n 0, 1) := by decide +kernel
theorem dX7_comeOn_28 : decode cX7_comeOn 28 = .ok (.getfield 31, 3) := by decide +kernel
theorem dX7_comeOn_31 : decode cX7_comeOn 31 = .ok (.isub, 1) := by decide +kernel
theorem dX7_comeOn_32 : decode cX7_comeOn 32 = .ok (.putfield 49, 3) := by decide +kernel
theorem dX7_comeOn_35 : decode cX7_comeOn 35 = .ok (.aload_n 0, 1) := by decide +kernel
theorem dX7_comeOn_36 : decode cX7_comeOn 36 = .ok (.getfield 49, 3) := by decide +kernel
theorem dX7_comeOn_39 : decode cX7_comeOn 39 = .ok (.aload_n 0, 1) := by decide +kernel
theorem dX7_comeOn_40 : decode cX7_comeOn 40 = .ok (.getfield 52, 3) := by decide +kernel
theorem dX7_comeOn_43 : decode cX7_comeOn 43 = .ok (.if_icmp .le 11, 3) := by decide +kernel
theorem dX7_comeOn_46 : decode cX7_comeOn 46 = .ok (.aload_n 0, 1) := by decide +kernel
theorem dX7_comeOn_47 : decode cX7_comeOn 47 = .ok (.aload_n 0, 1) := by decide +kernel
theorem dX7_comeOn_48 : decode cX7_comeOn 48 = .ok (.getfield 49, 3) := by decide +kernel
theorem dX7_comeOn_51 : decode cX7_comeOn 51 = .ok (.putfield 52, 3) := by decide +kernel
theorem dX7_comeOn_54 : decode cX7_comeOn 54 = .ok (.aload_n 0, 1) := by decide +kernel
theorem dX7_comeOn_55 : decode cX7_comeOn 55 = .ok (.getfield 49, 3) := by decide +kernel
theorem dX7_comeOn_58 : decode cX7_comeOn 58 = .ok (.ireturn, 1) := by decide +kernel
theorem dX7_goOff_0 : decode cX7_goOff 0 = .ok (.aload_n 0, 1) := by decide +kernel
theorem dX7_goOff_1 : decode cX7_goOff 1 = .ok (.iconst (-1), 1) := by decide +kernel
theorem dX7_goOff_2 : decode cX7_goOff 2 = .ok (.putfield 34, 3) := by decide +kernel
theorem dX7_goOff_5 : decode cX7_goOff 5 = .ok (.aload_n 0, 1) := by decide +kernel
theorem dX7_goOff_6 : decode cX7_goOff 6 = .ok (.iconst 0, 1) := by decide +kernel
theorem dX7_goOff_7 : decode cX7_goOff 7 = .ok (.putfield 37, 3) := by decide +kernel
theorem dX7_goOff_10 : decode cX7_goOff 10 = .ok (.aload_n 0, 1) := by decide +kernel
theorem dX7_goOff_11 : decode cX7_goOff 11 = .ok (.dup, 1) := by decide +kernel
theorem dX7_goOff_12 : decode cX7_goOff 12 = .ok (.getfield 43, 3) := by decide +kernel
theorem dX7_goOff_15 : decode cX7_goOff 15 = .ok (.iconst 1, 1) := by decide +kernel
theorem dX7_goOff_16 : decode cX7_goOff 16 = .ok (.iadd, 1) := by decide +kernel
theorem dX7_goOff_17 : decode cX7_goOff 17 = .ok (.putfield 43, 3) := by decide +kernel
theorem dX7_goOff_20 : decode cX7_goOff 20 = .ok (.aload_n 0, 1) := by decide +kernel
theorem dX7_goOff_21 : decode cX7_goOff 21 = .ok (.getfield 15, 3) := by decide +kernel
theorem dX7_goOff_24 : decode cX7_goOff 24 = .ok (.iconst 1, 1) := by decide +kernel
theorem dX7_goOff_25 : decode cX7_goOff 25 = .ok (.if_icmp .ne 15, 3) := by decide +kernel
theorem dX7_goOff_28 : decode cX7_goOff 28 = .ok (.aload_n 0, 1) := by decide +kernel
theorem dX7_goOff_29 : decode cX7_goOff 29 = .ok (.getfield 28, 3) := by decide +kernel
theorem dX7_goOff_32 : decode cX7_goOff 32 = .ok (.ifCond .eq 8, 3) := by decide +kernel
theorem dX7_goOff_35 : decode cX7_goOff 35 = .ok (.aload_n 0, 1) := by decide +kernel
theorem dX7_goOff_36 : decode cX7_goOff 36 = .ok (.iload_n 1, 1) := by decide +kernel
theorem dX7_goOff_37 : decode cX7_goOff 37 = .ok (.putfield 31, 3) := by decide +kernel
theorem dX7_goOff_40 : decode cX7_goOff 40 = .ok (.return_, 1) := by decide +kernel
theorem dX8_init_0 : decode cX8_init 0 = .ok (.aload_n 0, 1) := by decide +kernel
theorem dX8_init_1 : decode cX8_init 1 = .ok (.invokespecial 1, 3) := by decide +kernel
theorem dX8_init_4 : decode cX8_init 4 = .ok (.aload_n 0, 1) := by decide +kernel
theorem dX8_init_5 : decode cX8_init 5 = .ok (.new 7, 3) := by decide +kernel
theorem dX8_init_8 : decode cX8_init 8 = .ok (.dup, 1) := by decide +kernel
theorem dX8_init_9 : decode cX8_init 9 = .ok (.invokespecial 9, 3) := by decide +kernel
theorem dX8_init_12 : decode cX8_init 12 = .ok (.putfield 10, 3) := by decide +kernel
theorem dX8_init_15 : decode cX8_init 15 = .ok (.aload_n 0, 1) := by decide +kernel
theorem dX8_init_16 : decode cX8_init 16 = .ok (.new 7, 3) := by decide +kernel
theorem dX8_init_19 : decode cX8_init 19 = .ok (.dup, 1) := by decide +kernel
theorem dX8_init_20 : decode cX8_init 20 = .ok (.invokespecial 9, 3) := by decide +kernel
theorem dX8_init_23 : decode cX8_init 23 = .ok (.putfield 16, 3) := by decide +kernel
theorem dX8_init_26 : decode cX8_init 26 = .ok (.aload_n 0, 1) := by decide +kernel
theorem dX8_init_27 : decode cX8_init 27 = .ok (.new 19, 3) := by decide +kernel
theorem dX8_init_30 : decode cX8_init 30 = .ok (.dup, 1) := by decide +kernel
theorem dX8_init_31 : decode cX8_init 31 = .ok (.invokespecial 21, 3) := by decide +kernel
theorem dX8_init_34 : decode cX8_init 34 = .ok (.putfield 22, 3) := by decide +kernel
theorem dX8_init_37 : decode cX8_init 37 = .ok (.aload_n 0, 1) := by decide +kernel
theorem dX8_init_38 : decode cX8_init 38 = .ok (.new 26, 3) := by decide +kernel
theorem dX8_init_41 : decode cX8_init 41 = .ok (.dup, 1) := by decide +kernel
theorem dX8_init_42 : decode cX8_init 42 = .ok (.invokespecial 28, 3) := by decide +kernel
theorem dX8_init_45 : decode cX8_init 45 = .ok (.putfield 29, 3) := by decide +kernel
theorem dX8_init_48 : decode cX8_init 48 = .ok (.aload_n 0, 1) := by decide +kernel
theorem dX8_init_49 : decode cX8_init 49 = .ok (.iconst 0, 1) := by decide +kernel
theorem dX8_init_50 : decode cX8_init 50 = .ok (.putfield 33, 3) := by decide +kernel
theorem dX8_init_53 : decode cX8_init 53 = .ok (.return_, 1) := by decide +kernel
theorem dX8_addSource_0 : decode cX8_addSource 0 = .ok (.aload_n 0, 1) := by decide +kernel
theorem dX8_addSource_1 : decode cX8_addSource 1 = .ok (.getfield 22, 3) := by decide +kernel
theorem dX8_addSource_4 : decode cX8_addSource 4 = .ok (.aload_n 0, 1) := by decide +kernel
theorem dX8_addSource_5 : decode cX8_addSource 5 = .ok (.getfield 10, 3) := by decide +kernel
theorem dX8_addSource_8 : decode cX8_addSource 8 = .ok (.invokevirtual 37, 3) := by decide +kernel
theorem dX8_addSource_11 : decode cX8_addSource 11 = .ok (.aload_n 0, 1) := by decide +kernel
theorem dX8_addSource_12 : decode cX8_addSource 12 = .ok (.aload_n 0, 1) := by decide +kernel
theorem dX8_addSource_13 : decode cX8_addSource 13 = .ok (.getfield 10, 3) := by decide +kernel
theorem dX8_addSource_16 : decode cX8_addSource 16 = .ok (.iload_n 1, 1) := by decide +kernel
theorem dX8_addSource_17 : decode cX8_addSource 17 = .ok (.iload_n 2, 1) := by decide +kernel
theorem dX8_addSource_18 : decode cX8_addSource 18 = .ok (.iload_n 3, 1) := by decide +kernel
theorem dX8_addSource_19 : decode cX8_addSource 19 = .ok (.invokevirtual 41, 3) := by decide +kernel
theorem dX8_addSource_22 : decode cX8_addSource 22 = .ok (.invokevirtual 45, 3) := by decide +kernel
theorem dX8_addSource_25 : decode cX8_addSource 25 = .ok (.ireturn, 1) := by decide +kernel
theorem dX8_setSource_0 : decode cX8_setSource 0 = .ok (.aload_n 0, 1) := by decide +kernel
theorem dX8_setSource_1 : decode cX8_setSource 1 = .ok (.getfield 22, 3) := by decide +kernel
theorem dX8_setSource_4 : decode cX8_setSource 4 = .ok (.aload_n 0, 1) := by decide +kernel
theorem dX8_setSource_5 : decode cX8_setSource 5 = .ok (.getfield 10, 3) := by decide +kernel
theorem dX8_setSource_8 : decode cX8_setSource 8 = .ok (.invokevirtual 37, 3) := by decide +kernel
theorem dX8_setSource_11 : decode cX8_setSource 11 = .ok (.aload_n 0, 1) := by decide +kernel
theorem dX8_setSource_12 : decode cX8_setSource 12 = .ok (.aload_n 0, 1) := by decide +kernel
theorem dX8_setSource_13 : decode cX8_setSource 13 = .ok (.getfield 10, 3) := by decide +kernel
theorem dX8_setSource_16 : decode cX8_setSource 16 = .ok (.iload_n 1, 1) := by decide +kernel
theorem dX8_setSource_17 : decode cX8_setSource 17 = .ok (.iload_n 2, 1) := by decide +kernel
theorem dX8_setSource_18 : decode cX8_setSource 18 = .ok (.iload_n 3, 1) := by decide +kernel
theorem dX8_setSource_19 : decode cX8_setSource 19 = .ok (.invokevirtual 49, 3) := by decide +kernel
theorem dX8_setSource_22 : decode cX8_setSource 22 = .ok (.invokevirtual 45, 3) := by decide +kernel
theorem dX8_setSource_25 : decode cX8_setSource 25 = .ok (.ireturn, 1) := by decide +kernel
theorem dX8_addSection_0 : decode cX8_addSection 0 = .ok (.aload_n 0, 1) := by decide +kernel
theorem dX8_addSection_1 : decode cX8_addSection 1 = .ok (.getfield 22, 3) := by decide +kernel
theorem dX8_addSection_4 : decode cX8_addSection 4 = .ok (.aload_n 0, 1) := by decide +kernel
theorem dX8_addSection_5 : decode cX8_addSection 5 = .ok (.getfield 10, 3) := by decide +kernel
theorem dX8_addSection_8 : decode cX8_addSection 8 = .ok (.invokevirtual 37, 3) := by decide +kernel
theorem dX8_addSection_11 : decode cX8_addSection 11 = .ok (.aload_n 0, 1) := by decide +kernel
theorem dX8_addSection_12 : decode cX8_addSection 12 = .ok (.aload_n 0, 1) := by decide +kernel
theorem dX8_addSection_13 : decode cX8_addSection 13 = .ok (.getfield 10, 3) := by decide +kernel
theorem dX8_addSection_16 : decode cX8_addSection 16 = .ok (.iload_n 1, 1) := by decide +kernel
theorem dX8_addSection_17 : decode cX8_addSection 17 = .ok (.iload_n 2, 1) := by decide +kernel
theorem dX8_addSection_18 : decode cX8_addSection 18 = .ok (.iload_n 3, 1) := by decide +kernel
theorem dX8_addSection_19 : decode cX8_addSection 19 = .ok (.iload 4, 2) := by decide +kernel
theorem dX8_addSection_21 : decode cX8_addSection 21 = .ok (.invokevirtual 52, 3) := by decide +kernel
theorem dX8_addSection_24 : decode cX8_addSection 24 = .ok (.invokevirtual 45, 3) := by decide +kernel
theorem dX8_addSection_27 : decode cX8_addSection 27 = .ok (.ireturn, 1) := by decide +kernel
theorem dX8_clearSections_0 : decode cX8_clearSections 0 = .ok (.aload_n 0, 1) := by decide +kernel
theorem dX8_clearSections_1 : decode cX8_clearSections 1 = .ok (.getfield 22, 3) := by decide +kernel
theorem dX8_clearSections_4 : decode cX8_clearSections 4 = .ok (.aload_n 0, 1) := by decide +kernel
theorem dX8_clearSections_5 : decode cX8_clearSections 5 = .ok (.getfield 10, 3) := by decide +kernel
theorem dX8_clearSections_8 : decode cX8_clearSections 8 = .ok (.invokevirtual 37, 3) := by decide +kernel
theorem dX8_clearSections_11 : decode cX8_clearSections 11 = .ok (.aload_n 0, 1) := by decide +kernel
theorem dX8_clearSections_12 : decode cX8_clearSections 12 = .ok (.aload_n 0, 1) := by decide +kernel
theorem dX8_clearSections_13 : decode cX8_clearSections 13 = .ok (.getfield 10, 3) := by decide +kernel
theorem dX8_clearSections_16 : decode cX8_clearSections 16 = .ok (.iload_n 1, 1) := by decide +kernel
theorem dX8_clearSections_17 : decode cX8_clearSections 17 = .ok (.invokevirtual 56, 3) := by decide +kernel
theorem dX8_clearSections_20 : decode cX8_clearSections 20 = .ok (.invokevirtual 45, 3) := by decide +kernel
theorem dX8_clearSections_23 : decode cX8_clearSections 23 = .ok (.ireturn, 1) := by decide +kernel
theorem dX8_setTimer_0 : decode cX8_setTimer 0 = .ok (.aload_n 0, 1) := by decide +kernel
theorem dX8_setTimer_1 : decode cX8_setTimer 1 = .ok (.getfield 22, 3) := by decide +kernel
theorem dX8_setTimer_4 : decode cX8_setTimer 4 = .ok (.aload_n 0, 1) := by decide +kernel
theorem dX8_setTimer_5 : decode cX8_setTimer 5 = .ok (.getfield 10, 3) := by decide +kernel
theorem dX8_setTimer_8 : decode cX8_setTimer 8 = .ok (.invokevirtual 37, 3) := by decide +kernel
theorem dX8_setTimer_11 : decode cX8_setTimer 11 = .ok (.aload_n 0, 1) := by decide +kernel
theorem dX8_setTimer_12 : decode cX8_setTimer 12 = .ok (.aload_n 0, 1) := by decide +kernel
theorem dX8_setTimer_13 : decode cX8_setTimer 13 = .ok (.getfield 10, 3) := by decide +kernel
theorem dX8_setTimer_16 : decode cX8_setTimer 16 = .ok (.iload_n 1, 1) := by decide +kernel
theorem dX8_setTimer_17 : decode cX8_setTimer 17 = .ok (.iload_n 2, 1) := by decide +kernel
theorem dX8_setTimer_18 : decode cX8_setTimer 18 = .ok (.iload_n 3, 1) := by decide +kernel
theorem dX8_setTimer_19 : decode cX8_setTimer 19 = .ok (.invokevirtual 59, 3) := by decide +kernel
theorem dX8_setTimer_22 : decode cX8_setTimer 22 = .ok (.invokevirtual 45, 3) := by decide +kernel
theorem dX8_setTimer_25 : decode cX8_setTimer 25 = .ok (.ireturn, 1) := by decide +kernel
theorem dX8_raise_0 : decode cX8_raise 0 = .ok (.aload_n 0, 1) := by decide +kernel
theorem dX8_raise_1 : decode cX8_raise 1 = .ok (.getfield 22, 3) := by decide +kernel
theorem dX8_raise_4 : decode cX8_raise 4 = .ok (.aload_n 0, 1) := by decide +kernel
theorem dX8_raise_5 : decode cX8_raise 5 = .ok (.getfield 10, 3) := by decide +kernel
theorem dX8_raise_8 : decode cX8_raise 8 = .ok (.invokevirtual 37, 3) := by decide +kernel
theorem dX8_raise_11 : decode cX8_raise 11 = .ok (.aload_n 0, 1) := by decide +kernel
theorem dX8_raise_12 : decode cX8_raise 12 = .ok (.aload_n 0, 1) := by decide +kernel
theorem dX8_raise_13 : decode cX8_raise 13 = .ok (.getfield 10, 3) := by decide +kernel
theorem dX8_raise_16 : decode cX8_raise 16 = .ok (.iload_n 1, 1) := by decide +kernel
theorem dX8_raise_17 : decode cX8_raise 17 = .ok (.invokevirtual 62, 3) := by decide +kernel
theorem dX8_raise_20 : decode cX8_raise 20 = .ok (.invokevirtual 45, 3) := by decide +kernel
theorem dX8_raise_23 : decode cX8_raise 23 = .ok (.ireturn, 1) := by decide +kernel
theorem dX8_setLine_0 : decode cX8_setLine 0 = .ok (.aload_n 0, 1) := by decide +kernel
theorem dX8_setLine_1 : decode cX8_setLine 1 = .ok (.getfield 22, 3) := by decide +kernel
theorem dX8_setLine_4 : decode cX8_setLine 4 = .ok (.aload_n 0, 1) := by decide +kernel
theorem dX8_setLine_5 : decode cX8_setLine 5 = .ok (.getfield 10, 3) := by decide +kernel
theorem dX8_setLine_8 : decode cX8_setLine 8 = .ok (.invokevirtual 37, 3) := by decide +kernel
theorem dX8_setLine_11 : decode cX8_setLine 11 = .ok (.aload_n 0, 1) := by decide +kernel
theorem dX8_setLine_12 : decode cX8_setLine 12 = .ok (.aload_n 0, 1) := by decide +kernel
theorem dX8_setLine_13 : decode cX8_setLine 13 = .ok (.getfield 10, 3) := by decide +kernel
theorem dX8_setLine_16 : decode cX8_setLine 16 = .ok (.iload_n 1, 1) := by decide +kernel
theorem dX8_setLine_17 : decode cX8_setLine 17 = .ok (.iload_n 2, 1) := by decide +kernel
theorem dX8_setLine_18 : decode cX8_setLine 18 = .ok (.invokevirtual 65, 3) := by decide +kernel
theorem dX8_setLine_21 : decode cX8_setLine 21 = .ok (.invokevirtual 45, 3) := by decide +kernel
theorem dX8_setLine_24 : decode cX8_setLine 24 = .ok (.ireturn, 1) := by decide +kernel
theorem dX8_set_0 : decode cX8_set 0 = .ok (.aload_n 0, 1) := by decide +kernel
theorem dX8_set_1 : decode cX8_set 1 = .ok (.getfield 22, 3) := by decide +kernel
theorem dX8_set_4 : decode cX8_set 4 = .ok (.aload_n 0, 1) := by decide +kernel
theorem dX8_set_5 : decode cX8_set 5 = .ok (.getfield 10, 3) := by decide +kernel
theorem dX8_set_8 : decode cX8_set 8 = .ok (.invokevirtual 37, 3) := by decide +kernel
theorem dX8_set_11 : decode cX8_set 11 = .ok (.aload_n 0, 1) := by decide +kernel
theorem dX8_set_12 : decode cX8_set 12 = .ok (.aload_n 0, 1) := by decide +kernel
theorem dX8_set_13 : decode cX8_set 13 = .ok (.getfield 10, 3) := by decide +kernel
theorem dX8_set_16 : decode cX8_set 16 = .ok (.iload_n 1, 1) := by decide +kernel
theorem dX8_set_17 : decode cX8_set 17 = .ok (.iload_n 2, 1) := by decide +kernel
theorem dX8_set_18 : decode cX8_set 18 = .ok (.invokevirtual 69, 3) := by decide +kernel
theorem dX8_set_21 : decode cX8_set 21 = .ok (.invokevirtual 45, 3) := by decide +kernel
theorem dX8_set_24 : decode cX8_set 24 = .ok (.ireturn, 1) := by decide +kernel
theorem dX8_run_0 : decode cX8_run 0 = .ok (.aload_n 0, 1) := by decide +kernel
theorem dX8_run_1 : decode cX8_run 1 = .ok (.getfield 22, 3) := by decide +kernel
theorem dX8_run_4 : decode cX8_run 4 = .ok (.aload_n 0, 1) := by decide +kernel
theorem dX8_run_5 : decode cX8_run 5 = .ok (.getfield 10, 3) := by decide +kernel
theorem dX8_run_8 : decode cX8_run 8 = .ok (.invokevirtual 37, 3) := by decide +kernel
theorem dX8_run_11 : decode cX8_run 11 = .ok (.aload_n 0, 1) := by decide +kernel
theorem dX8_run_12 : decode cX8_run 12 = .ok (.aload_n 0, 1) := by decide +kernel
theorem dX8_run_13 : decode cX8_run 13 = .ok (.getfield 10, 3) := by decide +kernel
theorem dX8_run_16 : decode cX8_run 16 = .ok (.iload_n 1, 1) := by decide +kernel
theorem dX8_run_17 : decode cX8_run 17 = .ok (.invokevirtual 73, 3) := by decide +kernel
theorem dX8_run_20 : decode cX8_run 20 = .ok (.invokevirtual 45, 3) := by decide +kernel
theorem dX8_run_23 : decode cX8_run 23 = .ok (.ireturn, 1) := by decide +kernel
theorem dX8_source_0 : decode cX8_source 0 = .ok (.aload_n 0, 1) := by decide +kernel
theorem dX8_source_1 : decode cX8_source 1 = .ok (.iload_n 1, 1) := by decide +kernel
theorem dX8_source_2 : decode cX8_source 2 = .ok (.invokevirtual 76, 3) := by decide +kernel
theorem dX8_source_5 : decode cX8_source 5 = .ok (.iload_n 2, 1) := by decide +kernel
theorem dX8_source_6 : decode cX8_source 6 = .ok (.iconst 0, 1) := by decide +kernel
theorem dX8_source_7 : decode cX8_source 7 = .ok (.bipush 16, 2) := by decide +kernel
theorem dX8_source_9 : decode cX8_source 9 = .ok (.invokestatic 80, 3) := by decide +kernel
theorem dX8_source_12 : decode cX8_source 12 = .ok (.invokestatic 84, 3) := by decide +kernel
theorem dX8_source_15 : decode cX8_source 15 = .ok (.aload_n 0, 1) := by decide +kernel
theorem dX8_source_16 : decode cX8_source 16 = .ok (.getfield 10, 3) := by decide +kernel
theorem dX8_source_19 : decode cX8_source 19 = .ok (.iload_n 1, 1) := by decide +kernel
theorem dX8_source_20 : decode cX8_source 20 = .ok (.iload_n 2, 1) := by decide +kernel
theorem dX8_source_21 : decode cX8_source 21 = .ok (.invokevirtual 88, 3) := by decide +kernel
theorem dX8_source_24 : decode cX8_source 24 = .ok (.ireturn, 1) := by decide +kernel
theorem dX8_section_0 : decode cX8_section 0 = .ok (.iload_n 2, 1) := by decide +kernel
theorem dX8_section_1 : decode cX8_section 1 = .ok (.iconst 0, 1) := by decide +kernel
theorem dX8_section_2 : decode cX8_section 2 = .ok (.aload_n 0, 1) := by decide +kernel
theorem dX8_section_3 : decode cX8_section 3 = .ok (.getfield 10, 3) := by decide +kernel
theorem dX8_section_6 : decode cX8_section 6 = .ok (.iload_n 1, 1) := by decide +kernel
theorem dX8_section_7 : decode cX8_section 7 = .ok (.invokevirtual 91, 3) := by decide +kernel
theorem dX8_section_10 : decode cX8_section 10 = .ok (.iconst 1, 1) := by decide +kernel
theorem dX8_section_11 : decode cX8_section 11 = .ok (.isub, 1) := by decide +kernel
theorem dX8_section_12 : decode cX8_section 12 = .ok (.invokestatic 80, 3) := by decide +kernel
theorem dX8_section_15 : decode cX8_section 15 = .ok (.ifCond .ne 13, 3) := by decide +kernel
theorem dX8_section_18 : decode cX8_section 18 = .ok (.new 94, 3) := by decide +kernel
theorem dX8_section_21 : decode cX8_section 21 = .ok (.dup, 1) := by decide +kernel
theorem dX8_section_22 : decode cX8_section 22 = .ok (.ldc 96, 2) := by decide +kernel
theorem dX8_section_24 : decode cX8_section 24 = .ok (.invokespecial 98, 3) := by decide +kernel
theorem dX8_section_27 : decode cX8_section 27 = .ok (.athrow, 1) := by decide +kernel
theorem dX8_section_28 : decode cX8_section 28 = .ok (.iload_n 3, 1) := by decide +kernel
theorem dX8_section_29 : decode cX8_section 29 = .ok (.iconst 0, 1) := by decide +kernel
theorem dX8_section_30 : decode cX8_section 30 = .ok (.iconst 3, 1) := by decide +kernel
theorem dX8_section_31 : decode cX8_section 31 = .ok (.invokestatic 80, 3) := by decide +kernel
theorem dX8_section_34 : decode cX8_section 34 = .ok (.invokestatic 84, 3) := by decide +kernel
theorem dX8_section_37 : decode cX8_section 37 = .ok (.aload_n 0, 1) := by decide +kernel
theorem dX8_section_38 : decode cX8_section 38 = .ok (.getfield 10, 3) := by decide +kernel
theorem dX8_section_41 : decode cX8_section 41 = .ok (.iload_n 1, 1) := by decide +kernel
theorem dX8_section_42 : decode cX8_section 42 = .ok (.iload_n 2, 1) := by decide +kernel
theorem dX8_section_43 : decode cX8_section 43 = .ok (.iload_n 3, 1) := by decide +kernel
theorem dX8_section_44 : decode cX8_section 44 = .ok (.invokevirtual 101, 3) := by decide +kernel
theorem dX8_section_47 : decode cX8_section 47 = .ok (.ireturn, 1) := by decide +kernel
theorem dX8_stack_0 : decode cX8_stack 0 = .ok (.iload_n 1, 1) := by decide +kernel
theorem dX8_stack_1 : decode cX8_stack 1 = .ok (.ifCond .lt 7, 3) := by decide +kernel
theorem dX8_stack_4 : decode cX8_stack 4 = .ok (.iconst 1, 1) := by decide +kernel
theorem dX8_stack_5 : decode cX8_stack 5 = .ok (.goto 4, 3) := by decide +kernel
theorem dX8_stack_8 : decode cX8_stack 8 = .ok (.iconst 0, 1) := by decide +kernel
theorem dX8_stack_9 : decode cX8_stack 9 = .ok (.invokestatic 84, 3) := by decide +kernel
theorem dX8_stack_12 : decode cX8_stack 12 = .ok (.aload_n 0, 1) := by decide +kernel
theorem dX8_stack_13 : decode cX8_stack 13 = .ok (.getfield 10, 3) := by decide +kernel
theorem dX8_stack_16 : decode cX8_stack 16 = .ok (.iload_n 1, 1) := by decide +kernel
theorem dX8_stack_17 : decode cX8_stack 17 = .ok (.invokevirtual 104, 3) := by decide +kernel
theorem dX8_stack_20 : decode cX8_stack 20 = .ok (.ireturn, 1) := by decide +kernel
theorem dX8_processor_0 : decode cX8_processor 0 = .ok (.iload_n 1, 1) := by decide +kernel
theorem dX8_processor_1 : decode cX8_processor 1 = .ok (.iconst 0, 1) := by decide +kernel
theorem dX8_processor_2 : decode cX8_processor 2 = .ok (.bipush 11, 2) := by decide +kernel
theorem dX8_processor_4 : decode cX8_processor 4 = .ok (.invokestatic 80, 3) := by decide +kernel
theorem dX8_processor_7 : decode cX8_processor 7 = .ok (.invokestatic 84, 3) := by decide +kernel
theorem dX8_processor_10 : decode cX8_processor 10 = .ok (.aload_n 0, 1) := by decide +kernel
theorem dX8_processor_11 : decode cX8_processor 11 = .ok (.getfield 10, 3) := by decide +kernel
theorem dX8_processor_14 : decode cX8_processor 14 = .ok (.iload_n 1, 1) := by decide +kernel
theorem dX8_processor_15 : decode cX8_processor 15 = .ok (.invokevirtual 107, 3) := by decide +kernel
theorem dX8_processor_18 : decode cX8_processor 18 = .ok (.ireturn, 1) := by decide +kernel
theorem dX8_account_0 : decode cX8_account 0 = .ok (.iload_n 1, 1) := by decide +kernel
theorem dX8_account_1 : decode cX8_account 1 = .ok (.iconst 0, 1) := by decide +kernel
theorem dX8_account_2 : decode cX8_account 2 = .ok (.bipush 9, 2) := by decide +kernel
theorem dX8_account_4 : decode cX8_account 4 = .ok (.invokestatic 80, 3) := by decide +kernel
theorem dX8_account_7 : decode cX8_account 7 = .ok (.invokestatic 84, 3) := by decide +kernel
theorem dX8_account_10 : decode cX8_account 10 = .ok (.aload_n 0, 1) := by decide +kernel
theorem dX8_account_11 : decode cX8_account 11 = .ok (.getfield 10, 3) := by decide +kernel
theorem dX8_account_14 : decode cX8_account 14 = .ok (.iload_n 1, 1) := by decide +kernel
theorem dX8_account_15 : decode cX8_account 15 = .ok (.invokevirtual 110, 3) := by decide +kernel
theorem dX8_account_18 : decode cX8_account 18 = .ok (.ireturn, 1) := by decide +kernel
theorem dX8_log_0 : decode cX8_log 0 = .ok (.iload_n 1, 1) := by decide +kernel
theorem dX8_log_1 : decode cX8_log 1 = .ok (.ifCond .lt 16, 3) := by decide +kernel
theorem dX8_log_4 : decode cX8_log 4 = .ok (.iload_n 2, 1) := by decide +kernel
theorem dX8_log_5 : decode cX8_log 5 = .ok (.iconst 0, 1) := by decide +kernel
theorem dX8_log_6 : decode cX8_log 6 = .ok (.iconst 2, 1) := by decide +kernel
theorem dX8_log_7 : decode cX8_log 7 = .ok (.invokestatic 80, 3) := by decide +kernel
theorem dX8_log_10 : decode cX8_log 10 = .ok (.ifCond .eq 7, 3) := by decide +kernel
theorem dX8_log_13 : decode cX8_log 13 = .ok (.iconst 1, 1) := by decide +kernel
theorem dX8_log_14 : decode cX8_log 14 = .ok (.goto 4, 3) := by decide +kernel
theorem dX8_log_17 : decode cX8_log 17 = .ok (.iconst 0, 1) := by decide +kernel
theorem dX8_log_18 : decode cX8_log 18 = .ok (.invokestatic 84, 3) := by decide +kernel
theorem dX8_log_21 : decode cX8_log 21 = .ok (.aload_n 0, 1) := by decide +kernel
theorem dX8_log_22 : decode cX8_log 22 = .ok (.getfield 10, 3) := by decide +kernel
theorem dX8_log_25 : decode cX8_log 25 = .ok (.getfield 113, 3) := by decide +kernel
theorem dX8_log_28 : decode cX8_log 28 = .ok (.iload_n 1, 1) := by decide +kernel
theorem dX8_log_29 : decode cX8_log 29 = .ok (.iload_n 2, 1) := by decide +kernel
theorem dX8_log_30 : decode cX8_log 30 = .ok (.invokevirtual 117, 3) := by decide +kernel
theorem dX8_log_33 : decode cX8_log 33 = .ok (.ireturn, 1) := by decide +kernel
theorem dX8_entersAfter_0 : decode cX8_entersAfter 0 = .ok (.aload_n 0, 1) := by decide +kernel
theorem dX8_entersAfter_1 : decode cX8_entersAfter 1 = .ok (.iload_n 1, 1) := by decide +kernel
theorem dX8_entersAfter_2 : decode cX8_entersAfter 2 = .ok (.invokevirtual 76, 3) := by decide +kernel
theorem dX8_entersAfter_5 : decode cX8_entersAfter 5 = .ok (.iload_n 2, 1) := by decide +kernel
theorem dX8_entersAfter_6 : decode cX8_entersAfter 6 = .ok (.iconst 0, 1) := by decide +kernel
theorem dX8_entersAfter_7 : decode cX8_entersAfter 7 = .ok (.sipush 1000, 3) := by decide +kernel
theorem dX8_entersAfter_10 : decode cX8_entersAfter 10 = .ok (.invokestatic 80, 3) := by decide +kernel
theorem dX8_entersAfter_13 : decode cX8_entersAfter 13 = .ok (.invokestatic 84, 3) := by decide +kernel
theorem dX8_entersAfter_16 : decode cX8_entersAfter 16 = .ok (.aload_n 0, 1) := by decide +kernel
theorem dX8_entersAfter_17 : decode cX8_entersAfter 17 = .ok (.getfield 16, 3) := by decide +kernel
theorem dX8_entersAfter_20 : decode cX8_entersAfter 20 = .ok (.aload_n 0, 1) := by decide +kernel
theorem dX8_entersAfter_21 : decode cX8_entersAfter 21 = .ok (.getfield 10, 3) := by decide +kernel
theorem dX8_entersAfter_24 : decode cX8_entersAfter 24 = .ok (.invokevirtual 122, 3) := by decide +kernel
theorem dX8_entersAfter_27 : decode cX8_entersAfter 27 = .ok (.aload_n 0, 1) := by decide +kernel
theorem dX8_entersAfter_28 : decode cX8_entersAfter 28 = .ok (.getfield 16, 3) := by decide +kernel
theorem dX8_entersAfter_31 : decode cX8_entersAfter 31 = .ok (.iload_n 1, 1) := by decide +kernel
theorem dX8_entersAfter_32 : decode cX8_entersAfter 32 = .ok (.iload_n 2, 1) := by decide +kernel
theorem dX8_entersAfter_33 : decode cX8_entersAfter 33 = .ok (.invokevirtual 125, 3) := by decide +kernel
theorem dX8_entersAfter_36 : decode cX8_entersAfter 36 = .ok (.ireturn, 1) := by decide +kernel
theorem dX8_idleAfter_0 : decode cX8_idleAfter 0 = .ok (.iload_n 1, 1) := by decide +kernel
theorem dX8_idleAfter_1 : decode cX8_idleAfter 1 = .ok (.iconst 0, 1) := by decide +kernel
theorem dX8_idleAfter_2 : decode cX8_idleAfter 2 = .ok (.sipush 1000, 3) := by decide +kernel
theorem dX8_idleAfter_5 : decode cX8_idleAfter 5 = .ok (.invokestatic 80, 3) := by decide +kernel
theorem dX8_idleAfter_8 : decode cX8_idleAfter 8 = .ok (.invokestatic 84, 3) := by decide +kernel
theorem dX8_idleAfter_11 : decode cX8_idleAfter 11 = .ok (.aload_n 0, 1) := by decide +kernel
theorem dX8_idleAfter_12 : decode cX8_idleAfter 12 = .ok (.getfield 16, 3) := by decide +kernel
theorem dX8_idleAfter_15 : decode cX8_idleAfter 15 = .ok (.aload_n 0, 1) := by decide +kernel
theorem dX8_idleAfter_16 : decode cX8_idleAfter 16 = .ok (.getfield 10, 3) := by decide +kernel
theorem dX8_idleAfter_19 : decode cX8_idleAfter 19 = .ok (.invokevirtual 122, 3) := by decide +kernel
theorem dX8_idleAfter_22 : decode cX8_idleAfter 22 = .ok (.aload_n 0, 1) := by decide +kernel
theorem dX8_idleAfter_23 : decode cX8_idleAfter 23 = .ok (.getfield 16, 3) := by decide +kernel
theorem dX8_idleAfter_26 : decode cX8_idleAfter 26 = .ok (.iload_n 1, 1) := by decide +kernel
theorem dX8_idleAfter_27 : decode cX8_idleAfter 27 = .ok (.invokevirtual 128, 3) := by decide +kernel
theorem dX8_idleAfter_30 : decode cX8_idleAfter 30 = .ok (.ireturn, 1) := by decide +kernel
theorem dX8_latencyIf_0 : decode cX8_latencyIf 0 = .ok (.aload_n 0, 1) := by decide +kernel
theorem dX8_latencyIf_1 : decode cX8_latencyIf 1 = .ok (.iload_n 1, 1) := by decide +kernel
theorem dX8_latencyIf_2 : decode cX8_latencyIf 2 = .ok (.invokevirtual 76, 3) := by decide +kernel
theorem dX8_latencyIf_5 : decode cX8_latencyIf 5 = .ok (.iload_n 2, 1) := by decide +kernel
theorem dX8_latencyIf_6 : decode cX8_latencyIf 6 = .ok (.iconst 0, 1) := by decide +kernel
theorem dX8_latencyIf_7 : decode cX8_latencyIf 7 = .ok (.sipush 1000, 3) := by decide +kernel
theorem dX8_latencyIf_10 : decode cX8_latencyIf 10 = .ok (.invokestatic 80, 3) := by decide +kernel
theorem dX8_latencyIf_13 : decode cX8_latencyIf 13 = .ok (.invokestatic 84, 3) := by decide +kernel
theorem dX8_latencyIf_16 : decode cX8_latencyIf 16 = .ok (.aload_n 0, 1) := by decide +kernel
theorem dX8_latencyIf_17 : decode cX8_latencyIf 17 = .ok (.getfield 16, 3) := by decide +kernel
theorem dX8_latencyIf_20 : decode cX8_latencyIf 20 = .ok (.aload_n 0, 1) := by decide +kernel
theorem dX8_latencyIf_21 : decode cX8_latencyIf 21 = .ok (.getfield 10, 3) := by decide +kernel
theorem dX8_latencyIf_24 : decode cX8_latencyIf 24 = .ok (.invokevirtual 122, 3) := by decide +kernel
theorem dX8_latencyIf_27 : decode cX8_latencyIf 27 = .ok (.aload_n 0, 1) := by decide +kernel
theorem dX8_latencyIf_28 : decode cX8_latencyIf 28 = .ok (.getfield 16, 3) := by decide +kernel
theorem dX8_latencyIf_31 : decode cX8_latencyIf 31 = .ok (.iload_n 1, 1) := by decide +kernel
theorem dX8_latencyIf_32 : decode cX8_latencyIf 32 = .ok (.invokevirtual 131, 3) := by decide +kernel
theorem dX8_latencyIf_35 : decode cX8_latencyIf 35 = .ok (.aload_n 0, 1) := by decide +kernel
theorem dX8_latencyIf_36 : decode cX8_latencyIf 36 = .ok (.getfield 16, 3) := by decide +kernel
theorem dX8_latencyIf_39 : decode cX8_latencyIf 39 = .ok (.iload_n 1, 1) := by decide +kernel
theorem dX8_latencyIf_40 : decode cX8_latencyIf 40 = .ok (.iload_n 2, 1) := by decide +kernel
theorem dX8_latencyIf_41 : decode cX8_latencyIf 41 = .ok (.invokevirtual 125, 3) := by decide +kernel
theorem dX8_latencyIf_44 : decode cX8_latencyIf 44 = .ok (.iconst (-1), 1) := by decide +kernel
theorem dX8_latencyIf_45 : decode cX8_latencyIf 45 = .ok (.if_icmp .ne 5, 3) := by decide +kernel
theorem dX8_latencyIf_48 : decode cX8_latencyIf 48 = .ok (.iconst (-1), 1) := by decide +kernel
theorem dX8_latencyIf_49 : decode cX8_latencyIf 49 = .ok (.ireturn, 1) := by decide +kernel
theorem dX8_latencyIf_50 : decode cX8_latencyIf 50 = .ok (.aload_n 0, 1) := by decide +kernel
theorem dX8_latencyIf_51 : decode cX8_latencyIf 51 = .ok (.getfield 16, 3) := by decide +kernel
theorem dX8_latencyIf_54 : decode cX8_latencyIf 54 = .ok (.iload_n 1, 1) := by decide +kernel
theorem dX8_latencyIf_55 : decode cX8_latencyIf 55 = .ok (.invokevirtual 134, 3) := by decide +kernel
theorem dX8_latencyIf_58 : decode cX8_latencyIf 58 = .ok (.ireturn, 1) := by decide +kernel
theorem dX8_blocking_0 : decode cX8_blocking 0 = .ok (.aload_n 0, 1) := by decide +kernel
theorem dX8_blocking_1 : decode cX8_blocking 1 = .ok (.iload_n 1, 1) := by decide +kernel
theorem dX8_blocking_2 : decode cX8_blocking 2 = .ok (.invokevirtual 76, 3) := by decide +kernel
theorem dX8_blocking_5 : decode cX8_blocking 5 = .ok (.aload_n 0, 1) := by decide +kernel
theorem dX8_blocking_6 : decode cX8_blocking 6 = .ok (.getfield 10, 3) := by decide +kernel
theorem dX8_blocking_9 : decode cX8_blocking 9 = .ok (.iload_n 1, 1) := by decide +kernel
theorem dX8_blocking_10 : decode cX8_blocking 10 = .ok (.invokevirtual 137, 3) := by decide +kernel
theorem dX8_blocking_13 : decode cX8_blocking 13 = .ok (.ireturn, 1) := by decide +kernel
theorem dX8_type_0 : decode cX8_type 0 = .ok (.iload_n 1, 1) := by decide +kernel
theorem dX8_type_1 : decode cX8_type 1 = .ok (.iconst 0, 1) := by decide +kernel
theorem dX8_type_2 : decode cX8_type 2 = .ok (.bipush 127, 2) := by decide +kernel
theorem dX8_type_4 : decode cX8_type 4 = .ok (.invokestatic 80, 3) := by decide +kernel
theorem dX8_type_7 : decode cX8_type 7 = .ok (.invokestatic 84, 3) := by decide +kernel
theorem dX8_type_10 : decode cX8_type 10 = .ok (.aload_n 0, 1) := by decide +kernel
theorem dX8_type_11 : decode cX8_type 11 = .ok (.getfield 29, 3) := by decide +kernel
theorem dX8_type_14 : decode cX8_type 14 = .ok (.iload_n 1, 1) := by decide +kernel
theorem dX8_type_15 : decode cX8_type 15 = .ok (.invokevirtual 140, 3) := by decide +kernel
theorem dX8_type_18 : decode cX8_type 18 = .ok (.ifCond .ne 13, 3) := by decide +kernel
theorem dX8_type_21 : decode cX8_type 21 = .ok (.new 144, 3) := by decide +kernel
theorem dX8_type_24 : decode cX8_type 24 = .ok (.dup, 1) := by decide +kernel
theorem dX8_type_25 : decode cX8_type 25 = .ok (.ldc 146, 2) := by decide +kernel
theorem dX8_type_27 : decode cX8_type 27 = .ok (.invokespecial 148, 3) := by decide +kernel
theorem dX8_type_30 : decode cX8_type 30 = .ok (.athrow, 1) := by decide +kernel
theorem dX8_type_31 : decode cX8_type 31 = .ok (.aload_n 0, 1) := by decide +kernel
theorem dX8_type_32 : decode cX8_type 32 = .ok (.getfield 29, 3) := by decide +kernel
theorem dX8_type_35 : decode cX8_type 35 = .ok (.getfield 149, 3) := by decide +kernel
theorem dX8_type_38 : decode cX8_type 38 = .ok (.ireturn, 1) := by decide +kernel
theorem dX8_clearCommands_0 : decode cX8_clearCommands 0 = .ok (.aload_n 0, 1) := by decide +kernel
theorem dX8_clearCommands_1 : decode cX8_clearCommands 1 = .ok (.getfield 29, 3) := by decide +kernel
theorem dX8_clearCommands_4 : decode cX8_clearCommands 4 = .ok (.invokevirtual 152, 3) := by decide +kernel
theorem dX8_clearCommands_7 : decode cX8_clearCommands 7 = .ok (.ireturn, 1) := by decide +kernel
theorem dX8_runCommands_0 : decode cX8_runCommands 0 = .ok (.aload_n 0, 1) := by decide +kernel
theorem dX8_runCommands_1 : decode cX8_runCommands 1 = .ok (.getfield 29, 3) := by decide +kernel
theorem dX8_runCommands_4 : decode cX8_runCommands 4 = .ok (.invokevirtual 156, 3) := by decide +kernel
theorem dX8_runCommands_7 : decode cX8_runCommands 7 = .ok (.istore_n 1, 1) := by decide +kernel
theorem dX8_runCommands_8 : decode cX8_runCommands 8 = .ok (.iload_n 1, 1) := by decide +kernel
theorem dX8_runCommands_9 : decode cX8_runCommands 9 = .ok (.iconst (-1), 1) := by decide +kernel
theorem dX8_runCommands_10 : decode cX8_runCommands 10 = .ok (.if_icmp .eq 8, 3) := by decide +kernel
theorem dX8_runCommands_13 : decode cX8_runCommands 13 = .ok (.bipush (-10), 2) := by decide +kernel
theorem dX8_runCommands_15 : decode cX8_runCommands 15 = .ok (.iload_n 1, 1) := by decide +kernel
theorem dX8_runCommands_16 : decode cX8_runCommands 16 = .ok (.isub, 1) := by decide +kernel
theorem dX8_runCommands_17 : decode cX8_runCommands 17 = .ok (.ireturn, 1) := by decide +kernel
theorem dX8_runCommands_18 : decode cX8_runCommands 18 = .ok (.aload_n 0, 1) := by decide +kernel
theorem dX8_runCommands_19 : decode cX8_runCommands 19 = .ok (.getfield 22, 3) := by decide +kernel
theorem dX8_runCommands_22 : decode cX8_runCommands 22 = .ok (.aload_n 0, 1) := by decide +kernel
theorem dX8_runCommands_23 : decode cX8_runCommands 23 = .ok (.getfield 10, 3) := by decide +kernel
theorem dX8_runCommands_26 : decode cX8_runCommands 26 = .ok (.invokevirtual 37, 3) := by decide +kernel
theorem dX8_runCommands_29 : decode cX8_runCommands 29 = .ok (.aload_n 0, 1) := by decide +kernel
theorem dX8_runCommands_30 : decode cX8_runCommands 30 = .ok (.iconst 0, 1) := by decide +kernel
theorem dX8_runCommands_31 : decode cX8_runCommands 31 = .ok (.putfield 33, 3) := by decide +kernel
theorem dX8_runCommands_34 : decode cX8_runCommands 34 = .ok (.aload_n 0, 1) := by decide +kernel
theorem dX8_runCommands_35 : decode cX8_runCommands 35 = .ok (.getfield 29, 3) := by decide +kernel
theorem dX8_runCommands_38 : decode cX8_runCommands 38 = .ok (.invokevirtual 159, 3) := by decide +kernel
theorem dX8_runCommands_41 : decode cX8_runCommands 41 = .ok (.iconst 0, 1) := by decide +kernel
theorem dX8_runCommands_42 : decode cX8_runCommands 42 = .ok (.istore_n 2, 1) := by decide +kernel
theorem dX8_runCommands_43 : decode cX8_runCommands 43 = .ok (.iconst 0, 1) := by decide +kernel
theorem dX8_runCommands_44 : decode cX8_runCommands 44 = .ok (.istore_n 3, 1) := by decide +kernel
theorem dX8_runCommands_45 : decode cX8_runCommands 45 = .ok (.iload_n 3, 1) := by decide +kernel
theorem dX8_runCommands_46 : decode cX8_runCommands 46 = .ok (.sipush 150, 3) := by decide +kernel
theorem dX8_runCommands_49 : decode cX8_runCommands 49 = .ok (.if_icmp .ge 64, 3) := by decide +kernel
theorem dX8_runCommands_52 : decode cX8_runCommands 52 = .ok (.aload_n 0, 1) := by decide +kernel
theorem dX8_runCommands_53 : decode cX8_runCommands 53 = .ok (.getfield 33, 3) := by decide +kernel
theorem dX8_runCommands_56 : decode cX8_runCommands 56 = .ok (.ifCond .ne 57, 3) := by decide +kernel
theorem dX8_runCommands_59 : decode cX8_runCommands 59 = .ok (.aload_n 0, 1) := by decide +kernel
theorem dX8_runCommands_60 : decode cX8_runCommands 60 = .ok (.getfield 29, 3) := by decide +kernel
theorem dX8_runCommands_63 : decode cX8_runCommands 63 = .ok (.invokevirtual 162, 3) := by decide +kernel
theorem dX8_runCommands_66 : decode cX8_runCommands 66 = .ok (.ifCond .eq 47, 3) := by decide +kernel
theorem dX8_runCommands_69 : decode cX8_runCommands 69 = .ok (.aload_n 0, 1) := by decide +kernel
theorem dX8_runCommands_70 : decode cX8_runCommands 70 = .ok (.aload_n 0, 1) := by decide +kernel
theorem dX8_runCommands_71 : decode cX8_runCommands 71 = .ok (.getfield 29, 3) := by decide +kernel
theorem dX8_runCommands_74 : decode cX8_runCommands 74 = .ok (.getfield 166, 3) := by decide +kernel
theorem dX8_runCommands_77 : decode cX8_runCommands 77 = .ok (.aload_n 0, 1) := by decide +kernel
theorem dX8_runCommands_78 : decode cX8_runCommands 78 = .ok (.getfield 29, 3) := by decide +kernel
theorem dX8_runCommands_81 : decode cX8_runCommands 81 = .ok (.getfield 170, 3) := by decide +kernel
theorem dX8_runCommands_84 : decode cX8_runCommands 84 = .ok (.invokevirtual 174, 3) := by decide +kernel
theorem dX8_runCommands_87 : decode cX8_runCommands 87 = .ok (.istore 4, 2) := by decide +kernel
theorem dX8_runCommands_89 : decode cX8_runCommands 89 = .ok (.iload 4, 2) := by decide +kernel
theorem dX8_runCommands_91 : decode cX8_runCommands 91 = .ok (.ifCond .ge 13, 3) := by decide +kernel
theorem dX8_runCommands_94 : decode cX8_runCommands 94 = .ok (.aload_n 0, 1) := by decide +kernel
theorem dX8_runCommands_95 : decode cX8_runCommands 95 = .ok (.iload 4, 2) := by decide +kernel
theorem dX8_runCommands_97 : decode cX8_runCommands 97 = .ok (.ineg, 1) := by decide +kernel
theorem dX8_runCommands_98 : decode cX8_runCommands 98 = .ok (.putfield 33, 3) := by decide +kernel
theorem dX8_runCommands_101 : decode cX8_runCommands 101 = .ok (.goto 6, 3) := by decide +kernel
theorem dX8_runCommands_104 : decode cX8_runCommands 104 = .ok (.iinc 2 1, 3) := by decide +kernel
theorem dX8_runCommands_107 : decode cX8_runCommands 107 = .ok (.iinc 3 1, 3) := by decide +kernel
theorem dX8_runCommands_110 : decode cX8_runCommands 110 = .ok (.goto (-65), 3) := by decide +kernel
theorem dX8_runCommands_113 : decode cX8_runCommands 113 = .ok (.aload_n 0, 1) := by decide +kernel
theorem dX8_runCommands_114 : decode cX8_runCommands 114 = .ok (.getfield 22, 3) := by decide +kernel
theorem dX8_runCommands_117 : decode cX8_runCommands 117 = .ok (.invokevirtual 178, 3) := by decide +kernel
theorem dX8_runCommands_120 : decode cX8_runCommands 120 = .ok (.iload_n 2, 1) := by decide +kernel
theorem dX8_runCommands_121 : decode cX8_runCommands 121 = .ok (.ireturn, 1) := by decide +kernel
theorem dX8_stop_0 : decode cX8_stop 0 = .ok (.aload_n 0, 1) := by decide +kernel
theorem dX8_stop_1 : decode cX8_stop 1 = .ok (.getfield 33, 3) := by decide +kernel
theorem dX8_stop_4 : decode cX8_stop 4 = .ok (.ireturn, 1) := by decide +kernel
theorem dX8_undo_0 : decode cX8_undo 0 = .ok (.aload_n 0, 1) := by decide +kernel
theorem dX8_undo_1 : decode cX8_undo 1 = .ok (.getfield 22, 3) := by decide +kernel
theorem dX8_undo_4 : decode cX8_undo 4 = .ok (.aload_n 0, 1) := by decide +kernel
theorem dX8_undo_5 : decode cX8_undo 5 = .ok (.getfield 10, 3) := by decide +kernel
theorem dX8_undo_8 : decode cX8_undo 8 = .ok (.invokevirtual 181, 3) := by decide +kernel
theorem dX8_undo_11 : decode cX8_undo 11 = .ok (.ifCond .ne 13, 3) := by decide +kernel
theorem dX8_undo_14 : decode cX8_undo 14 = .ok (.new 144, 3) := by decide +kernel
theorem dX8_undo_17 : decode cX8_undo 17 = .ok (.dup, 1) := by decide +kernel
theorem dX8_undo_18 : decode cX8_undo 18 = .ok (.ldc 185, 2) := by decide +kernel
theorem dX8_undo_20 : decode cX8_undo 20 = .ok (.invokespecial 148, 3) := by decide +kernel
theorem dX8_undo_23 : decode cX8_undo 23 = .ok (.athrow, 1) := by decide +kernel
theorem dX8_undo_24 : decode cX8_undo 24 = .ok (.aload_n 0, 1) := by decide +kernel
theorem dX8_undo_25 : decode cX8_undo 25 = .ok (.getfield 22, 3) := by decide +kernel
theorem dX8_undo_28 : decode cX8_undo 28 = .ok (.getfield 187, 3) := by decide +kernel
theorem dX8_undo_31 : decode cX8_undo 31 = .ok (.ireturn, 1) := by decide +kernel
theorem dX8_digest_0 : decode cX8_digest 0 = .ok (.ldc2_w 190, 3) := by decide +kernel
theorem dX8_digest_3 : decode cX8_digest 3 = .ok (.lstore_n 1, 1) := by decide +kernel
theorem dX8_digest_4 : decode cX8_digest 4 = .ok (.ldc2_w 192, 3) := by decide +kernel
theorem dX8_digest_7 : decode cX8_digest 7 = .ok (.lload_n 1, 1) := by decide +kernel
theorem dX8_digest_8 : decode cX8_digest 8 = .ok (.lmul, 1) := by decide +kernel
theorem dX8_digest_9 : decode cX8_digest 9 = .ok (.aload_n 0, 1) := by decide +kernel
theorem dX8_digest_10 : decode cX8_digest 10 = .ok (.getfield 22, 3) := by decide +kernel
theorem dX8_digest_13 : decode cX8_digest 13 = .ok (.getfield 187, 3) := by decide +kernel
theorem dX8_digest_16 : decode cX8_digest 16 = .ok (.i2l, 1) := by decide +kernel
theorem dX8_digest_17 : decode cX8_digest 17 = .ok (.ladd, 1) := by decide +kernel
theorem dX8_digest_18 : decode cX8_digest 18 = .ok (.lstore_n 1, 1) := by decide +kernel
theorem dX8_digest_19 : decode cX8_digest 19 = .ok (.ldc2_w 192, 3) := by decide +kernel
theorem dX8_digest_22 : decode cX8_digest 22 = .ok (.lload_n 1, 1) := by decide +kernel
theorem dX8_digest_23 : decode cX8_digest 23 = .ok (.lmul, 1) := by decide +kernel
theorem dX8_digest_24 : decode cX8_digest 24 = .ok (.aload_n 0, 1) := by decide +kernel
theorem dX8_digest_25 : decode cX8_digest 25 = .ok (.getfield 29, 3) := by decide +kernel
theorem dX8_digest_28 : decode cX8_digest 28 = .ok (.getfield 149, 3) := by decide +kernel
theorem dX8_digest_31 : decode cX8_digest 31 = .ok (.i2l, 1) := by decide +kernel
theorem dX8_digest_32 : decode cX8_digest 32 = .ok (.ladd, 1) := by decide +kernel
theorem dX8_digest_33 : decode cX8_digest 33 = .ok (.lstore_n 1, 1) := by decide +kernel
theorem dX8_digest_34 : decode cX8_digest 34 = .ok (.ldc2_w 192, 3) := by decide +kernel
theorem dX8_digest_37 : decode cX8_digest 37 = .ok (.lload_n 1, 1) := by decide +kernel
theorem dX8_digest_38 : decode cX8_digest 38 = .ok (.lmul, 1) := by decide +kernel
theorem dX8_digest_39 : decode cX8_digest 39 = .ok (.aload_n 0, 1) := by decide +kernel
theorem dX8_digest_40 : decode cX8_digest 40 = .ok (.getfield 33, 3) := by decide +kernel
theorem dX8_digest_43 : decode cX8_digest 43 = .ok (.i2l, 1) := by decide +kernel
theorem dX8_digest_44 : decode cX8_digest 44 = .ok (.ladd, 1) := by decide +kernel
theorem dX8_digest_45 : decode cX8_digest 45 = .ok (.lstore_n 1, 1) := by decide +kernel
theorem dX8_digest_46 : decode cX8_digest 46 = .ok (.iconst 0, 1) := by decide +kernel
theorem dX8_digest_47 : decode cX8_digest 47 = .ok (.istore_n 3, 1) := by decide +kernel
theorem dX8_digest_48 : decode cX8_digest 48 = .ok (.iload_n 3, 1) := by decide +kernel
theorem dX8_digest_49 : decode cX8_digest 49 = .ok (.bipush 12, 2) := by decide +kernel
theorem dX8_digest_51 : decode cX8_digest 51 = .ok (.if_icmp .ge 25, 3) := by decide +kernel
theorem dX8_digest_54 : decode cX8_digest 54 = .ok (.ldc2_w 192, 3) := by decide +kernel
theorem dX8_digest_57 : decode cX8_digest 57 = .ok (.lload_n 1, 1) := by decide +kernel
theorem dX8_digest_58 : decode cX8_digest 58 = .ok (.lmul, 1) := by decide +kernel
theorem dX8_digest_59 : decode cX8_digest 59 = .ok (.aload_n 0, 1) := by decide +kernel
theorem dX8_digest_60 : decode cX8_digest 60 = .ok (.getfield 10, 3) := by decide +kernel
theorem dX8_digest_63 : decode cX8_digest 63 = .ok (.iload_n 3, 1) := by decide +kernel
theorem dX8_digest_64 : decode cX8_digest 64 = .ok (.invokevirtual 107, 3) := by decide +kernel
theorem dX8_digest_67 : decode cX8_digest 67 = .ok (.i2l, 1) := by decide +kernel
theorem dX8_digest_68 : decode cX8_digest 68 = .ok (.ladd, 1) := by decide +kernel
theorem dX8_digest_69 : decode cX8_digest 69 = .ok (.lstore_n 1, 1) := by decide +kernel
theorem dX8_digest_70 : decode cX8_digest 70 = .ok (.iinc 3 1, 3) := by decide +kernel
theorem dX8_digest_73 : decode cX8_digest 73 = .ok (.goto (-25), 3) := by decide +kernel
theorem dX8_digest_76 : decode cX8_digest 76 = .ok (.iconst 0, 1) := by decide +kernel
theorem dX8_digest_77 : decode cX8_digest 77 = .ok (.istore_n 3, 1) := by decide +kernel
theorem dX8_digest_78 : decode cX8_digest 78 = .ok (.iload_n 3, 1) := by decide +kernel
theorem dX8_digest_79 : decode cX8_digest 79 = .ok (.bipush 10, 2) := by decide +kernel
theorem dX8_digest_81 : decode cX8_digest 81 = .ok (.if_icmp .ge 25, 3) := by decide +kernel
theorem dX8_digest_84 : decode cX8_digest 84 = .ok (.ldc2_w 192, 3) := by decide +kernel
theorem dX8_digest_87 : decode cX8_digest 87 = .ok (.lload_n 1, 1) := by decide +kernel
theorem dX8_digest_88 : decode cX8_digest 88 = .ok (.lmul, 1) := by decide +kernel
theorem dX8_digest_89 : decode cX8_digest 89 = .ok (.aload_n 0, 1) := by decide +kernel
theorem dX8_digest_90 : decode cX8_digest 90 = .ok (.getfield 10, 3) := by decide +kernel
theorem dX8_digest_93 : decode cX8_digest 93 = .ok (.iload_n 3, 1) := by decide +kernel
theorem dX8_digest_94 : decode cX8_digest 94 = .ok (.invokevirtual 110, 3) := by decide +kernel
theorem dX8_digest_97 : decode cX8_digest 97 = .ok (.i2l, 1) := by decide +kernel
theorem dX8_digest_98 : decode cX8_digest 98 = .ok (.ladd, 1) := by decide +kernel
theorem dX8_digest_99 : decode cX8_digest 99 = .ok (.lstore_n 1, 1) := by decide +kernel
theorem dX8_digest_100 : decode cX8_digest 100 = .ok (.iinc 3 1, 3) := by decide +kernel
theorem dX8_digest_103 : decode cX8_digest 103 = .ok (.goto (-25), 3) := by decide +kernel
theorem dX8_digest_106 : decode cX8_digest 106 = .ok (.iconst 0, 1) := by decide +kernel
theorem dX8_digest_107 : decode cX8_digest 107 = .ok (.istore_n 3, 1) := by decide +kernel
theorem dX8_digest_108 : decode cX8_digest 108 = .ok (.iload_n 3, 1) := by decide +kernel
theorem dX8_digest_109 : decode cX8_digest 109 = .ok (.aload_n 0, 1) := by decide +kernel
theorem dX8_digest_110 : decode cX8_digest 110 = .ok (.getfield 10, 3) := by decide +kernel
theorem dX8_digest_113 : decode cX8_digest 113 = .ok (.getfield 194, 3) := by decide +kernel
theorem dX8_digest_116 : decode cX8_digest 116 = .ok (.if_icmp .ge 16, 3) := by decide +kernel
theorem dX8_digest_119 : decode cX8_digest 119 = .ok (.aload_n 0, 1) := by decide +kernel
theorem dX8_digest_120 : decode cX8_digest 120 = .ok (.lload_n 1, 1) := by decide +kernel
theorem dX8_digest_121 : decode cX8_digest 121 = .ok (.iload_n 3, 1) := by decide +kernel
theorem dX8_digest_122 : decode cX8_digest 122 = .ok (.invokevirtual 197, 3) := by decide +kernel
theorem dX8_digest_125 : decode cX8_digest 125 = .ok (.lstore_n 1, 1) := by decide +kernel
theorem dX8_digest_126 : decode cX8_digest 126 = .ok (.iinc 3 1, 3) := by decide +kernel
theorem dX8_digest_129 : decode cX8_digest 129 = .ok (.goto (-21), 3) := by decide +kernel
theorem dX8_digest_132 : decode cX8_digest 132 = .ok (.iconst 0, 1) := by decide +kernel
theorem dX8_digest_133 : decode cX8_digest 133 = .ok (.istore_n 3, 1) := by decide +kernel
theorem dX8_digest_134 : decode cX8_digest 134 = .ok (.iload_n 3, 1) := by decide +kernel
theorem dX8_digest_135 : decode cX8_digest 135 = .ok (.aload_n 0, 1) := by decide +kernel
theorem dX8_digest_136 : decode cX8_digest 136 = .ok (.getfield 10, 3) := by decide +kernel
theorem dX8_digest_139 : decode cX8_digest 139 = .ok (.getfield 201, 3) := by decide +kernel
theorem dX8_digest_142 : decode cX8_digest 142 = .ok (.if_icmp .ge 25, 3) := by decide +kernel
theorem dX8_digest_145 : decode cX8_digest 145 = .ok (.ldc2_w 192, 3) := by decide +kernel
theorem dX8_digest_148 : decode cX8_digest 148 = .ok (.lload_n 1, 1) := by decide +kernel
theorem dX8_digest_149 : decode cX8_digest 149 = .ok (.lmul, 1) := by decide +kernel
theorem dX8_digest_150 : decode cX8_digest 150 = .ok (.aload_n 0, 1) := by decide +kernel
theorem dX8_digest_151 : decode cX8_digest 151 = .ok (.getfield 10, 3) := by decide +kernel
theorem dX8_digest_154 : decode cX8_digest 154 = .ok (.iload_n 3, 1) := by decide +kernel
theorem dX8_digest_155 : decode cX8_digest 155 = .ok (.invokevirtual 104, 3) := by decide +kernel
theorem dX8_digest_158 : decode cX8_digest 158 = .ok (.i2l, 1) := by decide +kernel
theorem dX8_digest_159 : decode cX8_digest 159 = .ok (.ladd, 1) := by decide +kernel
theorem dX8_digest_160 : decode cX8_digest 160 = .ok (.lstore_n 1, 1) := by decide +kernel
theorem dX8_digest_161 : decode cX8_digest 161 = .ok (.iinc 3 1, 3) := by decide +kernel
theorem dX8_digest_164 : decode cX8_digest 164 = .ok (.goto (-30), 3) := by decide +kernel
theorem dX8_digest_167 : decode cX8_digest 167 = .ok (.iconst 0, 1) := by decide +kernel
theorem dX8_digest_168 : decode cX8_digest 168 = .ok (.istore_n 3, 1) := by decide +kernel
theorem dX8_digest_169 : decode cX8_digest 169 = .ok (.iload_n 3, 1) := by decide +kernel
theorem dX8_digest_170 : decode cX8_digest 170 = .ok (.aload_n 0, 1) := by decide +kernel
theorem dX8_digest_171 : decode cX8_digest 171 = .ok (.getfield 10, 3) := by decide +kernel
theorem dX8_digest_174 : decode cX8_digest 174 = .ok (.getfield 113, 3) := by decide +kernel
theorem dX8_digest_177 : decode cX8_digest 177 = .ok (.getfield 204, 3) := by decide +kernel
theorem dX8_digest_180 : decode cX8_digest 180 = .ok (.if_icmp .ge 45, 3) := by decide +kernel
theorem dX8_digest_183 : decode cX8_digest 183 = .ok (.iconst 0, 1) := by decide +kernel
theorem dX8_digest_184 : decode cX8_digest 184 = .ok (.istore 4, 2) := by decide +kernel
theorem dX8_digest_186 : decode cX8_digest 186 = .ok (.iload 4, 2) := by decide +kernel
theorem dX8_digest_188 : decode cX8_digest 188 = .ok (.iconst 3, 1) := by decide +kernel
theorem dX8_digest_189 : decode cX8_digest 189 = .ok (.if_icmp .ge 30, 3) := by decide +kernel
theorem dX8_digest_192 : decode cX8_digest 192 = .ok (.ldc2_w 192, 3) := by decide +kernel
theorem dX8_digest_195 : decode cX8_digest 195 = .ok (.lload_n 1, 1) := by decide +kernel
theorem dX8_digest_196 : decode cX8_digest 196 = .ok (.lmul, 1) := by decide +kernel
theorem dX8_digest_197 : decode cX8_digest 197 = .ok (.aload_n 0, 1) := by decide +kernel
theorem dX8_digest_198 : decode cX8_digest 198 = .ok (.getfield 10, 3) := by decide +kernel
theorem dX8_digest_201 : decode cX8_digest 201 = .ok (.getfield 113, 3) := by decide +kernel
theorem dX8_digest_204 : decode cX8_digest 204 = .ok (.iload_n 3, 1) := by decide +kernel
theorem dX8_digest_205 : decode cX8_digest 205 = .ok (.iload 4, 2) := by decide +kernel
theorem dX8_digest_207 : decode cX8_digest 207 = .ok (.invokevirtual 117, 3) := by decide +kernel
theorem dX8_digest_210 : decode cX8_digest 210 = .ok (.i2l, 1) := by decide +kernel
theorem dX8_digest_211 : decode cX8_digest 211 = .ok (.ladd, 1) := by decide +kernel
theorem dX8_digest_212 : decode cX8_digest 212 = .ok (.lstore_n 1, 1) := by decide +kernel
theorem dX8_digest_213 : decode cX8_digest 213 = .ok (.iinc 4 1, 3) := by decide +kernel
theorem dX8_digest_216 : decode cX8_digest 216 = .ok (.goto (-30), 3) := by decide +kernel
theorem dX8_digest_219 : decode cX8_digest 219 = .ok (.iinc 3 1, 3) := by decide +kernel
theorem dX8_digest_222 : decode cX8_digest 222 = .ok (.goto (-53), 3) := by decide +kernel
theorem dX8_digest_225 : decode cX8_digest 225 = .ok (.lload_n 1, 1) := by decide +kernel
theorem dX8_digest_226 : decode cX8_digest 226 = .ok (.lreturn, 1) := by decide +kernel
theorem dX8_addSourceTo_0 : decode cX8_addSourceTo 0 = .ok (.lload_n 1, 1) := by decide +kernel
theorem dX8_addSourceTo_1 : decode cX8_addSourceTo 1 = .ok (.lstore 4, 2) := by decide +kernel
theorem dX8_addSourceTo_3 : decode cX8_addSourceTo 3 = .ok (.iconst 0, 1) := by decide +kernel
theorem dX8_addSourceTo_4 : decode cX8_addSourceTo 4 = .ok (.istore 6, 2) := by decide +kernel
theorem dX8_addSourceTo_6 : decode cX8_addSourceTo 6 = .ok (.iload 6, 2) := by decide +kernel
theorem dX8_addSourceTo_8 : decode cX8_addSourceTo 8 = .ok (.bipush 17, 2) := by decide +kernel
theorem dX8_addSourceTo_10 : decode cX8_addSourceTo 10 = .ok (.if_icmp .ge 29, 3) := by decide +kernel
theorem dX8_addSourceTo_13 : decode cX8_addSourceTo 13 = .ok (.ldc2_w 192, 3) := by decide +kernel
theorem dX8_addSourceTo_16 : decode cX8_addSourceTo 16 = .ok (.lload 4, 2) := by decide +kernel
theorem dX8_addSourceTo_18 : decode cX8_addSourceTo 18 = .ok (.lmul, 1) := by decide +kernel
theorem dX8_addSourceTo_19 : decode cX8_addSourceTo 19 = .ok (.aload_n 0, 1) := by decide +kernel
theorem dX8_addSourceTo_20 : decode cX8_addSourceTo 20 = .ok (.getfield 10, 3) := by decide +kernel
theorem dX8_addSourceTo_23 : decode cX8_addSourceTo 23 = .ok (.iload_n 3, 1) := by decide +kernel
theorem dX8_addSourceTo_24 : decode cX8_addSourceTo 24 = .ok (.iload 6, 2) := by decide +kernel
theorem dX8_addSourceTo_26 : decode cX8_addSourceTo 26 = .ok (.invokevirtual 88, 3) := by decide +kernel
theorem dX8_addSourceTo_29 : decode cX8_addSourceTo 29 = .ok (.i2l, 1) := by decide +kernel
theorem dX8_addSourceTo_30 : decode cX8_addSourceTo 30 = .ok (.ladd, 1) := by decide +kernel
theorem dX8_addSourceTo_31 : decode cX8_addSourceTo 31 = .ok (.lstore 4, 2) := by decide +kernel
theorem dX8_addSourceTo_33 : decode cX8_addSourceTo 33 = .ok (.iinc 6 1, 3) := by decide +kernel
theorem dX8_addSourceTo_36 : decode cX8_addSourceTo 36 = .ok (.goto (-30), 3) := by decide +kernel
theorem dX8_addSourceTo_39 : decode cX8_addSourceTo 39 = .ok (.iconst 0, 1) := by decide +kernel
theorem dX8_addSourceTo_40 : decode cX8_addSourceTo 40 = .ok (.istore 6, 2) := by decide +kernel
theorem dX8_addSourceTo_42 : decode cX8_addSourceTo 42 = .ok (.iload 6, 2) := by decide +kernel
theorem dX8_addSourceTo_44 : decode cX8_addSourceTo 44 = .ok (.aload_n 0, 1) := by decide +kernel
theorem dX8_addSourceTo_45 : decode cX8_addSourceTo 45 = .ok (.getfield 10, 3) := by decide +kernel
theorem dX8_addSourceTo_48 : decode cX8_addSourceTo 48 = .ok (.iload_n 3, 1) := by decide +kernel
theorem dX8_addSourceTo_49 : decode cX8_addSourceTo 49 = .ok (.invokevirtual 91, 3) := by decide +kernel
theorem dX8_addSourceTo_52 : decode cX8_addSourceTo 52 = .ok (.if_icmp .ge 46, 3) := by decide +kernel
theorem dX8_addSourceTo_55 : decode cX8_addSourceTo 55 = .ok (.iconst 0, 1) := by decide +kernel
theorem dX8_addSourceTo_56 : decode cX8_addSourceTo 56 = .ok (.istore 7, 2) := by decide +kernel
theorem dX8_addSourceTo_58 : decode cX8_addSourceTo 58 = .ok (.iload 7, 2) := by decide +kernel
theorem dX8_addSourceTo_60 : decode cX8_addSourceTo 60 = .ok (.iconst 4, 1) := by decide +kernel
theorem dX8_addSourceTo_61 : decode cX8_addSourceTo 61 = .ok (.if_icmp .ge 31, 3) := by decide +kernel
theorem dX8_addSourceTo_64 : decode cX8_addSourceTo 64 = .ok (.ldc2_w 192, 3) := by decide +kernel
theorem dX8_addSourceTo_67 : decode cX8_addSourceTo 67 = .ok (.lload 4, 2) := by decide +kernel
theorem dX8_addSourceTo_69 : decode cX8_addSourceTo 69 = .ok (.lmul, 1) := by decide +kernel
theorem dX8_addSourceTo_70 : decode cX8_addSourceTo 70 = .ok (.aload_n 0, 1) := by decide +kernel
theorem dX8_addSourceTo_71 : decode cX8_addSourceTo 71 = .ok (.getfield 10, 3) := by decide +kernel
theorem dX8_addSourceTo_74 : decode cX8_addSourceTo 74 = .ok (.iload_n 3, 1) := by decide +kernel
theorem dX8_addSourceTo_75 : decode cX8_addSourceTo 75 = .ok (.iload 6, 2) := by decide +kernel
theorem dX8_addSourceTo_77 : decode cX8_addSourceTo 77 = .ok (.iload 7, 2) := by decide +kernel
theorem dX8_addSourceTo_79 : decode cX8_addSourceTo 79 = .ok (.invokevirtual 101, 3) := by decide +kernel
theorem dX8_addSourceTo_82 : decode cX8_addSourceTo 82 = .ok (.i2l, 1) := by decide +kernel
theorem dX8_addSourceTo_83 : decode cX8_addSourceTo 83 = .ok (.ladd, 1) := by decide +kernel
theorem dX8_addSourceTo_84 : decode cX8_addSourceTo 84 = .ok (.lstore 4, 2) := by decide +kernel
theorem dX8_addSourceTo_86 : decode cX8_addSourceTo 86 = .ok (.iinc 7 1, 3) := by decide +kernel
theorem dX8_addSourceTo_89 : decode cX8_addSourceTo 89 = .ok (.goto (-31), 3) := by decide +kernel
theorem dX8_addSourceTo_92 : decode cX8_addSourceTo 92 = .ok (.iinc 6 1, 3) := by decide +kernel
theorem dX8_addSourceTo_95 : decode cX8_addSourceTo 95 = .ok (.goto (-53), 3) := by decide +kernel
theorem dX8_addSourceTo_98 : decode cX8_addSourceTo 98 = .ok (.lload 4, 2) := by decide +kernel
theorem dX8_addSourceTo_100 : decode cX8_addSourceTo 100 = .ok (.lreturn, 1) := by decide +kernel
theorem dX8_settle_0 : decode cX8_settle 0 = .ok (.iload_n 1, 1) := by decide +kernel
theorem dX8_settle_1 : decode cX8_settle 1 = .ok (.iconst (-1), 1) := by decide +kernel
theorem dX8_settle_2 : decode cX8_settle 2 = .ok (.if_icmp .ne 13, 3) := by decide +kernel
theorem dX8_settle_5 : decode cX8_settle 5 = .ok (.new 94, 3) := by decide +kernel
theorem dX8_settle_8 : decode cX8_settle 8 = .ok (.dup, 1) := by decide +kernel
theorem dX8_settle_9 : decode cX8_settle 9 = .ok (.ldc 205, 2) := by decide +kernel
theorem dX8_settle_11 : decode cX8_settle 11 = .ok (.invokespecial 98, 3) := by decide +kernel
theorem dX8_settle_14 : decode cX8_settle 14 = .ok (.athrow, 1) := by decide +kernel
theorem dX8_settle_15 : decode cX8_settle 15 = .ok (.iload_n 1, 1) := by decide +kernel
theorem dX8_settle_16 : decode cX8_settle 16 = .ok (.bipush (-2), 2) := by decide +kernel
theorem dX8_settle_18 : decode cX8_settle 18 = .ok (.if_icmp .ne 13, 3) := by decide +kernel
theorem dX8_settle_21 : decode cX8_settle 21 = .ok (.new 207, 3) := by decide +kernel
theorem dX8_settle_24 : decode cX8_settle 24 = .ok (.dup, 1) := by decide +kernel
theorem dX8_settle_25 : decode cX8_settle 25 = .ok (.ldc 209, 2) := by decide +kernel
theorem dX8_settle_27 : decode cX8_settle 27 = .ok (.invokespecial 211, 3) := by decide +kernel
theorem dX8_settle_30 : decode cX8_settle 30 = .ok (.athrow, 1) := by decide +kernel
theorem dX8_settle_31 : decode cX8_settle 31 = .ok (.iload_n 1, 1) := by decide +kernel
theorem dX8_settle_32 : decode cX8_settle 32 = .ok (.bipush (-3), 2) := by decide +kernel
theorem dX8_settle_34 : decode cX8_settle 34 = .ok (.if_icmp .ne 13, 3) := by decide +kernel
theorem dX8_settle_37 : decode cX8_settle 37 = .ok (.new 144, 3) := by decide +kernel
theorem dX8_settle_40 : decode cX8_settle 40 = .ok (.dup, 1) := by decide +kernel
theorem dX8_settle_41 : decode cX8_settle 41 = .ok (.ldc 212, 2) := by decide +kernel
theorem dX8_settle_43 : decode cX8_settle 43 = .ok (.invokespecial 148, 3) := by decide +kernel
theorem dX8_settle_46 : decode cX8_settle 46 = .ok (.athrow, 1) := by decide +kernel
theorem dX8_settle_47 : decode cX8_settle 47 = .ok (.aload_n 0, 1) := by decide +kernel
theorem dX8_settle_48 : decode cX8_settle 48 = .ok (.getfield 22, 3) := by decide +kernel
theorem dX8_settle_51 : decode cX8_settle 51 = .ok (.invokevirtual 178, 3) := by decide +kernel
theorem dX8_settle_54 : decode cX8_settle 54 = .ok (.iload_n 1, 1) := by decide +kernel
theorem dX8_settle_55 : decode cX8_settle 55 = .ok (.ireturn, 1) := by decide +kernel
theorem dX8_requireSource_0 : decode cX8_requireSource 0 = .ok (.aload_n 0, 1) := by decide +kernel
theorem dX8_requireSource_1 : decode cX8_requireSource 1 = .ok (.getfield 10, 3) := by decide +kernel
theorem dX8_requireSource_4 : decode cX8_requireSource 4 = .ok (.iload_n 1, 1) := by decide +kernel
theorem dX8_requireSource_5 : decode cX8_requireSource 5 = .ok (.invokevirtual 214, 3) := by decide +kernel
theorem dX8_requireSource_8 : decode cX8_requireSource 8 = .ok (.ifnonnull 13, 3) := by decide +kernel
theorem dX8_requireSource_11 : decode cX8_requireSource 11 = .ok (.new 94, 3) := by decide +kernel
theorem dX8_requireSource_14 : decode cX8_requireSource 14 = .ok (.dup, 1) := by decide +kernel
theorem dX8_requireSource_15 : decode cX8_requireSource 15 = .ok (.ldc 205, 2) := by decide +kernel
theorem dX8_requireSource_17 : decode cX8_requireSource 17 = .ok (.invokespecial 98, 3) := by decide +kernel
theorem dX8_requireSource_20 : decode cX8_requireSource 20 = .ok (.athrow, 1) := by decide +kernel
theorem dX8_requireSource_21 : decode cX8_requireSource 21 = .ok (.return_, 1) := by decide +kernel
theorem dX8_requireArgument_0 : decode cX8_requireArgument 0 = .ok (.iload_n 0, 1) := by decide +kernel
theorem dX8_requireArgument_1 : decode cX8_requireArgument 1 = .ok (.ifCond .ne 13, 3) := by decide +kernel
theorem dX8_requireArgument_4 : decode cX8_requireArgument 4 = .ok (.new 207, 3) := by decide +kernel
theorem dX8_requireArgument_7 : decode cX8_requireArgument 7 = .ok (.dup, 1) := by decide +kernel
theorem dX8_requireArgument_8 : decode cX8_requireArgument 8 = .ok (.ldc 209, 2) := by decide +kernel
theorem dX8_requireArgument_10 : decode cX8_requireArgument 10 = .ok (.invokespecial 211, 3) := by decide +kernel
theorem dX8_requireArgument_13 : decode cX8_requireArgument 13 = .ok (.athrow, 1) := by decide +kernel
theorem dX8_requireArgument_14 : decode cX8_requireArgument 14 = .ok (.return_, 1) := by decide +kernel
theorem dX8_isWithin_0 : decode cX8_isWithin 0 = .ok (.iload_n 0, 1) := by decide +kernel
theorem dX8_isWithin_1 : decode cX8_isWithin 1 = .ok (.iload_n 1, 1) := by decide +kernel
theorem dX8_isWithin_2 : decode cX8_isWithin 2 = .ok (.if_icmp .lt 12, 3) := by decide +kernel
theorem dX8_isWithin_5 : decode cX8_isWithin 5 = .ok (.iload_n 0, 1) := by decide +kernel
theorem dX8_isWithin_6 : decode cX8_isWithin 6 = .ok (.iload_n 2, 1) := by decide +kernel
theorem dX8_isWithin_7 : decode cX8_isWithin 7 = .ok (.if_icmp .gt 7, 3) := by decide +kernel
theorem dX8_isWithin_10 : decode cX8_isWithin 10 = .ok (.iconst 1, 1) := by decide +kernel
theorem dX8_isWithin_11 : decode cX8_isWithin 11 = .ok (.goto 4, 3) := by decide +kernel
theorem dX8_isWithin_14 : decode cX8_isWithin 14 = .ok (.iconst 0, 1) := by decide +kernel
theorem dX8_isWithin_15 : decode cX8_isWithin 15 = .ok (.ireturn, 1) := by decide +kernel
theorem dX8_carryOut_0 : decode cX8_carryOut 0 = .ok (.getstatic 218, 3) := by decide +kernel
theorem dX8_carryOut_3 : decode cX8_carryOut 3 = .ok (.aload_n 1, 1) := by decide +kernel
theorem dX8_carryOut_4 : decode cX8_carryOut 4 = .ok (.invokevirtual 223, 3) := by decide +kernel
theorem dX8_carryOut_7 : decode cX8_carryOut 7 = .ok (.iaload, 1) := by decide +kernel
theorem dX8_carryOut_8 : decode cX8_carryOut 8 = .ok (.tableswitch 164 1 8 #[48, 63, 78, 98, 115, 126, 138, 150], 48) := by decide +kernel
theorem dX8_carryOut_56 : decode cX8_carryOut 56 = .ok (.aload_n 0, 1) := by decide +kernel
theorem dX8_carryOut_57 : decode cX8_carryOut 57 = .ok (.getfield 10, 3) := by decide +kernel
theorem dX8_carryOut_60 : decode cX8_carryOut 60 = .ok (.aload_n 2, 1) := by decide +kernel
theorem dX8_carryOut_61 : decode cX8_carryOut 61 = .ok (.iconst 0, 1) := by decide +kernel
theorem dX8_carryOut_62 : decode cX8_carryOut 62 = .ok (.iaload, 1) := by decide +kernel
theorem dX8_carryOut_63 : decode cX8_carryOut 63 = .ok (.iconst 0, 1) := by decide +kernel
theorem dX8_carryOut_64 : decode cX8_carryOut 64 = .ok (.aload_n 2, 1) := by decide +kernel
theorem dX8_carryOut_65 : decode cX8_carryOut 65 = .ok (.iconst 1, 1) := by decide +kernel
theorem dX8_carryOut_66 : decode cX8_carryOut 66 = .ok (.iaload, 1) := by decide +kernel
theorem dX8_carryOut_67 : decode cX8_carryOut 67 = .ok (.invokevirtual 41, 3) := by decide +kernel
theorem dX8_carryOut_70 : decode cX8_carryOut 70 = .ok (.ireturn, 1) := by decide +kernel
theorem dX8_carryOut_71 : decode cX8_carryOut 71 = .ok (.aload_n 0, 1) := by decide +kernel
theorem dX8_carryOut_72 : decode cX8_carryOut 72 = .ok (.getfield 10, 3) := by decide +kernel
theorem dX8_carryOut_75 : decode cX8_carryOut 75 = .ok (.aload_n 2, 1) := by decide +kernel
theorem dX8_carryOut_76 : decode cX8_carryOut 76 = .ok (.iconst 0, 1) := by decide +kernel
theorem dX8_carryOut_77 : decode cX8_carryOut 77 = .ok (.iaload, 1) := by decide +kernel
theorem dX8_carryOut_78 : decode cX8_carryOut 78 = .ok (.iconst 1, 1) := by decide +kernel
theorem dX8_carryOut_79 : decode cX8_carryOut 79 = .ok (.aload_n 2, 1) := by decide +kernel
theorem dX8_carryOut_80 : decode cX8_carryOut 80 = .ok (.iconst 1, 1) := by decide +kernel
theorem dX8_carryOut_81 : decode cX8_carryOut 81 = .ok (.iaload, 1) := by decide +kernel
theorem dX8_carryOut_82 : decode cX8_carryOut 82 = .ok (.invokevirtual 41, 3) := by decide +kernel
theorem dX8_carryOut_85 : decode cX8_carryOut 85 = .ok (.ireturn, 1) := by decide +kernel
theorem dX8_carryOut_86 : decode cX8_carryOut 86 = .ok (.aload_n 0, 1) := by decide +kernel
theorem dX8_carryOut_87 : decode cX8_carryOut 87 = .ok (.getfield 10, 3) := by decide +kernel
theorem dX8_carryOut_90 : decode cX8_carryOut 90 = .ok (.aload_n 2, 1) := by decide +kernel
theorem dX8_carryOut_91 : decode cX8_carryOut 91 = .ok (.iconst 0, 1) := by decide +kernel
theorem dX8_carryOut_92 : decode cX8_carryOut 92 = .ok (.iaload, 1) := by decide +kernel
theorem dX8_carryOut_93 : decode cX8_carryOut 93 = .ok (.aload_n 2, 1) := by decide +kernel
theorem dX8_carryOut_94 : decode cX8_carryOut 94 = .ok (.iconst 1, 1) := by decide +kernel
theorem dX8_carryOut_95 : decode cX8_carryOut 95 = .ok (.iaload, 1) := by decide +kernel
theorem dX8_carryOut_96 : decode cX8_carryOut 96 = .ok (.aload_n 2, 1) := by decide +kernel
theorem dX8_carryOut_97 : decode cX8_carryOut 97 = .ok (.iconst 2, 1) := by decide +kernel
theorem dX8_carryOut_98 : decode cX8_carryOut 98 = .ok (.iaload, 1) := by decide +kernel
theorem dX8_carryOut_99 : decode cX8_carryOut 99 = .ok (.aload_n 2, 1) := by decide +kernel
theorem dX8_carryOut_100 : decode cX8_carryOut 100 = .ok (.iconst 3, 1) := by decide +kernel
theorem dX8_carryOut_101 : decode cX8_carryOut 101 = .ok (.iaload, 1) := by decide +kernel
theorem dX8_carryOut_102 : decode cX8_carryOut 102 = .ok (.invokevirtual 52, 3) := by decide +kernel
theorem dX8_carryOut_105 : decode cX8_carryOut 105 = .ok (.ireturn, 1) := by decide +kernel
theorem dX8_carryOut_106 : decode cX8_carryOut 106 = .ok (.aload_n 0, 1) := by decide +kernel
theorem dX8_carryOut_107 : decode cX8_carryOut 107 = .ok (.getfield 10, 3) := by decide +kernel
theorem dX8_carryOut_110 : decode cX8_carryOut 110 = .ok (.aload_n 2, 1) := by decide +kernel
theorem dX8_carryOut_111 : decode cX8_carryOut 111 = .ok (.iconst 0, 1) := by decide +kernel
theorem dX8_carryOut_112 : decode cX8_carryOut 112 = .ok (.iaload, 1) := by decide +kernel
theorem dX8_carryOut_113 : decode cX8_carryOut 113 = .ok (.aload_n 2, 1) := by decide +kernel
theorem dX8_carryOut_114 : decode cX8_carryOut 114 = .ok (.iconst 1, 1) := by decide +kernel
theorem dX8_carryOut_115 : decode cX8_carryOut 115 = .ok (.iaload, 1) := by decide +kernel
theorem dX8_carryOut_116 : decode cX8_carryOut 116 = .ok (.aload_n 2, 1) := by decide +kernel
theorem dX8_carryOut_117 : decode cX8_carryOut 117 = .ok (.iconst 2, 1) := by decide +kernel
theorem dX8_carryOut_118 : decode cX8_carryOut 118 = .ok (.iaload, 1) := by decide +kernel
theorem dX8_carryOut_119 : decode cX8_carryOut 119 = .ok (.invokevirtual 59, 3) := by decide +kernel
theorem dX8_carryOut_122 : decode cX8_carryOut 122 = .ok (.ireturn, 1) := by decide +kernel
theorem dX8_carryOut_123 : decode cX8_carryOut 123 = .ok (.aload_n 0, 1) := by decide +kernel
theorem dX8_carryOut_124 : decode cX8_carryOut 124 = .ok (.getfield 10, 3) := by decide +kernel
theorem dX8_carryOut_127 : decode cX8_carryOut 127 = .ok (.aload_n 2, 1) := by decide +kernel
theorem dX8_carryOut_128 : decode cX8_carryOut 128 = .ok (.iconst 0, 1) := by decide +kernel
theorem dX8_carryOut_129 : decode cX8_carryOut 129 = .ok (.iaload, 1) := by decide +kernel
theorem dX8_carryOut_130 : decode cX8_carryOut 130 = .ok (.invokevirtual 62, 3) := by decide +kernel
theorem dX8_carryOut_133 : decode cX8_carryOut 133 = .ok (.ireturn, 1) := by decide +kernel
theorem dX8_carryOut_134 : decode cX8_carryOut 134 = .ok (.aload_n 0, 1) := by decide +kernel
theorem dX8_carryOut_135 : decode cX8_carryOut 135 = .ok (.getfield 10, 3) := by decide +kernel
theorem dX8_carryOut_138 : decode cX8_carryOut 138 = .ok (.aload_n 2, 1) := by decide +kernel
theorem dX8_carryOut_139 : decode cX8_carryOut 139 = .ok (.iconst 0, 1) := by decide +kernel
theorem dX8_carryOut_140 : decode cX8_carryOut 140 = .ok (.iaload, 1) := by decide +kernel
theorem dX8_carryOut_141 : decode cX8_carryOut 141 = .ok (.iconst 1, 1) := by decide +kernel
theorem dX8_carryOut_142 : decode cX8_carryOut 142 = .ok (.invokevirtual 65, 3) := by decide +kernel
theorem dX8_carryOut_145 : decode cX8_carryOut 145 = .ok (.ireturn, 1) := by decide +kernel
theorem dX8_carryOut_146 : decode cX8_carryOut 146 = .ok (.aload_n 0, 1) := by decide +kernel
theorem dX8_carryOut_147 : decode cX8_carryOut 147 = .ok (.getfield 10, 3) := by decide +kernel
theorem dX8_carryOut_150 : decode cX8_carryOut 150 = .ok (.aload_n 2, 1) := by decide +kernel
theorem dX8_carryOut_151 : decode cX8_carryOut 151 = .ok (.iconst 0, 1) := by decide +kernel
theorem dX8_carryOut_152 : decode cX8_carryOut 152 = .ok (.iaload, 1) := by decide +kernel
theorem dX8_carryOut_153 : decode cX8_carryOut 153 = .ok (.iconst 0, 1) := by decide +kernel
theorem dX8_carryOut_154 : decode cX8_carryOut 154 = .ok (.invokevirtual 65, 3) := by decide +kernel
theorem dX8_carryOut_157 : decode cX8_carryOut 157 = .ok (.ireturn, 1) := by decide +kernel
theorem dX8_carryOut_158 : decode cX8_carryOut 158 = .ok (.aload_n 0, 1) := by decide +kernel
theorem dX8_carryOut_159 : decode cX8_carryOut 159 = .ok (.getfield 10, 3) := by decide +kernel
theorem dX8_carryOut_162 : decode cX8_carryOut 162 = .ok (.aload_n 2, 1) := by decide +kernel
theorem dX8_carryOut_163 : decode cX8_carryOut 163 = .ok (.iconst 0, 1) := by decide +kernel
theorem dX8_carryOut_164 : decode cX8_carryOut 164 = .ok (.iaload, 1) := by decide +kernel
theorem dX8_carryOut_165 : decode cX8_carryOut 165 = .ok (.aload_n 2, 1) := by decide +kernel
theorem dX8_carryOut_166 : decode cX8_carryOut 166 = .ok (.iconst 1, 1) := by decide +kernel
theorem dX8_carryOut_167 : decode cX8_carryOut 167 = .ok (.iaload, 1) := by decide +kernel
theorem dX8_carryOut_168 : decode cX8_carryOut 168 = .ok (.invokevirtual 69, 3) := by decide +kernel
theorem dX8_carryOut_171 : decode cX8_carryOut 171 = .ok (.ireturn, 1) := by decide +kernel
theorem dX8_carryOut_172 : decode cX8_carryOut 172 = .ok (.aload_n 0, 1) := by decide +kernel
theorem dX8_carryOut_173 : decode cX8_carryOut 173 = .ok (.getfield 10, 3) := by decide +kernel
theorem dX8_carryOut_176 : decode cX8_carryOut 176 = .ok (.aload_n 2, 1) := by decide +kernel
theorem dX8_carryOut_177 : decode cX8_carryOut 177 = .ok (.iconst 0, 1) := by decide +kernel
theorem dX8_carryOut_178 : decode cX8_carryOut 178 = .ok (.iaload, 1) := by decide +kernel
theorem dX8_carryOut_179 : decode cX8_carryOut 179 = .ok (.invokevirtual 73, 3) := by decide +kernel
theorem dX8_carryOut_182 : decode cX8_carryOut 182 = .ok (.ireturn, 1) := by decide +kernel
theorem dJx29ce0_ordinal_8abf5_0 : decode cJx29ce0_ordinal_8abf5 0 = .ok (.aload_n 0, 1) := by decide +kernel
theorem dJx29ce0_ordinal_8abf5_1 : decode cJx29ce0_ordinal_8abf5 1 = .ok (.getfield 7, 3) := by decide +kernel
theorem dJx29ce0_ordinal_8abf5_4 : decode cJx29ce0_ordinal_8abf5 4 = .ok (.ireturn, 1) := by decide +kernel
theorem dJ9_max_7cf53_0 : decode cJ9_max_7cf53 0 = .ok (.iload_n 0, 1) := by decide +kernel
theorem dJ9_max_7cf53_1 : decode cJ9_max_7cf53 1 = .ok (.iload_n 1, 1) := by decide +kernel
theorem dJ9_max_7cf53_2 : decode cJ9_max_7cf53 2 = .ok (.if_icmp .lt 7, 3) := by decide +kernel
theorem dJ9_max_7cf53_5 : decode cJ9_max_7cf53 5 = .ok (.iload_n 0, 1) := by decide +kernel
theorem dJ9_max_7cf53_6 : decode cJ9_max_7cf53 6 = .ok (.goto 4, 3) := by decide +kernel
theorem dJ9_max_7cf53_9 : decode cJ9_max_7cf53 9 = .ok (.iload_n 1, 1) := by decide +kernel
theorem dJ9_max_7cf53_10 : decode cJ9_max_7cf53 10 = .ok (.ireturn, 1) := by decide +kernel
theorem dJ9_min_7cf53_0 : decode cJ9_min_7cf53 0 = .ok (.iload_n 0, 1) := by decide +kernel
theorem dJ9_min_7cf53_1 : decode cJ9_min_7cf53 1 = .ok (.iload_n 1, 1) := by decide +kernel
theorem dJ9_min_7cf53_2 : decode cJ9_min_7cf53 2 = .ok (.if_icmp .gt 7, 3) := by decide +kernel
theorem dJ9_min_7cf53_5 : decode cJ9_min_7cf53 5 = .ok (.iload_n 0, 1) := by decide +kernel
theorem dJ9_min_7cf53_6 : decode cJ9_min_7cf53 6 = .ok (.goto 4, 3) := by decide +kernel
theorem dJ9_min_7cf53_9 : decode cJ9_min_7cf53 9 = .ok (.iload_n 1, 1) := by decide +kernel
theorem dJ9_min_7cf53_10 : decode cJ9_min_7cf53 10 = .ok (.ireturn, 1) := by decide +kernel
theorem dJ0_length_8abf5_0 : decode cJ0_length_8abf5 0 = .ok (.aload_n 0, 1) := by decide +kernel
theorem dJ0_length_8abf5_1 : decode cJ0_length_8abf5 1 = .ok (.getfield 9, 3) := by decide +kernel
theorem dJ0_length_8abf5_4 : decode cJ0_length_8abf5 4 = .ok (.arraylength, 1) := by decide +kernel
theorem dJ0_length_8abf5_5 : decode cJ0_length_8abf5 5 = .ok (.aload_n 0, 1) := by decide +kernel
theorem dJ0_length_8abf5_6 : decode cJ0_length_8abf5 6 = .ok (.invokevirtual 335, 3) := by decide +kernel
theorem dJ0_length_8abf5_9 : decode cJ0_length_8abf5 9 = .ok (.ishr, 1) := by decide +kernel
theorem dJ0_length_8abf5_10 : decode cJ0_length_8abf5 10 = .ok (.ireturn, 1) := by decide +kernel
theorem dJ0_charAt_5068e_0 : decode cJ0_charAt_5068e 0 = .ok (.aload_n 0, 1) := by decide +kernel
theorem dJ0_charAt_5068e_1 : decode cJ0_charAt_5068e 1 = .ok (.invokevirtual 492, 3) := by decide +kernel
theorem dJ0_charAt_5068e_4 : decode cJ0_charAt_5068e 4 = .ok (.ifCond .eq 12, 3) := by decide +kernel
theorem dJ0_charAt_5068e_7 : decode cJ0_charAt_5068e 7 = .ok (.aload_n 0, 1) := by decide +kernel
theorem dJ0_charAt_5068e_8 : decode cJ0_charAt_5068e 8 = .ok (.getfield 9, 3) := by decide +kernel
theorem dJ0_charAt_5068e_11 : decode cJ0_charAt_5068e 11 = .ok (.iload_n 1, 1) := by decide +kernel
theorem dJ0_charAt_5068e_12 : decode cJ0_charAt_5068e 12 = .ok (.invokestatic 495, 3) := by decide +kernel
theorem dJ0_charAt_5068e_15 : decode cJ0_charAt_5068e 15 = .ok (.ireturn, 1) := by decide +kernel
theorem dJ0_charAt_5068e_16 : decode cJ0_charAt_5068e 16 = .ok (.aload_n 0, 1) := by decide +kernel
theorem dJ0_charAt_5068e_17 : decode cJ0_charAt_5068e 17 = .ok (.getfield 9, 3) := by decide +kernel
theorem dJ0_charAt_5068e_20 : decode cJ0_charAt_5068e 20 = .ok (.iload_n 1, 1) := by decide +kernel
theorem dJ0_charAt_5068e_21 : decode cJ0_charAt_5068e 21 = .ok (.invokestatic 498, 3) := by decide +kernel
theorem dJ0_charAt_5068e_24 : decode cJ0_charAt_5068e 24 = .ok (.ireturn, 1) := by decide +kernel
theorem dJ0_coder_7d493_0 : decode cJ0_coder_7d493 0 = .ok (.getstatic 38, 3) := by decide +kernel
theorem dJ0_coder_7d493_3 : decode cJ0_coder_7d493 3 = .ok (.ifCond .eq 10, 3) := by decide +kernel
theorem dJ0_coder_7d493_6 : decode cJ0_coder_7d493 6 = .ok (.aload_n 0, 1) := by decide +kernel
theorem dJ0_coder_7d493_7 : decode cJ0_coder_7d493 7 = .ok (.getfield 15, 3) := by decide +kernel
theorem dJ0_coder_7d493_10 : decode cJ0_coder_7d493 10 = .ok (.goto 4, 3) := by decide +kernel
theorem dJ0_coder_7d493_13 : decode cJ0_coder_7d493 13 = .ok (.iconst 1, 1) := by decide +kernel
theorem dJ0_coder_7d493_14 : decode cJ0_coder_7d493 14 = .ok (.ireturn, 1) := by decide +kernel
theorem dJ0_isLatin1_aae02_0 : decode cJ0_isLatin1_aae02 0 = .ok (.getstatic 38, 3) := by decide +kernel
theorem dJ0_isLatin1_aae02_3 : decode cJ0_isLatin1_aae02 3 = .ok (.ifCond .eq 14, 3) := by decide +kernel
theorem dJ0_isLatin1_aae02_6 : decode cJ0_isLatin1_aae02 6 = .ok (.aload_n 0, 1) := by decide +kernel
theorem dJ0_isLatin1_aae02_7 : decode cJ0_isLatin1_aae02 7 = .ok (.getfield 15, 3) := by decide +kernel
theorem dJ0_isLatin1_aae02_10 : decode cJ0_isLatin1_aae02 10 = .ok (.ifCond .ne 7, 3) := by decide +kernel
theorem dJ0_isLatin1_aae02_13 : decode cJ0_isLatin1_aae02 13 = .ok (.iconst 1, 1) := by decide +kernel
theorem dJ0_isLatin1_aae02_14 : decode cJ0_isLatin1_aae02 14 = .ok (.goto 4, 3) := by decide +kernel
theorem dJ0_isLatin1_aae02_17 : decode cJ0_isLatin1_aae02 17 = .ok (.iconst 0, 1) := by decide +kernel
theorem dJ0_isLatin1_aae02_18 : decode cJ0_isLatin1_aae02 18 = .ok (.ireturn, 1) := by decide +kernel
theorem dJ0_checkIndex_df160_0 : decode cJ0_checkIndex_df160 0 = .ok (.iload_n 0, 1) := by decide +kernel
theorem dJ0_checkIndex_df160_1 : decode cJ0_checkIndex_df160 1 = .ok (.iload_n 1, 1) := by decide +kernel
theorem dJ0_checkIndex_df160_2 : decode cJ0_checkIndex_df160 2 = .ok (.getstatic 1053, 3) := by decide +kernel
theorem dJ0_checkIndex_df160_5 : decode cJ0_checkIndex_df160 5 = .ok (.invokestatic 1059, 3) := by decide +kernel
theorem dJ0_checkIndex_df160_8 : decode cJ0_checkIndex_df160 8 = .ok (.pop, 1) := by decide +kernel
theorem dJ0_checkIndex_df160_9 : decode cJ0_checkIndex_df160 9 = .ok (.return_, 1) := by decide +kernel
theorem dJ1_charAt_3b067_0 : decode cJ1_charAt_3b067 0 = .ok (.iload_n 1, 1) := by decide +kernel
theorem dJ1_charAt_3b067_1 : decode cJ1_charAt_3b067 1 = .ok (.aload_n 0, 1) := by decide +kernel
theorem dJ1_charAt_3b067_2 : decode cJ1_charAt_3b067 2 = .ok (.arraylength, 1) := by decide +kernel
theorem dJ1_charAt_3b067_3 : decode cJ1_charAt_3b067 3 = .ok (.invokestatic 9, 3) := by decide +kernel
theorem dJ1_charAt_3b067_6 : decode cJ1_charAt_3b067 6 = .ok (.aload_n 0, 1) := by decide +kernel
theorem dJ1_charAt_3b067_7 : decode cJ1_charAt_3b067 7 = .ok (.iload_n 1, 1) := by decide +kernel
theorem dJ1_charAt_3b067_8 : decode cJ1_charAt_3b067 8 = .ok (.baload, 1) := by decide +kernel
theorem dJ1_charAt_3b067_9 : decode cJ1_charAt_3b067 9 = .ok (.sipush 255, 3) := by decide +kernel
theorem dJ1_charAt_3b067_12 : decode cJ1_charAt_3b067 12 = .ok (.iand, 1) := by decide +kernel
theorem dJ1_charAt_3b067_13 : decode cJ1_charAt_3b067 13 = .ok (.i2c, 1) := by decide +kernel
theorem dJ1_charAt_3b067_14 : decode cJ1_charAt_3b067 14 = .ok (.ireturn, 1) := by decide +kernel
theorem dJ2_getChar_3b067_0 : decode cJ2_getChar_3b067 0 = .ok (.getstatic 44, 3) := by decide +kernel
theorem dJ2_getChar_3b067_3 : decode cJ2_getChar_3b067 3 = .ok (.ifCond .ne 25, 3) := by decide +kernel
theorem dJ2_getChar_3b067_6 : decode cJ2_getChar_3b067 6 = .ok (.iload_n 1, 1) := by decide +kernel
theorem dJ2_getChar_3b067_7 : decode cJ2_getChar_3b067 7 = .ok (.ifCond .lt 11, 3) := by decide +kernel
theorem dJ2_getChar_3b067_10 : decode cJ2_getChar_3b067 10 = .ok (.iload_n 1, 1) := by decide +kernel
theorem dJ2_getChar_3b067_11 : decode cJ2_getChar_3b067 11 = .ok (.aload_n 0, 1) := by decide +kernel
theorem dJ2_getChar_3b067_12 : decode cJ2_getChar_3b067 12 = .ok (.invokestatic 48, 3) := by decide +kernel
theorem dJ2_getChar_3b067_15 : decode cJ2_getChar_3b067 15 = .ok (.if_icmp .lt 13, 3) := by decide +kernel
theorem dJ2_getChar_3b067_18 : decode cJ2_getChar_3b067 18 = .ok (.new 52, 3) := by decide +kernel
theorem dJ2_getChar_3b067_21 : decode cJ2_getChar_3b067 21 = .ok (.dup, 1) := by decide +kernel
theorem dJ2_getChar_3b067_22 : decode cJ2_getChar_3b067 22 = .ok (.ldc 54, 2) := by decide +kernel
theorem dJ2_getChar_3b067_24 : decode cJ2_getChar_3b067 24 = .ok (.invokespecial 56, 3) := by decide +kernel
theorem dJ2_getChar_3b067_27 : decode cJ2_getChar_3b067 27 = .ok (.athrow, 1) := by decide +kernel
theorem dJ2_getChar_3b067_28 : decode cJ2_getChar_3b067 28 = .ok (.iload_n 1, 1) := by decide +kernel
theorem dJ2_getChar_3b067_29 : decode cJ2_getChar_3b067 29 = .ok (.iconst 1, 1) := by decide +kernel
theorem dJ2_getChar_3b067_30 : decode cJ2_getChar_3b067 30 = .ok (.ishl, 1) := by decide +kernel
theorem dJ2_getChar_3b067_31 : decode cJ2_getChar_3b067 31 = .ok (.istore_n 1, 1) := by decide +kernel
theorem dJ2_getChar_3b067_32 : decode cJ2_getChar_3b067 32 = .ok (.aload_n 0, 1) := by decide +kernel
theorem dJ2_getChar_3b067_33 : decode cJ2_getChar_3b067 33 = .ok (.iload_n 1, 1) := by decide +kernel
theorem dJ2_getChar_3b067_34 : decode cJ2_getChar_3b067 34 = .ok (.iinc 1 1, 3) := by decide +kernel
theorem dJ2_getChar_3b067_37 : decode cJ2_getChar_3b067 37 = .ok (.baload, 1) := by decide +kernel
theorem dJ2_getChar_3b067_38 : decode cJ2_getChar_3b067 38 = .ok (.sipush 255, 3) := by decide +kernel
theorem dJ2_getChar_3b067_41 : decode cJ2_getChar_3b067 41 = .ok (.iand, 1) := by decide +kernel
theorem dJ2_getChar_3b067_42 : decode cJ2_getChar_3b067 42 = .ok (.getstatic 59, 3) := by decide +kernel
theorem dJ2_getChar_3b067_45 : decode cJ2_getChar_3b067 45 = .ok (.ishl, 1) := by decide +kernel
theorem dJ2_getChar_3b067_46 : decode cJ2_getChar_3b067 46 = .ok (.aload_n 0, 1) := by decide +kernel
theorem dJ2_getChar_3b067_47 : decode cJ2_getChar_3b067 47 = .ok (.iload_n 1, 1) := by decide +kernel
theorem dJ2_getChar_3b067_48 : decode cJ2_getChar_3b067 48 = .ok (.baload, 1) := by decide +kernel
theorem dJ2_getChar_3b067_49 : decode cJ2_getChar_3b067 49 = .ok (.sipush 255, 3) := by decide +kernel
theorem dJ2_getChar_3b067_52 : decode cJ2_getChar_3b067 52 = .ok (.iand, 1) := by decide +kernel
theorem dJ2_getChar_3b067_53 : decode cJ2_getChar_3b067 53 = .ok (.getstatic 63, 3) := by decide +kernel
theorem dJ2_getChar_3b067_56 : decode cJ2_getChar_3b067 56 = .ok (.ishl, 1) := by decide +kernel
theorem dJ2_getChar_3b067_57 : decode cJ2_getChar_3b067 57 = .ok (.ior, 1) := by decide +kernel
theorem dJ2_getChar_3b067_58 : decode cJ2_getChar_3b067 58 = .ok (.i2c, 1) := by decide +kernel
theorem dJ2_getChar_3b067_59 : decode cJ2_getChar_3b067 59 = .ok (.ireturn, 1) := by decide +kernel
theorem dJ2_length_9d52b_0 : decode cJ2_length_9d52b 0 = .ok (.aload_n 0, 1) := by decide +kernel
theorem dJ2_length_9d52b_1 : decode cJ2_length_9d52b 1 = .ok (.arraylength, 1) := by decide +kernel
theorem dJ2_length_9d52b_2 : decode cJ2_length_9d52b 2 = .ok (.iconst 1, 1) := by decide +kernel
theorem dJ2_length_9d52b_3 : decode cJ2_length_9d52b 3 = .ok (.ishr, 1) := by decide +kernel
theorem dJ2_length_9d52b_4 : decode cJ2_length_9d52b 4 = .ok (.ireturn, 1) := by decide +kernel
theorem dJ2_charAt_3b067_0 : decode cJ2_charAt_3b067 0 = .ok (.iload_n 1, 1) := by decide +kernel
theorem dJ2_charAt_3b067_1 : decode cJ2_charAt_3b067 1 = .ok (.aload_n 0, 1) := by decide +kernel
theorem dJ2_charAt_3b067_2 : decode cJ2_charAt_3b067 2 = .ok (.invokestatic 67, 3) := by decide +kernel
theorem dJ2_charAt_3b067_5 : decode cJ2_charAt_3b067 5 = .ok (.aload_n 0, 1) := by decide +kernel
theorem dJ2_charAt_3b067_6 : decode cJ2_charAt_3b067 6 = .ok (.iload_n 1, 1) := by decide +kernel
theorem dJ2_charAt_3b067_7 : decode cJ2_charAt_3b067 7 = .ok (.invokestatic 71, 3) := by decide +kernel
theorem dJ2_charAt_3b067_10 : decode cJ2_charAt_3b067 10 = .ok (.ireturn, 1) := by decide +kernel
theorem dJ2_checkIndex_2214a_0 : decode cJ2_checkIndex_2214a 0 = .ok (.iload_n 0, 1) := by decide +kernel
theorem dJ2_checkIndex_2214a_1 : decode cJ2_checkIndex_2214a 1 = .ok (.aload_n 1, 1) := by decide +kernel
theorem dJ2_checkIndex_2214a_2 : decode cJ2_checkIndex_2214a 2 = .ok (.invokestatic 48, 3) := by decide +kernel
theorem dJ2_checkIndex_2214a_5 : decode cJ2_checkIndex_2214a 5 = .ok (.invokestatic 414, 3) := by decide +kernel
theorem dJ2_checkIndex_2214a_8 : decode cJ2_checkIndex_2214a 8 = .ok (.return_, 1) := by decide +kernel
theorem dJ3_checkIndex_8e157_0 : decode cJ3_checkIndex_8e157 0 = .ok (.iload_n 0, 1) := by decide +kernel
theorem dJ3_checkIndex_8e157_1 : decode cJ3_checkIndex_8e157 1 = .ok (.ifCond .lt 8, 3) := by decide +kernel
theorem dJ3_checkIndex_8e157_4 : decode cJ3_checkIndex_8e157 4 = .ok (.iload_n 0, 1) := by decide +kernel
theorem dJ3_checkIndex_8e157_5 : decode cJ3_checkIndex_8e157 5 = .ok (.iload_n 1, 1) := by decide +kernel
theorem dJ3_checkIndex_8e157_6 : decode cJ3_checkIndex_8e157 6 = .ok (.if_icmp .lt 10, 3) := by decide +kernel
theorem dJ3_checkIndex_8e157_9 : decode cJ3_checkIndex_8e157 9 = .ok (.aload_n 2, 1) := by decide +kernel
theorem dJ3_checkIndex_8e157_10 : decode cJ3_checkIndex_8e157 10 = .ok (.iload_n 0, 1) := by decide +kernel
theorem dJ3_checkIndex_8e157_11 : decode cJ3_checkIndex_8e157 11 = .ok (.iload_n 1, 1) := by decide +kernel
theorem dJ3_checkIndex_8e157_12 : decode cJ3_checkIndex_8e157 12 = .ok (.invokestatic 95, 3) := by decide +kernel
theorem dJ3_checkIndex_8e157_15 : decode cJ3_checkIndex_8e157 15 = .ok (.athrow, 1) := by decide +kernel
theorem dJ3_checkIndex_8e157_16 : decode cJ3_checkIndex_8e157 16 = .ok (.iload_n 0, 1) := by decide +kernel
theorem dJ3_checkIndex_8e157_17 : decode cJ3_checkIndex_8e157 17 = .ok (.ireturn, 1) := by decide +kernel
