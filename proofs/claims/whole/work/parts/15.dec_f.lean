theorem dXR_testWord_12 : decode cXR_testWord 12 = .ok (.putfield 166, 3) := by decide +kernel
theorem dXR_testWord_15 : decode cXR_testWord 15 = .ok (.aload_n 0, 1) := by decide +kernel
theorem dXR_testWord_16 : decode cXR_testWord 16 = .ok (.iload_n 1, 1) := by decide +kernel
theorem dXR_testWord_17 : decode cXR_testWord 17 = .ok (.ifCond .ne 7, 3) := by decide +kernel
theorem dXR_testWord_20 : decode cXR_testWord 20 = .ok (.iconst 1, 1) := by decide +kernel
theorem dXR_testWord_21 : decode cXR_testWord 21 = .ok (.goto 4, 3) := by decide +kernel
theorem dXR_testWord_24 : decode cXR_testWord 24 = .ok (.iconst 0, 1) := by decide +kernel
theorem dXR_testWord_25 : decode cXR_testWord 25 = .ok (.putfield 169, 3) := by decide +kernel
theorem dXR_testWord_28 : decode cXR_testWord 28 = .ok (.aload_n 0, 1) := by decide +kernel
theorem dXR_testWord_29 : decode cXR_testWord 29 = .ok (.iconst 0, 1) := by decide +kernel
theorem dXR_testWord_30 : decode cXR_testWord 30 = .ok (.putfield 172, 3) := by decide +kernel
theorem dXR_testWord_33 : decode cXR_testWord 33 = .ok (.aload_n 0, 1) := by decide +kernel
theorem dXR_testWord_34 : decode cXR_testWord 34 = .ok (.iconst 0, 1) := by decide +kernel
theorem dXR_testWord_35 : decode cXR_testWord 35 = .ok (.putfield 175, 3) := by decide +kernel
theorem dXR_testWord_38 : decode cXR_testWord 38 = .ok (.return_, 1) := by decide +kernel
theorem dXR_setLow_0 : decode cXR_setLow 0 = .ok (.aload_n 0, 1) := by decide +kernel
theorem dXR_setLow_1 : decode cXR_setLow 1 = .ok (.getfield 16, 3) := by decide +kernel
theorem dXR_setLow_4 : decode cXR_setLow 4 = .ok (.iload_n 1, 1) := by decide +kernel
theorem dXR_setLow_5 : decode cXR_setLow 5 = .ok (.aload_n 0, 1) := by decide +kernel
theorem dXR_setLow_6 : decode cXR_setLow 6 = .ok (.getfield 16, 3) := by decide +kernel
theorem dXR_setLow_9 : decode cXR_setLow 9 = .ok (.iload_n 1, 1) := by decide +kernel
theorem dXR_setLow_10 : decode cXR_setLow 10 = .ok (.iaload, 1) := by decide +kernel
theorem dXR_setLow_11 : decode cXR_setLow 11 = .ok (.ldc 179, 2) := by decide +kernel
theorem dXR_setLow_13 : decode cXR_setLow 13 = .ok (.iand, 1) := by decide +kernel
theorem dXR_setLow_14 : decode cXR_setLow 14 = .ok (.iload_n 2, 1) := by decide +kernel
theorem dXR_setLow_15 : decode cXR_setLow 15 = .ok (.ior, 1) := by decide +kernel
theorem dXR_setLow_16 : decode cXR_setLow 16 = .ok (.iastore, 1) := by decide +kernel
theorem dXR_setLow_17 : decode cXR_setLow 17 = .ok (.return_, 1) := by decide +kernel
theorem dXR_fetch_0 : decode cXR_fetch 0 = .ok (.aload_n 0, 1) := by decide +kernel
theorem dXR_fetch_1 : decode cXR_fetch 1 = .ok (.aload_n 0, 1) := by decide +kernel
theorem dXR_fetch_2 : decode cXR_fetch 2 = .ok (.getfield 180, 3) := by decide +kernel
theorem dXR_fetch_5 : decode cXR_fetch 5 = .ok (.invokevirtual 76, 3) := by decide +kernel
theorem dXR_fetch_8 : decode cXR_fetch 8 = .ok (.istore_n 1, 1) := by decide +kernel
theorem dXR_fetch_9 : decode cXR_fetch 9 = .ok (.aload_n 0, 1) := by decide +kernel
theorem dXR_fetch_10 : decode cXR_fetch 10 = .ok (.aload_n 0, 1) := by decide +kernel
theorem dXR_fetch_11 : decode cXR_fetch 11 = .ok (.getfield 180, 3) := by decide +kernel
theorem dXR_fetch_14 : decode cXR_fetch 14 = .ok (.iconst 2, 1) := by decide +kernel
theorem dXR_fetch_15 : decode cXR_fetch 15 = .ok (.iadd, 1) := by decide +kernel
theorem dXR_fetch_16 : decode cXR_fetch 16 = .ok (.ldc 131, 2) := by decide +kernel
theorem dXR_fetch_18 : decode cXR_fetch 18 = .ok (.iand, 1) := by decide +kernel
theorem dXR_fetch_19 : decode cXR_fetch 19 = .ok (.putfield 180, 3) := by decide +kernel
theorem dXR_fetch_22 : decode cXR_fetch 22 = .ok (.iload_n 1, 1) := by decide +kernel
theorem dXR_fetch_23 : decode cXR_fetch 23 = .ok (.ireturn, 1) := by decide +kernel
theorem dXR_exception_0 : decode cXR_exception 0 = .ok (.aload_n 0, 1) := by decide +kernel
theorem dXR_exception_1 : decode cXR_exception 1 = .ok (.aload_n 0, 1) := by decide +kernel
theorem dXR_exception_2 : decode cXR_exception 2 = .ok (.getfield 183, 3) := by decide +kernel
theorem dXR_exception_5 : decode cXR_exception 5 = .ok (.bipush 6, 2) := by decide +kernel
theorem dXR_exception_7 : decode cXR_exception 7 = .ok (.isub, 1) := by decide +kernel
theorem dXR_exception_8 : decode cXR_exception 8 = .ok (.ldc 131, 2) := by decide +kernel
theorem dXR_exception_10 : decode cXR_exception 10 = .ok (.iand, 1) := by decide +kernel
theorem dXR_exception_11 : decode cXR_exception 11 = .ok (.aload_n 0, 1) := by decide +kernel
theorem dXR_exception_12 : decode cXR_exception 12 = .ok (.invokevirtual 186, 3) := by decide +kernel
theorem dXR_exception_15 : decode cXR_exception 15 = .ok (.invokevirtual 189, 3) := by decide +kernel
theorem dXR_exception_18 : decode cXR_exception 18 = .ok (.aload_n 0, 1) := by decide +kernel
theorem dXR_exception_19 : decode cXR_exception 19 = .ok (.aload_n 0, 1) := by decide +kernel
theorem dXR_exception_20 : decode cXR_exception 20 = .ok (.getfield 183, 3) := by decide +kernel
theorem dXR_exception_23 : decode cXR_exception 23 = .ok (.iconst 4, 1) := by decide +kernel
theorem dXR_exception_24 : decode cXR_exception 24 = .ok (.isub, 1) := by decide +kernel
theorem dXR_exception_25 : decode cXR_exception 25 = .ok (.ldc 131, 2) := by decide +kernel
theorem dXR_exception_27 : decode cXR_exception 27 = .ok (.iand, 1) := by decide +kernel
theorem dXR_exception_28 : decode cXR_exception 28 = .ok (.iconst 0, 1) := by decide +kernel
theorem dXR_exception_29 : decode cXR_exception 29 = .ok (.invokevirtual 189, 3) := by decide +kernel
theorem dXR_exception_32 : decode cXR_exception 32 = .ok (.aload_n 0, 1) := by decide +kernel
theorem dXR_exception_33 : decode cXR_exception 33 = .ok (.aload_n 0, 1) := by decide +kernel
theorem dXR_exception_34 : decode cXR_exception 34 = .ok (.getfield 183, 3) := by decide +kernel
theorem dXR_exception_37 : decode cXR_exception 37 = .ok (.iconst 2, 1) := by decide +kernel
theorem dXR_exception_38 : decode cXR_exception 38 = .ok (.isub, 1) := by decide +kernel
theorem dXR_exception_39 : decode cXR_exception 39 = .ok (.ldc 131, 2) := by decide +kernel
theorem dXR_exception_41 : decode cXR_exception 41 = .ok (.iand, 1) := by decide +kernel
theorem dXR_exception_42 : decode cXR_exception 42 = .ok (.aload_n 0, 1) := by decide +kernel
theorem dXR_exception_43 : decode cXR_exception 43 = .ok (.getfield 180, 3) := by decide +kernel
theorem dXR_exception_46 : decode cXR_exception 46 = .ok (.invokevirtual 189, 3) := by decide +kernel
theorem dXR_exception_49 : decode cXR_exception 49 = .ok (.aload_n 0, 1) := by decide +kernel
theorem dXR_exception_50 : decode cXR_exception 50 = .ok (.aload_n 0, 1) := by decide +kernel
theorem dXR_exception_51 : decode cXR_exception 51 = .ok (.getfield 183, 3) := by decide +kernel
theorem dXR_exception_54 : decode cXR_exception 54 = .ok (.bipush 6, 2) := by decide +kernel
theorem dXR_exception_56 : decode cXR_exception 56 = .ok (.isub, 1) := by decide +kernel
theorem dXR_exception_57 : decode cXR_exception 57 = .ok (.ldc 131, 2) := by decide +kernel
theorem dXR_exception_59 : decode cXR_exception 59 = .ok (.iand, 1) := by decide +kernel
theorem dXR_exception_60 : decode cXR_exception 60 = .ok (.putfield 183, 3) := by decide +kernel
theorem dXR_exception_63 : decode cXR_exception 63 = .ok (.aload_n 0, 1) := by decide +kernel
theorem dXR_exception_64 : decode cXR_exception 64 = .ok (.aload_n 0, 1) := by decide +kernel
theorem dXR_exception_65 : decode cXR_exception 65 = .ok (.iconst 4, 1) := by decide +kernel
theorem dXR_exception_66 : decode cXR_exception 66 = .ok (.iload_n 1, 1) := by decide +kernel
theorem dXR_exception_67 : decode cXR_exception 67 = .ok (.imul, 1) := by decide +kernel
theorem dXR_exception_68 : decode cXR_exception 68 = .ok (.iconst 2, 1) := by decide +kernel
theorem dXR_exception_69 : decode cXR_exception 69 = .ok (.iadd, 1) := by decide +kernel
theorem dXR_exception_70 : decode cXR_exception 70 = .ok (.invokevirtual 76, 3) := by decide +kernel
theorem dXR_exception_73 : decode cXR_exception 73 = .ok (.putfield 180, 3) := by decide +kernel
theorem dXR_exception_76 : decode cXR_exception 76 = .ok (.return_, 1) := by decide +kernel
theorem dXR_add_0 : decode cXR_add 0 = .ok (.iload_n 3, 1) := by decide +kernel
theorem dXR_add_1 : decode cXR_add 1 = .ok (.ifCond .eq 9, 3) := by decide +kernel
theorem dXR_add_4 : decode cXR_add 4 = .ok (.iload_n 1, 1) := by decide +kernel
theorem dXR_add_5 : decode cXR_add 5 = .ok (.iload_n 2, 1) := by decide +kernel
theorem dXR_add_6 : decode cXR_add 6 = .ok (.isub, 1) := by decide +kernel
theorem dXR_add_7 : decode cXR_add 7 = .ok (.goto 6, 3) := by decide +kernel
theorem dXR_add_10 : decode cXR_add 10 = .ok (.iload_n 1, 1) := by decide +kernel
theorem dXR_add_11 : decode cXR_add 11 = .ok (.iload_n 2, 1) := by decide +kernel
theorem dXR_add_12 : decode cXR_add 12 = .ok (.iadd, 1) := by decide +kernel
theorem dXR_add_13 : decode cXR_add 13 = .ok (.istore 4, 2) := by decide +kernel
theorem dXR_add_15 : decode cXR_add 15 = .ok (.iload 4, 2) := by decide +kernel
theorem dXR_add_17 : decode cXR_add 17 = .ok (.ldc 131, 2) := by decide +kernel
theorem dXR_add_19 : decode cXR_add 19 = .ok (.iand, 1) := by decide +kernel
theorem dXR_add_20 : decode cXR_add 20 = .ok (.istore 5, 2) := by decide +kernel
theorem dXR_add_22 : decode cXR_add 22 = .ok (.iload_n 3, 1) := by decide +kernel
theorem dXR_add_23 : decode cXR_add 23 = .ok (.ifCond .eq 14, 3) := by decide +kernel
theorem dXR_add_26 : decode cXR_add 26 = .ok (.iload_n 1, 1) := by decide +kernel
theorem dXR_add_27 : decode cXR_add 27 = .ok (.iload_n 2, 1) := by decide +kernel
theorem dXR_add_28 : decode cXR_add 28 = .ok (.ixor, 1) := by decide +kernel
theorem dXR_add_29 : decode cXR_add 29 = .ok (.iload_n 1, 1) := by decide +kernel
theorem dXR_add_30 : decode cXR_add 30 = .ok (.iload 5, 2) := by decide +kernel
theorem dXR_add_32 : decode cXR_add 32 = .ok (.ixor, 1) := by decide +kernel
theorem dXR_add_33 : decode cXR_add 33 = .ok (.iand, 1) := by decide +kernel
theorem dXR_add_34 : decode cXR_add 34 = .ok (.goto 13, 3) := by decide +kernel
theorem dXR_add_37 : decode cXR_add 37 = .ok (.iload_n 1, 1) := by decide +kernel
theorem dXR_add_38 : decode cXR_add 38 = .ok (.iload_n 2, 1) := by decide +kernel
theorem dXR_add_39 : decode cXR_add 39 = .ok (.ixor, 1) := by decide +kernel
theorem dXR_add_40 : decode cXR_add 40 = .ok (.iconst (-1), 1) := by decide +kernel
theorem dXR_add_41 : decode cXR_add 41 = .ok (.ixor, 1) := by decide +kernel
theorem dXR_add_42 : decode cXR_add 42 = .ok (.iload_n 1, 1) := by decide +kernel
theorem dXR_add_43 : decode cXR_add 43 = .ok (.iload 5, 2) := by decide +kernel
theorem dXR_add_45 : decode cXR_add 45 = .ok (.ixor, 1) := by decide +kernel
theorem dXR_add_46 : decode cXR_add 46 = .ok (.iand, 1) := by decide +kernel
theorem dXR_add_47 : decode cXR_add 47 = .ok (.istore 6, 2) := by decide +kernel
theorem dXR_add_49 : decode cXR_add 49 = .ok (.aload_n 0, 1) := by decide +kernel
theorem dXR_add_50 : decode cXR_add 50 = .ok (.iload 5, 2) := by decide +kernel
theorem dXR_add_52 : decode cXR_add 52 = .ok (.ldc 178, 2) := by decide +kernel
theorem dXR_add_54 : decode cXR_add 54 = .ok (.if_icmp .lt 7, 3) := by decide +kernel
theorem dXR_add_57 : decode cXR_add 57 = .ok (.iconst 1, 1) := by decide +kernel
theorem dXR_add_58 : decode cXR_add 58 = .ok (.goto 4, 3) := by decide +kernel
theorem dXR_add_61 : decode cXR_add 61 = .ok (.iconst 0, 1) := by decide +kernel
theorem dXR_add_62 : decode cXR_add 62 = .ok (.putfield 166, 3) := by decide +kernel
theorem dXR_add_65 : decode cXR_add 65 = .ok (.aload_n 0, 1) := by decide +kernel
theorem dXR_add_66 : decode cXR_add 66 = .ok (.iload 5, 2) := by decide +kernel
theorem dXR_add_68 : decode cXR_add 68 = .ok (.ifCond .ne 7, 3) := by decide +kernel
theorem dXR_add_71 : decode cXR_add 71 = .ok (.iconst 1, 1) := by decide +kernel
theorem dXR_add_72 : decode cXR_add 72 = .ok (.goto 4, 3) := by decide +kernel
theorem dXR_add_75 : decode cXR_add 75 = .ok (.iconst 0, 1) := by decide +kernel
theorem dXR_add_76 : decode cXR_add 76 = .ok (.putfield 169, 3) := by decide +kernel
theorem dXR_add_79 : decode cXR_add 79 = .ok (.aload_n 0, 1) := by decide +kernel
theorem dXR_add_80 : decode cXR_add 80 = .ok (.iload 6, 2) := by decide +kernel
theorem dXR_add_82 : decode cXR_add 82 = .ok (.ldc 178, 2) := by decide +kernel
theorem dXR_add_84 : decode cXR_add 84 = .ok (.iand, 1) := by decide +kernel
theorem dXR_add_85 : decode cXR_add 85 = .ok (.ifCond .eq 7, 3) := by decide +kernel
theorem dXR_add_88 : decode cXR_add 88 = .ok (.iconst 1, 1) := by decide +kernel
theorem dXR_add_89 : decode cXR_add 89 = .ok (.goto 4, 3) := by decide +kernel
theorem dXR_add_92 : decode cXR_add 92 = .ok (.iconst 0, 1) := by decide +kernel
theorem dXR_add_93 : decode cXR_add 93 = .ok (.putfield 172, 3) := by decide +kernel
theorem dXR_add_96 : decode cXR_add 96 = .ok (.aload_n 0, 1) := by decide +kernel
theorem dXR_add_97 : decode cXR_add 97 = .ok (.iload 4, 2) := by decide +kernel
theorem dXR_add_99 : decode cXR_add 99 = .ok (.ifCond .lt 10, 3) := by decide +kernel
theorem dXR_add_102 : decode cXR_add 102 = .ok (.iload 4, 2) := by decide +kernel
theorem dXR_add_104 : decode cXR_add 104 = .ok (.ldc 131, 2) := by decide +kernel
theorem dXR_add_106 : decode cXR_add 106 = .ok (.if_icmp .le 7, 3) := by decide +kernel
theorem dXR_add_109 : decode cXR_add 109 = .ok (.iconst 1, 1) := by decide +kernel
theorem dXR_add_110 : decode cXR_add 110 = .ok (.goto 4, 3) := by decide +kernel
theorem dXR_add_113 : decode cXR_add 113 = .ok (.iconst 0, 1) := by decide +kernel
theorem dXR_add_114 : decode cXR_add 114 = .ok (.putfield 175, 3) := by decide +kernel
theorem dXR_add_117 : decode cXR_add 117 = .ok (.iload 5, 2) := by decide +kernel
theorem dXR_add_119 : decode cXR_add 119 = .ok (.ireturn, 1) := by decide +kernel
theorem dXR_holds_0 : decode cXR_holds 0 = .ok (.iload_n 1, 1) := by decide +kernel
theorem dXR_holds_1 : decode cXR_holds 1 = .ok (.tableswitch 119 0 11 #[63, 119, 119, 119, 88, 83, 70, 65, 119, 119, 106, 101], 63) := by decide +kernel
theorem dXR_holds_64 : decode cXR_holds 64 = .ok (.iconst 1, 1) := by decide +kernel
theorem dXR_holds_65 : decode cXR_holds 65 = .ok (.ireturn, 1) := by decide +kernel
theorem dXR_holds_66 : decode cXR_holds 66 = .ok (.aload_n 0, 1) := by decide +kernel
theorem dXR_holds_67 : decode cXR_holds 67 = .ok (.getfield 169, 3) := by decide +kernel
theorem dXR_holds_70 : decode cXR_holds 70 = .ok (.ireturn, 1) := by decide +kernel
theorem dXR_holds_71 : decode cXR_holds 71 = .ok (.aload_n 0, 1) := by decide +kernel
theorem dXR_holds_72 : decode cXR_holds 72 = .ok (.getfield 169, 3) := by decide +kernel
theorem dXR_holds_75 : decode cXR_holds 75 = .ok (.ifCond .ne 7, 3) := by decide +kernel
theorem dXR_holds_78 : decode cXR_holds 78 = .ok (.iconst 1, 1) := by decide +kernel
theorem dXR_holds_79 : decode cXR_holds 79 = .ok (.goto 4, 3) := by decide +kernel
theorem dXR_holds_82 : decode cXR_holds 82 = .ok (.iconst 0, 1) := by decide +kernel
theorem dXR_holds_83 : decode cXR_holds 83 = .ok (.ireturn, 1) := by decide +kernel
theorem dXR_holds_84 : decode cXR_holds 84 = .ok (.aload_n 0, 1) := by decide +kernel
theorem dXR_holds_85 : decode cXR_holds 85 = .ok (.getfield 175, 3) := by decide +kernel
theorem dXR_holds_88 : decode cXR_holds 88 = .ok (.ireturn, 1) := by decide +kernel
theorem dXR_holds_89 : decode cXR_holds 89 = .ok (.aload_n 0, 1) := by decide +kernel
theorem dXR_holds_90 : decode cXR_holds 90 = .ok (.getfield 175, 3) := by decide +kernel
theorem dXR_holds_93 : decode cXR_holds 93 = .ok (.ifCond .ne 7, 3) := by decide +kernel
theorem dXR_holds_96 : decode cXR_holds 96 = .ok (.iconst 1, 1) := by decide +kernel
theorem dXR_holds_97 : decode cXR_holds 97 = .ok (.goto 4, 3) := by decide +kernel
theorem dXR_holds_100 : decode cXR_holds 100 = .ok (.iconst 0, 1) := by decide +kernel
theorem dXR_holds_101 : decode cXR_holds 101 = .ok (.ireturn, 1) := by decide +kernel
theorem dXR_holds_102 : decode cXR_holds 102 = .ok (.aload_n 0, 1) := by decide +kernel
theorem dXR_holds_103 : decode cXR_holds 103 = .ok (.getfield 166, 3) := by decide +kernel
theorem dXR_holds_106 : decode cXR_holds 106 = .ok (.ireturn, 1) := by decide +kernel
theorem dXR_holds_107 : decode cXR_holds 107 = .ok (.aload_n 0, 1) := by decide +kernel
theorem dXR_holds_108 : decode cXR_holds 108 = .ok (.getfield 166, 3) := by decide +kernel
theorem dXR_holds_111 : decode cXR_holds 111 = .ok (.ifCond .ne 7, 3) := by decide +kernel
theorem dXR_holds_114 : decode cXR_holds 114 = .ok (.iconst 1, 1) := by decide +kernel
theorem dXR_holds_115 : decode cXR_holds 115 = .ok (.goto 4, 3) := by decide +kernel
theorem dXR_holds_118 : decode cXR_holds 118 = .ok (.iconst 0, 1) := by decide +kernel
theorem dXR_holds_119 : decode cXR_holds 119 = .ok (.ireturn, 1) := by decide +kernel
theorem dXR_holds_120 : decode cXR_holds 120 = .ok (.iconst 0, 1) := by decide +kernel
theorem dXR_holds_121 : decode cXR_holds 121 = .ok (.ireturn, 1) := by decide +kernel
theorem dXR_branch_0 : decode cXR_branch 0 = .ok (.iload_n 1, 1) := by decide +kernel
theorem dXR_branch_1 : decode cXR_branch 1 = .ok (.bipush 8, 2) := by decide +kernel
theorem dXR_branch_3 : decode cXR_branch 3 = .ok (.ishr, 1) := by decide +kernel
theorem dXR_branch_4 : decode cXR_branch 4 = .ok (.bipush 15, 2) := by decide +kernel
theorem dXR_branch_6 : decode cXR_branch 6 = .ok (.iand, 1) := by decide +kernel
theorem dXR_branch_7 : decode cXR_branch 7 = .ok (.istore_n 2, 1) := by decide +kernel
theorem dXR_branch_8 : decode cXR_branch 8 = .ok (.iload_n 1, 1) := by decide +kernel
theorem dXR_branch_9 : decode cXR_branch 9 = .ok (.sipush 255, 3) := by decide +kernel
theorem dXR_branch_12 : decode cXR_branch 12 = .ok (.iand, 1) := by decide +kernel
theorem dXR_branch_13 : decode cXR_branch 13 = .ok (.ifCond .ne 5, 3) := by decide +kernel
theorem dXR_branch_16 : decode cXR_branch 16 = .ok (.iconst (-1), 1) := by decide +kernel
theorem dXR_branch_17 : decode cXR_branch 17 = .ok (.ireturn, 1) := by decide +kernel
theorem dXR_branch_18 : decode cXR_branch 18 = .ok (.aload_n 0, 1) := by decide +kernel
theorem dXR_branch_19 : decode cXR_branch 19 = .ok (.iload_n 2, 1) := by decide +kernel
theorem dXR_branch_20 : decode cXR_branch 20 = .ok (.invokevirtual 193, 3) := by decide +kernel
theorem dXR_branch_23 : decode cXR_branch 23 = .ok (.ifCond .ne 6, 3) := by decide +kernel
theorem dXR_branch_26 : decode cXR_branch 26 = .ok (.bipush 8, 2) := by decide +kernel
theorem dXR_branch_28 : decode cXR_branch 28 = .ok (.ireturn, 1) := by decide +kernel
theorem dXR_branch_29 : decode cXR_branch 29 = .ok (.iload_n 1, 1) := by decide +kernel
theorem dXR_branch_30 : decode cXR_branch 30 = .ok (.sipush 255, 3) := by decide +kernel
theorem dXR_branch_33 : decode cXR_branch 33 = .ok (.iand, 1) := by decide +kernel
theorem dXR_branch_34 : decode cXR_branch 34 = .ok (.istore_n 3, 1) := by decide +kernel
theorem dXR_branch_35 : decode cXR_branch 35 = .ok (.aload_n 0, 1) := by decide +kernel
theorem dXR_branch_36 : decode cXR_branch 36 = .ok (.aload_n 0, 1) := by decide +kernel
theorem dXR_branch_37 : decode cXR_branch 37 = .ok (.getfield 180, 3) := by decide +kernel
theorem dXR_branch_40 : decode cXR_branch 40 = .ok (.iload_n 3, 1) := by decide +kernel
theorem dXR_branch_41 : decode cXR_branch 41 = .ok (.bipush 127, 2) := by decide +kernel
theorem dXR_branch_43 : decode cXR_branch 43 = .ok (.if_icmp .le 11, 3) := by decide +kernel
theorem dXR_branch_46 : decode cXR_branch 46 = .ok (.iload_n 3, 1) := by decide +kernel
theorem dXR_branch_47 : decode cXR_branch 47 = .ok (.sipush 256, 3) := by decide +kernel
theorem dXR_branch_50 : decode cXR_branch 50 = .ok (.isub, 1) := by decide +kernel
theorem dXR_branch_51 : decode cXR_branch 51 = .ok (.goto 4, 3) := by decide +kernel
theorem dXR_branch_54 : decode cXR_branch 54 = .ok (.iload_n 3, 1) := by decide +kernel
theorem dXR_branch_55 : decode cXR_branch 55 = .ok (.iadd, 1) := by decide +kernel
theorem dXR_branch_56 : decode cXR_branch 56 = .ok (.ldc 131, 2) := by decide +kernel
theorem dXR_branch_58 : decode cXR_branch 58 = .ok (.iand, 1) := by decide +kernel
theorem dXR_branch_59 : decode cXR_branch 59 = .ok (.putfield 180, 3) := by decide +kernel
theorem dXR_branch_62 : decode cXR_branch 62 = .ok (.bipush 10, 2) := by decide +kernel
theorem dXR_branch_64 : decode cXR_branch 64 = .ok (.ireturn, 1) := by decide +kernel
theorem dXR_move_0 : decode cXR_move 0 = .ok (.iload_n 1, 1) := by decide +kernel
theorem dXR_move_1 : decode cXR_move 1 = .ok (.bipush 9, 2) := by decide +kernel
theorem dXR_move_3 : decode cXR_move 3 = .ok (.ishr, 1) := by decide +kernel
theorem dXR_move_4 : decode cXR_move 4 = .ok (.bipush 7, 2) := by decide +kernel
theorem dXR_move_6 : decode cXR_move 6 = .ok (.iand, 1) := by decide +kernel
theorem dXR_move_7 : decode cXR_move 7 = .ok (.istore_n 2, 1) := by decide +kernel
theorem dXR_move_8 : decode cXR_move 8 = .ok (.iload_n 1, 1) := by decide +kernel
theorem dXR_move_9 : decode cXR_move 9 = .ok (.bipush 7, 2) := by decide +kernel
theorem dXR_move_11 : decode cXR_move 11 = .ok (.iand, 1) := by decide +kernel
theorem dXR_move_12 : decode cXR_move 12 = .ok (.istore_n 3, 1) := by decide +kernel
theorem dXR_move_13 : decode cXR_move 13 = .ok (.iload_n 1, 1) := by decide +kernel
theorem dXR_move_14 : decode cXR_move 14 = .ok (.ldc 197, 2) := by decide +kernel
theorem dXR_move_16 : decode cXR_move 16 = .ok (.iand, 1) := by decide +kernel
theorem dXR_move_17 : decode cXR_move 17 = .ok (.istore 4, 2) := by decide +kernel
theorem dXR_move_19 : decode cXR_move 19 = .ok (.iload_n 1, 1) := by decide +kernel
theorem dXR_move_20 : decode cXR_move 20 = .ok (.ldc 198, 2) := by decide +kernel
theorem dXR_move_22 : decode cXR_move 22 = .ok (.iand, 1) := by decide +kernel
theorem dXR_move_23 : decode cXR_move 23 = .ok (.sipush 28672, 3) := by decide +kernel
theorem dXR_move_26 : decode cXR_move 26 = .ok (.if_icmp .ne 82, 3) := by decide +kernel
theorem dXR_move_29 : decode cXR_move 29 = .ok (.iload_n 1, 1) := by decide +kernel
theorem dXR_move_30 : decode cXR_move 30 = .ok (.sipush 255, 3) := by decide +kernel
theorem dXR_move_33 : decode cXR_move 33 = .ok (.iand, 1) := by decide +kernel
theorem dXR_move_34 : decode cXR_move 34 = .ok (.istore 5, 2) := by decide +kernel
theorem dXR_move_36 : decode cXR_move 36 = .ok (.aload_n 0, 1) := by decide +kernel
theorem dXR_move_37 : decode cXR_move 37 = .ok (.getfield 16, 3) := by decide +kernel
theorem dXR_move_40 : decode cXR_move 40 = .ok (.iload_n 2, 1) := by decide +kernel
theorem dXR_move_41 : decode cXR_move 41 = .ok (.iload 5, 2) := by decide +kernel
theorem dXR_move_43 : decode cXR_move 43 = .ok (.bipush 127, 2) := by decide +kernel
theorem dXR_move_45 : decode cXR_move 45 = .ok (.if_icmp .le 12, 3) := by decide +kernel
theorem dXR_move_48 : decode cXR_move 48 = .ok (.iload 5, 2) := by decide +kernel
theorem dXR_move_50 : decode cXR_move 50 = .ok (.sipush 256, 3) := by decide +kernel
theorem dXR_move_53 : decode cXR_move 53 = .ok (.isub, 1) := by decide +kernel
theorem dXR_move_54 : decode cXR_move 54 = .ok (.goto 5, 3) := by decide +kernel
theorem dXR_move_57 : decode cXR_move 57 = .ok (.iload 5, 2) := by decide +kernel
theorem dXR_move_59 : decode cXR_move 59 = .ok (.iastore, 1) := by decide +kernel
theorem dXR_move_60 : decode cXR_move 60 = .ok (.aload_n 0, 1) := by decide +kernel
theorem dXR_move_61 : decode cXR_move 61 = .ok (.aload_n 0, 1) := by decide +kernel
theorem dXR_move_62 : decode cXR_move 62 = .ok (.getfield 16, 3) := by decide +kernel
theorem dXR_move_65 : decode cXR_move 65 = .ok (.iload_n 2, 1) := by decide +kernel
theorem dXR_move_66 : decode cXR_move 66 = .ok (.iaload, 1) := by decide +kernel
theorem dXR_move_67 : decode cXR_move 67 = .ok (.ifCond .ge 7, 3) := by decide +kernel
theorem dXR_move_70 : decode cXR_move 70 = .ok (.iconst 1, 1) := by decide +kernel
theorem dXR_move_71 : decode cXR_move 71 = .ok (.goto 4, 3) := by decide +kernel
theorem dXR_move_74 : decode cXR_move 74 = .ok (.iconst 0, 1) := by decide +kernel
theorem dXR_move_75 : decode cXR_move 75 = .ok (.putfield 166, 3) := by decide +kernel
theorem dXR_move_78 : decode cXR_move 78 = .ok (.aload_n 0, 1) := by decide +kernel
theorem dXR_move_79 : decode cXR_move 79 = .ok (.aload_n 0, 1) := by decide +kernel
theorem dXR_move_80 : decode cXR_move 80 = .ok (.getfield 16, 3) := by decide +kernel
theorem dXR_move_83 : decode cXR_move 83 = .ok (.iload_n 2, 1) := by decide +kernel
theorem dXR_move_84 : decode cXR_move 84 = .ok (.iaload, 1) := by decide +kernel
theorem dXR_move_85 : decode cXR_move 85 = .ok (.ifCond .ne 7, 3) := by decide +kernel
theorem dXR_move_88 : decode cXR_move 88 = .ok (.iconst 1, 1) := by decide +kernel
theorem dXR_move_89 : decode cXR_move 89 = .ok (.goto 4, 3) := by decide +kernel
theorem dXR_move_92 : decode cXR_move 92 = .ok (.iconst 0, 1) := by decide +kernel
theorem dXR_move_93 : decode cXR_move 93 = .ok (.putfield 169, 3) := by decide +kernel
theorem dXR_move_96 : decode cXR_move 96 = .ok (.aload_n 0, 1) := by decide +kernel
theorem dXR_move_97 : decode cXR_move 97 = .ok (.iconst 0, 1) := by decide +kernel
theorem dXR_move_98 : decode cXR_move 98 = .ok (.putfield 172, 3) := by decide +kernel
theorem dXR_move_101 : decode cXR_move 101 = .ok (.aload_n 0, 1) := by decide +kernel
theorem dXR_move_102 : decode cXR_move 102 = .ok (.iconst 0, 1) := by decide +kernel
theorem dXR_move_103 : decode cXR_move 103 = .ok (.putfield 175, 3) := by decide +kernel
theorem dXR_move_106 : decode cXR_move 106 = .ok (.iconst 4, 1) := by decide +kernel
theorem dXR_move_107 : decode cXR_move 107 = .ok (.ireturn, 1) := by decide +kernel
theorem dXR_move_108 : decode cXR_move 108 = .ok (.iload 4, 2) := by decide +kernel
theorem dXR_move_110 : decode cXR_move 110 = .ok (.sipush 12288, 3) := by decide +kernel
theorem dXR_move_113 : decode cXR_move 113 = .ok (.if_icmp .ne 32, 3) := by decide +kernel
theorem dXR_move_116 : decode cXR_move 116 = .ok (.aload_n 0, 1) := by decide +kernel
theorem dXR_move_117 : decode cXR_move 117 = .ok (.iload_n 2, 1) := by decide +kernel
theorem dXR_move_118 : decode cXR_move 118 = .ok (.aload_n 0, 1) := by decide +kernel
theorem dXR_move_119 : decode cXR_move 119 = .ok (.getfield 16, 3) := by decide +kernel
theorem dXR_move_122 : decode cXR_move 122 = .ok (.iload_n 3, 1) := by decide +kernel
theorem dXR_move_123 : decode cXR_move 123 = .ok (.iaload, 1) := by decide +kernel
theorem dXR_move_124 : decode cXR_move 124 = .ok (.ldc 131, 2) := by decide +kernel
theorem dXR_move_126 : decode cXR_move 126 = .ok (.iand, 1) := by decide +kernel
theorem dXR_move_127 : decode cXR_move 127 = .ok (.invokevirtual 199, 3) := by decide +kernel
theorem dXR_move_130 : decode cXR_move 130 = .ok (.aload_n 0, 1) := by decide +kernel
theorem dXR_move_131 : decode cXR_move 131 = .ok (.aload_n 0, 1) := by decide +kernel
theorem dXR_move_132 : decode cXR_move 132 = .ok (.getfield 16, 3) := by decide +kernel
theorem dXR_move_135 : decode cXR_move 135 = .ok (.iload_n 3, 1) := by decide +kernel
theorem dXR_move_136 : decode cXR_move 136 = .ok (.iaload, 1) := by decide +kernel
theorem dXR_move_137 : decode cXR_move 137 = .ok (.ldc 131, 2) := by decide +kernel
theorem dXR_move_139 : decode cXR_move 139 = .ok (.iand, 1) := by decide +kernel
theorem dXR_move_140 : decode cXR_move 140 = .ok (.invokevirtual 202, 3) := by decide +kernel
theorem dXR_move_143 : decode cXR_move 143 = .ok (.iconst 4, 1) := by decide +kernel
theorem dXR_move_144 : decode cXR_move 144 = .ok (.ireturn, 1) := by decide +kernel
theorem dXR_move_145 : decode cXR_move 145 = .ok (.iload 4, 2) := by decide +kernel
theorem dXR_move_147 : decode cXR_move 147 = .ok (.sipush 12344, 3) := by decide +kernel
theorem dXR_move_150 : decode cXR_move 150 = .ok (.if_icmp .ne 33, 3) := by decide +kernel
theorem dXR_move_153 : decode cXR_move 153 = .ok (.iload_n 3, 1) := by decide +kernel
theorem dXR_move_154 : decode cXR_move 154 = .ok (.ifCond .ne 29, 3) := by decide +kernel
theorem dXR_move_157 : decode cXR_move 157 = .ok (.aload_n 0, 1) := by decide +kernel
theorem dXR_move_158 : decode cXR_move 158 = .ok (.aload_n 0, 1) := by decide +kernel
theorem dXR_move_159 : decode cXR_move 159 = .ok (.invokevirtual 205, 3) := by decide +kernel
theorem dXR_move_162 : decode cXR_move 162 = .ok (.invokevirtual 208, 3) := by decide +kernel
theorem dXR_move_165 : decode cXR_move 165 = .ok (.istore 5, 2) := by decide +kernel
theorem dXR_move_167 : decode cXR_move 167 = .ok (.aload_n 0, 1) := by decide +kernel
theorem dXR_move_168 : decode cXR_move 168 = .ok (.iload_n 2, 1) := by decide +kernel
theorem dXR_move_169 : decode cXR_move 169 = .ok (.iload 5, 2) := by decide +kernel
theorem dXR_move_171 : decode cXR_move 171 = .ok (.invokevirtual 199, 3) := by decide +kernel
theorem dXR_move_174 : decode cXR_move 174 = .ok (.aload_n 0, 1) := by decide +kernel
theorem dXR_move_175 : decode cXR_move 175 = .ok (.iload 5, 2) := by decide +kernel
theorem dXR_move_177 : decode cXR_move 177 = .ok (.invokevirtual 202, 3) := by decide +kernel
theorem dXR_move_180 : decode cXR_move 180 = .ok (.bipush 12, 2) := by decide +kernel
theorem dXR_move_182 : decode cXR_move 182 = .ok (.ireturn, 1) := by decide +kernel
theorem dXR_move_183 : decode cXR_move 183 = .ok (.iload_n 1, 1) := by decide +kernel
theorem dXR_move_184 : decode cXR_move 184 = .ok (.sipush 12736, 3) := by decide +kernel
theorem dXR_move_187 : decode cXR_move 187 = .ok (.if_icmp .lt 40, 3) := by decide +kernel
theorem dXR_move_190 : decode cXR_move 190 = .ok (.iload_n 1, 1) := by decide +kernel
theorem dXR_move_191 : decode cXR_move 191 = .ok (.sipush 12744, 3) := by decide +kernel
theorem dXR_move_194 : decode cXR_move 194 = .ok (.if_icmp .ge 33, 3) := by decide +kernel
theorem dXR_move_197 : decode cXR_move 197 = .ok (.aload_n 0, 1) := by decide +kernel
theorem dXR_move_198 : decode cXR_move 198 = .ok (.getfield 16, 3) := by decide +kernel
theorem dXR_move_201 : decode cXR_move 201 = .ok (.iload_n 3, 1) := by decide +kernel
theorem dXR_move_202 : decode cXR_move 202 = .ok (.iaload, 1) := by decide +kernel
theorem dXR_move_203 : decode cXR_move 203 = .ok (.ldc 131, 2) := by decide +kernel
theorem dXR_move_205 : decode cXR_move 205 = .ok (.iand, 1) := by decide +kernel
theorem dXR_move_206 : decode cXR_move 206 = .ok (.istore 5, 2) := by decide +kernel
theorem dXR_move_208 : decode cXR_move 208 = .ok (.aload_n 0, 1) := by decide +kernel
theorem dXR_move_209 : decode cXR_move 209 = .ok (.aload_n 0, 1) := by decide +kernel
theorem dXR_move_210 : decode cXR_move 210 = .ok (.invokevirtual 205, 3) := by decide +kernel
theorem dXR_move_213 : decode cXR_move 213 = .ok (.iload 5, 2) := by decide +kernel
theorem dXR_move_215 : decode cXR_move 215 = .ok (.invokevirtual 189, 3) := by decide +kernel
theorem dXR_move_218 : decode cXR_move 218 = .ok (.aload_n 0, 1) := by decide +kernel
theorem dXR_move_219 : decode cXR_move 219 = .ok (.iload 5, 2) := by decide +kernel
theorem dXR_move_221 : decode cXR_move 221 = .ok (.invokevirtual 202, 3) := by decide +kernel
theorem dXR_move_224 : decode cXR_move 224 = .ok (.bipush 12, 2) := by decide +kernel
theorem dXR_move_226 : decode cXR_move 226 = .ok (.ireturn, 1) := by decide +kernel
theorem dXR_move_227 : decode cXR_move 227 = .ok (.iload_n 1, 1) := by decide +kernel
theorem dXR_move_228 : decode cXR_move 228 = .ok (.sipush 12796, 3) := by decide +kernel
theorem dXR_move_231 : decode cXR_move 231 = .ok (.if_icmp .ne 28, 3) := by decide +kernel
theorem dXR_move_234 : decode cXR_move 234 = .ok (.aload_n 0, 1) := by decide +kernel
theorem dXR_move_235 : decode cXR_move 235 = .ok (.invokevirtual 205, 3) := by decide +kernel
theorem dXR_move_238 : decode cXR_move 238 = .ok (.istore 5, 2) := by decide +kernel
theorem dXR_move_240 : decode cXR_move 240 = .ok (.aload_n 0, 1) := by decide +kernel
theorem dXR_move_241 : decode cXR_move 241 = .ok (.aload_n 0, 1) := by decide +kernel
theorem dXR_move_242 : decode cXR_move 242 = .ok (.invokevirtual 205, 3) := by decide +kernel
theorem dXR_move_245 : decode cXR_move 245 = .ok (.iload 5, 2) := by decide +kernel
theorem dXR_move_247 : decode cXR_move 247 = .ok (.invokevirtual 189, 3) := by decide +kernel
theorem dXR_move_250 : decode cXR_move 250 = .ok (.aload_n 0, 1) := by decide +kernel
theorem dXR_move_251 : decode cXR_move 251 = .ok (.iload 5, 2) := by decide +kernel
theorem dXR_move_253 : decode cXR_move 253 = .ok (.invokevirtual 202, 3) := by decide +kernel
theorem dXR_move_256 : decode cXR_move 256 = .ok (.bipush 16, 2) := by decide +kernel
theorem dXR_move_258 : decode cXR_move 258 = .ok (.ireturn, 1) := by decide +kernel
theorem dXR_move_259 : decode cXR_move 259 = .ok (.iload 4, 2) := by decide +kernel
theorem dXR_move_261 : decode cXR_move 261 = .ok (.ldc 211, 2) := by decide +kernel
theorem dXR_move_263 : decode cXR_move 263 = .ok (.if_icmp .ne 33, 3) := by decide +kernel
theorem dXR_move_266 : decode cXR_move 266 = .ok (.aload_n 0, 1) := by decide +kernel
theorem dXR_move_267 : decode cXR_move 267 = .ok (.iload_n 2, 1) := by decide +kernel
theorem dXR_move_268 : decode cXR_move 268 = .ok (.aload_n 0, 1) := by decide +kernel
theorem dXR_move_269 : decode cXR_move 269 = .ok (.aload_n 0, 1) := by decide +kernel
theorem dXR_move_270 : decode cXR_move 270 = .ok (.getfield 16, 3) := by decide +kernel
theorem dXR_move_273 : decode cXR_move 273 = .ok (.iload_n 2, 1) := by decide +kernel
theorem dXR_move_274 : decode cXR_move 274 = .ok (.iaload, 1) := by decide +kernel
theorem dXR_move_275 : decode cXR_move 275 = .ok (.ldc 131, 2) := by decide +kernel
theorem dXR_move_277 : decode cXR_move 277 = .ok (.iand, 1) := by decide +kernel
theorem dXR_move_278 : decode cXR_move 278 = .ok (.aload_n 0, 1) := by decide +kernel
theorem dXR_move_279 : decode cXR_move 279 = .ok (.getfield 16, 3) := by decide +kernel
theorem dXR_move_282 : decode cXR_move 282 = .ok (.iload_n 3, 1) := by decide +kernel
theorem dXR_move_283 : decode cXR_move 283 = .ok (.iaload, 1) := by decide +kernel
theorem dXR_move_284 : decode cXR_move 284 = .ok (.ldc 131, 2) := by decide +kernel
theorem dXR_move_286 : decode cXR_move 286 = .ok (.iand, 1) := by decide +kernel
theorem dXR_move_287 : decode cXR_move 287 = .ok (.iconst 0, 1) := by decide +kernel
theorem dXR_move_288 : decode cXR_move 288 = .ok (.invokevirtual 212, 3) := by decide +kernel
theorem dXR_move_291 : decode cXR_move 291 = .ok (.invokevirtual 199, 3) := by decide +kernel
theorem dXR_move_294 : decode cXR_move 294 = .ok (.iconst 4, 1) := by decide +kernel
theorem dXR_move_295 : decode cXR_move 295 = .ok (.ireturn, 1) := by decide +kernel
theorem dXR_move_296 : decode cXR_move 296 = .ok (.iload 4, 2) := by decide +kernel
theorem dXR_move_298 : decode cXR_move 298 = .ok (.ldc 216, 2) := by decide +kernel
theorem dXR_move_300 : decode cXR_move 300 = .ok (.if_icmp .ne 30, 3) := by decide +kernel
theorem dXR_move_303 : decode cXR_move 303 = .ok (.aload_n 0, 1) := by decide +kernel
theorem dXR_move_304 : decode cXR_move 304 = .ok (.aload_n 0, 1) := by decide +kernel
theorem dXR_move_305 : decode cXR_move 305 = .ok (.getfield 16, 3) := by decide +kernel
theorem dXR_move_308 : decode cXR_move 308 = .ok (.iload_n 2, 1) := by decide +kernel
theorem dXR_move_309 : decode cXR_move 309 = .ok (.iaload, 1) := by decide +kernel
theorem dXR_move_310 : decode cXR_move 310 = .ok (.ldc 131, 2) := by decide +kernel
theorem dXR_move_312 : decode cXR_move 312 = .ok (.iand, 1) := by decide +kernel
theorem dXR_move_313 : decode cXR_move 313 = .ok (.aload_n 0, 1) := by decide +kernel
theorem dXR_move_314 : decode cXR_move 314 = .ok (.getfield 16, 3) := by decide +kernel
theorem dXR_move_317 : decode cXR_move 317 = .ok (.iload_n 3, 1) := by decide +kernel
theorem dXR_move_318 : decode cXR_move 318 = .ok (.iaload, 1) := by decide +kernel
theorem dXR_move_319 : decode cXR_move 319 = .ok (.ldc 131, 2) := by decide +kernel
theorem dXR_move_321 : decode cXR_move 321 = .ok (.iand, 1) := by decide +kernel
theorem dXR_move_322 : decode cXR_move 322 = .ok (.iconst 1, 1) := by decide +kernel
theorem dXR_move_323 : decode cXR_move 323 = .ok (.invokevirtual 212, 3) := by decide +kernel
theorem dXR_move_326 : decode cXR_move 326 = .ok (.istore 5, 2) := by decide +kernel
theorem dXR_move_328 : decode cXR_move 328 = .ok (.iconst 4, 1) := by decide +kernel
theorem dXR_move_329 : decode cXR_move 329 = .ok (.ireturn, 1) := by decide +kernel
theorem dXR_move_330 : decode cXR_move 330 = .ok (.iconst (-1), 1) := by decide +kernel
theorem dXR_move_331 : decode cXR_move 331 = .ok (.ireturn, 1) := by decide +kernel
theorem dXR_control2_0 : decode cXR_control2 0 = .ok (.iload_n 1, 1) := by decide +kernel
theorem dXR_control2_1 : decode cXR_control2 1 = .ok (.sipush 20081, 3) := by decide +kernel
theorem dXR_control2_4 : decode cXR_control2 4 = .ok (.if_icmp .ne 5, 3) := by decide +kernel
theorem dXR_control2_7 : decode cXR_control2 7 = .ok (.iconst 4, 1) := by decide +kernel
theorem dXR_control2_8 : decode cXR_control2 8 = .ok (.ireturn, 1) := by decide +kernel
theorem dXR_control2_9 : decode cXR_control2 9 = .ok (.iload_n 1, 1) := by decide +kernel
theorem dXR_control2_10 : decode cXR_control2 10 = .ok (.sipush 20083, 3) := by decide +kernel
theorem dXR_control2_13 : decode cXR_control2 13 = .ok (.if_icmp .ne 51, 3) := by decide +kernel
theorem dXR_control2_16 : decode cXR_control2 16 = .ok (.aload_n 0, 1) := by decide +kernel
theorem dXR_control2_17 : decode cXR_control2 17 = .ok (.aload_n 0, 1) := by decide +kernel
theorem dXR_control2_18 : decode cXR_control2 18 = .ok (.getfield 183, 3) := by decide +kernel
theorem dXR_control2_21 : decode cXR_control2 21 = .ok (.invokevirtual 76, 3) := by decide +kernel
theorem dXR_control2_24 : decode cXR_control2 24 = .ok (.istore_n 2, 1) := by decide +kernel
theorem dXR_control2_25 : decode cXR_control2 25 = .ok (.aload_n 0, 1) := by decide +kernel
theorem dXR_control2_26 : decode cXR_control2 26 = .ok (.aload_n 0, 1) := by decide +kernel
theorem dXR_control2_27 : decode cXR_control2 27 = .ok (.aload_n 0, 1) := by decide +kernel
theorem dXR_control2_28 : decode cXR_control2 28 = .ok (.getfield 183, 3) := by decide +kernel
theorem dXR_control2_31 : decode cXR_control2 31 = .ok (.iconst 4, 1) := by decide +kernel
theorem dXR_control2_32 : decode cXR_control2 32 = .ok (.iadd, 1) := by decide +kernel
theorem dXR_control2_33 : decode cXR_control2 33 = .ok (.ldc 131, 2) := by decide +kernel
theorem dXR_control2_35 : decode cXR_control2 35 = .ok (.iand, 1) := by decide +kernel
theorem dXR_control2_36 : decode cXR_control2 36 = .ok (.invokevirtual 76, 3) := by decide +kernel
theorem dXR_control2_39 : decode cXR_control2 39 = .ok (.putfield 180, 3) := by decide +kernel
theorem dXR_control2_42 : decode cXR_control2 42 = .ok (.aload_n 0, 1) := by decide +kernel
theorem dXR_control2_43 : decode cXR_control2 43 = .ok (.aload_n 0, 1) := by decide +kernel
theorem dXR_control2_44 : decode cXR_control2 44 = .ok (.getfield 183, 3) := by decide +kernel
theorem dXR_control2_47 : decode cXR_control2 47 = .ok (.bipush 6, 2) := by decide +kernel
theorem dXR_control2_49 : decode cXR_control2 49 = .ok (.iadd, 1) := by decide +kernel
theorem dXR_control2_50 : decode cXR_control2 50 = .ok (.ldc 131, 2) := by decide +kernel
theorem dXR_control2_52 : decode cXR_control2 52 = .ok (.iand, 1) := by decide +kernel
theorem dXR_control2_53 : decode cXR_control2 53 = .ok (.putfield 183, 3) := by decide +kernel
theorem dXR_control2_56 : decode cXR_control2 56 = .ok (.aload_n 0, 1) := by decide +kernel
theorem dXR_control2_57 : decode cXR_control2 57 = .ok (.iload_n 2, 1) := by decide +kernel
theorem dXR_control2_58 : decode cXR_control2 58 = .ok (.invokevirtual 217, 3) := by decide +kernel
theorem dXR_control2_61 : decode cXR_control2 61 = .ok (.bipush 20, 2) := by decide +kernel
theorem dXR_control2_63 : decode cXR_control2 63 = .ok (.ireturn, 1) := by decide +kernel
theorem dXR_control2_64 : decode cXR_control2 64 = .ok (.iload_n 1, 1) := by decide +kernel
theorem dXR_control2_65 : decode cXR_control2 65 = .ok (.sipush 20082, 3) := by decide +kernel
theorem dXR_control2_68 : decode cXR_control2 68 = .ok (.if_icmp .ne 18, 3) := by decide +kernel
theorem dXR_control2_71 : decode cXR_control2 71 = .ok (.aload_n 0, 1) := by decide +kernel
theorem dXR_control2_72 : decode cXR_control2 72 = .ok (.aload_n 0, 1) := by decide +kernel
theorem dXR_control2_73 : decode cXR_control2 73 = .ok (.invokevirtual 205, 3) := by decide +kernel
theorem dXR_control2_76 : decode cXR_control2 76 = .ok (.invokevirtual 217, 3) := by decide +kernel
theorem dXR_control2_79 : decode cXR_control2 79 = .ok (.aload_n 0, 1) := by decide +kernel
theorem dXR_control2_80 : decode cXR_control2 80 = .ok (.iconst 1, 1) := by decide +kernel
theorem dXR_control2_81 : decode cXR_control2 81 = .ok (.putfield 220, 3) := by decide +kernel
theorem dXR_control2_84 : decode cXR_control2 84 = .ok (.iconst 4, 1) := by decide +kernel
theorem dXR_control2_85 : decode cXR_control2 85 = .ok (.ireturn, 1) := by decide +kernel
theorem dXR_control2_86 : decode cXR_control2 86 = .ok (.iload_n 1, 1) := by decide +kernel
theorem dXR_control2_87 : decode cXR_control2 87 = .ok (.sipush 20064, 3) := by decide +kernel
theorem dXR_control2_90 : decode cXR_control2 90 = .ok (.if_icmp .lt 28, 3) := by decide +kernel
theorem dXR_control2_93 : decode cXR_control2 93 = .ok (.iload_n 1, 1) := by decide +kernel
theorem dXR_control2_94 : decode cXR_control2 94 = .ok (.sipush 20072, 3) := by decide +kernel
theorem dXR_control2_97 : decode cXR_control2 97 = .ok (.if_icmp .ge 21, 3) := by decide +kernel
theorem dXR_control2_100 : decode cXR_control2 100 = .ok (.aload_n 0, 1) := by decide +kernel
theorem dXR_control2_101 : decode cXR_control2 101 = .ok (.aload_n 0, 1) := by decide +kernel
theorem dXR_control2_102 : decode cXR_control2 102 = .ok (.getfield 16, 3) := by decide +kernel
theorem dXR_control2_105 : decode cXR_control2 105 = .ok (.iload_n 1, 1) := by decide +kernel
theorem dXR_control2_106 : decode cXR_control2 106 = .ok (.bipush 7, 2) := by decide +kernel
theorem dXR_control2_108 : decode cXR_control2 108 = .ok (.iand, 1) := by decide +kernel
theorem dXR_control2_109 : decode cXR_control2 109 = .ok (.iaload, 1) := by decide +kernel
theorem dXR_control2_110 : decode cXR_control2 110 = .ok (.ldc 131, 2) := by decide +kernel
theorem dXR_control2_112 : decode cXR_control2 112 = .ok (.iand, 1) := by decide +kernel
theorem dXR_control2_113 : decode cXR_control2 113 = .ok (.putfield 183, 3) := by decide +kernel
theorem dXR_control2_116 : decode cXR_control2 116 = .ok (.iconst 4, 1) := by decide +kernel
theorem dXR_control2_117 : decode cXR_control2 117 = .ok (.ireturn, 1) := by decide +kernel
theorem dXR_control2_118 : decode cXR_control2 118 = .ok (.iload_n 1, 1) := by decide +kernel
theorem dXR_control2_119 : decode cXR_control2 119 = .ok (.bipush 12, 2) := by decide +kernel
theorem dXR_control2_121 : decode cXR_control2 121 = .ok (.ishr, 1) := by decide +kernel
theorem dXR_control2_122 : decode cXR_control2 122 = .ok (.bipush 6, 2) := by decide +kernel
theorem dXR_control2_124 : decode cXR_control2 124 = .ok (.if_icmp .ne 11, 3) := by decide +kernel
theorem dXR_control2_127 : decode cXR_control2 127 = .ok (.aload_n 0, 1) := by decide +kernel
theorem dXR_control2_128 : decode cXR_control2 128 = .ok (.iload_n 1, 1) := by decide +kernel
theorem dXR_control2_129 : decode cXR_control2 129 = .ok (.invokevirtual 223, 3) := by decide +kernel
theorem dXR_control2_132 : decode cXR_control2 132 = .ok (.goto 4, 3) := by decide +kernel
theorem dXR_control2_135 : decode cXR_control2 135 = .ok (.iconst (-1), 1) := by decide +kernel
theorem dXR_control2_136 : decode cXR_control2 136 = .ok (.ireturn, 1) := by decide +kernel
theorem dXR_instruction_0 : decode cXR_instruction 0 = .ok (.aload_n 0, 1) := by decide +kernel
theorem dXR_instruction_1 : decode cXR_instruction 1 = .ok (.invokevirtual 205, 3) := by decide +kernel
theorem dXR_instruction_4 : decode cXR_instruction 4 = .ok (.istore_n 1, 1) := by decide +kernel
theorem dXR_instruction_5 : decode cXR_instruction 5 = .ok (.aload_n 0, 1) := by decide +kernel
theorem dXR_instruction_6 : decode cXR_instruction 6 = .ok (.iload_n 1, 1) := by decide +kernel
theorem dXR_instruction_7 : decode cXR_instruction 7 = .ok (.invokevirtual 226, 3) := by decide +kernel
theorem dXR_instruction_10 : decode cXR_instruction 10 = .ok (.istore_n 2, 1) := by decide +kernel
theorem dXR_instruction_11 : decode cXR_instruction 11 = .ok (.iload_n 2, 1) := by decide +kernel
theorem dXR_instruction_12 : decode cXR_instruction 12 = .ok (.ifCond .ge 11, 3) := by decide +kernel
theorem dXR_instruction_15 : decode cXR_instruction 15 = .ok (.aload_n 0, 1) := by decide +kernel
theorem dXR_instruction_16 : decode cXR_instruction 16 = .ok (.iload_n 1, 1) := by decide +kernel
theorem dXR_instruction_17 : decode cXR_instruction 17 = .ok (.invokevirtual 229, 3) := by decide +kernel
theorem dXR_instruction_20 : decode cXR_instruction 20 = .ok (.goto 4, 3) := by decide +kernel
theorem dXR_instruction_23 : decode cXR_instruction 23 = .ok (.iload_n 2, 1) := by decide +kernel
theorem dXR_instruction_24 : decode cXR_instruction 24 = .ok (.istore_n 2, 1) := by decide +kernel
theorem dXR_instruction_25 : decode cXR_instruction 25 = .ok (.iload_n 2, 1) := by decide +kernel
theorem dXR_instruction_26 : decode cXR_instruction 26 = .ok (.ifCond .ge 24, 3) := by decide +kernel
theorem dXR_instruction_29 : decode cXR_instruction 29 = .ok (.aload_n 0, 1) := by decide +kernel
theorem dXR_instruction_30 : decode cXR_instruction 30 = .ok (.aload_n 0, 1) := by decide +kernel
theorem dXR_instruction_31 : decode cXR_instruction 31 = .ok (.getfield 180, 3) := by decide +kernel
theorem dXR_instruction_34 : decode cXR_instruction 34 = .ok (.iconst 2, 1) := by decide +kernel
theorem dXR_instruction_35 : decode cXR_instruction 35 = .ok (.isub, 1) := by decide +kernel
theorem dXR_instruction_36 : decode cXR_instruction 36 = .ok (.ldc 131, 2) := by decide +kernel
theorem dXR_instruction_38 : decode cXR_instruction 38 = .ok (.iand, 1) := by decide +kernel
theorem dXR_instruction_39 : decode cXR_instruction 39 = .ok (.putfield 180, 3) := by decide +kernel
theorem dXR_instruction_42 : decode cXR_instruction 42 = .ok (.aload_n 0, 1) := by decide +kernel
theorem dXR_instruction_43 : decode cXR_instruction 43 = .ok (.iconst 4, 1) := by decide +kernel
theorem dXR_instruction_44 : decode cXR_instruction 44 = .ok (.invokevirtual 232, 3) := by decide +kernel
theorem dXR_instruction_47 : decode cXR_instruction 47 = .ok (.bipush 34, 2) := by decide +kernel
theorem dXR_instruction_49 : decode cXR_instruction 49 = .ok (.istore_n 2, 1) := by decide +kernel
theorem dXR_instruction_50 : decode cXR_instruction 50 = .ok (.iload_n 2, 1) := by decide +kernel
theorem dXR_instruction_51 : decode cXR_instruction 51 = .ok (.ireturn, 1) := by decide +kernel
theorem dXR_interrupt_0 : decode cXR_interrupt 0 = .ok (.aload_n 0, 1) := by decide +kernel
theorem dXR_interrupt_1 : decode cXR_interrupt 1 = .ok (.bipush 24, 2) := by decide +kernel
theorem dXR_interrupt_3 : decode cXR_interrupt 3 = .ok (.iload_n 1, 1) := by decide +kernel
theorem dXR_interrupt_4 : decode cXR_interrupt 4 = .ok (.iadd, 1) := by decide +kernel
theorem dXR_interrupt_5 : decode cXR_interrupt 5 = .ok (.invokevirtual 232, 3) := by decide +kernel
theorem dXR_interrupt_8 : decode cXR_interrupt 8 = .ok (.aload_n 0, 1) := by decide +kernel
theorem dXR_interrupt_9 : decode cXR_interrupt 9 = .ok (.iload_n 1, 1) := by decide +kernel
theorem dXR_interrupt_10 : decode cXR_interrupt 10 = .ok (.putfield 163, 3) := by decide +kernel
theorem dXR_interrupt_13 : decode cXR_interrupt 13 = .ok (.aload_n 0, 1) := by decide +kernel
theorem dXR_interrupt_14 : decode cXR_interrupt 14 = .ok (.iconst 0, 1) := by decide +kernel
theorem dXR_interrupt_15 : decode cXR_interrupt 15 = .ok (.putfield 220, 3) := by decide +kernel
theorem dXR_interrupt_18 : decode cXR_interrupt 18 = .ok (.bipush 44, 2) := by decide +kernel
theorem dXR_interrupt_20 : decode cXR_interrupt 20 = .ok (.ireturn, 1) := by decide +kernel
theorem dXR_mainStep_0 : decode cXR_mainStep 0 = .ok (.aload_n 0, 1) := by decide +kernel
theorem dXR_mainStep_1 : decode cXR_mainStep 1 = .ok (.getfield 51, 3) := by decide +kernel
theorem dXR_mainStep_4 : decode cXR_mainStep 4 = .ok (.ifCond .le 9, 3) := by decide +kernel
theorem dXR_mainStep_7 : decode cXR_mainStep 7 = .ok (.aload_n 0, 1) := by decide +kernel
theorem dXR_mainStep_8 : decode cXR_mainStep 8 = .ok (.invokevirtual 235, 3) := by decide +kernel
theorem dXR_mainStep_11 : decode cXR_mainStep 11 = .ok (.iconst 2, 1) := by decide +kernel
theorem dXR_mainStep_12 : decode cXR_mainStep 12 = .ok (.ireturn, 1) := by decide +kernel
theorem dXR_mainStep_13 : decode cXR_mainStep 13 = .ok (.aload_n 0, 1) := by decide +kernel
theorem dXR_mainStep_14 : decode cXR_mainStep 14 = .ok (.getfield 58, 3) := by decide +kernel
theorem dXR_mainStep_17 : decode cXR_mainStep 17 = .ok (.ifCond .eq 24, 3) := by decide +kernel
theorem dXR_mainStep_20 : decode cXR_mainStep 20 = .ok (.aload_n 0, 1) := by decide +kernel
theorem dXR_mainStep_21 : decode cXR_mainStep 21 = .ok (.getfield 163, 3) := by decide +kernel
theorem dXR_mainStep_24 : decode cXR_mainStep 24 = .ok (.bipush 6, 2) := by decide +kernel
theorem dXR_mainStep_26 : decode cXR_mainStep 26 = .ok (.if_icmp .ge 15, 3) := by decide +kernel
theorem dXR_mainStep_29 : decode cXR_mainStep 29 = .ok (.aload_n 0, 1) := by decide +kernel
theorem dXR_mainStep_30 : decode cXR_mainStep 30 = .ok (.iconst 0, 1) := by decide +kernel
theorem dXR_mainStep_31 : decode cXR_mainStep 31 = .ok (.putfield 58, 3) := by decide +kernel
theorem dXR_mainStep_34 : decode cXR_mainStep 34 = .ok (.aload_n 0, 1) := by decide +kernel
theorem dXR_mainStep_35 : decode cXR_mainStep 35 = .ok (.bipush 6, 2) := by decide +kernel
theorem dXR_mainStep_37 : decode cXR_mainStep 37 = .ok (.invokevirtual 238, 3) := by decide +kernel
theorem dXR_mainStep_40 : decode cXR_mainStep 40 = .ok (.ireturn, 1) := by decide +kernel
theorem dXR_mainStep_41 : decode cXR_mainStep 41 = .ok (.aload_n 0, 1) := by decide +kernel
theorem dXR_mainStep_42 : decode cXR_mainStep 42 = .ok (.getfield 241, 3) := by decide +kernel
theorem dXR_mainStep_45 : decode cXR_mainStep 45 = .ok (.ifCond .eq 22, 3) := by decide +kernel
theorem dXR_mainStep_48 : decode cXR_mainStep 48 = .ok (.aload_n 0, 1) := by decide +kernel
theorem dXR_mainStep_49 : decode cXR_mainStep 49 = .ok (.getfield 163, 3) := by decide +kernel
theorem dXR_mainStep_52 : decode cXR_mainStep 52 = .ok (.iconst 4, 1) := by decide +kernel
theorem dXR_mainStep_53 : decode cXR_mainStep 53 = .ok (.if_icmp .ge 14, 3) := by decide +kernel
theorem dXR_mainStep_56 : decode cXR_mainStep 56 = .ok (.aload_n 0, 1) := by decide +kernel
theorem dXR_mainStep_57 : decode cXR_mainStep 57 = .ok (.iconst 0, 1) := by decide +kernel
theorem dXR_mainStep_58 : decode cXR_mainStep 58 = .ok (.putfield 241, 3) := by decide +kernel
theorem dXR_mainStep_61 : decode cXR_mainStep 61 = .ok (.aload_n 0, 1) := by decide +kernel
theorem dXR_mainStep_62 : decode cXR_mainStep 62 = .ok (.iconst 4, 1) := by decide +kernel
theorem dXR_mainStep_63 : decode cXR_mainStep 63 = .ok (.invokevirtual 238, 3) := by decide +kernel
theorem dXR_mainStep_66 : decode cXR_mainStep 66 = .ok (.ireturn, 1) := by decide +kernel
theorem dXR_mainStep_67 : decode cXR_mainStep 67 = .ok (.aload_n 0, 1) := by decide +kernel
theorem dXR_mainStep_68 : decode cXR_mainStep 68 = .ok (.getfield 220, 3) := by decide +kernel
theorem dXR_mainStep_71 : decode cXR_mainStep 71 = .ok (.ifCond .eq 5, 3) := by decide +kernel
theorem dXR_mainStep_74 : decode cXR_mainStep 74 = .ok (.iconst 4, 1) := by decide +kernel
theorem dXR_mainStep_75 : decode cXR_mainStep 75 = .ok (.ireturn, 1) := by decide +kernel
theorem dXR_mainStep_76 : decode cXR_mainStep 76 = .ok (.aload_n 0, 1) := by decide +kernel
theorem dXR_mainStep_77 : decode cXR_mainStep 77 = .ok (.aload_n 0, 1) := by decide +kernel
theorem dXR_mainStep_78 : decode cXR_mainStep 78 = .ok (.getfield 244, 3) := by decide +kernel
theorem dXR_mainStep_81 : decode cXR_mainStep 81 = .ok (.putfield 247, 3) := by decide +kernel
theorem dXR_mainStep_84 : decode cXR_mainStep 84 = .ok (.aload_n 0, 1) := by decide +kernel
theorem dXR_mainStep_85 : decode cXR_mainStep 85 = .ok (.iconst 0, 1) := by decide +kernel
theorem dXR_mainStep_86 : decode cXR_mainStep 86 = .ok (.putfield 244, 3) := by decide +kernel
theorem dXR_mainStep_89 : decode cXR_mainStep 89 = .ok (.aload_n 0, 1) := by decide +kernel
theorem dXR_mainStep_90 : decode cXR_mainStep 90 = .ok (.invokevirtual 250, 3) := by decide +kernel
theorem dXR_mainStep_93 : decode cXR_mainStep 93 = .ok (.ireturn, 1) := by decide +kernel
theorem dXR_load_0 : decode cXR_load 0 = .ok (.iload_n 1, 1) := by decide +kernel
theorem dXR_load_1 : decode cXR_load 1 = .ok (.ldc 178, 2) := by decide +kernel
theorem dXR_load_3 : decode cXR_load 3 = .ok (.if_icmp .ge 14, 3) := by decide +kernel
theorem dXR_load_6 : decode cXR_load 6 = .ok (.aload_n 0, 1) := by decide +kernel
theorem dXR_load_7 : decode cXR_load 7 = .ok (.getfield 19, 3) := by decide +kernel
theorem dXR_load_10 : decode cXR_load 10 = .ok (.iload_n 1, 1) := by decide +kernel
theorem dXR_load_11 : decode cXR_load 11 = .ok (.sipush 128, 3) := by decide +kernel
theorem dXR_load_14 : decode cXR_load 14 = .ok (.irem, 1) := by decide +kernel
theorem dXR_load_15 : decode cXR_load 15 = .ok (.iaload, 1) := by decide +kernel
theorem dXR_load_16 : decode cXR_load 16 = .ok (.ireturn, 1) := by decide +kernel
theorem dXR_load_17 : decode cXR_load 17 = .ok (.aload_n 0, 1) := by decide +kernel
theorem dXR_load_18 : decode cXR_load 18 = .ok (.dup, 1) := by decide +kernel
theorem dXR_load_19 : decode cXR_load 19 = .ok (.getfield 253, 3) := by decide +kernel
theorem dXR_load_22 : decode cXR_load 22 = .ok (.iconst 3, 1) := by decide +kernel
theorem dXR_load_23 : decode cXR_load 23 = .ok (.iadd, 1) := by decide +kernel
theorem dXR_load_24 : decode cXR_load 24 = .ok (.putfield 253, 3) := by decide +kernel
theorem dXR_load_27 : decode cXR_load 27 = .ok (.aload_n 0, 1) := by decide +kernel
theorem dXR_load_28 : decode cXR_load 28 = .ok (.dup, 1) := by decide +kernel
theorem dXR_load_29 : decode cXR_load 29 = .ok (.getfield 244, 3) := by decide +kernel
theorem dXR_load_32 : decode cXR_load 32 = .ok (.bipush 11, 2) := by decide +kernel
theorem dXR_load_34 : decode cXR_load 34 = .ok (.iadd, 1) := by decide +kernel
theorem dXR_load_35 : decode cXR_load 35 = .ok (.putfield 244, 3) := by decide +kernel
theorem dXR_load_38 : decode cXR_load 38 = .ok (.aload_n 0, 1) := by decide +kernel
theorem dXR_load_39 : decode cXR_load 39 = .ok (.getfield 7, 3) := by decide +kernel
theorem dXR_load_42 : decode cXR_load 42 = .ok (.iload_n 1, 1) := by decide +kernel
theorem dXR_load_43 : decode cXR_load 43 = .ok (.sipush 512, 3) := by decide +kernel
theorem dXR_load_46 : decode cXR_load 46 = .ok (.irem, 1) := by decide +kernel
theorem dXR_load_47 : decode cXR_load 47 = .ok (.iaload, 1) := by decide +kernel
theorem dXR_load_48 : decode cXR_load 48 = .ok (.ireturn, 1) := by decide +kernel
theorem dXR_next_0 : decode cXR_next 0 = .ok (.aload_n 0, 1) := by decide +kernel
theorem dXR_next_1 : decode cXR_next 1 = .ok (.aload_n 0, 1) := by decide +kernel
theorem dXR_next_2 : decode cXR_next 2 = .ok (.getfield 113, 3) := by decide +kernel
theorem dXR_next_5 : decode cXR_next 5 = .ok (.invokevirtual 256, 3) := by decide +kernel
theorem dXR_next_8 : decode cXR_next 8 = .ok (.istore_n 1, 1) := by decide +kernel
theorem dXR_next_9 : decode cXR_next 9 = .ok (.aload_n 0, 1) := by decide +kernel
theorem dXR_next_10 : decode cXR_next 10 = .ok (.aload_n 0, 1) := by decide +kernel
theorem dXR_next_11 : decode cXR_next 11 = .ok (.getfield 113, 3) := by decide +kernel
theorem dXR_next_14 : decode cXR_next 14 = .ok (.iconst 1, 1) := by decide +kernel
theorem dXR_next_15 : decode cXR_next 15 = .ok (.iadd, 1) := by decide +kernel
theorem dXR_next_16 : decode cXR_next 16 = .ok (.ldc 131, 2) := by decide +kernel
theorem dXR_next_18 : decode cXR_next 18 = .ok (.iand, 1) := by decide +kernel
theorem dXR_next_19 : decode cXR_next 19 = .ok (.putfield 113, 3) := by decide +kernel
theorem dXR_next_22 : decode cXR_next 22 = .ok (.iload_n 1, 1) := by decide +kernel
theorem dXR_next_23 : decode cXR_next 23 = .ok (.ireturn, 1) := by decide +kernel
theorem dXR_pair_0 : decode cXR_pair 0 = .ok (.aload_n 0, 1) := by decide +kernel
theorem dXR_pair_1 : decode cXR_pair 1 = .ok (.invokevirtual 259, 3) := by decide +kernel
theorem dXR_pair_4 : decode cXR_pair 4 = .ok (.istore_n 1, 1) := by decide +kernel
theorem dXR_pair_5 : decode cXR_pair 5 = .ok (.iload_n 1, 1) := by decide +kernel
theorem dXR_pair_6 : decode cXR_pair 6 = .ok (.sipush 256, 3) := by decide +kernel
theorem dXR_pair_9 : decode cXR_pair 9 = .ok (.aload_n 0, 1) := by decide +kernel
theorem dXR_pair_10 : decode cXR_pair 10 = .ok (.invokevirtual 259, 3) := by decide +kernel
theorem dXR_pair_13 : decode cXR_pair 13 = .ok (.imul, 1) := by decide +kernel
theorem dXR_pair_14 : decode cXR_pair 14 = .ok (.iadd, 1) := by decide +kernel
theorem dXR_pair_15 : decode cXR_pair 15 = .ok (.ireturn, 1) := by decide +kernel
theorem dXR_becomes_0 : decode cXR_becomes 0 = .ok (.aload_n 0, 1) := by decide +kernel
theorem dXR_becomes_1 : decode cXR_becomes 1 = .ok (.iload_n 1, 1) := by decide +kernel
theorem dXR_becomes_2 : decode cXR_becomes 2 = .ok (.sipush 255, 3) := by decide +kernel
theorem dXR_becomes_5 : decode cXR_becomes 5 = .ok (.iand, 1) := by decide +kernel
theorem dXR_becomes_6 : decode cXR_becomes 6 = .ok (.putfield 104, 3) := by decide +kernel
theorem dXR_becomes_9 : decode cXR_becomes 9 = .ok (.aload_n 0, 1) := by decide +kernel
theorem dXR_becomes_10 : decode cXR_becomes 10 = .ok (.aload_n 0, 1) := by decide +kernel
theorem dXR_becomes_11 : decode cXR_becomes 11 = .ok (.getfield 104, 3) := by decide +kernel
theorem dXR_becomes_14 : decode cXR_becomes 14 = .ok (.ifCond .ne 7, 3) := by decide +kernel
theorem dXR_becomes_17 : decode cXR_becomes 17 = .ok (.iconst 1, 1) := by decide +kernel
theorem dXR_becomes_18 : decode cXR_becomes 18 = .ok (.goto 4, 3) := by decide +kernel
theorem dXR_becomes_21 : decode cXR_becomes 21 = .ok (.iconst 0, 1) := by decide +kernel
theorem dXR_becomes_22 : decode cXR_becomes 22 = .ok (.putfield 116, 3) := by decide +kernel
theorem dXR_becomes_25 : decode cXR_becomes 25 = .ok (.return_, 1) := by decide +kernel
theorem dXR_second_0 : decode cXR_second 0 = .ok (.aload_n 0, 1) := by decide +kernel
theorem dXR_second_1 : decode cXR_second 1 = .ok (.invokevirtual 259, 3) := by decide +kernel
theorem dXR_second_4 : decode cXR_second 4 = .ok (.istore_n 1, 1) := by decide +kernel
theorem dXR_second_5 : decode cXR_second 5 = .ok (.iload_n 1, 1) := by decide +kernel
theorem dXR_second_6 : decode cXR_second 6 = .ok (.lookupswitch 341 #[(32, 253), (50, 210), (58, 238), (60, 171), (61, 198), (62, 130), (71, 141), (103, 161), (118, 309), (120, 151), (128, 183), (195, 298), (201, 330), (243, 323), (251, 316)], 130) := by decide +kernel
theorem dXR_second_136 : decode cXR_second 136 = .ok (.aload_n 0, 1) := by decide +kernel
theorem dXR_second_137 : decode cXR_second 137 = .ok (.aload_n 0, 1) := by decide +kernel
theorem dXR_second_138 : decode cXR_second 138 = .ok (.invokevirtual 259, 3) := by decide +kernel
theorem dXR_second_141 : decode cXR_second 141 = .ok (.putfield 104, 3) := by decide +kernel
theorem dXR_second_144 : decode cXR_second 144 = .ok (.bipush 7, 2) := by decide +kernel
theorem dXR_second_146 : decode cXR_second 146 = .ok (.ireturn, 1) := by decide +kernel
theorem dXR_second_147 : decode cXR_second 147 = .ok (.aload_n 0, 1) := by decide +kernel
theorem dXR_second_148 : decode cXR_second 148 = .ok (.aload_n 0, 1) := by decide +kernel
theorem dXR_second_149 : decode cXR_second 149 = .ok (.getfield 104, 3) := by decide +kernel
theorem dXR_second_152 : decode cXR_second 152 = .ok (.putfield 107, 3) := by decide +kernel
theorem dXR_second_155 : decode cXR_second 155 = .ok (.iconst 4, 1) := by decide +kernel
theorem dXR_second_156 : decode cXR_second 156 = .ok (.ireturn, 1) := by decide +kernel
theorem dXR_second_157 : decode cXR_second 157 = .ok (.aload_n 0, 1) := by decide +kernel
theorem dXR_second_158 : decode cXR_second 158 = .ok (.aload_n 0, 1) := by decide +kernel
theorem dXR_second_159 : decode cXR_second 159 = .ok (.getfield 107, 3) := by decide +kernel
theorem dXR_second_162 : decode cXR_second 162 = .ok (.putfield 104, 3) := by decide +kernel
theorem dXR_second_165 : decode cXR_second 165 = .ok (.iconst 4, 1) := by decide +kernel
theorem dXR_second_166 : decode cXR_second 166 = .ok (.ireturn, 1) := by decide +kernel
theorem dXR_second_167 : decode cXR_second 167 = .ok (.aload_n 0, 1) := by decide +kernel
theorem dXR_second_168 : decode cXR_second 168 = .ok (.aload_n 0, 1) := by decide +kernel
theorem dXR_second_169 : decode cXR_second 169 = .ok (.getfield 104, 3) := by decide +kernel
theorem dXR_second_172 : decode cXR_second 172 = .ok (.putfield 110, 3) := by decide +kernel
theorem dXR_second_175 : decode cXR_second 175 = .ok (.iconst 4, 1) := by decide +kernel
theorem dXR_second_176 : decode cXR_second 176 = .ok (.ireturn, 1) := by decide +kernel
theorem dXR_second_177 : decode cXR_second 177 = .ok (.aload_n 0, 1) := by decide +kernel
theorem dXR_second_178 : decode cXR_second 178 = .ok (.aload_n 0, 1) := by decide +kernel
theorem dXR_second_179 : decode cXR_second 179 = .ok (.getfield 104, 3) := by decide +kernel
theorem dXR_second_182 : decode cXR_second 182 = .ok (.iconst 1, 1) := by decide +kernel
theorem dXR_second_183 : decode cXR_second 183 = .ok (.iadd, 1) := by decide +kernel
theorem dXR_second_184 : decode cXR_second 184 = .ok (.invokevirtual 262, 3) := by decide +kernel
theorem dXR_second_187 : decode cXR_second 187 = .ok (.iconst 4, 1) := by decide +kernel
theorem dXR_second_188 : decode cXR_second 188 = .ok (.ireturn, 1) := by decide +kernel
theorem dXR_second_189 : decode cXR_second 189 = .ok (.aload_n 0, 1) := by decide +kernel
theorem dXR_second_190 : decode cXR_second 190 = .ok (.aload_n 0, 1) := by decide +kernel
theorem dXR_second_191 : decode cXR_second 191 = .ok (.getfield 104, 3) := by decide +kernel
theorem dXR_second_194 : decode cXR_second 194 = .ok (.aload_n 0, 1) := by decide +kernel
theorem dXR_second_195 : decode cXR_second 195 = .ok (.getfield 107, 3) := by decide +kernel
theorem dXR_second_198 : decode cXR_second 198 = .ok (.iadd, 1) := by decide +kernel
theorem dXR_second_199 : decode cXR_second 199 = .ok (.invokevirtual 262, 3) := by decide +kernel
theorem dXR_second_202 : decode cXR_second 202 = .ok (.iconst 4, 1) := by decide +kernel
theorem dXR_second_203 : decode cXR_second 203 = .ok (.ireturn, 1) := by decide +kernel
theorem dXR_second_204 : decode cXR_second 204 = .ok (.aload_n 0, 1) := by decide +kernel
theorem dXR_second_205 : decode cXR_second 205 = .ok (.aload_n 0, 1) := by decide +kernel
theorem dXR_second_206 : decode cXR_second 206 = .ok (.getfield 104, 3) := by decide +kernel
theorem dXR_second_209 : decode cXR_second 209 = .ok (.iconst 1, 1) := by decide +kernel
theorem dXR_second_210 : decode cXR_second 210 = .ok (.isub, 1) := by decide +kernel
theorem dXR_second_211 : decode cXR_second 211 = .ok (.invokevirtual 262, 3) := by decide +kernel
theorem dXR_second_214 : decode cXR_second 214 = .ok (.iconst 4, 1) := by decide +kernel
theorem dXR_second_215 : decode cXR_second 215 = .ok (.ireturn, 1) := by decide +kernel
theorem dXR_second_216 : decode cXR_second 216 = .ok (.aload_n 0, 1) := by decide +kernel
theorem dXR_second_217 : decode cXR_second 217 = .ok (.invokevirtual 265, 3) := by decide +kernel
theorem dXR_second_220 : decode cXR_second 220 = .ok (.istore_n 2, 1) := by decide +kernel
theorem dXR_second_221 : decode cXR_second 221 = .ok (.iload_n 2, 1) := by decide +kernel
theorem dXR_second_222 : decode cXR_second 222 = .ok (.ldc 178, 2) := by decide +kernel
theorem dXR_second_224 : decode cXR_second 224 = .ok (.if_icmp .ge 17, 3) := by decide +kernel
theorem dXR_second_227 : decode cXR_second 227 = .ok (.aload_n 0, 1) := by decide +kernel
theorem dXR_second_228 : decode cXR_second 228 = .ok (.getfield 19, 3) := by decide +kernel
theorem dXR_second_231 : decode cXR_second 231 = .ok (.iload_n 2, 1) := by decide +kernel
theorem dXR_second_232 : decode cXR_second 232 = .ok (.sipush 128, 3) := by decide +kernel
theorem dXR_second_235 : decode cXR_second 235 = .ok (.irem, 1) := by decide +kernel
theorem dXR_second_236 : decode cXR_second 236 = .ok (.aload_n 0, 1) := by decide +kernel
theorem dXR_second_237 : decode cXR_second 237 = .ok (.getfield 104, 3) := by decide +kernel
theorem dXR_second_240 : decode cXR_second 240 = .ok (.iastore, 1) := by decide +kernel
theorem dXR_second_241 : decode cXR_second 241 = .ok (.bipush 13, 2) := by decide +kernel
theorem dXR_second_243 : decode cXR_second 243 = .ok (.ireturn, 1) := by decide +kernel
theorem dXR_second_244 : decode cXR_second 244 = .ok (.aload_n 0, 1) := by decide +kernel
theorem dXR_second_245 : decode cXR_second 245 = .ok (.aload_n 0, 1) := by decide +kernel
theorem dXR_second_246 : decode cXR_second 246 = .ok (.aload_n 0, 1) := by decide +kernel
theorem dXR_second_247 : decode cXR_second 247 = .ok (.invokevirtual 265, 3) := by decide +kernel
theorem dXR_second_250 : decode cXR_second 250 = .ok (.invokevirtual 256, 3) := by decide +kernel
theorem dXR_second_253 : decode cXR_second 253 = .ok (.putfield 104, 3) := by decide +kernel
theorem dXR_second_256 : decode cXR_second 256 = .ok (.bipush 13, 2) := by decide +kernel
theorem dXR_second_258 : decode cXR_second 258 = .ok (.ireturn, 1) := by decide +kernel
theorem dXR_second_259 : decode cXR_second 259 = .ok (.aload_n 0, 1) := by decide +kernel
theorem dXR_second_260 : decode cXR_second 260 = .ok (.invokevirtual 259, 3) := by decide +kernel
theorem dXR_second_263 : decode cXR_second 263 = .ok (.istore_n 3, 1) := by decide +kernel
theorem dXR_second_264 : decode cXR_second 264 = .ok (.aload_n 0, 1) := by decide +kernel
theorem dXR_second_265 : decode cXR_second 265 = .ok (.getfield 116, 3) := by decide +kernel
theorem dXR_second_268 : decode cXR_second 268 = .ok (.ifCond .eq 6, 3) := by decide +kernel
theorem dXR_second_271 : decode cXR_second 271 = .ok (.bipush 7, 2) := by decide +kernel
theorem dXR_second_273 : decode cXR_second 273 = .ok (.ireturn, 1) := by decide +kernel
theorem dXR_second_274 : decode cXR_second 274 = .ok (.aload_n 0, 1) := by decide +kernel
theorem dXR_second_275 : decode cXR_second 275 = .ok (.aload_n 0, 1) := by decide +kernel
theorem dXR_second_276 : decode cXR_second 276 = .ok (.getfield 113, 3) := by decide +kernel
theorem dXR_second_279 : decode cXR_second 279 = .ok (.iload_n 3, 1) := by decide +kernel
theorem dXR_second_280 : decode cXR_second 280 = .ok (.bipush 127, 2) := by decide +kernel
theorem dXR_second_282 : decode cXR_second 282 = .ok (.if_icmp .le 11, 3) := by decide +kernel
theorem dXR_second_285 : decode cXR_second 285 = .ok (.iload_n 3, 1) := by decide +kernel
theorem dXR_second_286 : decode cXR_second 286 = .ok (.sipush 256, 3) := by decide +kernel
theorem dXR_second_289 : decode cXR_second 289 = .ok (.isub, 1) := by decide +kernel
theorem dXR_second_290 : decode cXR_second 290 = .ok (.goto 4, 3) := by decide +kernel
theorem dXR_second_293 : decode cXR_second 293 = .ok (.iload_n 3, 1) := by decide +kernel
theorem dXR_second_294 : decode cXR_second 294 = .ok (.iadd, 1) := by decide +kernel
theorem dXR_second_295 : decode cXR_second 295 = .ok (.ldc 131, 2) := by decide +kernel
theorem dXR_second_297 : decode cXR_second 297 = .ok (.iand, 1) := by decide +kernel
theorem dXR_second_298 : decode cXR_second 298 = .ok (.putfield 113, 3) := by decide +kernel
theorem dXR_second_301 : decode cXR_second 301 = .ok (.bipush 12, 2) := by decide +kernel
theorem dXR_second_303 : decode cXR_second 303 = .ok (.ireturn, 1) := by decide +kernel
theorem dXR_second_304 : decode cXR_second 304 = .ok (.aload_n 0, 1) := by decide +kernel
theorem dXR_second_305 : decode cXR_second 305 = .ok (.aload_n 0, 1) := by decide +kernel
theorem dXR_second_306 : decode cXR_second 306 = .ok (.invokevirtual 265, 3) := by decide +kernel
theorem dXR_second_309 : decode cXR_second 309 = .ok (.putfield 113, 3) := by decide +kernel
theorem dXR_second_312 : decode cXR_second 312 = .ok (.bipush 10, 2) := by decide +kernel
theorem dXR_second_314 : decode cXR_second 314 = .ok (.ireturn, 1) := by decide +kernel
theorem dXR_second_315 : decode cXR_second 315 = .ok (.aload_n 0, 1) := by decide +kernel
theorem dXR_second_316 : decode cXR_second 316 = .ok (.iconst 1, 1) := by decide +kernel
theorem dXR_second_317 : decode cXR_second 317 = .ok (.putfield 119, 3) := by decide +kernel
theorem dXR_second_320 : decode cXR_second 320 = .ok (.iconst 4, 1) := by decide +kernel
theorem dXR_second_321 : decode cXR_second 321 = .ok (.ireturn, 1) := by decide +kernel
theorem dXR_second_322 : decode cXR_second 322 = .ok (.aload_n 0, 1) := by decide +kernel
theorem dXR_second_323 : decode cXR_second 323 = .ok (.iconst 1, 1) := by decide +kernel
theorem dXR_second_324 : decode cXR_second 324 = .ok (.putfield 122, 3) := by decide +kernel
theorem dXR_second_327 : decode cXR_second 327 = .ok (.iconst 4, 1) := by decide +kernel
theorem dXR_second_328 : decode cXR_second 328 = .ok (.ireturn, 1) := by decide +kernel
theorem dXR_second_329 : decode cXR_second 329 = .ok (.aload_n 0, 1) := by decide +kernel
theorem dXR_second_330 : decode cXR_second 330 = .ok (.iconst 0, 1) := by decide +kernel
theorem dXR_second_331 : decode cXR_second 331 = .ok (.putfield 122, 3) := by decide +kernel
theorem dXR_second_334 : decode cXR_second 334 = .ok (.iconst 4, 1) := by decide +kernel
theorem dXR_second_335 : decode cXR_second 335 = .ok (.ireturn, 1) := by decide +kernel
theorem dXR_second_336 : decode cXR_second 336 = .ok (.aload_n 0, 1) := by decide +kernel
theorem dXR_second_337 : decode cXR_second 337 = .ok (.aload_n 0, 1) := by decide +kernel
theorem dXR_second_338 : decode cXR_second 338 = .ok (.getfield 110, 3) := by decide +kernel
theorem dXR_second_341 : decode cXR_second 341 = .ok (.putfield 113, 3) := by decide +kernel
theorem dXR_second_344 : decode cXR_second 344 = .ok (.bipush 10, 2) := by decide +kernel
theorem dXR_second_346 : decode cXR_second 346 = .ok (.ireturn, 1) := by decide +kernel
theorem dXR_second_347 : decode cXR_second 347 = .ok (.iconst 4, 1) := by decide +kernel
theorem dXR_second_348 : decode cXR_second 348 = .ok (.ireturn, 1) := by decide +kernel
theorem dXR_give_0 : decode cXR_give 0 = .ok (.aload_n 0, 1) := by decide +kernel
theorem dXR_give_1 : decode cXR_give 1 = .ok (.invokevirtual 47, 3) := by decide +kernel
theorem dXR_give_4 : decode cXR_give 4 = .ok (.ifCond .eq 4, 3) := by decide +kernel
theorem dXR_give_7 : decode cXR_give 7 = .ok (.return_, 1) := by decide +kernel
theorem dXR_give_8 : decode cXR_give 8 = .ok (.aload_n 0, 1) := by decide +kernel
theorem dXR_give_9 : decode cXR_give 9 = .ok (.dup, 1) := by decide +kernel
theorem dXR_give_10 : decode cXR_give 10 = .ok (.getfield 125, 3) := by decide +kernel
theorem dXR_give_13 : decode cXR_give 13 = .ok (.iload_n 1, 1) := by decide +kernel
theorem dXR_give_14 : decode cXR_give 14 = .ok (.iadd, 1) := by decide +kernel
theorem dXR_give_15 : decode cXR_give 15 = .ok (.putfield 125, 3) := by decide +kernel
theorem dXR_give_18 : decode cXR_give 18 = .ok (.aload_n 0, 1) := by decide +kernel
theorem dXR_give_19 : decode cXR_give 19 = .ok (.getfield 125, 3) := by decide +kernel
theorem dXR_give_22 : decode cXR_give 22 = .ok (.ifCond .le 42, 3) := by decide +kernel
theorem dXR_give_25 : decode cXR_give 25 = .ok (.aload_n 0, 1) := by decide +kernel
theorem dXR_give_26 : decode cXR_give 26 = .ok (.iconst 0, 1) := by decide +kernel
theorem dXR_give_27 : decode cXR_give 27 = .ok (.putfield 253, 3) := by decide +kernel
theorem dXR_give_30 : decode cXR_give 30 = .ok (.aload_n 0, 1) := by decide +kernel
theorem dXR_give_31 : decode cXR_give 31 = .ok (.getfield 119, 3) := by decide +kernel
theorem dXR_give_34 : decode cXR_give 34 = .ok (.ifCond .eq 7, 3) := by decide +kernel
theorem dXR_give_37 : decode cXR_give 37 = .ok (.iconst 4, 1) := by decide +kernel
theorem dXR_give_38 : decode cXR_give 38 = .ok (.goto 7, 3) := by decide +kernel
theorem dXR_give_41 : decode cXR_give 41 = .ok (.aload_n 0, 1) := by decide +kernel
theorem dXR_give_42 : decode cXR_give 42 = .ok (.invokevirtual 268, 3) := by decide +kernel
theorem dXR_give_45 : decode cXR_give 45 = .ok (.istore_n 2, 1) := by decide +kernel
theorem dXR_give_46 : decode cXR_give 46 = .ok (.aload_n 0, 1) := by decide +kernel
theorem dXR_give_47 : decode cXR_give 47 = .ok (.dup, 1) := by decide +kernel
theorem dXR_give_48 : decode cXR_give 48 = .ok (.getfield 125, 3) := by decide +kernel
theorem dXR_give_51 : decode cXR_give 51 = .ok (.iload_n 2, 1) := by decide +kernel
theorem dXR_give_52 : decode cXR_give 52 = .ok (.aload_n 0, 1) := by decide +kernel
theorem dXR_give_53 : decode cXR_give 53 = .ok (.getfield 253, 3) := by decide +kernel
theorem dXR_give_56 : decode cXR_give 56 = .ok (.iadd, 1) := by decide +kernel
theorem dXR_give_57 : decode cXR_give 57 = .ok (.isub, 1) := by decide +kernel
theorem dXR_give_58 : decode cXR_give 58 = .ok (.putfield 125, 3) := by decide +kernel
theorem dXR_give_61 : decode cXR_give 61 = .ok (.goto (-43), 3) := by decide +kernel
theorem dXR_give_64 : decode cXR_give 64 = .ok (.return_, 1) := by decide +kernel
theorem dXR_tellSecond_0 : decode cXR_tellSecond 0 = .ok (.aload_n 0, 1) := by decide +kernel
theorem dXR_tellSecond_1 : decode cXR_tellSecond 1 = .ok (.invokevirtual 47, 3) := by decide +kernel
theorem dXR_tellSecond_4 : decode cXR_tellSecond 4 = .ok (.ifCond .ne 10, 3) := by decide +kernel
theorem dXR_tellSecond_7 : decode cXR_tellSecond 7 = .ok (.aload_n 0, 1) := by decide +kernel
theorem dXR_tellSecond_8 : decode cXR_tellSecond 8 = .ok (.getfield 122, 3) := by decide +kernel
theorem dXR_tellSecond_11 : decode cXR_tellSecond 11 = .ok (.ifCond .ne 4, 3) := by decide +kernel
theorem dXR_tellSecond_14 : decode cXR_tellSecond 14 = .ok (.return_, 1) := by decide +kernel
theorem dXR_tellSecond_15 : decode cXR_tellSecond 15 = .ok (.aload_n 0, 1) := by decide +kernel
theorem dXR_tellSecond_16 : decode cXR_tellSecond 16 = .ok (.aload_n 0, 1) := by decide +kernel
theorem dXR_tellSecond_17 : decode cXR_tellSecond 17 = .ok (.getfield 113, 3) := by decide +kernel
theorem dXR_tellSecond_20 : decode cXR_tellSecond 20 = .ok (.sipush 255, 3) := by decide +kernel
theorem dXR_tellSecond_23 : decode cXR_tellSecond 23 = .ok (.iand, 1) := by decide +kernel
theorem dXR_tellSecond_24 : decode cXR_tellSecond 24 = .ok (.putfield 110, 3) := by decide +kernel
theorem dXR_tellSecond_27 : decode cXR_tellSecond 27 = .ok (.aload_n 0, 1) := by decide +kernel
theorem dXR_tellSecond_28 : decode cXR_tellSecond 28 = .ok (.bipush 56, 2) := by decide +kernel
theorem dXR_tellSecond_30 : decode cXR_tellSecond 30 = .ok (.putfield 113, 3) := by decide +kernel
theorem dXR_tellSecond_33 : decode cXR_tellSecond 33 = .ok (.aload_n 0, 1) := by decide +kernel
theorem dXR_tellSecond_34 : decode cXR_tellSecond 34 = .ok (.iconst 0, 1) := by decide +kernel
theorem dXR_tellSecond_35 : decode cXR_tellSecond 35 = .ok (.putfield 122, 3) := by decide +kernel
theorem dXR_tellSecond_38 : decode cXR_tellSecond 38 = .ok (.aload_n 0, 1) := by decide +kernel
theorem dXR_tellSecond_39 : decode cXR_tellSecond 39 = .ok (.iconst 0, 1) := by decide +kernel
theorem dXR_tellSecond_40 : decode cXR_tellSecond 40 = .ok (.putfield 119, 3) := by decide +kernel
theorem dXR_tellSecond_43 : decode cXR_tellSecond 43 = .ok (.aload_n 0, 1) := by decide +kernel
theorem dXR_tellSecond_44 : decode cXR_tellSecond 44 = .ok (.dup, 1) := by decide +kernel
theorem dXR_tellSecond_45 : decode cXR_tellSecond 45 = .ok (.getfield 125, 3) := by decide +kernel
theorem dXR_tellSecond_48 : decode cXR_tellSecond 48 = .ok (.bipush 13, 2) := by decide +kernel
theorem dXR_tellSecond_50 : decode cXR_tellSecond 50 = .ok (.isub, 1) := by decide +kernel
theorem dXR_tellSecond_51 : decode cXR_tellSecond 51 = .ok (.putfield 125, 3) := by decide +kernel
theorem dXR_tellSecond_54 : decode cXR_tellSecond 54 = .ok (.return_, 1) := by decide +kernel
theorem dXR_goOn_0 : decode cXR_goOn 0 = .ok (.aload_n 0, 1) := by decide +kernel
theorem dXR_goOn_1 : decode cXR_goOn 1 = .ok (.dup, 1) := by decide +kernel
theorem dXR_goOn_2 : decode cXR_goOn 2 = .ok (.getfield 87, 3) := by decide +kernel
theorem dXR_goOn_5 : decode cXR_goOn 5 = .ok (.iload_n 1, 1) := by decide +kernel
theorem dXR_goOn_6 : decode cXR_goOn 6 = .ok (.iadd, 1) := by decide +kernel
theorem dXR_goOn_7 : decode cXR_goOn 7 = .ok (.putfield 87, 3) := by decide +kernel
theorem dXR_goOn_10 : decode cXR_goOn 10 = .ok (.aload_n 0, 1) := by decide +kernel
theorem dXR_goOn_11 : decode cXR_goOn 11 = .ok (.getfield 87, 3) := by decide +kernel
theorem dXR_goOn_14 : decode cXR_goOn 14 = .ok (.bipush 64, 2) := by decide +kernel
theorem dXR_goOn_16 : decode cXR_goOn 16 = .ok (.if_icmp .lt 34, 3) := by decide +kernel
theorem dXR_goOn_19 : decode cXR_goOn 19 = .ok (.aload_n 0, 1) := by decide +kernel
theorem dXR_goOn_20 : decode cXR_goOn 20 = .ok (.dup, 1) := by decide +kernel
theorem dXR_goOn_21 : decode cXR_goOn 21 = .ok (.getfield 87, 3) := by decide +kernel
theorem dXR_goOn_24 : decode cXR_goOn 24 = .ok (.bipush 64, 2) := by decide +kernel
theorem dXR_goOn_26 : decode cXR_goOn 26 = .ok (.isub, 1) := by decide +kernel
theorem dXR_goOn_27 : decode cXR_goOn 27 = .ok (.putfield 87, 3) := by decide +kernel
theorem dXR_goOn_30 : decode cXR_goOn 30 = .ok (.aload_n 0, 1) := by decide +kernel
theorem dXR_goOn_31 : decode cXR_goOn 31 = .ok (.aload_n 0, 1) := by decide +kernel
theorem dXR_goOn_32 : decode cXR_goOn 32 = .ok (.getfield 55, 3) := by decide +kernel
theorem dXR_goOn_35 : decode cXR_goOn 35 = .ok (.iconst 1, 1) := by decide +kernel
theorem dXR_goOn_36 : decode cXR_goOn 36 = .ok (.iadd, 1) := by decide +kernel
theorem dXR_goOn_37 : decode cXR_goOn 37 = .ok (.bipush 12, 2) := by decide +kernel
theorem dXR_goOn_39 : decode cXR_goOn 39 = .ok (.irem, 1) := by decide +kernel
theorem dXR_goOn_40 : decode cXR_goOn 40 = .ok (.putfield 55, 3) := by decide +kernel
theorem dXR_goOn_43 : decode cXR_goOn 43 = .ok (.aload_n 0, 1) := by decide +kernel
theorem dXR_goOn_44 : decode cXR_goOn 44 = .ok (.invokevirtual 271, 3) := by decide +kernel
theorem dXR_goOn_47 : decode cXR_goOn 47 = .ok (.goto (-37), 3) := by decide +kernel
theorem dXR_goOn_50 : decode cXR_goOn 50 = .ok (.return_, 1) := by decide +kernel
theorem dXR_beginLine_0 : decode cXR_beginLine 0 = .ok (.aload_n 0, 1) := by decide +kernel
theorem dXR_beginLine_1 : decode cXR_beginLine 1 = .ok (.getfield 55, 3) := by decide +kernel
theorem dXR_beginLine_4 : decode cXR_beginLine 4 = .ok (.bipush 8, 2) := by decide +kernel
theorem dXR_beginLine_6 : decode cXR_beginLine 6 = .ok (.if_icmp .ge 67, 3) := by decide +kernel
theorem dXR_beginLine_9 : decode cXR_beginLine 9 = .ok (.aload_n 0, 1) := by decide +kernel
theorem dXR_beginLine_10 : decode cXR_beginLine 10 = .ok (.invokevirtual 274, 3) := by decide +kernel
theorem dXR_beginLine_13 : decode cXR_beginLine 13 = .ok (.aload_n 0, 1) := by decide +kernel
theorem dXR_beginLine_14 : decode cXR_beginLine 14 = .ok (.getfield 277, 3) := by decide +kernel
theorem dXR_beginLine_17 : decode cXR_beginLine 17 = .ok (.ifCond .ne 45, 3) := by decide +kernel
theorem dXR_beginLine_20 : decode cXR_beginLine 20 = .ok (.aload_n 0, 1) := by decide +kernel
theorem dXR_beginLine_21 : decode cXR_beginLine 21 = .ok (.aload_n 0, 1) := by decide +kernel
theorem dXR_beginLine_22 : decode cXR_beginLine 22 = .ok (.getfield 35, 3) := by decide +kernel
