theorem dXR_init_0 : decode cXR_init 0 = .ok (.aload_n 0, 1) := by decide +kernel
theorem dXR_init_1 : decode cXR_init 1 = .ok (.invokespecial 1, 3) := by decide +kernel
theorem dXR_init_4 : decode cXR_init 4 = .ok (.aload_n 0, 1) := by decide +kernel
theorem dXR_init_5 : decode cXR_init 5 = .ok (.sipush 512, 3) := by decide +kernel
theorem dXR_init_8 : decode cXR_init 8 = .ok (.newarray .int, 2) := by decide +kernel
theorem dXR_init_10 : decode cXR_init 10 = .ok (.putfield 7, 3) := by decide +kernel
theorem dXR_init_13 : decode cXR_init 13 = .ok (.aload_n 0, 1) := by decide +kernel
theorem dXR_init_14 : decode cXR_init 14 = .ok (.sipush 128, 3) := by decide +kernel
theorem dXR_init_17 : decode cXR_init 17 = .ok (.newarray .int, 2) := by decide +kernel
theorem dXR_init_19 : decode cXR_init 19 = .ok (.putfield 13, 3) := by decide +kernel
theorem dXR_init_22 : decode cXR_init 22 = .ok (.aload_n 0, 1) := by decide +kernel
theorem dXR_init_23 : decode cXR_init 23 = .ok (.bipush 8, 2) := by decide +kernel
theorem dXR_init_25 : decode cXR_init 25 = .ok (.newarray .int, 2) := by decide +kernel
theorem dXR_init_27 : decode cXR_init 27 = .ok (.putfield 16, 3) := by decide +kernel
theorem dXR_init_30 : decode cXR_init 30 = .ok (.aload_n 0, 1) := by decide +kernel
theorem dXR_init_31 : decode cXR_init 31 = .ok (.sipush 128, 3) := by decide +kernel
theorem dXR_init_34 : decode cXR_init 34 = .ok (.newarray .int, 2) := by decide +kernel
theorem dXR_init_36 : decode cXR_init 36 = .ok (.putfield 19, 3) := by decide +kernel
theorem dXR_init_39 : decode cXR_init 39 = .ok (.aload_n 0, 1) := by decide +kernel
theorem dXR_init_40 : decode cXR_init 40 = .ok (.iconst 1, 1) := by decide +kernel
theorem dXR_init_41 : decode cXR_init 41 = .ok (.putfield 22, 3) := by decide +kernel
theorem dXR_init_44 : decode cXR_init 44 = .ok (.aload_n 0, 1) := by decide +kernel
theorem dXR_init_45 : decode cXR_init 45 = .ok (.sipush 1024, 3) := by decide +kernel
theorem dXR_init_48 : decode cXR_init 48 = .ok (.newarray .int, 2) := by decide +kernel
theorem dXR_init_50 : decode cXR_init 50 = .ok (.putfield 26, 3) := by decide +kernel
theorem dXR_init_53 : decode cXR_init 53 = .ok (.aload_n 0, 1) := by decide +kernel
theorem dXR_init_54 : decode cXR_init 54 = .ok (.bipush 16, 2) := by decide +kernel
theorem dXR_init_56 : decode cXR_init 56 = .ok (.newarray .int, 2) := by decide +kernel
theorem dXR_init_58 : decode cXR_init 58 = .ok (.putfield 29, 3) := by decide +kernel
theorem dXR_init_61 : decode cXR_init 61 = .ok (.aload_n 0, 1) := by decide +kernel
theorem dXR_init_62 : decode cXR_init 62 = .ok (.iconst 2, 1) := by decide +kernel
theorem dXR_init_63 : decode cXR_init 63 = .ok (.newarray .int, 2) := by decide +kernel
theorem dXR_init_65 : decode cXR_init 65 = .ok (.putfield 32, 3) := by decide +kernel
theorem dXR_init_68 : decode cXR_init 68 = .ok (.aload_n 0, 1) := by decide +kernel
theorem dXR_init_69 : decode cXR_init 69 = .ok (.bipush 16, 2) := by decide +kernel
theorem dXR_init_71 : decode cXR_init 71 = .ok (.newarray .int, 2) := by decide +kernel
theorem dXR_init_73 : decode cXR_init 73 = .ok (.putfield 35, 3) := by decide +kernel
theorem dXR_init_76 : decode cXR_init 76 = .ok (.aload_n 0, 1) := by decide +kernel
theorem dXR_init_77 : decode cXR_init 77 = .ok (.sipush 128, 3) := by decide +kernel
theorem dXR_init_80 : decode cXR_init 80 = .ok (.newarray .int, 2) := by decide +kernel
theorem dXR_init_82 : decode cXR_init 82 = .ok (.putfield 38, 3) := by decide +kernel
theorem dXR_init_85 : decode cXR_init 85 = .ok (.aload_n 0, 1) := by decide +kernel
theorem dXR_init_86 : decode cXR_init 86 = .ok (.iconst 3, 1) := by decide +kernel
theorem dXR_init_87 : decode cXR_init 87 = .ok (.newarray .int, 2) := by decide +kernel
theorem dXR_init_89 : decode cXR_init 89 = .ok (.putfield 41, 3) := by decide +kernel
theorem dXR_init_92 : decode cXR_init 92 = .ok (.return_, 1) := by decide +kernel
theorem dXR_isOut_0 : decode cXR_isOut 0 = .ok (.aload_n 0, 1) := by decide +kernel
theorem dXR_isOut_1 : decode cXR_isOut 1 = .ok (.getfield 44, 3) := by decide +kernel
theorem dXR_isOut_4 : decode cXR_isOut 4 = .ok (.ifCond .ne 10, 3) := by decide +kernel
theorem dXR_isOut_7 : decode cXR_isOut 7 = .ok (.aload_n 0, 1) := by decide +kernel
theorem dXR_isOut_8 : decode cXR_isOut 8 = .ok (.getfield 22, 3) := by decide +kernel
theorem dXR_isOut_11 : decode cXR_isOut 11 = .ok (.ifCond .eq 7, 3) := by decide +kernel
theorem dXR_isOut_14 : decode cXR_isOut 14 = .ok (.iconst 1, 1) := by decide +kernel
theorem dXR_isOut_15 : decode cXR_isOut 15 = .ok (.goto 4, 3) := by decide +kernel
theorem dXR_isOut_18 : decode cXR_isOut 18 = .ok (.iconst 0, 1) := by decide +kernel
theorem dXR_isOut_19 : decode cXR_isOut 19 = .ok (.ireturn, 1) := by decide +kernel
theorem dXR_quiet_0 : decode cXR_quiet 0 = .ok (.iload_n 1, 1) := by decide +kernel
theorem dXR_quiet_1 : decode cXR_quiet 1 = .ok (.ifCond .lt 17, 3) := by decide +kernel
theorem dXR_quiet_4 : decode cXR_quiet 4 = .ok (.iload_n 1, 1) := by decide +kernel
theorem dXR_quiet_5 : decode cXR_quiet 5 = .ok (.sipush 895, 3) := by decide +kernel
theorem dXR_quiet_8 : decode cXR_quiet 8 = .ok (.if_icmp .gt 10, 3) := by decide +kernel
theorem dXR_quiet_11 : decode cXR_quiet 11 = .ok (.iload_n 1, 1) := by decide +kernel
theorem dXR_quiet_12 : decode cXR_quiet 12 = .ok (.iconst 2, 1) := by decide +kernel
theorem dXR_quiet_13 : decode cXR_quiet 13 = .ok (.irem, 1) := by decide +kernel
theorem dXR_quiet_14 : decode cXR_quiet 14 = .ok (.iconst 1, 1) := by decide +kernel
theorem dXR_quiet_15 : decode cXR_quiet 15 = .ok (.if_icmp .ne 5, 3) := by decide +kernel
theorem dXR_quiet_18 : decode cXR_quiet 18 = .ok (.iconst 0, 1) := by decide +kernel
theorem dXR_quiet_19 : decode cXR_quiet 19 = .ok (.ireturn, 1) := by decide +kernel
theorem dXR_quiet_20 : decode cXR_quiet 20 = .ok (.iload_n 1, 1) := by decide +kernel
theorem dXR_quiet_21 : decode cXR_quiet 21 = .ok (.sipush 512, 3) := by decide +kernel
theorem dXR_quiet_24 : decode cXR_quiet 24 = .ok (.if_icmp .ge 23, 3) := by decide +kernel
theorem dXR_quiet_27 : decode cXR_quiet 27 = .ok (.sipush 256, 3) := by decide +kernel
theorem dXR_quiet_30 : decode cXR_quiet 30 = .ok (.aload_n 0, 1) := by decide +kernel
theorem dXR_quiet_31 : decode cXR_quiet 31 = .ok (.getfield 7, 3) := by decide +kernel
theorem dXR_quiet_34 : decode cXR_quiet 34 = .ok (.iload_n 1, 1) := by decide +kernel
theorem dXR_quiet_35 : decode cXR_quiet 35 = .ok (.iaload, 1) := by decide +kernel
theorem dXR_quiet_36 : decode cXR_quiet 36 = .ok (.imul, 1) := by decide +kernel
theorem dXR_quiet_37 : decode cXR_quiet 37 = .ok (.aload_n 0, 1) := by decide +kernel
theorem dXR_quiet_38 : decode cXR_quiet 38 = .ok (.getfield 7, 3) := by decide +kernel
theorem dXR_quiet_41 : decode cXR_quiet 41 = .ok (.iload_n 1, 1) := by decide +kernel
theorem dXR_quiet_42 : decode cXR_quiet 42 = .ok (.iconst 1, 1) := by decide +kernel
theorem dXR_quiet_43 : decode cXR_quiet 43 = .ok (.iadd, 1) := by decide +kernel
theorem dXR_quiet_44 : decode cXR_quiet 44 = .ok (.iaload, 1) := by decide +kernel
theorem dXR_quiet_45 : decode cXR_quiet 45 = .ok (.iadd, 1) := by decide +kernel
theorem dXR_quiet_46 : decode cXR_quiet 46 = .ok (.ireturn, 1) := by decide +kernel
theorem dXR_quiet_47 : decode cXR_quiet 47 = .ok (.iload_n 1, 1) := by decide +kernel
theorem dXR_quiet_48 : decode cXR_quiet 48 = .ok (.sipush 640, 3) := by decide +kernel
theorem dXR_quiet_51 : decode cXR_quiet 51 = .ok (.if_icmp .ge 29, 3) := by decide +kernel
theorem dXR_quiet_54 : decode cXR_quiet 54 = .ok (.sipush 256, 3) := by decide +kernel
theorem dXR_quiet_57 : decode cXR_quiet 57 = .ok (.aload_n 0, 1) := by decide +kernel
theorem dXR_quiet_58 : decode cXR_quiet 58 = .ok (.getfield 13, 3) := by decide +kernel
theorem dXR_quiet_61 : decode cXR_quiet 61 = .ok (.iload_n 1, 1) := by decide +kernel
theorem dXR_quiet_62 : decode cXR_quiet 62 = .ok (.sipush 512, 3) := by decide +kernel
theorem dXR_quiet_65 : decode cXR_quiet 65 = .ok (.isub, 1) := by decide +kernel
theorem dXR_quiet_66 : decode cXR_quiet 66 = .ok (.iaload, 1) := by decide +kernel
theorem dXR_quiet_67 : decode cXR_quiet 67 = .ok (.imul, 1) := by decide +kernel
theorem dXR_quiet_68 : decode cXR_quiet 68 = .ok (.aload_n 0, 1) := by decide +kernel
theorem dXR_quiet_69 : decode cXR_quiet 69 = .ok (.getfield 13, 3) := by decide +kernel
theorem dXR_quiet_72 : decode cXR_quiet 72 = .ok (.iload_n 1, 1) := by decide +kernel
theorem dXR_quiet_73 : decode cXR_quiet 73 = .ok (.sipush 511, 3) := by decide +kernel
theorem dXR_quiet_76 : decode cXR_quiet 76 = .ok (.isub, 1) := by decide +kernel
theorem dXR_quiet_77 : decode cXR_quiet 77 = .ok (.iaload, 1) := by decide +kernel
theorem dXR_quiet_78 : decode cXR_quiet 78 = .ok (.iadd, 1) := by decide +kernel
theorem dXR_quiet_79 : decode cXR_quiet 79 = .ok (.ireturn, 1) := by decide +kernel
theorem dXR_quiet_80 : decode cXR_quiet 80 = .ok (.iload_n 1, 1) := by decide +kernel
theorem dXR_quiet_81 : decode cXR_quiet 81 = .ok (.sipush 768, 3) := by decide +kernel
theorem dXR_quiet_84 : decode cXR_quiet 84 = .ok (.if_icmp .lt 10, 3) := by decide +kernel
theorem dXR_quiet_87 : decode cXR_quiet 87 = .ok (.aload_n 0, 1) := by decide +kernel
theorem dXR_quiet_88 : decode cXR_quiet 88 = .ok (.invokevirtual 47, 3) := by decide +kernel
theorem dXR_quiet_91 : decode cXR_quiet 91 = .ok (.ifCond .ne 7, 3) := by decide +kernel
theorem dXR_quiet_94 : decode cXR_quiet 94 = .ok (.iconst 0, 1) := by decide +kernel
theorem dXR_quiet_95 : decode cXR_quiet 95 = .ok (.goto 17, 3) := by decide +kernel
theorem dXR_quiet_98 : decode cXR_quiet 98 = .ok (.sipush 257, 3) := by decide +kernel
theorem dXR_quiet_101 : decode cXR_quiet 101 = .ok (.aload_n 0, 1) := by decide +kernel
theorem dXR_quiet_102 : decode cXR_quiet 102 = .ok (.getfield 19, 3) := by decide +kernel
theorem dXR_quiet_105 : decode cXR_quiet 105 = .ok (.iload_n 1, 1) := by decide +kernel
theorem dXR_quiet_106 : decode cXR_quiet 106 = .ok (.sipush 768, 3) := by decide +kernel
theorem dXR_quiet_109 : decode cXR_quiet 109 = .ok (.isub, 1) := by decide +kernel
theorem dXR_quiet_110 : decode cXR_quiet 110 = .ok (.iaload, 1) := by decide +kernel
theorem dXR_quiet_111 : decode cXR_quiet 111 = .ok (.imul, 1) := by decide +kernel
theorem dXR_quiet_112 : decode cXR_quiet 112 = .ok (.ireturn, 1) := by decide +kernel
theorem dXR_status_0 : decode cXR_status 0 = .ok (.aload_n 0, 1) := by decide +kernel
theorem dXR_status_1 : decode cXR_status 1 = .ok (.getfield 51, 3) := by decide +kernel
theorem dXR_status_4 : decode cXR_status 4 = .ok (.ifCond .le 7, 3) := by decide +kernel
theorem dXR_status_7 : decode cXR_status 7 = .ok (.iconst 2, 1) := by decide +kernel
theorem dXR_status_8 : decode cXR_status 8 = .ok (.goto 4, 3) := by decide +kernel
theorem dXR_status_11 : decode cXR_status 11 = .ok (.iconst 0, 1) := by decide +kernel
theorem dXR_status_12 : decode cXR_status 12 = .ok (.aload_n 0, 1) := by decide +kernel
theorem dXR_status_13 : decode cXR_status 13 = .ok (.getfield 55, 3) := by decide +kernel
theorem dXR_status_16 : decode cXR_status 16 = .ok (.bipush 8, 2) := by decide +kernel
theorem dXR_status_18 : decode cXR_status 18 = .ok (.if_icmp .lt 7, 3) := by decide +kernel
theorem dXR_status_21 : decode cXR_status 21 = .ok (.iconst 4, 1) := by decide +kernel
theorem dXR_status_22 : decode cXR_status 22 = .ok (.goto 4, 3) := by decide +kernel
theorem dXR_status_25 : decode cXR_status 25 = .ok (.iconst 0, 1) := by decide +kernel
theorem dXR_status_26 : decode cXR_status 26 = .ok (.iadd, 1) := by decide +kernel
theorem dXR_status_27 : decode cXR_status 27 = .ok (.aload_n 0, 1) := by decide +kernel
theorem dXR_status_28 : decode cXR_status 28 = .ok (.getfield 58, 3) := by decide +kernel
theorem dXR_status_31 : decode cXR_status 31 = .ok (.ifCond .eq 8, 3) := by decide +kernel
theorem dXR_status_34 : decode cXR_status 34 = .ok (.bipush 8, 2) := by decide +kernel
theorem dXR_status_36 : decode cXR_status 36 = .ok (.goto 4, 3) := by decide +kernel
theorem dXR_status_39 : decode cXR_status 39 = .ok (.iconst 0, 1) := by decide +kernel
theorem dXR_status_40 : decode cXR_status 40 = .ok (.iadd, 1) := by decide +kernel
theorem dXR_status_41 : decode cXR_status 41 = .ok (.aload_n 0, 1) := by decide +kernel
theorem dXR_status_42 : decode cXR_status 42 = .ok (.getfield 61, 3) := by decide +kernel
theorem dXR_status_45 : decode cXR_status 45 = .ok (.ifCond .eq 8, 3) := by decide +kernel
theorem dXR_status_48 : decode cXR_status 48 = .ok (.bipush 32, 2) := by decide +kernel
theorem dXR_status_50 : decode cXR_status 50 = .ok (.goto 4, 3) := by decide +kernel
theorem dXR_status_53 : decode cXR_status 53 = .ok (.iconst 0, 1) := by decide +kernel
theorem dXR_status_54 : decode cXR_status 54 = .ok (.iadd, 1) := by decide +kernel
theorem dXR_status_55 : decode cXR_status 55 = .ok (.aload_n 0, 1) := by decide +kernel
theorem dXR_status_56 : decode cXR_status 56 = .ok (.getfield 64, 3) := by decide +kernel
theorem dXR_status_59 : decode cXR_status 59 = .ok (.ifCond .eq 8, 3) := by decide +kernel
theorem dXR_status_62 : decode cXR_status 62 = .ok (.bipush 64, 2) := by decide +kernel
theorem dXR_status_64 : decode cXR_status 64 = .ok (.goto 4, 3) := by decide +kernel
theorem dXR_status_67 : decode cXR_status 67 = .ok (.iconst 0, 1) := by decide +kernel
theorem dXR_status_68 : decode cXR_status 68 = .ok (.iadd, 1) := by decide +kernel
theorem dXR_status_69 : decode cXR_status 69 = .ok (.istore_n 1, 1) := by decide +kernel
theorem dXR_status_70 : decode cXR_status 70 = .ok (.aload_n 0, 1) := by decide +kernel
theorem dXR_status_71 : decode cXR_status 71 = .ok (.iconst 0, 1) := by decide +kernel
theorem dXR_status_72 : decode cXR_status 72 = .ok (.putfield 61, 3) := by decide +kernel
theorem dXR_status_75 : decode cXR_status 75 = .ok (.aload_n 0, 1) := by decide +kernel
theorem dXR_status_76 : decode cXR_status 76 = .ok (.iconst 0, 1) := by decide +kernel
theorem dXR_status_77 : decode cXR_status 77 = .ok (.putfield 64, 3) := by decide +kernel
theorem dXR_status_80 : decode cXR_status 80 = .ok (.aload_n 0, 1) := by decide +kernel
theorem dXR_status_81 : decode cXR_status 81 = .ok (.iconst 0, 1) := by decide +kernel
theorem dXR_status_82 : decode cXR_status 82 = .ok (.putfield 67, 3) := by decide +kernel
theorem dXR_status_85 : decode cXR_status 85 = .ok (.iload_n 1, 1) := by decide +kernel
theorem dXR_status_86 : decode cXR_status 86 = .ok (.ireturn, 1) := by decide +kernel
theorem dXR_padWord_0 : decode cXR_padWord 0 = .ok (.aload_n 0, 1) := by decide +kernel
theorem dXR_padWord_1 : decode cXR_padWord 1 = .ok (.getfield 70, 3) := by decide +kernel
theorem dXR_padWord_4 : decode cXR_padWord 4 = .ok (.istore_n 1, 1) := by decide +kernel
theorem dXR_padWord_5 : decode cXR_padWord 5 = .ok (.aload_n 0, 1) := by decide +kernel
theorem dXR_padWord_6 : decode cXR_padWord 6 = .ok (.getfield 73, 3) := by decide +kernel
theorem dXR_padWord_9 : decode cXR_padWord 9 = .ok (.iconst 1, 1) := by decide +kernel
theorem dXR_padWord_10 : decode cXR_padWord 10 = .ok (.if_icmp .ne 13, 3) := by decide +kernel
theorem dXR_padWord_13 : decode cXR_padWord 13 = .ok (.bipush 64, 2) := by decide +kernel
theorem dXR_padWord_15 : decode cXR_padWord 15 = .ok (.iload_n 1, 1) := by decide +kernel
theorem dXR_padWord_16 : decode cXR_padWord 16 = .ok (.bipush 63, 2) := by decide +kernel
theorem dXR_padWord_18 : decode cXR_padWord 18 = .ok (.iand, 1) := by decide +kernel
theorem dXR_padWord_19 : decode cXR_padWord 19 = .ok (.iadd, 1) := by decide +kernel
theorem dXR_padWord_20 : decode cXR_padWord 20 = .ok (.goto 26, 3) := by decide +kernel
theorem dXR_padWord_23 : decode cXR_padWord 23 = .ok (.iload_n 1, 1) := by decide +kernel
theorem dXR_padWord_24 : decode cXR_padWord 24 = .ok (.bipush 7, 2) := by decide +kernel
theorem dXR_padWord_26 : decode cXR_padWord 26 = .ok (.ishr, 1) := by decide +kernel
theorem dXR_padWord_27 : decode cXR_padWord 27 = .ok (.iconst 1, 1) := by decide +kernel
theorem dXR_padWord_28 : decode cXR_padWord 28 = .ok (.iand, 1) := by decide +kernel
theorem dXR_padWord_29 : decode cXR_padWord 29 = .ok (.bipush 32, 2) := by decide +kernel
theorem dXR_padWord_31 : decode cXR_padWord 31 = .ok (.imul, 1) := by decide +kernel
theorem dXR_padWord_32 : decode cXR_padWord 32 = .ok (.iload_n 1, 1) := by decide +kernel
theorem dXR_padWord_33 : decode cXR_padWord 33 = .ok (.bipush 6, 2) := by decide +kernel
theorem dXR_padWord_35 : decode cXR_padWord 35 = .ok (.ishr, 1) := by decide +kernel
theorem dXR_padWord_36 : decode cXR_padWord 36 = .ok (.iconst 1, 1) := by decide +kernel
theorem dXR_padWord_37 : decode cXR_padWord 37 = .ok (.iand, 1) := by decide +kernel
theorem dXR_padWord_38 : decode cXR_padWord 38 = .ok (.bipush 16, 2) := by decide +kernel
theorem dXR_padWord_40 : decode cXR_padWord 40 = .ok (.imul, 1) := by decide +kernel
theorem dXR_padWord_41 : decode cXR_padWord 41 = .ok (.iadd, 1) := by decide +kernel
theorem dXR_padWord_42 : decode cXR_padWord 42 = .ok (.iload_n 1, 1) := by decide +kernel
theorem dXR_padWord_43 : decode cXR_padWord 43 = .ok (.iconst 3, 1) := by decide +kernel
theorem dXR_padWord_44 : decode cXR_padWord 44 = .ok (.iand, 1) := by decide +kernel
theorem dXR_padWord_45 : decode cXR_padWord 45 = .ok (.iadd, 1) := by decide +kernel
theorem dXR_padWord_46 : decode cXR_padWord 46 = .ok (.ireturn, 1) := by decide +kernel
theorem dXR_read_0 : decode cXR_read 0 = .ok (.iload_n 1, 1) := by decide +kernel
theorem dXR_read_1 : decode cXR_read 1 = .ok (.sipush 1024, 3) := by decide +kernel
theorem dXR_read_4 : decode cXR_read 4 = .ok (.if_icmp .ge 9, 3) := by decide +kernel
theorem dXR_read_7 : decode cXR_read 7 = .ok (.aload_n 0, 1) := by decide +kernel
theorem dXR_read_8 : decode cXR_read 8 = .ok (.iload_n 1, 1) := by decide +kernel
theorem dXR_read_9 : decode cXR_read 9 = .ok (.invokevirtual 76, 3) := by decide +kernel
theorem dXR_read_12 : decode cXR_read 12 = .ok (.ireturn, 1) := by decide +kernel
theorem dXR_read_13 : decode cXR_read 13 = .ok (.iload_n 1, 1) := by decide +kernel
theorem dXR_read_14 : decode cXR_read 14 = .ok (.lookupswitch 94 #[(1024, 50), (1028, 55), (1032, 60), (1040, 74), (1048, 89)], 50) := by decide +kernel
theorem dXR_read_64 : decode cXR_read 64 = .ok (.aload_n 0, 1) := by decide +kernel
theorem dXR_read_65 : decode cXR_read 65 = .ok (.invokevirtual 80, 3) := by decide +kernel
theorem dXR_read_68 : decode cXR_read 68 = .ok (.ireturn, 1) := by decide +kernel
theorem dXR_read_69 : decode cXR_read 69 = .ok (.aload_n 0, 1) := by decide +kernel
theorem dXR_read_70 : decode cXR_read 70 = .ok (.invokevirtual 84, 3) := by decide +kernel
theorem dXR_read_73 : decode cXR_read 73 = .ok (.ireturn, 1) := by decide +kernel
theorem dXR_read_74 : decode cXR_read 74 = .ok (.sipush 256, 3) := by decide +kernel
theorem dXR_read_77 : decode cXR_read 77 = .ok (.aload_n 0, 1) := by decide +kernel
theorem dXR_read_78 : decode cXR_read 78 = .ok (.getfield 55, 3) := by decide +kernel
theorem dXR_read_81 : decode cXR_read 81 = .ok (.imul, 1) := by decide +kernel
theorem dXR_read_82 : decode cXR_read 82 = .ok (.aload_n 0, 1) := by decide +kernel
theorem dXR_read_83 : decode cXR_read 83 = .ok (.getfield 87, 3) := by decide +kernel
theorem dXR_read_86 : decode cXR_read 86 = .ok (.iadd, 1) := by decide +kernel
theorem dXR_read_87 : decode cXR_read 87 = .ok (.ireturn, 1) := by decide +kernel
theorem dXR_read_88 : decode cXR_read 88 = .ok (.aload_n 0, 1) := by decide +kernel
theorem dXR_read_89 : decode cXR_read 89 = .ok (.getfield 44, 3) := by decide +kernel
theorem dXR_read_92 : decode cXR_read 92 = .ok (.ifCond .eq 7, 3) := by decide +kernel
theorem dXR_read_95 : decode cXR_read 95 = .ok (.iconst 0, 1) := by decide +kernel
theorem dXR_read_96 : decode cXR_read 96 = .ok (.goto 6, 3) := by decide +kernel
theorem dXR_read_99 : decode cXR_read 99 = .ok (.sipush 256, 3) := by decide +kernel
theorem dXR_read_102 : decode cXR_read 102 = .ok (.ireturn, 1) := by decide +kernel
theorem dXR_read_103 : decode cXR_read 103 = .ok (.aload_n 0, 1) := by decide +kernel
theorem dXR_read_104 : decode cXR_read 104 = .ok (.invokevirtual 90, 3) := by decide +kernel
theorem dXR_read_107 : decode cXR_read 107 = .ok (.ireturn, 1) := by decide +kernel
theorem dXR_read_108 : decode cXR_read 108 = .ok (.iconst 0, 1) := by decide +kernel
theorem dXR_read_109 : decode cXR_read 109 = .ok (.ireturn, 1) := by decide +kernel
theorem dXR_write_0 : decode cXR_write 0 = .ok (.iload_n 1, 1) := by decide +kernel
theorem dXR_write_1 : decode cXR_write 1 = .ok (.iconst 2, 1) := by decide +kernel
theorem dXR_write_2 : decode cXR_write 2 = .ok (.irem, 1) := by decide +kernel
theorem dXR_write_3 : decode cXR_write 3 = .ok (.iconst 1, 1) := by decide +kernel
theorem dXR_write_4 : decode cXR_write 4 = .ok (.if_icmp .ne 4, 3) := by decide +kernel
theorem dXR_write_7 : decode cXR_write 7 = .ok (.return_, 1) := by decide +kernel
theorem dXR_write_8 : decode cXR_write 8 = .ok (.iload_n 1, 1) := by decide +kernel
theorem dXR_write_9 : decode cXR_write 9 = .ok (.sipush 512, 3) := by decide +kernel
theorem dXR_write_12 : decode cXR_write 12 = .ok (.if_icmp .lt 42, 3) := by decide +kernel
theorem dXR_write_15 : decode cXR_write 15 = .ok (.iload_n 1, 1) := by decide +kernel
theorem dXR_write_16 : decode cXR_write 16 = .ok (.sipush 640, 3) := by decide +kernel
theorem dXR_write_19 : decode cXR_write 19 = .ok (.if_icmp .ge 35, 3) := by decide +kernel
theorem dXR_write_22 : decode cXR_write 22 = .ok (.aload_n 0, 1) := by decide +kernel
theorem dXR_write_23 : decode cXR_write 23 = .ok (.getfield 13, 3) := by decide +kernel
theorem dXR_write_26 : decode cXR_write 26 = .ok (.iload_n 1, 1) := by decide +kernel
theorem dXR_write_27 : decode cXR_write 27 = .ok (.sipush 512, 3) := by decide +kernel
theorem dXR_write_30 : decode cXR_write 30 = .ok (.isub, 1) := by decide +kernel
theorem dXR_write_31 : decode cXR_write 31 = .ok (.iload_n 2, 1) := by decide +kernel
theorem dXR_write_32 : decode cXR_write 32 = .ok (.bipush 8, 2) := by decide +kernel
theorem dXR_write_34 : decode cXR_write 34 = .ok (.ishr, 1) := by decide +kernel
theorem dXR_write_35 : decode cXR_write 35 = .ok (.iastore, 1) := by decide +kernel
theorem dXR_write_36 : decode cXR_write 36 = .ok (.aload_n 0, 1) := by decide +kernel
theorem dXR_write_37 : decode cXR_write 37 = .ok (.getfield 13, 3) := by decide +kernel
theorem dXR_write_40 : decode cXR_write 40 = .ok (.iload_n 1, 1) := by decide +kernel
theorem dXR_write_41 : decode cXR_write 41 = .ok (.sipush 511, 3) := by decide +kernel
theorem dXR_write_44 : decode cXR_write 44 = .ok (.isub, 1) := by decide +kernel
theorem dXR_write_45 : decode cXR_write 45 = .ok (.iload_n 2, 1) := by decide +kernel
theorem dXR_write_46 : decode cXR_write 46 = .ok (.sipush 255, 3) := by decide +kernel
theorem dXR_write_49 : decode cXR_write 49 = .ok (.iand, 1) := by decide +kernel
theorem dXR_write_50 : decode cXR_write 50 = .ok (.iastore, 1) := by decide +kernel
theorem dXR_write_51 : decode cXR_write 51 = .ok (.goto 145, 3) := by decide +kernel
theorem dXR_write_54 : decode cXR_write 54 = .ok (.iload_n 1, 1) := by decide +kernel
theorem dXR_write_55 : decode cXR_write 55 = .ok (.sipush 768, 3) := by decide +kernel
theorem dXR_write_58 : decode cXR_write 58 = .ok (.if_icmp .lt 34, 3) := by decide +kernel
theorem dXR_write_61 : decode cXR_write 61 = .ok (.iload_n 1, 1) := by decide +kernel
theorem dXR_write_62 : decode cXR_write 62 = .ok (.sipush 896, 3) := by decide +kernel
theorem dXR_write_65 : decode cXR_write 65 = .ok (.if_icmp .ge 27, 3) := by decide +kernel
theorem dXR_write_68 : decode cXR_write 68 = .ok (.aload_n 0, 1) := by decide +kernel
theorem dXR_write_69 : decode cXR_write 69 = .ok (.invokevirtual 47, 3) := by decide +kernel
theorem dXR_write_72 : decode cXR_write 72 = .ok (.ifCond .eq 20, 3) := by decide +kernel
theorem dXR_write_75 : decode cXR_write 75 = .ok (.aload_n 0, 1) := by decide +kernel
theorem dXR_write_76 : decode cXR_write 76 = .ok (.getfield 19, 3) := by decide +kernel
theorem dXR_write_79 : decode cXR_write 79 = .ok (.iload_n 1, 1) := by decide +kernel
theorem dXR_write_80 : decode cXR_write 80 = .ok (.sipush 768, 3) := by decide +kernel
theorem dXR_write_83 : decode cXR_write 83 = .ok (.isub, 1) := by decide +kernel
theorem dXR_write_84 : decode cXR_write 84 = .ok (.iload_n 2, 1) := by decide +kernel
theorem dXR_write_85 : decode cXR_write 85 = .ok (.bipush 8, 2) := by decide +kernel
theorem dXR_write_87 : decode cXR_write 87 = .ok (.ishr, 1) := by decide +kernel
theorem dXR_write_88 : decode cXR_write 88 = .ok (.iastore, 1) := by decide +kernel
theorem dXR_write_89 : decode cXR_write 89 = .ok (.goto 107, 3) := by decide +kernel
theorem dXR_write_92 : decode cXR_write 92 = .ok (.iload_n 1, 1) := by decide +kernel
theorem dXR_write_93 : decode cXR_write 93 = .ok (.sipush 1024, 3) := by decide +kernel
theorem dXR_write_96 : decode cXR_write 96 = .ok (.if_icmp .ne 11, 3) := by decide +kernel
theorem dXR_write_99 : decode cXR_write 99 = .ok (.aload_n 0, 1) := by decide +kernel
theorem dXR_write_100 : decode cXR_write 100 = .ok (.iload_n 2, 1) := by decide +kernel
theorem dXR_write_101 : decode cXR_write 101 = .ok (.invokevirtual 93, 3) := by decide +kernel
theorem dXR_write_104 : decode cXR_write 104 = .ok (.goto 92, 3) := by decide +kernel
theorem dXR_write_107 : decode cXR_write 107 = .ok (.iload_n 1, 1) := by decide +kernel
theorem dXR_write_108 : decode cXR_write 108 = .ok (.sipush 1028, 3) := by decide +kernel
theorem dXR_write_111 : decode cXR_write 111 = .ok (.if_icmp .ne 11, 3) := by decide +kernel
theorem dXR_write_114 : decode cXR_write 114 = .ok (.aload_n 0, 1) := by decide +kernel
theorem dXR_write_115 : decode cXR_write 115 = .ok (.iload_n 2, 1) := by decide +kernel
theorem dXR_write_116 : decode cXR_write 116 = .ok (.invokevirtual 97, 3) := by decide +kernel
theorem dXR_write_119 : decode cXR_write 119 = .ok (.goto 77, 3) := by decide +kernel
theorem dXR_write_122 : decode cXR_write 122 = .ok (.iload_n 1, 1) := by decide +kernel
theorem dXR_write_123 : decode cXR_write 123 = .ok (.sipush 1040, 3) := by decide +kernel
theorem dXR_write_126 : decode cXR_write 126 = .ok (.if_icmp .ne 25, 3) := by decide +kernel
theorem dXR_write_129 : decode cXR_write 129 = .ok (.aload_n 0, 1) := by decide +kernel
theorem dXR_write_130 : decode cXR_write 130 = .ok (.iload_n 2, 1) := by decide +kernel
theorem dXR_write_131 : decode cXR_write 131 = .ok (.bipush 8, 2) := by decide +kernel
theorem dXR_write_133 : decode cXR_write 133 = .ok (.ishr, 1) := by decide +kernel
theorem dXR_write_134 : decode cXR_write 134 = .ok (.iconst 1, 1) := by decide +kernel
theorem dXR_write_135 : decode cXR_write 135 = .ok (.iand, 1) := by decide +kernel
theorem dXR_write_136 : decode cXR_write 136 = .ok (.iconst 1, 1) := by decide +kernel
theorem dXR_write_137 : decode cXR_write 137 = .ok (.if_icmp .ne 7, 3) := by decide +kernel
theorem dXR_write_140 : decode cXR_write 140 = .ok (.iconst 1, 1) := by decide +kernel
theorem dXR_write_141 : decode cXR_write 141 = .ok (.goto 4, 3) := by decide +kernel
theorem dXR_write_144 : decode cXR_write 144 = .ok (.iconst 0, 1) := by decide +kernel
theorem dXR_write_145 : decode cXR_write 145 = .ok (.putfield 44, 3) := by decide +kernel
theorem dXR_write_148 : decode cXR_write 148 = .ok (.goto 48, 3) := by decide +kernel
theorem dXR_write_151 : decode cXR_write 151 = .ok (.iload_n 1, 1) := by decide +kernel
theorem dXR_write_152 : decode cXR_write 152 = .ok (.sipush 1044, 3) := by decide +kernel
theorem dXR_write_155 : decode cXR_write 155 = .ok (.if_icmp .ne 24, 3) := by decide +kernel
theorem dXR_write_158 : decode cXR_write 158 = .ok (.aload_n 0, 1) := by decide +kernel
theorem dXR_write_159 : decode cXR_write 159 = .ok (.iload_n 2, 1) := by decide +kernel
theorem dXR_write_160 : decode cXR_write 160 = .ok (.bipush 8, 2) := by decide +kernel
theorem dXR_write_162 : decode cXR_write 162 = .ok (.ishr, 1) := by decide +kernel
theorem dXR_write_163 : decode cXR_write 163 = .ok (.iconst 1, 1) := by decide +kernel
theorem dXR_write_164 : decode cXR_write 164 = .ok (.iand, 1) := by decide +kernel
theorem dXR_write_165 : decode cXR_write 165 = .ok (.ifCond .ne 7, 3) := by decide +kernel
theorem dXR_write_168 : decode cXR_write 168 = .ok (.iconst 1, 1) := by decide +kernel
theorem dXR_write_169 : decode cXR_write 169 = .ok (.goto 4, 3) := by decide +kernel
theorem dXR_write_172 : decode cXR_write 172 = .ok (.iconst 0, 1) := by decide +kernel
theorem dXR_write_173 : decode cXR_write 173 = .ok (.invokevirtual 100, 3) := by decide +kernel
theorem dXR_write_176 : decode cXR_write 176 = .ok (.goto 20, 3) := by decide +kernel
theorem dXR_write_179 : decode cXR_write 179 = .ok (.iload_n 1, 1) := by decide +kernel
theorem dXR_write_180 : decode cXR_write 180 = .ok (.sipush 1048, 3) := by decide +kernel
theorem dXR_write_183 : decode cXR_write 183 = .ok (.if_icmp .ne 13, 3) := by decide +kernel
theorem dXR_write_186 : decode cXR_write 186 = .ok (.aload_n 0, 1) := by decide +kernel
theorem dXR_write_187 : decode cXR_write 187 = .ok (.iload_n 2, 1) := by decide +kernel
theorem dXR_write_188 : decode cXR_write 188 = .ok (.bipush 6, 2) := by decide +kernel
theorem dXR_write_190 : decode cXR_write 190 = .ok (.ishr, 1) := by decide +kernel
theorem dXR_write_191 : decode cXR_write 191 = .ok (.iconst 1, 1) := by decide +kernel
theorem dXR_write_192 : decode cXR_write 192 = .ok (.iand, 1) := by decide +kernel
theorem dXR_write_193 : decode cXR_write 193 = .ok (.putfield 73, 3) := by decide +kernel
theorem dXR_write_196 : decode cXR_write 196 = .ok (.return_, 1) := by decide +kernel
theorem dXR_resetSecond_0 : decode cXR_resetSecond 0 = .ok (.iload_n 1, 1) := by decide +kernel
theorem dXR_resetSecond_1 : decode cXR_resetSecond 1 = .ok (.ifCond .ne 50, 3) := by decide +kernel
theorem dXR_resetSecond_4 : decode cXR_resetSecond 4 = .ok (.aload_n 0, 1) := by decide +kernel
theorem dXR_resetSecond_5 : decode cXR_resetSecond 5 = .ok (.getfield 22, 3) := by decide +kernel
theorem dXR_resetSecond_8 : decode cXR_resetSecond 8 = .ok (.ifCond .eq 43, 3) := by decide +kernel
theorem dXR_resetSecond_11 : decode cXR_resetSecond 11 = .ok (.aload_n 0, 1) := by decide +kernel
theorem dXR_resetSecond_12 : decode cXR_resetSecond 12 = .ok (.iconst 0, 1) := by decide +kernel
theorem dXR_resetSecond_13 : decode cXR_resetSecond 13 = .ok (.putfield 104, 3) := by decide +kernel
theorem dXR_resetSecond_16 : decode cXR_resetSecond 16 = .ok (.aload_n 0, 1) := by decide +kernel
theorem dXR_resetSecond_17 : decode cXR_resetSecond 17 = .ok (.iconst 0, 1) := by decide +kernel
theorem dXR_resetSecond_18 : decode cXR_resetSecond 18 = .ok (.putfield 107, 3) := by decide +kernel
theorem dXR_resetSecond_21 : decode cXR_resetSecond 21 = .ok (.aload_n 0, 1) := by decide +kernel
theorem dXR_resetSecond_22 : decode cXR_resetSecond 22 = .ok (.iconst 0, 1) := by decide +kernel
theorem dXR_resetSecond_23 : decode cXR_resetSecond 23 = .ok (.putfield 110, 3) := by decide +kernel
theorem dXR_resetSecond_26 : decode cXR_resetSecond 26 = .ok (.aload_n 0, 1) := by decide +kernel
theorem dXR_resetSecond_27 : decode cXR_resetSecond 27 = .ok (.iconst 0, 1) := by decide +kernel
theorem dXR_resetSecond_28 : decode cXR_resetSecond 28 = .ok (.putfield 113, 3) := by decide +kernel
theorem dXR_resetSecond_31 : decode cXR_resetSecond 31 = .ok (.aload_n 0, 1) := by decide +kernel
theorem dXR_resetSecond_32 : decode cXR_resetSecond 32 = .ok (.iconst 0, 1) := by decide +kernel
theorem dXR_resetSecond_33 : decode cXR_resetSecond 33 = .ok (.putfield 116, 3) := by decide +kernel
theorem dXR_resetSecond_36 : decode cXR_resetSecond 36 = .ok (.aload_n 0, 1) := by decide +kernel
theorem dXR_resetSecond_37 : decode cXR_resetSecond 37 = .ok (.iconst 0, 1) := by decide +kernel
theorem dXR_resetSecond_38 : decode cXR_resetSecond 38 = .ok (.putfield 119, 3) := by decide +kernel
theorem dXR_resetSecond_41 : decode cXR_resetSecond 41 = .ok (.aload_n 0, 1) := by decide +kernel
theorem dXR_resetSecond_42 : decode cXR_resetSecond 42 = .ok (.iconst 0, 1) := by decide +kernel
theorem dXR_resetSecond_43 : decode cXR_resetSecond 43 = .ok (.putfield 122, 3) := by decide +kernel
theorem dXR_resetSecond_46 : decode cXR_resetSecond 46 = .ok (.aload_n 0, 1) := by decide +kernel
theorem dXR_resetSecond_47 : decode cXR_resetSecond 47 = .ok (.iconst 0, 1) := by decide +kernel
theorem dXR_resetSecond_48 : decode cXR_resetSecond 48 = .ok (.putfield 125, 3) := by decide +kernel
theorem dXR_resetSecond_51 : decode cXR_resetSecond 51 = .ok (.aload_n 0, 1) := by decide +kernel
theorem dXR_resetSecond_52 : decode cXR_resetSecond 52 = .ok (.iload_n 1, 1) := by decide +kernel
theorem dXR_resetSecond_53 : decode cXR_resetSecond 53 = .ok (.putfield 22, 3) := by decide +kernel
theorem dXR_resetSecond_56 : decode cXR_resetSecond 56 = .ok (.return_, 1) := by decide +kernel
theorem dXR_vramWord_0 : decode cXR_vramWord 0 = .ok (.sipush 256, 3) := by decide +kernel
theorem dXR_vramWord_3 : decode cXR_vramWord 3 = .ok (.aload_n 0, 1) := by decide +kernel
theorem dXR_vramWord_4 : decode cXR_vramWord 4 = .ok (.getfield 26, 3) := by decide +kernel
theorem dXR_vramWord_7 : decode cXR_vramWord 7 = .ok (.iconst 2, 1) := by decide +kernel
theorem dXR_vramWord_8 : decode cXR_vramWord 8 = .ok (.iload_n 1, 1) := by decide +kernel
theorem dXR_vramWord_9 : decode cXR_vramWord 9 = .ok (.imul, 1) := by decide +kernel
theorem dXR_vramWord_10 : decode cXR_vramWord 10 = .ok (.iaload, 1) := by decide +kernel
theorem dXR_vramWord_11 : decode cXR_vramWord 11 = .ok (.imul, 1) := by decide +kernel
theorem dXR_vramWord_12 : decode cXR_vramWord 12 = .ok (.aload_n 0, 1) := by decide +kernel
theorem dXR_vramWord_13 : decode cXR_vramWord 13 = .ok (.getfield 26, 3) := by decide +kernel
theorem dXR_vramWord_16 : decode cXR_vramWord 16 = .ok (.iconst 2, 1) := by decide +kernel
theorem dXR_vramWord_17 : decode cXR_vramWord 17 = .ok (.iload_n 1, 1) := by decide +kernel
theorem dXR_vramWord_18 : decode cXR_vramWord 18 = .ok (.imul, 1) := by decide +kernel
theorem dXR_vramWord_19 : decode cXR_vramWord 19 = .ok (.iconst 1, 1) := by decide +kernel
theorem dXR_vramWord_20 : decode cXR_vramWord 20 = .ok (.iadd, 1) := by decide +kernel
theorem dXR_vramWord_21 : decode cXR_vramWord 21 = .ok (.iaload, 1) := by decide +kernel
theorem dXR_vramWord_22 : decode cXR_vramWord 22 = .ok (.iadd, 1) := by decide +kernel
theorem dXR_vramWord_23 : decode cXR_vramWord 23 = .ok (.ireturn, 1) := by decide +kernel
theorem dXR_grow_0 : decode cXR_grow 0 = .ok (.aload_n 0, 1) := by decide +kernel
theorem dXR_grow_1 : decode cXR_grow 1 = .ok (.aload_n 0, 1) := by decide +kernel
theorem dXR_grow_2 : decode cXR_grow 2 = .ok (.getfield 128, 3) := by decide +kernel
theorem dXR_grow_5 : decode cXR_grow 5 = .ok (.aload_n 0, 1) := by decide +kernel
theorem dXR_grow_6 : decode cXR_grow 6 = .ok (.getfield 35, 3) := by decide +kernel
theorem dXR_grow_9 : decode cXR_grow 9 = .ok (.bipush 14, 2) := by decide +kernel
theorem dXR_grow_11 : decode cXR_grow 11 = .ok (.iaload, 1) := by decide +kernel
theorem dXR_grow_12 : decode cXR_grow 12 = .ok (.iadd, 1) := by decide +kernel
theorem dXR_grow_13 : decode cXR_grow 13 = .ok (.ldc 131, 2) := by decide +kernel
theorem dXR_grow_15 : decode cXR_grow 15 = .ok (.iand, 1) := by decide +kernel
theorem dXR_grow_16 : decode cXR_grow 16 = .ok (.putfield 128, 3) := by decide +kernel
theorem dXR_grow_19 : decode cXR_grow 19 = .ok (.return_, 1) := by decide +kernel
theorem dXR_readData_0 : decode cXR_readData 0 = .ok (.aload_n 0, 1) := by decide +kernel
theorem dXR_readData_1 : decode cXR_readData 1 = .ok (.iconst 0, 1) := by decide +kernel
theorem dXR_readData_2 : decode cXR_readData 2 = .ok (.putfield 67, 3) := by decide +kernel
theorem dXR_readData_5 : decode cXR_readData 5 = .ok (.aload_n 0, 1) := by decide +kernel
theorem dXR_readData_6 : decode cXR_readData 6 = .ok (.getfield 132, 3) := by decide +kernel
theorem dXR_readData_9 : decode cXR_readData 9 = .ok (.bipush 15, 2) := by decide +kernel
theorem dXR_readData_11 : decode cXR_readData 11 = .ok (.iand, 1) := by decide +kernel
theorem dXR_readData_12 : decode cXR_readData 12 = .ok (.istore_n 1, 1) := by decide +kernel
theorem dXR_readData_13 : decode cXR_readData 13 = .ok (.aload_n 0, 1) := by decide +kernel
theorem dXR_readData_14 : decode cXR_readData 14 = .ok (.getfield 128, 3) := by decide +kernel
theorem dXR_readData_17 : decode cXR_readData 17 = .ok (.iconst 2, 1) := by decide +kernel
theorem dXR_readData_18 : decode cXR_readData 18 = .ok (.idiv, 1) := by decide +kernel
theorem dXR_readData_19 : decode cXR_readData 19 = .ok (.istore_n 2, 1) := by decide +kernel
theorem dXR_readData_20 : decode cXR_readData 20 = .ok (.iconst 0, 1) := by decide +kernel
theorem dXR_readData_21 : decode cXR_readData 21 = .ok (.istore_n 3, 1) := by decide +kernel
theorem dXR_readData_22 : decode cXR_readData 22 = .ok (.iload_n 1, 1) := by decide +kernel
theorem dXR_readData_23 : decode cXR_readData 23 = .ok (.ifCond .ne 16, 3) := by decide +kernel
theorem dXR_readData_26 : decode cXR_readData 26 = .ok (.aload_n 0, 1) := by decide +kernel
theorem dXR_readData_27 : decode cXR_readData 27 = .ok (.iload_n 2, 1) := by decide +kernel
theorem dXR_readData_28 : decode cXR_readData 28 = .ok (.sipush 512, 3) := by decide +kernel
theorem dXR_readData_31 : decode cXR_readData 31 = .ok (.irem, 1) := by decide +kernel
theorem dXR_readData_32 : decode cXR_readData 32 = .ok (.invokevirtual 135, 3) := by decide +kernel
theorem dXR_readData_35 : decode cXR_readData 35 = .ok (.istore_n 3, 1) := by decide +kernel
theorem dXR_readData_36 : decode cXR_readData 36 = .ok (.goto 36, 3) := by decide +kernel
theorem dXR_readData_39 : decode cXR_readData 39 = .ok (.iload_n 1, 1) := by decide +kernel
theorem dXR_readData_40 : decode cXR_readData 40 = .ok (.bipush 8, 2) := by decide +kernel
theorem dXR_readData_42 : decode cXR_readData 42 = .ok (.if_icmp .ne 16, 3) := by decide +kernel
theorem dXR_readData_45 : decode cXR_readData 45 = .ok (.aload_n 0, 1) := by decide +kernel
theorem dXR_readData_46 : decode cXR_readData 46 = .ok (.getfield 29, 3) := by decide +kernel
theorem dXR_readData_49 : decode cXR_readData 49 = .ok (.iload_n 2, 1) := by decide +kernel
theorem dXR_readData_50 : decode cXR_readData 50 = .ok (.bipush 16, 2) := by decide +kernel
theorem dXR_readData_52 : decode cXR_readData 52 = .ok (.irem, 1) := by decide +kernel
theorem dXR_readData_53 : decode cXR_readData 53 = .ok (.iaload, 1) := by decide +kernel
theorem dXR_readData_54 : decode cXR_readData 54 = .ok (.istore_n 3, 1) := by decide +kernel
theorem dXR_readData_55 : decode cXR_readData 55 = .ok (.goto 17, 3) := by decide +kernel
theorem dXR_readData_58 : decode cXR_readData 58 = .ok (.iload_n 1, 1) := by decide +kernel
theorem dXR_readData_59 : decode cXR_readData 59 = .ok (.iconst 4, 1) := by decide +kernel
theorem dXR_readData_60 : decode cXR_readData 60 = .ok (.if_icmp .ne 12, 3) := by decide +kernel
theorem dXR_readData_63 : decode cXR_readData 63 = .ok (.aload_n 0, 1) := by decide +kernel
theorem dXR_readData_64 : decode cXR_readData 64 = .ok (.getfield 32, 3) := by decide +kernel
theorem dXR_readData_67 : decode cXR_readData 67 = .ok (.iload_n 2, 1) := by decide +kernel
theorem dXR_readData_68 : decode cXR_readData 68 = .ok (.iconst 2, 1) := by decide +kernel
theorem dXR_readData_69 : decode cXR_readData 69 = .ok (.irem, 1) := by decide +kernel
theorem dXR_readData_70 : decode cXR_readData 70 = .ok (.iaload, 1) := by decide +kernel
theorem dXR_readData_71 : decode cXR_readData 71 = .ok (.istore_n 3, 1) := by decide +kernel
theorem dXR_readData_72 : decode cXR_readData 72 = .ok (.aload_n 0, 1) := by decide +kernel
theorem dXR_readData_73 : decode cXR_readData 73 = .ok (.invokevirtual 138, 3) := by decide +kernel
theorem dXR_readData_76 : decode cXR_readData 76 = .ok (.iload_n 3, 1) := by decide +kernel
theorem dXR_readData_77 : decode cXR_readData 77 = .ok (.ireturn, 1) := by decide +kernel
theorem dXR_put_0 : decode cXR_put 0 = .ok (.aload_n 0, 1) := by decide +kernel
theorem dXR_put_1 : decode cXR_put 1 = .ok (.getfield 132, 3) := by decide +kernel
theorem dXR_put_4 : decode cXR_put 4 = .ok (.bipush 15, 2) := by decide +kernel
theorem dXR_put_6 : decode cXR_put 6 = .ok (.iand, 1) := by decide +kernel
theorem dXR_put_7 : decode cXR_put 7 = .ok (.istore_n 2, 1) := by decide +kernel
theorem dXR_put_8 : decode cXR_put 8 = .ok (.aload_n 0, 1) := by decide +kernel
theorem dXR_put_9 : decode cXR_put 9 = .ok (.getfield 128, 3) := by decide +kernel
theorem dXR_put_12 : decode cXR_put 12 = .ok (.iconst 2, 1) := by decide +kernel
theorem dXR_put_13 : decode cXR_put 13 = .ok (.idiv, 1) := by decide +kernel
theorem dXR_put_14 : decode cXR_put 14 = .ok (.istore_n 3, 1) := by decide +kernel
theorem dXR_put_15 : decode cXR_put 15 = .ok (.iload_n 2, 1) := by decide +kernel
theorem dXR_put_16 : decode cXR_put 16 = .ok (.iconst 1, 1) := by decide +kernel
theorem dXR_put_17 : decode cXR_put 17 = .ok (.if_icmp .ne 83, 3) := by decide +kernel
theorem dXR_put_20 : decode cXR_put 20 = .ok (.aload_n 0, 1) := by decide +kernel
theorem dXR_put_21 : decode cXR_put 21 = .ok (.getfield 128, 3) := by decide +kernel
theorem dXR_put_24 : decode cXR_put 24 = .ok (.iconst 2, 1) := by decide +kernel
theorem dXR_put_25 : decode cXR_put 25 = .ok (.irem, 1) := by decide +kernel
theorem dXR_put_26 : decode cXR_put 26 = .ok (.iconst 1, 1) := by decide +kernel
theorem dXR_put_27 : decode cXR_put 27 = .ok (.if_icmp .ne 7, 3) := by decide +kernel
theorem dXR_put_30 : decode cXR_put 30 = .ok (.iconst 1, 1) := by decide +kernel
theorem dXR_put_31 : decode cXR_put 31 = .ok (.goto 4, 3) := by decide +kernel
theorem dXR_put_34 : decode cXR_put 34 = .ok (.iconst 0, 1) := by decide +kernel
theorem dXR_put_35 : decode cXR_put 35 = .ok (.istore 4, 2) := by decide +kernel
theorem dXR_put_37 : decode cXR_put 37 = .ok (.aload_n 0, 1) := by decide +kernel
theorem dXR_put_38 : decode cXR_put 38 = .ok (.getfield 26, 3) := by decide +kernel
theorem dXR_put_41 : decode cXR_put 41 = .ok (.iload_n 3, 1) := by decide +kernel
theorem dXR_put_42 : decode cXR_put 42 = .ok (.sipush 512, 3) := by decide +kernel
theorem dXR_put_45 : decode cXR_put 45 = .ok (.irem, 1) := by decide +kernel
theorem dXR_put_46 : decode cXR_put 46 = .ok (.iconst 2, 1) := by decide +kernel
theorem dXR_put_47 : decode cXR_put 47 = .ok (.imul, 1) := by decide +kernel
theorem dXR_put_48 : decode cXR_put 48 = .ok (.iload 4, 2) := by decide +kernel
theorem dXR_put_50 : decode cXR_put 50 = .ok (.ifCond .eq 11, 3) := by decide +kernel
theorem dXR_put_53 : decode cXR_put 53 = .ok (.iload_n 1, 1) := by decide +kernel
theorem dXR_put_54 : decode cXR_put 54 = .ok (.sipush 255, 3) := by decide +kernel
theorem dXR_put_57 : decode cXR_put 57 = .ok (.iand, 1) := by decide +kernel
theorem dXR_put_58 : decode cXR_put 58 = .ok (.goto 7, 3) := by decide +kernel
theorem dXR_put_61 : decode cXR_put 61 = .ok (.iload_n 1, 1) := by decide +kernel
theorem dXR_put_62 : decode cXR_put 62 = .ok (.bipush 8, 2) := by decide +kernel
theorem dXR_put_64 : decode cXR_put 64 = .ok (.ishr, 1) := by decide +kernel
theorem dXR_put_65 : decode cXR_put 65 = .ok (.iastore, 1) := by decide +kernel
theorem dXR_put_66 : decode cXR_put 66 = .ok (.aload_n 0, 1) := by decide +kernel
theorem dXR_put_67 : decode cXR_put 67 = .ok (.getfield 26, 3) := by decide +kernel
theorem dXR_put_70 : decode cXR_put 70 = .ok (.iload_n 3, 1) := by decide +kernel
theorem dXR_put_71 : decode cXR_put 71 = .ok (.sipush 512, 3) := by decide +kernel
theorem dXR_put_74 : decode cXR_put 74 = .ok (.irem, 1) := by decide +kernel
theorem dXR_put_75 : decode cXR_put 75 = .ok (.iconst 2, 1) := by decide +kernel
theorem dXR_put_76 : decode cXR_put 76 = .ok (.imul, 1) := by decide +kernel
theorem dXR_put_77 : decode cXR_put 77 = .ok (.iconst 1, 1) := by decide +kernel
theorem dXR_put_78 : decode cXR_put 78 = .ok (.iadd, 1) := by decide +kernel
theorem dXR_put_79 : decode cXR_put 79 = .ok (.iload 4, 2) := by decide +kernel
theorem dXR_put_81 : decode cXR_put 81 = .ok (.ifCond .eq 10, 3) := by decide +kernel
theorem dXR_put_84 : decode cXR_put 84 = .ok (.iload_n 1, 1) := by decide +kernel
theorem dXR_put_85 : decode cXR_put 85 = .ok (.bipush 8, 2) := by decide +kernel
theorem dXR_put_87 : decode cXR_put 87 = .ok (.ishr, 1) := by decide +kernel
theorem dXR_put_88 : decode cXR_put 88 = .ok (.goto 8, 3) := by decide +kernel
theorem dXR_put_91 : decode cXR_put 91 = .ok (.iload_n 1, 1) := by decide +kernel
theorem dXR_put_92 : decode cXR_put 92 = .ok (.sipush 255, 3) := by decide +kernel
theorem dXR_put_95 : decode cXR_put 95 = .ok (.iand, 1) := by decide +kernel
theorem dXR_put_96 : decode cXR_put 96 = .ok (.iastore, 1) := by decide +kernel
theorem dXR_put_97 : decode cXR_put 97 = .ok (.goto 35, 3) := by decide +kernel
theorem dXR_put_100 : decode cXR_put 100 = .ok (.iload_n 2, 1) := by decide +kernel
theorem dXR_put_101 : decode cXR_put 101 = .ok (.iconst 3, 1) := by decide +kernel
theorem dXR_put_102 : decode cXR_put 102 = .ok (.if_icmp .ne 16, 3) := by decide +kernel
theorem dXR_put_105 : decode cXR_put 105 = .ok (.aload_n 0, 1) := by decide +kernel
theorem dXR_put_106 : decode cXR_put 106 = .ok (.getfield 29, 3) := by decide +kernel
theorem dXR_put_109 : decode cXR_put 109 = .ok (.iload_n 3, 1) := by decide +kernel
theorem dXR_put_110 : decode cXR_put 110 = .ok (.bipush 16, 2) := by decide +kernel
theorem dXR_put_112 : decode cXR_put 112 = .ok (.irem, 1) := by decide +kernel
theorem dXR_put_113 : decode cXR_put 113 = .ok (.iload_n 1, 1) := by decide +kernel
theorem dXR_put_114 : decode cXR_put 114 = .ok (.iastore, 1) := by decide +kernel
theorem dXR_put_115 : decode cXR_put 115 = .ok (.goto 17, 3) := by decide +kernel
theorem dXR_put_118 : decode cXR_put 118 = .ok (.iload_n 2, 1) := by decide +kernel
theorem dXR_put_119 : decode cXR_put 119 = .ok (.iconst 5, 1) := by decide +kernel
theorem dXR_put_120 : decode cXR_put 120 = .ok (.if_icmp .ne 12, 3) := by decide +kernel
theorem dXR_put_123 : decode cXR_put 123 = .ok (.aload_n 0, 1) := by decide +kernel
theorem dXR_put_124 : decode cXR_put 124 = .ok (.getfield 32, 3) := by decide +kernel
theorem dXR_put_127 : decode cXR_put 127 = .ok (.iload_n 3, 1) := by decide +kernel
theorem dXR_put_128 : decode cXR_put 128 = .ok (.iconst 2, 1) := by decide +kernel
theorem dXR_put_129 : decode cXR_put 129 = .ok (.irem, 1) := by decide +kernel
theorem dXR_put_130 : decode cXR_put 130 = .ok (.iload_n 1, 1) := by decide +kernel
theorem dXR_put_131 : decode cXR_put 131 = .ok (.iastore, 1) := by decide +kernel
theorem dXR_put_132 : decode cXR_put 132 = .ok (.aload_n 0, 1) := by decide +kernel
theorem dXR_put_133 : decode cXR_put 133 = .ok (.invokevirtual 138, 3) := by decide +kernel
theorem dXR_put_136 : decode cXR_put 136 = .ok (.return_, 1) := by decide +kernel
theorem dXR_length_0 : decode cXR_length 0 = .ok (.sipush 256, 3) := by decide +kernel
theorem dXR_length_3 : decode cXR_length 3 = .ok (.aload_n 0, 1) := by decide +kernel
theorem dXR_length_4 : decode cXR_length 4 = .ok (.getfield 35, 3) := by decide +kernel
theorem dXR_length_7 : decode cXR_length 7 = .ok (.bipush 12, 2) := by decide +kernel
theorem dXR_length_9 : decode cXR_length 9 = .ok (.iaload, 1) := by decide +kernel
theorem dXR_length_10 : decode cXR_length 10 = .ok (.imul, 1) := by decide +kernel
theorem dXR_length_11 : decode cXR_length 11 = .ok (.aload_n 0, 1) := by decide +kernel
theorem dXR_length_12 : decode cXR_length 12 = .ok (.getfield 35, 3) := by decide +kernel
theorem dXR_length_15 : decode cXR_length 15 = .ok (.bipush 11, 2) := by decide +kernel
theorem dXR_length_17 : decode cXR_length 17 = .ok (.iaload, 1) := by decide +kernel
theorem dXR_length_18 : decode cXR_length 18 = .ok (.iadd, 1) := by decide +kernel
theorem dXR_length_19 : decode cXR_length 19 = .ok (.sipush 512, 3) := by decide +kernel
theorem dXR_length_22 : decode cXR_length 22 = .ok (.irem, 1) := by decide +kernel
theorem dXR_length_23 : decode cXR_length 23 = .ok (.istore_n 1, 1) := by decide +kernel
theorem dXR_length_24 : decode cXR_length 24 = .ok (.iload_n 1, 1) := by decide +kernel
theorem dXR_length_25 : decode cXR_length 25 = .ok (.ifCond .ne 9, 3) := by decide +kernel
theorem dXR_length_28 : decode cXR_length 28 = .ok (.sipush 512, 3) := by decide +kernel
theorem dXR_length_31 : decode cXR_length 31 = .ok (.goto 4, 3) := by decide +kernel
theorem dXR_length_34 : decode cXR_length 34 = .ok (.iload_n 1, 1) := by decide +kernel
theorem dXR_length_35 : decode cXR_length 35 = .ok (.ireturn, 1) := by decide +kernel
theorem dXR_endMove_0 : decode cXR_endMove 0 = .ok (.aload_n 0, 1) := by decide +kernel
theorem dXR_endMove_1 : decode cXR_endMove 1 = .ok (.getfield 35, 3) := by decide +kernel
theorem dXR_endMove_4 : decode cXR_endMove 4 = .ok (.bipush 11, 2) := by decide +kernel
theorem dXR_endMove_6 : decode cXR_endMove 6 = .ok (.iconst 0, 1) := by decide +kernel
theorem dXR_endMove_7 : decode cXR_endMove 7 = .ok (.iastore, 1) := by decide +kernel
theorem dXR_endMove_8 : decode cXR_endMove 8 = .ok (.aload_n 0, 1) := by decide +kernel
theorem dXR_endMove_9 : decode cXR_endMove 9 = .ok (.getfield 35, 3) := by decide +kernel
theorem dXR_endMove_12 : decode cXR_endMove 12 = .ok (.bipush 12, 2) := by decide +kernel
theorem dXR_endMove_14 : decode cXR_endMove 14 = .ok (.iconst 0, 1) := by decide +kernel
theorem dXR_endMove_15 : decode cXR_endMove 15 = .ok (.iastore, 1) := by decide +kernel
theorem dXR_endMove_16 : decode cXR_endMove 16 = .ok (.return_, 1) := by decide +kernel
theorem dXR_writeData_0 : decode cXR_writeData 0 = .ok (.aload_n 0, 1) := by decide +kernel
theorem dXR_writeData_1 : decode cXR_writeData 1 = .ok (.iconst 0, 1) := by decide +kernel
theorem dXR_writeData_2 : decode cXR_writeData 2 = .ok (.putfield 67, 3) := by decide +kernel
theorem dXR_writeData_5 : decode cXR_writeData 5 = .ok (.aload_n 0, 1) := by decide +kernel
theorem dXR_writeData_6 : decode cXR_writeData 6 = .ok (.iload_n 1, 1) := by decide +kernel
theorem dXR_writeData_7 : decode cXR_writeData 7 = .ok (.invokevirtual 141, 3) := by decide +kernel
theorem dXR_writeData_10 : decode cXR_writeData 10 = .ok (.aload_n 0, 1) := by decide +kernel
theorem dXR_writeData_11 : decode cXR_writeData 11 = .ok (.getfield 144, 3) := by decide +kernel
theorem dXR_writeData_14 : decode cXR_writeData 14 = .ok (.ifCond .eq 53, 3) := by decide +kernel
theorem dXR_writeData_17 : decode cXR_writeData 17 = .ok (.aload_n 0, 1) := by decide +kernel
theorem dXR_writeData_18 : decode cXR_writeData 18 = .ok (.iconst 0, 1) := by decide +kernel
theorem dXR_writeData_19 : decode cXR_writeData 19 = .ok (.putfield 144, 3) := by decide +kernel
theorem dXR_writeData_22 : decode cXR_writeData 22 = .ok (.aload_n 0, 1) := by decide +kernel
theorem dXR_writeData_23 : decode cXR_writeData 23 = .ok (.invokevirtual 147, 3) := by decide +kernel
theorem dXR_writeData_26 : decode cXR_writeData 26 = .ok (.istore_n 2, 1) := by decide +kernel
theorem dXR_writeData_27 : decode cXR_writeData 27 = .ok (.iconst 0, 1) := by decide +kernel
theorem dXR_writeData_28 : decode cXR_writeData 28 = .ok (.istore_n 3, 1) := by decide +kernel
theorem dXR_writeData_29 : decode cXR_writeData 29 = .ok (.iload_n 3, 1) := by decide +kernel
theorem dXR_writeData_30 : decode cXR_writeData 30 = .ok (.iload_n 2, 1) := by decide +kernel
theorem dXR_writeData_31 : decode cXR_writeData 31 = .ok (.if_icmp .ge 32, 3) := by decide +kernel
theorem dXR_writeData_34 : decode cXR_writeData 34 = .ok (.aload_n 0, 1) := by decide +kernel
theorem dXR_writeData_35 : decode cXR_writeData 35 = .ok (.getfield 26, 3) := by decide +kernel
theorem dXR_writeData_38 : decode cXR_writeData 38 = .ok (.aload_n 0, 1) := by decide +kernel
theorem dXR_writeData_39 : decode cXR_writeData 39 = .ok (.getfield 128, 3) := by decide +kernel
theorem dXR_writeData_42 : decode cXR_writeData 42 = .ok (.iconst 1, 1) := by decide +kernel
theorem dXR_writeData_43 : decode cXR_writeData 43 = .ok (.ixor, 1) := by decide +kernel
theorem dXR_writeData_44 : decode cXR_writeData 44 = .ok (.sipush 1024, 3) := by decide +kernel
theorem dXR_writeData_47 : decode cXR_writeData 47 = .ok (.irem, 1) := by decide +kernel
theorem dXR_writeData_48 : decode cXR_writeData 48 = .ok (.iload_n 1, 1) := by decide +kernel
theorem dXR_writeData_49 : decode cXR_writeData 49 = .ok (.bipush 8, 2) := by decide +kernel
theorem dXR_writeData_51 : decode cXR_writeData 51 = .ok (.ishr, 1) := by decide +kernel
theorem dXR_writeData_52 : decode cXR_writeData 52 = .ok (.iastore, 1) := by decide +kernel
theorem dXR_writeData_53 : decode cXR_writeData 53 = .ok (.aload_n 0, 1) := by decide +kernel
theorem dXR_writeData_54 : decode cXR_writeData 54 = .ok (.invokevirtual 138, 3) := by decide +kernel
theorem dXR_writeData_57 : decode cXR_writeData 57 = .ok (.iinc 3 1, 3) := by decide +kernel
theorem dXR_writeData_60 : decode cXR_writeData 60 = .ok (.goto (-31), 3) := by decide +kernel
theorem dXR_writeData_63 : decode cXR_writeData 63 = .ok (.aload_n 0, 1) := by decide +kernel
theorem dXR_writeData_64 : decode cXR_writeData 64 = .ok (.invokevirtual 150, 3) := by decide +kernel
theorem dXR_writeData_67 : decode cXR_writeData 67 = .ok (.return_, 1) := by decide +kernel
theorem dXR_half_0 : decode cXR_half 0 = .ok (.aload_n 0, 1) := by decide +kernel
theorem dXR_half_1 : decode cXR_half 1 = .ok (.getfield 35, 3) := by decide +kernel
theorem dXR_half_4 : decode cXR_half 4 = .ok (.bipush 10, 2) := by decide +kernel
theorem dXR_half_6 : decode cXR_half 6 = .ok (.iaload, 1) := by decide +kernel
theorem dXR_half_7 : decode cXR_half 7 = .ok (.bipush 127, 2) := by decide +kernel
theorem dXR_half_9 : decode cXR_half 9 = .ok (.iand, 1) := by decide +kernel
theorem dXR_half_10 : decode cXR_half 10 = .ok (.sipush 256, 3) := by decide +kernel
theorem dXR_half_13 : decode cXR_half 13 = .ok (.imul, 1) := by decide +kernel
theorem dXR_half_14 : decode cXR_half 14 = .ok (.aload_n 0, 1) := by decide +kernel
theorem dXR_half_15 : decode cXR_half 15 = .ok (.getfield 35, 3) := by decide +kernel
theorem dXR_half_18 : decode cXR_half 18 = .ok (.bipush 9, 2) := by decide +kernel
theorem dXR_half_20 : decode cXR_half 20 = .ok (.iaload, 1) := by decide +kernel
theorem dXR_half_21 : decode cXR_half 21 = .ok (.iadd, 1) := by decide +kernel
theorem dXR_half_22 : decode cXR_half 22 = .ok (.ireturn, 1) := by decide +kernel
theorem dXR_begin_0 : decode cXR_begin 0 = .ok (.aload_n 0, 1) := by decide +kernel
theorem dXR_begin_1 : decode cXR_begin 1 = .ok (.getfield 35, 3) := by decide +kernel
theorem dXR_begin_4 : decode cXR_begin 4 = .ok (.bipush 15, 2) := by decide +kernel
theorem dXR_begin_6 : decode cXR_begin 6 = .ok (.iaload, 1) := by decide +kernel
theorem dXR_begin_7 : decode cXR_begin 7 = .ok (.bipush 6, 2) := by decide +kernel
theorem dXR_begin_9 : decode cXR_begin 9 = .ok (.ishr, 1) := by decide +kernel
theorem dXR_begin_10 : decode cXR_begin 10 = .ok (.istore_n 1, 1) := by decide +kernel
theorem dXR_begin_11 : decode cXR_begin 11 = .ok (.iload_n 1, 1) := by decide +kernel
theorem dXR_begin_12 : decode cXR_begin 12 = .ok (.iconst 2, 1) := by decide +kernel
theorem dXR_begin_13 : decode cXR_begin 13 = .ok (.if_icmp .ge 24, 3) := by decide +kernel
theorem dXR_begin_16 : decode cXR_begin 16 = .ok (.aload_n 0, 1) := by decide +kernel
theorem dXR_begin_17 : decode cXR_begin 17 = .ok (.aload_n 0, 1) := by decide +kernel
theorem dXR_begin_18 : decode cXR_begin 18 = .ok (.invokevirtual 147, 3) := by decide +kernel
theorem dXR_begin_21 : decode cXR_begin 21 = .ok (.putfield 51, 3) := by decide +kernel
theorem dXR_begin_24 : decode cXR_begin 24 = .ok (.aload_n 0, 1) := by decide +kernel
theorem dXR_begin_25 : decode cXR_begin 25 = .ok (.iconst 2, 1) := by decide +kernel
theorem dXR_begin_26 : decode cXR_begin 26 = .ok (.aload_n 0, 1) := by decide +kernel
theorem dXR_begin_27 : decode cXR_begin 27 = .ok (.invokevirtual 153, 3) := by decide +kernel
theorem dXR_begin_30 : decode cXR_begin 30 = .ok (.imul, 1) := by decide +kernel
theorem dXR_begin_31 : decode cXR_begin 31 = .ok (.putfield 156, 3) := by decide +kernel
theorem dXR_begin_34 : decode cXR_begin 34 = .ok (.goto 75, 3) := by decide +kernel
theorem dXR_begin_37 : decode cXR_begin 37 = .ok (.iload_n 1, 1) := by decide +kernel
theorem dXR_begin_38 : decode cXR_begin 38 = .ok (.iconst 2, 1) := by decide +kernel
theorem dXR_begin_39 : decode cXR_begin 39 = .ok (.if_icmp .ne 11, 3) := by decide +kernel
theorem dXR_begin_42 : decode cXR_begin 42 = .ok (.aload_n 0, 1) := by decide +kernel
theorem dXR_begin_43 : decode cXR_begin 43 = .ok (.iconst 1, 1) := by decide +kernel
theorem dXR_begin_44 : decode cXR_begin 44 = .ok (.putfield 144, 3) := by decide +kernel
theorem dXR_begin_47 : decode cXR_begin 47 = .ok (.goto 62, 3) := by decide +kernel
theorem dXR_begin_50 : decode cXR_begin 50 = .ok (.aload_n 0, 1) := by decide +kernel
theorem dXR_begin_51 : decode cXR_begin 51 = .ok (.invokevirtual 147, 3) := by decide +kernel
theorem dXR_begin_54 : decode cXR_begin 54 = .ok (.istore_n 2, 1) := by decide +kernel
theorem dXR_begin_55 : decode cXR_begin 55 = .ok (.aload_n 0, 1) := by decide +kernel
theorem dXR_begin_56 : decode cXR_begin 56 = .ok (.invokevirtual 153, 3) := by decide +kernel
theorem dXR_begin_59 : decode cXR_begin 59 = .ok (.istore_n 3, 1) := by decide +kernel
theorem dXR_begin_60 : decode cXR_begin 60 = .ok (.iconst 0, 1) := by decide +kernel
theorem dXR_begin_61 : decode cXR_begin 61 = .ok (.istore 4, 2) := by decide +kernel
theorem dXR_begin_63 : decode cXR_begin 63 = .ok (.iload 4, 2) := by decide +kernel
theorem dXR_begin_65 : decode cXR_begin 65 = .ok (.iload_n 2, 1) := by decide +kernel
theorem dXR_begin_66 : decode cXR_begin 66 = .ok (.if_icmp .ge 39, 3) := by decide +kernel
theorem dXR_begin_69 : decode cXR_begin 69 = .ok (.aload_n 0, 1) := by decide +kernel
theorem dXR_begin_70 : decode cXR_begin 70 = .ok (.getfield 26, 3) := by decide +kernel
theorem dXR_begin_73 : decode cXR_begin 73 = .ok (.aload_n 0, 1) := by decide +kernel
theorem dXR_begin_74 : decode cXR_begin 74 = .ok (.getfield 128, 3) := by decide +kernel
theorem dXR_begin_77 : decode cXR_begin 77 = .ok (.sipush 1024, 3) := by decide +kernel
theorem dXR_begin_80 : decode cXR_begin 80 = .ok (.irem, 1) := by decide +kernel
theorem dXR_begin_81 : decode cXR_begin 81 = .ok (.aload_n 0, 1) := by decide +kernel
theorem dXR_begin_82 : decode cXR_begin 82 = .ok (.getfield 26, 3) := by decide +kernel
theorem dXR_begin_85 : decode cXR_begin 85 = .ok (.iload_n 3, 1) := by decide +kernel
theorem dXR_begin_86 : decode cXR_begin 86 = .ok (.iload 4, 2) := by decide +kernel
theorem dXR_begin_88 : decode cXR_begin 88 = .ok (.iadd, 1) := by decide +kernel
theorem dXR_begin_89 : decode cXR_begin 89 = .ok (.sipush 1024, 3) := by decide +kernel
theorem dXR_begin_92 : decode cXR_begin 92 = .ok (.irem, 1) := by decide +kernel
theorem dXR_begin_93 : decode cXR_begin 93 = .ok (.iaload, 1) := by decide +kernel
theorem dXR_begin_94 : decode cXR_begin 94 = .ok (.iastore, 1) := by decide +kernel
theorem dXR_begin_95 : decode cXR_begin 95 = .ok (.aload_n 0, 1) := by decide +kernel
theorem dXR_begin_96 : decode cXR_begin 96 = .ok (.invokevirtual 138, 3) := by decide +kernel
theorem dXR_begin_99 : decode cXR_begin 99 = .ok (.iinc 4 1, 3) := by decide +kernel
theorem dXR_begin_102 : decode cXR_begin 102 = .ok (.goto (-39), 3) := by decide +kernel
theorem dXR_begin_105 : decode cXR_begin 105 = .ok (.aload_n 0, 1) := by decide +kernel
theorem dXR_begin_106 : decode cXR_begin 106 = .ok (.invokevirtual 150, 3) := by decide +kernel
theorem dXR_begin_109 : decode cXR_begin 109 = .ok (.return_, 1) := by decide +kernel
theorem dXR_control_0 : decode cXR_control 0 = .ok (.aload_n 0, 1) := by decide +kernel
theorem dXR_control_1 : decode cXR_control 1 = .ok (.getfield 67, 3) := by decide +kernel
theorem dXR_control_4 : decode cXR_control 4 = .ok (.ifCond .eq 75, 3) := by decide +kernel
theorem dXR_control_7 : decode cXR_control 7 = .ok (.aload_n 0, 1) := by decide +kernel
theorem dXR_control_8 : decode cXR_control 8 = .ok (.iconst 0, 1) := by decide +kernel
theorem dXR_control_9 : decode cXR_control 9 = .ok (.putfield 67, 3) := by decide +kernel
theorem dXR_control_12 : decode cXR_control 12 = .ok (.aload_n 0, 1) := by decide +kernel
theorem dXR_control_13 : decode cXR_control 13 = .ok (.aload_n 0, 1) := by decide +kernel
theorem dXR_control_14 : decode cXR_control 14 = .ok (.getfield 128, 3) := by decide +kernel
theorem dXR_control_17 : decode cXR_control 17 = .ok (.sipush 16383, 3) := by decide +kernel
theorem dXR_control_20 : decode cXR_control 20 = .ok (.iand, 1) := by decide +kernel
theorem dXR_control_21 : decode cXR_control 21 = .ok (.iload_n 1, 1) := by decide +kernel
theorem dXR_control_22 : decode cXR_control 22 = .ok (.iconst 3, 1) := by decide +kernel
theorem dXR_control_23 : decode cXR_control 23 = .ok (.iand, 1) := by decide +kernel
theorem dXR_control_24 : decode cXR_control 24 = .ok (.bipush 14, 2) := by decide +kernel
theorem dXR_control_26 : decode cXR_control 26 = .ok (.ishl, 1) := by decide +kernel
theorem dXR_control_27 : decode cXR_control 27 = .ok (.ior, 1) := by decide +kernel
theorem dXR_control_28 : decode cXR_control 28 = .ok (.putfield 128, 3) := by decide +kernel
theorem dXR_control_31 : decode cXR_control 31 = .ok (.aload_n 0, 1) := by decide +kernel
theorem dXR_control_32 : decode cXR_control 32 = .ok (.aload_n 0, 1) := by decide +kernel
theorem dXR_control_33 : decode cXR_control 33 = .ok (.getfield 132, 3) := by decide +kernel
theorem dXR_control_36 : decode cXR_control 36 = .ok (.iconst 3, 1) := by decide +kernel
theorem dXR_control_37 : decode cXR_control 37 = .ok (.iand, 1) := by decide +kernel
theorem dXR_control_38 : decode cXR_control 38 = .ok (.iload_n 1, 1) := by decide +kernel
theorem dXR_control_39 : decode cXR_control 39 = .ok (.iconst 4, 1) := by decide +kernel
theorem dXR_control_40 : decode cXR_control 40 = .ok (.ishr, 1) := by decide +kernel
theorem dXR_control_41 : decode cXR_control 41 = .ok (.bipush 15, 2) := by decide +kernel
theorem dXR_control_43 : decode cXR_control 43 = .ok (.iand, 1) := by decide +kernel
theorem dXR_control_44 : decode cXR_control 44 = .ok (.iconst 2, 1) := by decide +kernel
theorem dXR_control_45 : decode cXR_control 45 = .ok (.ishl, 1) := by decide +kernel
theorem dXR_control_46 : decode cXR_control 46 = .ok (.ior, 1) := by decide +kernel
theorem dXR_control_47 : decode cXR_control 47 = .ok (.putfield 132, 3) := by decide +kernel
theorem dXR_control_50 : decode cXR_control 50 = .ok (.aload_n 0, 1) := by decide +kernel
theorem dXR_control_51 : decode cXR_control 51 = .ok (.getfield 132, 3) := by decide +kernel
theorem dXR_control_54 : decode cXR_control 54 = .ok (.bipush 32, 2) := by decide +kernel
theorem dXR_control_56 : decode cXR_control 56 = .ok (.iand, 1) := by decide +kernel
theorem dXR_control_57 : decode cXR_control 57 = .ok (.ifCond .eq 99, 3) := by decide +kernel
theorem dXR_control_60 : decode cXR_control 60 = .ok (.aload_n 0, 1) := by decide +kernel
theorem dXR_control_61 : decode cXR_control 61 = .ok (.getfield 35, 3) := by decide +kernel
theorem dXR_control_64 : decode cXR_control 64 = .ok (.iconst 1, 1) := by decide +kernel
theorem dXR_control_65 : decode cXR_control 65 = .ok (.iaload, 1) := by decide +kernel
theorem dXR_control_66 : decode cXR_control 66 = .ok (.bipush 16, 2) := by decide +kernel
theorem dXR_control_68 : decode cXR_control 68 = .ok (.iand, 1) := by decide +kernel
theorem dXR_control_69 : decode cXR_control 69 = .ok (.ifCond .eq 87, 3) := by decide +kernel
theorem dXR_control_72 : decode cXR_control 72 = .ok (.aload_n 0, 1) := by decide +kernel
theorem dXR_control_73 : decode cXR_control 73 = .ok (.invokevirtual 159, 3) := by decide +kernel
theorem dXR_control_76 : decode cXR_control 76 = .ok (.goto 80, 3) := by decide +kernel
theorem dXR_control_79 : decode cXR_control 79 = .ok (.iload_n 1, 1) := by decide +kernel
theorem dXR_control_80 : decode cXR_control 80 = .ok (.bipush 14, 2) := by decide +kernel
theorem dXR_control_82 : decode cXR_control 82 = .ok (.ishr, 1) := by decide +kernel
theorem dXR_control_83 : decode cXR_control 83 = .ok (.iconst 2, 1) := by decide +kernel
theorem dXR_control_84 : decode cXR_control 84 = .ok (.if_icmp .ne 34, 3) := by decide +kernel
theorem dXR_control_87 : decode cXR_control 87 = .ok (.aload_n 0, 1) := by decide +kernel
theorem dXR_control_88 : decode cXR_control 88 = .ok (.getfield 35, 3) := by decide +kernel
theorem dXR_control_91 : decode cXR_control 91 = .ok (.iload_n 1, 1) := by decide +kernel
theorem dXR_control_92 : decode cXR_control 92 = .ok (.bipush 8, 2) := by decide +kernel
theorem dXR_control_94 : decode cXR_control 94 = .ok (.ishr, 1) := by decide +kernel
theorem dXR_control_95 : decode cXR_control 95 = .ok (.bipush 15, 2) := by decide +kernel
theorem dXR_control_97 : decode cXR_control 97 = .ok (.iand, 1) := by decide +kernel
theorem dXR_control_98 : decode cXR_control 98 = .ok (.iload_n 1, 1) := by decide +kernel
theorem dXR_control_99 : decode cXR_control 99 = .ok (.sipush 255, 3) := by decide +kernel
theorem dXR_control_102 : decode cXR_control 102 = .ok (.iand, 1) := by decide +kernel
theorem dXR_control_103 : decode cXR_control 103 = .ok (.iastore, 1) := by decide +kernel
theorem dXR_control_104 : decode cXR_control 104 = .ok (.aload_n 0, 1) := by decide +kernel
theorem dXR_control_105 : decode cXR_control 105 = .ok (.aload_n 0, 1) := by decide +kernel
theorem dXR_control_106 : decode cXR_control 106 = .ok (.getfield 132, 3) := by decide +kernel
theorem dXR_control_109 : decode cXR_control 109 = .ok (.bipush 60, 2) := by decide +kernel
theorem dXR_control_111 : decode cXR_control 111 = .ok (.iand, 1) := by decide +kernel
theorem dXR_control_112 : decode cXR_control 112 = .ok (.putfield 132, 3) := by decide +kernel
theorem dXR_control_115 : decode cXR_control 115 = .ok (.goto 41, 3) := by decide +kernel
theorem dXR_control_118 : decode cXR_control 118 = .ok (.aload_n 0, 1) := by decide +kernel
theorem dXR_control_119 : decode cXR_control 119 = .ok (.aload_n 0, 1) := by decide +kernel
theorem dXR_control_120 : decode cXR_control 120 = .ok (.getfield 128, 3) := by decide +kernel
theorem dXR_control_123 : decode cXR_control 123 = .ok (.ldc 162, 2) := by decide +kernel
theorem dXR_control_125 : decode cXR_control 125 = .ok (.iand, 1) := by decide +kernel
theorem dXR_control_126 : decode cXR_control 126 = .ok (.iload_n 1, 1) := by decide +kernel
theorem dXR_control_127 : decode cXR_control 127 = .ok (.sipush 16383, 3) := by decide +kernel
theorem dXR_control_130 : decode cXR_control 130 = .ok (.iand, 1) := by decide +kernel
theorem dXR_control_131 : decode cXR_control 131 = .ok (.ior, 1) := by decide +kernel
theorem dXR_control_132 : decode cXR_control 132 = .ok (.putfield 128, 3) := by decide +kernel
theorem dXR_control_135 : decode cXR_control 135 = .ok (.aload_n 0, 1) := by decide +kernel
theorem dXR_control_136 : decode cXR_control 136 = .ok (.aload_n 0, 1) := by decide +kernel
theorem dXR_control_137 : decode cXR_control 137 = .ok (.getfield 132, 3) := by decide +kernel
theorem dXR_control_140 : decode cXR_control 140 = .ok (.bipush 60, 2) := by decide +kernel
theorem dXR_control_142 : decode cXR_control 142 = .ok (.iand, 1) := by decide +kernel
theorem dXR_control_143 : decode cXR_control 143 = .ok (.iload_n 1, 1) := by decide +kernel
theorem dXR_control_144 : decode cXR_control 144 = .ok (.bipush 14, 2) := by decide +kernel
theorem dXR_control_146 : decode cXR_control 146 = .ok (.ishr, 1) := by decide +kernel
theorem dXR_control_147 : decode cXR_control 147 = .ok (.ior, 1) := by decide +kernel
theorem dXR_control_148 : decode cXR_control 148 = .ok (.putfield 132, 3) := by decide +kernel
theorem dXR_control_151 : decode cXR_control 151 = .ok (.aload_n 0, 1) := by decide +kernel
theorem dXR_control_152 : decode cXR_control 152 = .ok (.iconst 1, 1) := by decide +kernel
theorem dXR_control_153 : decode cXR_control 153 = .ok (.putfield 67, 3) := by decide +kernel
theorem dXR_control_156 : decode cXR_control 156 = .ok (.return_, 1) := by decide +kernel
theorem dXR_moveWord_0 : decode cXR_moveWord 0 = .ok (.aload_n 0, 1) := by decide +kernel
theorem dXR_moveWord_1 : decode cXR_moveWord 1 = .ok (.aload_n 0, 1) := by decide +kernel
theorem dXR_moveWord_2 : decode cXR_moveWord 2 = .ok (.getfield 156, 3) := by decide +kernel
theorem dXR_moveWord_5 : decode cXR_moveWord 5 = .ok (.sipush 768, 3) := by decide +kernel
theorem dXR_moveWord_8 : decode cXR_moveWord 8 = .ok (.if_icmp .ge 14, 3) := by decide +kernel
theorem dXR_moveWord_11 : decode cXR_moveWord 11 = .ok (.aload_n 0, 1) := by decide +kernel
theorem dXR_moveWord_12 : decode cXR_moveWord 12 = .ok (.aload_n 0, 1) := by decide +kernel
theorem dXR_moveWord_13 : decode cXR_moveWord 13 = .ok (.getfield 156, 3) := by decide +kernel
theorem dXR_moveWord_16 : decode cXR_moveWord 16 = .ok (.invokevirtual 76, 3) := by decide +kernel
theorem dXR_moveWord_19 : decode cXR_moveWord 19 = .ok (.goto 4, 3) := by decide +kernel
theorem dXR_moveWord_22 : decode cXR_moveWord 22 = .ok (.iconst 0, 1) := by decide +kernel
theorem dXR_moveWord_23 : decode cXR_moveWord 23 = .ok (.invokevirtual 141, 3) := by decide +kernel
theorem dXR_moveWord_26 : decode cXR_moveWord 26 = .ok (.aload_n 0, 1) := by decide +kernel
theorem dXR_moveWord_27 : decode cXR_moveWord 27 = .ok (.aload_n 0, 1) := by decide +kernel
theorem dXR_moveWord_28 : decode cXR_moveWord 28 = .ok (.getfield 156, 3) := by decide +kernel
theorem dXR_moveWord_31 : decode cXR_moveWord 31 = .ok (.sipush 1024, 3) := by decide +kernel
theorem dXR_moveWord_34 : decode cXR_moveWord 34 = .ok (.idiv, 1) := by decide +kernel
theorem dXR_moveWord_35 : decode cXR_moveWord 35 = .ok (.sipush 1024, 3) := by decide +kernel
theorem dXR_moveWord_38 : decode cXR_moveWord 38 = .ok (.imul, 1) := by decide +kernel
theorem dXR_moveWord_39 : decode cXR_moveWord 39 = .ok (.aload_n 0, 1) := by decide +kernel
theorem dXR_moveWord_40 : decode cXR_moveWord 40 = .ok (.getfield 156, 3) := by decide +kernel
theorem dXR_moveWord_43 : decode cXR_moveWord 43 = .ok (.iconst 2, 1) := by decide +kernel
theorem dXR_moveWord_44 : decode cXR_moveWord 44 = .ok (.iadd, 1) := by decide +kernel
theorem dXR_moveWord_45 : decode cXR_moveWord 45 = .ok (.sipush 1024, 3) := by decide +kernel
theorem dXR_moveWord_48 : decode cXR_moveWord 48 = .ok (.irem, 1) := by decide +kernel
theorem dXR_moveWord_49 : decode cXR_moveWord 49 = .ok (.iadd, 1) := by decide +kernel
theorem dXR_moveWord_50 : decode cXR_moveWord 50 = .ok (.putfield 156, 3) := by decide +kernel
theorem dXR_moveWord_53 : decode cXR_moveWord 53 = .ok (.aload_n 0, 1) := by decide +kernel
theorem dXR_moveWord_54 : decode cXR_moveWord 54 = .ok (.dup, 1) := by decide +kernel
theorem dXR_moveWord_55 : decode cXR_moveWord 55 = .ok (.getfield 51, 3) := by decide +kernel
theorem dXR_moveWord_58 : decode cXR_moveWord 58 = .ok (.iconst 1, 1) := by decide +kernel
theorem dXR_moveWord_59 : decode cXR_moveWord 59 = .ok (.isub, 1) := by decide +kernel
theorem dXR_moveWord_60 : decode cXR_moveWord 60 = .ok (.putfield 51, 3) := by decide +kernel
theorem dXR_moveWord_63 : decode cXR_moveWord 63 = .ok (.aload_n 0, 1) := by decide +kernel
theorem dXR_moveWord_64 : decode cXR_moveWord 64 = .ok (.getfield 51, 3) := by decide +kernel
theorem dXR_moveWord_67 : decode cXR_moveWord 67 = .ok (.ifCond .ne 7, 3) := by decide +kernel
theorem dXR_moveWord_70 : decode cXR_moveWord 70 = .ok (.aload_n 0, 1) := by decide +kernel
theorem dXR_moveWord_71 : decode cXR_moveWord 71 = .ok (.invokevirtual 150, 3) := by decide +kernel
theorem dXR_moveWord_74 : decode cXR_moveWord 74 = .ok (.return_, 1) := by decide +kernel
theorem dXR_flagWord_0 : decode cXR_flagWord 0 = .ok (.sipush 256, 3) := by decide +kernel
theorem dXR_flagWord_3 : decode cXR_flagWord 3 = .ok (.aload_n 0, 1) := by decide +kernel
theorem dXR_flagWord_4 : decode cXR_flagWord 4 = .ok (.getfield 163, 3) := by decide +kernel
theorem dXR_flagWord_7 : decode cXR_flagWord 7 = .ok (.imul, 1) := by decide +kernel
theorem dXR_flagWord_8 : decode cXR_flagWord 8 = .ok (.aload_n 0, 1) := by decide +kernel
theorem dXR_flagWord_9 : decode cXR_flagWord 9 = .ok (.getfield 166, 3) := by decide +kernel
theorem dXR_flagWord_12 : decode cXR_flagWord 12 = .ok (.ifCond .eq 8, 3) := by decide +kernel
theorem dXR_flagWord_15 : decode cXR_flagWord 15 = .ok (.bipush 8, 2) := by decide +kernel
theorem dXR_flagWord_17 : decode cXR_flagWord 17 = .ok (.goto 4, 3) := by decide +kernel
theorem dXR_flagWord_20 : decode cXR_flagWord 20 = .ok (.iconst 0, 1) := by decide +kernel
theorem dXR_flagWord_21 : decode cXR_flagWord 21 = .ok (.iadd, 1) := by decide +kernel
theorem dXR_flagWord_22 : decode cXR_flagWord 22 = .ok (.aload_n 0, 1) := by decide +kernel
theorem dXR_flagWord_23 : decode cXR_flagWord 23 = .ok (.getfield 169, 3) := by decide +kernel
theorem dXR_flagWord_26 : decode cXR_flagWord 26 = .ok (.ifCond .eq 7, 3) := by decide +kernel
theorem dXR_flagWord_29 : decode cXR_flagWord 29 = .ok (.iconst 4, 1) := by decide +kernel
theorem dXR_flagWord_30 : decode cXR_flagWord 30 = .ok (.goto 4, 3) := by decide +kernel
theorem dXR_flagWord_33 : decode cXR_flagWord 33 = .ok (.iconst 0, 1) := by decide +kernel
theorem dXR_flagWord_34 : decode cXR_flagWord 34 = .ok (.iadd, 1) := by decide +kernel
theorem dXR_flagWord_35 : decode cXR_flagWord 35 = .ok (.aload_n 0, 1) := by decide +kernel
theorem dXR_flagWord_36 : decode cXR_flagWord 36 = .ok (.getfield 172, 3) := by decide +kernel
theorem dXR_flagWord_39 : decode cXR_flagWord 39 = .ok (.ifCond .eq 7, 3) := by decide +kernel
theorem dXR_flagWord_42 : decode cXR_flagWord 42 = .ok (.iconst 2, 1) := by decide +kernel
theorem dXR_flagWord_43 : decode cXR_flagWord 43 = .ok (.goto 4, 3) := by decide +kernel
theorem dXR_flagWord_46 : decode cXR_flagWord 46 = .ok (.iconst 0, 1) := by decide +kernel
theorem dXR_flagWord_47 : decode cXR_flagWord 47 = .ok (.iadd, 1) := by decide +kernel
theorem dXR_flagWord_48 : decode cXR_flagWord 48 = .ok (.aload_n 0, 1) := by decide +kernel
theorem dXR_flagWord_49 : decode cXR_flagWord 49 = .ok (.getfield 175, 3) := by decide +kernel
theorem dXR_flagWord_52 : decode cXR_flagWord 52 = .ok (.ifCond .eq 7, 3) := by decide +kernel
theorem dXR_flagWord_55 : decode cXR_flagWord 55 = .ok (.iconst 1, 1) := by decide +kernel
theorem dXR_flagWord_56 : decode cXR_flagWord 56 = .ok (.goto 4, 3) := by decide +kernel
theorem dXR_flagWord_59 : decode cXR_flagWord 59 = .ok (.iconst 0, 1) := by decide +kernel
theorem dXR_flagWord_60 : decode cXR_flagWord 60 = .ok (.iadd, 1) := by decide +kernel
theorem dXR_flagWord_61 : decode cXR_flagWord 61 = .ok (.ireturn, 1) := by decide +kernel
theorem dXR_setFlagWord_0 : decode cXR_setFlagWord 0 = .ok (.aload_n 0, 1) := by decide +kernel
theorem dXR_setFlagWord_1 : decode cXR_setFlagWord 1 = .ok (.iload_n 1, 1) := by decide +kernel
theorem dXR_setFlagWord_2 : decode cXR_setFlagWord 2 = .ok (.bipush 8, 2) := by decide +kernel
theorem dXR_setFlagWord_4 : decode cXR_setFlagWord 4 = .ok (.ishr, 1) := by decide +kernel
theorem dXR_setFlagWord_5 : decode cXR_setFlagWord 5 = .ok (.bipush 7, 2) := by decide +kernel
theorem dXR_setFlagWord_7 : decode cXR_setFlagWord 7 = .ok (.iand, 1) := by decide +kernel
theorem dXR_setFlagWord_8 : decode cXR_setFlagWord 8 = .ok (.putfield 163, 3) := by decide +kernel
theorem dXR_setFlagWord_11 : decode cXR_setFlagWord 11 = .ok (.aload_n 0, 1) := by decide +kernel
theorem dXR_setFlagWord_12 : decode cXR_setFlagWord 12 = .ok (.iload_n 1, 1) := by decide +kernel
theorem dXR_setFlagWord_13 : decode cXR_setFlagWord 13 = .ok (.bipush 8, 2) := by decide +kernel
theorem dXR_setFlagWord_15 : decode cXR_setFlagWord 15 = .ok (.iand, 1) := by decide +kernel
theorem dXR_setFlagWord_16 : decode cXR_setFlagWord 16 = .ok (.ifCond .eq 7, 3) := by decide +kernel
theorem dXR_setFlagWord_19 : decode cXR_setFlagWord 19 = .ok (.iconst 1, 1) := by decide +kernel
theorem dXR_setFlagWord_20 : decode cXR_setFlagWord 20 = .ok (.goto 4, 3) := by decide +kernel
theorem dXR_setFlagWord_23 : decode cXR_setFlagWord 23 = .ok (.iconst 0, 1) := by decide +kernel
theorem dXR_setFlagWord_24 : decode cXR_setFlagWord 24 = .ok (.putfield 166, 3) := by decide +kernel
theorem dXR_setFlagWord_27 : decode cXR_setFlagWord 27 = .ok (.aload_n 0, 1) := by decide +kernel
theorem dXR_setFlagWord_28 : decode cXR_setFlagWord 28 = .ok (.iload_n 1, 1) := by decide +kernel
theorem dXR_setFlagWord_29 : decode cXR_setFlagWord 29 = .ok (.iconst 4, 1) := by decide +kernel
theorem dXR_setFlagWord_30 : decode cXR_setFlagWord 30 = .ok (.iand, 1) := by decide +kernel
theorem dXR_setFlagWord_31 : decode cXR_setFlagWord 31 = .ok (.ifCond .eq 7, 3) := by decide +kernel
theorem dXR_setFlagWord_34 : decode cXR_setFlagWord 34 = .ok (.iconst 1, 1) := by decide +kernel
theorem dXR_setFlagWord_35 : decode cXR_setFlagWord 35 = .ok (.goto 4, 3) := by decide +kernel
theorem dXR_setFlagWord_38 : decode cXR_setFlagWord 38 = .ok (.iconst 0, 1) := by decide +kernel
theorem dXR_setFlagWord_39 : decode cXR_setFlagWord 39 = .ok (.putfield 169, 3) := by decide +kernel
theorem dXR_setFlagWord_42 : decode cXR_setFlagWord 42 = .ok (.aload_n 0, 1) := by decide +kernel
theorem dXR_setFlagWord_43 : decode cXR_setFlagWord 43 = .ok (.iload_n 1, 1) := by decide +kernel
theorem dXR_setFlagWord_44 : decode cXR_setFlagWord 44 = .ok (.iconst 2, 1) := by decide +kernel
theorem dXR_setFlagWord_45 : decode cXR_setFlagWord 45 = .ok (.iand, 1) := by decide +kernel
theorem dXR_setFlagWord_46 : decode cXR_setFlagWord 46 = .ok (.ifCond .eq 7, 3) := by decide +kernel
theorem dXR_setFlagWord_49 : decode cXR_setFlagWord 49 = .ok (.iconst 1, 1) := by decide +kernel
theorem dXR_setFlagWord_50 : decode cXR_setFlagWord 50 = .ok (.goto 4, 3) := by decide +kernel
theorem dXR_setFlagWord_53 : decode cXR_setFlagWord 53 = .ok (.iconst 0, 1) := by decide +kernel
theorem dXR_setFlagWord_54 : decode cXR_setFlagWord 54 = .ok (.putfield 172, 3) := by decide +kernel
theorem dXR_setFlagWord_57 : decode cXR_setFlagWord 57 = .ok (.aload_n 0, 1) := by decide +kernel
theorem dXR_setFlagWord_58 : decode cXR_setFlagWord 58 = .ok (.iload_n 1, 1) := by decide +kernel
theorem dXR_setFlagWord_59 : decode cXR_setFlagWord 59 = .ok (.iconst 1, 1) := by decide +kernel
theorem dXR_setFlagWord_60 : decode cXR_setFlagWord 60 = .ok (.iand, 1) := by decide +kernel
theorem dXR_setFlagWord_61 : decode cXR_setFlagWord 61 = .ok (.ifCond .eq 7, 3) := by decide +kernel
theorem dXR_setFlagWord_64 : decode cXR_setFlagWord 64 = .ok (.iconst 1, 1) := by decide +kernel
theorem dXR_setFlagWord_65 : decode cXR_setFlagWord 65 = .ok (.goto 4, 3) := by decide +kernel
theorem dXR_setFlagWord_68 : decode cXR_setFlagWord 68 = .ok (.iconst 0, 1) := by decide +kernel
theorem dXR_setFlagWord_69 : decode cXR_setFlagWord 69 = .ok (.putfield 175, 3) := by decide +kernel
theorem dXR_setFlagWord_72 : decode cXR_setFlagWord 72 = .ok (.return_, 1) := by decide +kernel
theorem dXR_testWord_0 : decode cXR_testWord 0 = .ok (.aload_n 0, 1) := by decide +kernel
theorem dXR_testWord_1 : decode cXR_testWord 1 = .ok (.iload_n 1, 1) := by decide +kernel
theorem dXR_testWord_2 : decode cXR_testWord 2 = .ok (.ldc 178, 2) := by decide +kernel
theorem dXR_testWord_4 : decode cXR_testWord 4 = .ok (.if_icmp .lt 7, 3) := by decide +kernel
theorem dXR_testWord_7 : decode cXR_testWord 7 = .ok (.iconst 1, 1) := by decide +kernel
theorem dXR_testWord_8 : decode cXR_testWord 8 = .ok (.goto 4, 3) := by decide +kernel
theorem dXR_testWord_11 : decode cXR_testWord 11 = .ok (.iconst 0, 1) := by decide +kernel
