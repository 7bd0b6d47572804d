theorem dXR_beginLine_25 : decode cXR_beginLine 25 = .ok (.bipush 8, 2) := by decide +kernel
theorem dXR_beginLine_27 : decode cXR_beginLine 27 = .ok (.iaload, 1) := by decide +kernel
theorem dXR_beginLine_28 : decode cXR_beginLine 28 = .ok (.putfield 277, 3) := by decide +kernel
theorem dXR_beginLine_31 : decode cXR_beginLine 31 = .ok (.aload_n 0, 1) := by decide +kernel
theorem dXR_beginLine_32 : decode cXR_beginLine 32 = .ok (.aload_n 0, 1) := by decide +kernel
theorem dXR_beginLine_33 : decode cXR_beginLine 33 = .ok (.getfield 241, 3) := by decide +kernel
theorem dXR_beginLine_36 : decode cXR_beginLine 36 = .ok (.ifCond .ne 15, 3) := by decide +kernel
theorem dXR_beginLine_39 : decode cXR_beginLine 39 = .ok (.aload_n 0, 1) := by decide +kernel
theorem dXR_beginLine_40 : decode cXR_beginLine 40 = .ok (.getfield 35, 3) := by decide +kernel
theorem dXR_beginLine_43 : decode cXR_beginLine 43 = .ok (.iconst 0, 1) := by decide +kernel
theorem dXR_beginLine_44 : decode cXR_beginLine 44 = .ok (.iaload, 1) := by decide +kernel
theorem dXR_beginLine_45 : decode cXR_beginLine 45 = .ok (.bipush 16, 2) := by decide +kernel
theorem dXR_beginLine_47 : decode cXR_beginLine 47 = .ok (.iand, 1) := by decide +kernel
theorem dXR_beginLine_48 : decode cXR_beginLine 48 = .ok (.ifCond .eq 7, 3) := by decide +kernel
theorem dXR_beginLine_51 : decode cXR_beginLine 51 = .ok (.iconst 1, 1) := by decide +kernel
theorem dXR_beginLine_52 : decode cXR_beginLine 52 = .ok (.goto 4, 3) := by decide +kernel
theorem dXR_beginLine_55 : decode cXR_beginLine 55 = .ok (.iconst 0, 1) := by decide +kernel
theorem dXR_beginLine_56 : decode cXR_beginLine 56 = .ok (.putfield 241, 3) := by decide +kernel
theorem dXR_beginLine_59 : decode cXR_beginLine 59 = .ok (.goto 13, 3) := by decide +kernel
theorem dXR_beginLine_62 : decode cXR_beginLine 62 = .ok (.aload_n 0, 1) := by decide +kernel
theorem dXR_beginLine_63 : decode cXR_beginLine 63 = .ok (.dup, 1) := by decide +kernel
theorem dXR_beginLine_64 : decode cXR_beginLine 64 = .ok (.getfield 277, 3) := by decide +kernel
theorem dXR_beginLine_67 : decode cXR_beginLine 67 = .ok (.iconst 1, 1) := by decide +kernel
theorem dXR_beginLine_68 : decode cXR_beginLine 68 = .ok (.isub, 1) := by decide +kernel
theorem dXR_beginLine_69 : decode cXR_beginLine 69 = .ok (.putfield 277, 3) := by decide +kernel
theorem dXR_beginLine_72 : decode cXR_beginLine 72 = .ok (.return_, 1) := by decide +kernel
theorem dXR_beginLine_73 : decode cXR_beginLine 73 = .ok (.aload_n 0, 1) := by decide +kernel
theorem dXR_beginLine_74 : decode cXR_beginLine 74 = .ok (.aload_n 0, 1) := by decide +kernel
theorem dXR_beginLine_75 : decode cXR_beginLine 75 = .ok (.getfield 35, 3) := by decide +kernel
theorem dXR_beginLine_78 : decode cXR_beginLine 78 = .ok (.bipush 8, 2) := by decide +kernel
theorem dXR_beginLine_80 : decode cXR_beginLine 80 = .ok (.iaload, 1) := by decide +kernel
theorem dXR_beginLine_81 : decode cXR_beginLine 81 = .ok (.putfield 277, 3) := by decide +kernel
theorem dXR_beginLine_84 : decode cXR_beginLine 84 = .ok (.aload_n 0, 1) := by decide +kernel
theorem dXR_beginLine_85 : decode cXR_beginLine 85 = .ok (.getfield 55, 3) := by decide +kernel
theorem dXR_beginLine_88 : decode cXR_beginLine 88 = .ok (.bipush 8, 2) := by decide +kernel
theorem dXR_beginLine_90 : decode cXR_beginLine 90 = .ok (.if_icmp .ne 35, 3) := by decide +kernel
theorem dXR_beginLine_93 : decode cXR_beginLine 93 = .ok (.aload_n 0, 1) := by decide +kernel
theorem dXR_beginLine_94 : decode cXR_beginLine 94 = .ok (.aload_n 0, 1) := by decide +kernel
theorem dXR_beginLine_95 : decode cXR_beginLine 95 = .ok (.getfield 58, 3) := by decide +kernel
theorem dXR_beginLine_98 : decode cXR_beginLine 98 = .ok (.ifCond .ne 15, 3) := by decide +kernel
theorem dXR_beginLine_101 : decode cXR_beginLine 101 = .ok (.aload_n 0, 1) := by decide +kernel
theorem dXR_beginLine_102 : decode cXR_beginLine 102 = .ok (.getfield 35, 3) := by decide +kernel
theorem dXR_beginLine_105 : decode cXR_beginLine 105 = .ok (.iconst 1, 1) := by decide +kernel
theorem dXR_beginLine_106 : decode cXR_beginLine 106 = .ok (.iaload, 1) := by decide +kernel
theorem dXR_beginLine_107 : decode cXR_beginLine 107 = .ok (.bipush 32, 2) := by decide +kernel
theorem dXR_beginLine_109 : decode cXR_beginLine 109 = .ok (.iand, 1) := by decide +kernel
theorem dXR_beginLine_110 : decode cXR_beginLine 110 = .ok (.ifCond .eq 7, 3) := by decide +kernel
theorem dXR_beginLine_113 : decode cXR_beginLine 113 = .ok (.iconst 1, 1) := by decide +kernel
theorem dXR_beginLine_114 : decode cXR_beginLine 114 = .ok (.goto 4, 3) := by decide +kernel
theorem dXR_beginLine_117 : decode cXR_beginLine 117 = .ok (.iconst 0, 1) := by decide +kernel
theorem dXR_beginLine_118 : decode cXR_beginLine 118 = .ok (.putfield 58, 3) := by decide +kernel
theorem dXR_beginLine_121 : decode cXR_beginLine 121 = .ok (.aload_n 0, 1) := by decide +kernel
theorem dXR_beginLine_122 : decode cXR_beginLine 122 = .ok (.invokevirtual 280, 3) := by decide +kernel
theorem dXR_beginLine_125 : decode cXR_beginLine 125 = .ok (.return_, 1) := by decide +kernel
theorem dXR_patternPixel_0 : decode cXR_patternPixel 0 = .ok (.iload_n 1, 1) := by decide +kernel
theorem dXR_patternPixel_1 : decode cXR_patternPixel 1 = .ok (.bipush 11, 2) := by decide +kernel
theorem dXR_patternPixel_3 : decode cXR_patternPixel 3 = .ok (.ishr, 1) := by decide +kernel
theorem dXR_patternPixel_4 : decode cXR_patternPixel 4 = .ok (.iconst 1, 1) := by decide +kernel
theorem dXR_patternPixel_5 : decode cXR_patternPixel 5 = .ok (.iand, 1) := by decide +kernel
theorem dXR_patternPixel_6 : decode cXR_patternPixel 6 = .ok (.iconst 1, 1) := by decide +kernel
theorem dXR_patternPixel_7 : decode cXR_patternPixel 7 = .ok (.if_icmp .ne 9, 3) := by decide +kernel
theorem dXR_patternPixel_10 : decode cXR_patternPixel 10 = .ok (.iconst 3, 1) := by decide +kernel
theorem dXR_patternPixel_11 : decode cXR_patternPixel 11 = .ok (.iload_n 2, 1) := by decide +kernel
theorem dXR_patternPixel_12 : decode cXR_patternPixel 12 = .ok (.isub, 1) := by decide +kernel
theorem dXR_patternPixel_13 : decode cXR_patternPixel 13 = .ok (.goto 4, 3) := by decide +kernel
theorem dXR_patternPixel_16 : decode cXR_patternPixel 16 = .ok (.iload_n 2, 1) := by decide +kernel
theorem dXR_patternPixel_17 : decode cXR_patternPixel 17 = .ok (.istore 4, 2) := by decide +kernel
theorem dXR_patternPixel_19 : decode cXR_patternPixel 19 = .ok (.iload_n 1, 1) := by decide +kernel
theorem dXR_patternPixel_20 : decode cXR_patternPixel 20 = .ok (.bipush 12, 2) := by decide +kernel
theorem dXR_patternPixel_22 : decode cXR_patternPixel 22 = .ok (.ishr, 1) := by decide +kernel
theorem dXR_patternPixel_23 : decode cXR_patternPixel 23 = .ok (.iconst 1, 1) := by decide +kernel
theorem dXR_patternPixel_24 : decode cXR_patternPixel 24 = .ok (.iand, 1) := by decide +kernel
theorem dXR_patternPixel_25 : decode cXR_patternPixel 25 = .ok (.iconst 1, 1) := by decide +kernel
theorem dXR_patternPixel_26 : decode cXR_patternPixel 26 = .ok (.if_icmp .ne 9, 3) := by decide +kernel
theorem dXR_patternPixel_29 : decode cXR_patternPixel 29 = .ok (.iconst 3, 1) := by decide +kernel
theorem dXR_patternPixel_30 : decode cXR_patternPixel 30 = .ok (.iload_n 3, 1) := by decide +kernel
theorem dXR_patternPixel_31 : decode cXR_patternPixel 31 = .ok (.isub, 1) := by decide +kernel
theorem dXR_patternPixel_32 : decode cXR_patternPixel 32 = .ok (.goto 4, 3) := by decide +kernel
theorem dXR_patternPixel_35 : decode cXR_patternPixel 35 = .ok (.iload_n 3, 1) := by decide +kernel
theorem dXR_patternPixel_36 : decode cXR_patternPixel 36 = .ok (.istore 5, 2) := by decide +kernel
theorem dXR_patternPixel_38 : decode cXR_patternPixel 38 = .ok (.aload_n 0, 1) := by decide +kernel
theorem dXR_patternPixel_39 : decode cXR_patternPixel 39 = .ok (.iconst 4, 1) := by decide +kernel
theorem dXR_patternPixel_40 : decode cXR_patternPixel 40 = .ok (.iload_n 1, 1) := by decide +kernel
theorem dXR_patternPixel_41 : decode cXR_patternPixel 41 = .ok (.bipush 127, 2) := by decide +kernel
theorem dXR_patternPixel_43 : decode cXR_patternPixel 43 = .ok (.iand, 1) := by decide +kernel
theorem dXR_patternPixel_44 : decode cXR_patternPixel 44 = .ok (.imul, 1) := by decide +kernel
theorem dXR_patternPixel_45 : decode cXR_patternPixel 45 = .ok (.iload 5, 2) := by decide +kernel
theorem dXR_patternPixel_47 : decode cXR_patternPixel 47 = .ok (.iadd, 1) := by decide +kernel
theorem dXR_patternPixel_48 : decode cXR_patternPixel 48 = .ok (.invokevirtual 135, 3) := by decide +kernel
theorem dXR_patternPixel_51 : decode cXR_patternPixel 51 = .ok (.bipush 12, 2) := by decide +kernel
theorem dXR_patternPixel_53 : decode cXR_patternPixel 53 = .ok (.iconst 4, 1) := by decide +kernel
theorem dXR_patternPixel_54 : decode cXR_patternPixel 54 = .ok (.iload 4, 2) := by decide +kernel
theorem dXR_patternPixel_56 : decode cXR_patternPixel 56 = .ok (.imul, 1) := by decide +kernel
theorem dXR_patternPixel_57 : decode cXR_patternPixel 57 = .ok (.isub, 1) := by decide +kernel
theorem dXR_patternPixel_58 : decode cXR_patternPixel 58 = .ok (.ishr, 1) := by decide +kernel
theorem dXR_patternPixel_59 : decode cXR_patternPixel 59 = .ok (.bipush 15, 2) := by decide +kernel
theorem dXR_patternPixel_61 : decode cXR_patternPixel 61 = .ok (.iand, 1) := by decide +kernel
theorem dXR_patternPixel_62 : decode cXR_patternPixel 62 = .ok (.istore 6, 2) := by decide +kernel
theorem dXR_patternPixel_64 : decode cXR_patternPixel 64 = .ok (.iload 6, 2) := by decide +kernel
theorem dXR_patternPixel_66 : decode cXR_patternPixel 66 = .ok (.ifCond .ne 7, 3) := by decide +kernel
theorem dXR_patternPixel_69 : decode cXR_patternPixel 69 = .ok (.iconst 0, 1) := by decide +kernel
theorem dXR_patternPixel_70 : decode cXR_patternPixel 70 = .ok (.goto 15, 3) := by decide +kernel
theorem dXR_patternPixel_73 : decode cXR_patternPixel 73 = .ok (.iload 6, 2) := by decide +kernel
theorem dXR_patternPixel_75 : decode cXR_patternPixel 75 = .ok (.iload_n 1, 1) := by decide +kernel
theorem dXR_patternPixel_76 : decode cXR_patternPixel 76 = .ok (.bipush 15, 2) := by decide +kernel
theorem dXR_patternPixel_78 : decode cXR_patternPixel 78 = .ok (.ishr, 1) := by decide +kernel
theorem dXR_patternPixel_79 : decode cXR_patternPixel 79 = .ok (.iconst 1, 1) := by decide +kernel
theorem dXR_patternPixel_80 : decode cXR_patternPixel 80 = .ok (.iand, 1) := by decide +kernel
theorem dXR_patternPixel_81 : decode cXR_patternPixel 81 = .ok (.bipush 16, 2) := by decide +kernel
theorem dXR_patternPixel_83 : decode cXR_patternPixel 83 = .ok (.imul, 1) := by decide +kernel
theorem dXR_patternPixel_84 : decode cXR_patternPixel 84 = .ok (.iadd, 1) := by decide +kernel
theorem dXR_patternPixel_85 : decode cXR_patternPixel 85 = .ok (.ireturn, 1) := by decide +kernel
theorem dXR_planePixel_0 : decode cXR_planePixel 0 = .ok (.aload_n 0, 1) := by decide +kernel
theorem dXR_planePixel_1 : decode cXR_planePixel 1 = .ok (.aload_n 0, 1) := by decide +kernel
theorem dXR_planePixel_2 : decode cXR_planePixel 2 = .ok (.iload_n 1, 1) := by decide +kernel
theorem dXR_planePixel_3 : decode cXR_planePixel 3 = .ok (.bipush 15, 2) := by decide +kernel
theorem dXR_planePixel_5 : decode cXR_planePixel 5 = .ok (.iand, 1) := by decide +kernel
theorem dXR_planePixel_6 : decode cXR_planePixel 6 = .ok (.bipush 32, 2) := by decide +kernel
theorem dXR_planePixel_8 : decode cXR_planePixel 8 = .ok (.imul, 1) := by decide +kernel
theorem dXR_planePixel_9 : decode cXR_planePixel 9 = .ok (.iload_n 3, 1) := by decide +kernel
theorem dXR_planePixel_10 : decode cXR_planePixel 10 = .ok (.iconst 4, 1) := by decide +kernel
theorem dXR_planePixel_11 : decode cXR_planePixel 11 = .ok (.idiv, 1) := by decide +kernel
theorem dXR_planePixel_12 : decode cXR_planePixel 12 = .ok (.bipush 8, 2) := by decide +kernel
theorem dXR_planePixel_14 : decode cXR_planePixel 14 = .ok (.imul, 1) := by decide +kernel
theorem dXR_planePixel_15 : decode cXR_planePixel 15 = .ok (.iadd, 1) := by decide +kernel
theorem dXR_planePixel_16 : decode cXR_planePixel 16 = .ok (.iload_n 2, 1) := by decide +kernel
theorem dXR_planePixel_17 : decode cXR_planePixel 17 = .ok (.iconst 4, 1) := by decide +kernel
theorem dXR_planePixel_18 : decode cXR_planePixel 18 = .ok (.idiv, 1) := by decide +kernel
theorem dXR_planePixel_19 : decode cXR_planePixel 19 = .ok (.iadd, 1) := by decide +kernel
theorem dXR_planePixel_20 : decode cXR_planePixel 20 = .ok (.invokevirtual 135, 3) := by decide +kernel
theorem dXR_planePixel_23 : decode cXR_planePixel 23 = .ok (.iload_n 2, 1) := by decide +kernel
theorem dXR_planePixel_24 : decode cXR_planePixel 24 = .ok (.iconst 4, 1) := by decide +kernel
theorem dXR_planePixel_25 : decode cXR_planePixel 25 = .ok (.irem, 1) := by decide +kernel
theorem dXR_planePixel_26 : decode cXR_planePixel 26 = .ok (.iload_n 3, 1) := by decide +kernel
theorem dXR_planePixel_27 : decode cXR_planePixel 27 = .ok (.iconst 4, 1) := by decide +kernel
theorem dXR_planePixel_28 : decode cXR_planePixel 28 = .ok (.irem, 1) := by decide +kernel
theorem dXR_planePixel_29 : decode cXR_planePixel 29 = .ok (.invokevirtual 283, 3) := by decide +kernel
theorem dXR_planePixel_32 : decode cXR_planePixel 32 = .ok (.ireturn, 1) := by decide +kernel
theorem dXR_plane_0 : decode cXR_plane 0 = .ok (.iload_n 1, 1) := by decide +kernel
theorem dXR_plane_1 : decode cXR_plane 1 = .ok (.ifCond .ne 12, 3) := by decide +kernel
theorem dXR_plane_4 : decode cXR_plane 4 = .ok (.aload_n 0, 1) := by decide +kernel
theorem dXR_plane_5 : decode cXR_plane 5 = .ok (.getfield 35, 3) := by decide +kernel
theorem dXR_plane_8 : decode cXR_plane 8 = .ok (.iconst 2, 1) := by decide +kernel
theorem dXR_plane_9 : decode cXR_plane 9 = .ok (.iaload, 1) := by decide +kernel
theorem dXR_plane_10 : decode cXR_plane 10 = .ok (.goto 9, 3) := by decide +kernel
theorem dXR_plane_13 : decode cXR_plane 13 = .ok (.aload_n 0, 1) := by decide +kernel
theorem dXR_plane_14 : decode cXR_plane 14 = .ok (.getfield 35, 3) := by decide +kernel
theorem dXR_plane_17 : decode cXR_plane 17 = .ok (.iconst 4, 1) := by decide +kernel
theorem dXR_plane_18 : decode cXR_plane 18 = .ok (.iaload, 1) := by decide +kernel
theorem dXR_plane_19 : decode cXR_plane 19 = .ok (.istore_n 3, 1) := by decide +kernel
theorem dXR_plane_20 : decode cXR_plane 20 = .ok (.iload_n 1, 1) := by decide +kernel
theorem dXR_plane_21 : decode cXR_plane 21 = .ok (.ifCond .ne 29, 3) := by decide +kernel
theorem dXR_plane_24 : decode cXR_plane 24 = .ok (.iload_n 2, 1) := by decide +kernel
theorem dXR_plane_25 : decode cXR_plane 25 = .ok (.iconst 4, 1) := by decide +kernel
theorem dXR_plane_26 : decode cXR_plane 26 = .ok (.idiv, 1) := by decide +kernel
theorem dXR_plane_27 : decode cXR_plane 27 = .ok (.aload_n 0, 1) := by decide +kernel
theorem dXR_plane_28 : decode cXR_plane 28 = .ok (.getfield 35, 3) := by decide +kernel
theorem dXR_plane_31 : decode cXR_plane 31 = .ok (.iconst 3, 1) := by decide +kernel
theorem dXR_plane_32 : decode cXR_plane 32 = .ok (.iaload, 1) := by decide +kernel
theorem dXR_plane_33 : decode cXR_plane 33 = .ok (.bipush 7, 2) := by decide +kernel
theorem dXR_plane_35 : decode cXR_plane 35 = .ok (.iand, 1) := by decide +kernel
theorem dXR_plane_36 : decode cXR_plane 36 = .ok (.if_icmp .ge 14, 3) := by decide +kernel
theorem dXR_plane_39 : decode cXR_plane 39 = .ok (.aload_n 0, 1) := by decide +kernel
theorem dXR_plane_40 : decode cXR_plane 40 = .ok (.iload_n 3, 1) := by decide +kernel
theorem dXR_plane_41 : decode cXR_plane 41 = .ok (.iload_n 2, 1) := by decide +kernel
theorem dXR_plane_42 : decode cXR_plane 42 = .ok (.aload_n 0, 1) := by decide +kernel
theorem dXR_plane_43 : decode cXR_plane 43 = .ok (.getfield 55, 3) := by decide +kernel
theorem dXR_plane_46 : decode cXR_plane 46 = .ok (.invokevirtual 287, 3) := by decide +kernel
theorem dXR_plane_49 : decode cXR_plane 49 = .ok (.ireturn, 1) := by decide +kernel
theorem dXR_plane_50 : decode cXR_plane 50 = .ok (.aload_n 0, 1) := by decide +kernel
theorem dXR_plane_51 : decode cXR_plane 51 = .ok (.aload_n 0, 1) := by decide +kernel
theorem dXR_plane_52 : decode cXR_plane 52 = .ok (.getfield 35, 3) := by decide +kernel
theorem dXR_plane_55 : decode cXR_plane 55 = .ok (.bipush 13, 2) := by decide +kernel
theorem dXR_plane_57 : decode cXR_plane 57 = .ok (.iaload, 1) := by decide +kernel
theorem dXR_plane_58 : decode cXR_plane 58 = .ok (.bipush 31, 2) := by decide +kernel
theorem dXR_plane_60 : decode cXR_plane 60 = .ok (.iand, 1) := by decide +kernel
theorem dXR_plane_61 : decode cXR_plane 61 = .ok (.bipush 16, 2) := by decide +kernel
theorem dXR_plane_63 : decode cXR_plane 63 = .ok (.imul, 1) := by decide +kernel
theorem dXR_plane_64 : decode cXR_plane 64 = .ok (.iload_n 1, 1) := by decide +kernel
theorem dXR_plane_65 : decode cXR_plane 65 = .ok (.iadd, 1) := by decide +kernel
theorem dXR_plane_66 : decode cXR_plane 66 = .ok (.invokevirtual 135, 3) := by decide +kernel
theorem dXR_plane_69 : decode cXR_plane 69 = .ok (.istore 4, 2) := by decide +kernel
theorem dXR_plane_71 : decode cXR_plane 71 = .ok (.aload_n 0, 1) := by decide +kernel
theorem dXR_plane_72 : decode cXR_plane 72 = .ok (.iload_n 3, 1) := by decide +kernel
theorem dXR_plane_73 : decode cXR_plane 73 = .ok (.iload_n 2, 1) := by decide +kernel
theorem dXR_plane_74 : decode cXR_plane 74 = .ok (.iload 4, 2) := by decide +kernel
theorem dXR_plane_76 : decode cXR_plane 76 = .ok (.isub, 1) := by decide +kernel
theorem dXR_plane_77 : decode cXR_plane 77 = .ok (.bipush 31, 2) := by decide +kernel
theorem dXR_plane_79 : decode cXR_plane 79 = .ok (.iand, 1) := by decide +kernel
theorem dXR_plane_80 : decode cXR_plane 80 = .ok (.aload_n 0, 1) := by decide +kernel
theorem dXR_plane_81 : decode cXR_plane 81 = .ok (.getfield 55, 3) := by decide +kernel
theorem dXR_plane_84 : decode cXR_plane 84 = .ok (.aload_n 0, 1) := by decide +kernel
theorem dXR_plane_85 : decode cXR_plane 85 = .ok (.getfield 32, 3) := by decide +kernel
theorem dXR_plane_88 : decode cXR_plane 88 = .ok (.iload_n 1, 1) := by decide +kernel
theorem dXR_plane_89 : decode cXR_plane 89 = .ok (.iaload, 1) := by decide +kernel
theorem dXR_plane_90 : decode cXR_plane 90 = .ok (.iadd, 1) := by decide +kernel
theorem dXR_plane_91 : decode cXR_plane 91 = .ok (.bipush 15, 2) := by decide +kernel
theorem dXR_plane_93 : decode cXR_plane 93 = .ok (.iand, 1) := by decide +kernel
theorem dXR_plane_94 : decode cXR_plane 94 = .ok (.invokevirtual 287, 3) := by decide +kernel
theorem dXR_plane_97 : decode cXR_plane 97 = .ok (.ireturn, 1) := by decide +kernel
theorem dXR_spriteWord_0 : decode cXR_spriteWord 0 = .ok (.aload_n 0, 1) := by decide +kernel
theorem dXR_spriteWord_1 : decode cXR_spriteWord 1 = .ok (.aload_n 0, 1) := by decide +kernel
theorem dXR_spriteWord_2 : decode cXR_spriteWord 2 = .ok (.getfield 35, 3) := by decide +kernel
theorem dXR_spriteWord_5 : decode cXR_spriteWord 5 = .ok (.iconst 5, 1) := by decide +kernel
theorem dXR_spriteWord_6 : decode cXR_spriteWord 6 = .ok (.iaload, 1) := by decide +kernel
theorem dXR_spriteWord_7 : decode cXR_spriteWord 7 = .ok (.bipush 15, 2) := by decide +kernel
theorem dXR_spriteWord_9 : decode cXR_spriteWord 9 = .ok (.iand, 1) := by decide +kernel
theorem dXR_spriteWord_10 : decode cXR_spriteWord 10 = .ok (.bipush 32, 2) := by decide +kernel
theorem dXR_spriteWord_12 : decode cXR_spriteWord 12 = .ok (.imul, 1) := by decide +kernel
theorem dXR_spriteWord_13 : decode cXR_spriteWord 13 = .ok (.iconst 4, 1) := by decide +kernel
theorem dXR_spriteWord_14 : decode cXR_spriteWord 14 = .ok (.iload_n 1, 1) := by decide +kernel
theorem dXR_spriteWord_15 : decode cXR_spriteWord 15 = .ok (.imul, 1) := by decide +kernel
theorem dXR_spriteWord_16 : decode cXR_spriteWord 16 = .ok (.iadd, 1) := by decide +kernel
theorem dXR_spriteWord_17 : decode cXR_spriteWord 17 = .ok (.iload_n 2, 1) := by decide +kernel
theorem dXR_spriteWord_18 : decode cXR_spriteWord 18 = .ok (.iadd, 1) := by decide +kernel
theorem dXR_spriteWord_19 : decode cXR_spriteWord 19 = .ok (.sipush 512, 3) := by decide +kernel
theorem dXR_spriteWord_22 : decode cXR_spriteWord 22 = .ok (.irem, 1) := by decide +kernel
theorem dXR_spriteWord_23 : decode cXR_spriteWord 23 = .ok (.invokevirtual 135, 3) := by decide +kernel
theorem dXR_spriteWord_26 : decode cXR_spriteWord 26 = .ok (.ireturn, 1) := by decide +kernel
theorem dXR_takeSprites_0 : decode cXR_takeSprites 0 = .ok (.aload_n 0, 1) := by decide +kernel
theorem dXR_takeSprites_1 : decode cXR_takeSprites 1 = .ok (.iconst 0, 1) := by decide +kernel
theorem dXR_takeSprites_2 : decode cXR_takeSprites 2 = .ok (.putfield 290, 3) := by decide +kernel
theorem dXR_takeSprites_5 : decode cXR_takeSprites 5 = .ok (.iconst 0, 1) := by decide +kernel
theorem dXR_takeSprites_6 : decode cXR_takeSprites 6 = .ok (.istore_n 1, 1) := by decide +kernel
theorem dXR_takeSprites_7 : decode cXR_takeSprites 7 = .ok (.iconst 0, 1) := by decide +kernel
theorem dXR_takeSprites_8 : decode cXR_takeSprites 8 = .ok (.istore_n 2, 1) := by decide +kernel
theorem dXR_takeSprites_9 : decode cXR_takeSprites 9 = .ok (.iconst 1, 1) := by decide +kernel
theorem dXR_takeSprites_10 : decode cXR_takeSprites 10 = .ok (.istore_n 3, 1) := by decide +kernel
theorem dXR_takeSprites_11 : decode cXR_takeSprites 11 = .ok (.iconst 0, 1) := by decide +kernel
theorem dXR_takeSprites_12 : decode cXR_takeSprites 12 = .ok (.istore 4, 2) := by decide +kernel
theorem dXR_takeSprites_14 : decode cXR_takeSprites 14 = .ok (.iload 4, 2) := by decide +kernel
theorem dXR_takeSprites_16 : decode cXR_takeSprites 16 = .ok (.bipush 8, 2) := by decide +kernel
theorem dXR_takeSprites_18 : decode cXR_takeSprites 18 = .ok (.if_icmp .ge 126, 3) := by decide +kernel
theorem dXR_takeSprites_21 : decode cXR_takeSprites 21 = .ok (.iload_n 3, 1) := by decide +kernel
theorem dXR_takeSprites_22 : decode cXR_takeSprites 22 = .ok (.ifCond .eq 122, 3) := by decide +kernel
theorem dXR_takeSprites_25 : decode cXR_takeSprites 25 = .ok (.aload_n 0, 1) := by decide +kernel
theorem dXR_takeSprites_26 : decode cXR_takeSprites 26 = .ok (.getfield 55, 3) := by decide +kernel
theorem dXR_takeSprites_29 : decode cXR_takeSprites 29 = .ok (.bipush 16, 2) := by decide +kernel
theorem dXR_takeSprites_31 : decode cXR_takeSprites 31 = .ok (.iadd, 1) := by decide +kernel
theorem dXR_takeSprites_32 : decode cXR_takeSprites 32 = .ok (.aload_n 0, 1) := by decide +kernel
theorem dXR_takeSprites_33 : decode cXR_takeSprites 33 = .ok (.iload_n 2, 1) := by decide +kernel
theorem dXR_takeSprites_34 : decode cXR_takeSprites 34 = .ok (.iconst 0, 1) := by decide +kernel
theorem dXR_takeSprites_35 : decode cXR_takeSprites 35 = .ok (.invokevirtual 293, 3) := by decide +kernel
theorem dXR_takeSprites_38 : decode cXR_takeSprites 38 = .ok (.bipush 63, 2) := by decide +kernel
theorem dXR_takeSprites_40 : decode cXR_takeSprites 40 = .ok (.iand, 1) := by decide +kernel
theorem dXR_takeSprites_41 : decode cXR_takeSprites 41 = .ok (.isub, 1) := by decide +kernel
theorem dXR_takeSprites_42 : decode cXR_takeSprites 42 = .ok (.istore 5, 2) := by decide +kernel
theorem dXR_takeSprites_44 : decode cXR_takeSprites 44 = .ok (.iload 5, 2) := by decide +kernel
theorem dXR_takeSprites_46 : decode cXR_takeSprites 46 = .ok (.ifCond .lt 68, 3) := by decide +kernel
theorem dXR_takeSprites_49 : decode cXR_takeSprites 49 = .ok (.iload 5, 2) := by decide +kernel
theorem dXR_takeSprites_51 : decode cXR_takeSprites 51 = .ok (.iconst 4, 1) := by decide +kernel
theorem dXR_takeSprites_52 : decode cXR_takeSprites 52 = .ok (.if_icmp .ge 62, 3) := by decide +kernel
theorem dXR_takeSprites_55 : decode cXR_takeSprites 55 = .ok (.iload_n 1, 1) := by decide +kernel
theorem dXR_takeSprites_56 : decode cXR_takeSprites 56 = .ok (.iconst 3, 1) := by decide +kernel
theorem dXR_takeSprites_57 : decode cXR_takeSprites 57 = .ok (.if_icmp .ne 13, 3) := by decide +kernel
theorem dXR_takeSprites_60 : decode cXR_takeSprites 60 = .ok (.aload_n 0, 1) := by decide +kernel
theorem dXR_takeSprites_61 : decode cXR_takeSprites 61 = .ok (.iconst 1, 1) := by decide +kernel
theorem dXR_takeSprites_62 : decode cXR_takeSprites 62 = .ok (.putfield 64, 3) := by decide +kernel
theorem dXR_takeSprites_65 : decode cXR_takeSprites 65 = .ok (.iconst 0, 1) := by decide +kernel
theorem dXR_takeSprites_66 : decode cXR_takeSprites 66 = .ok (.istore_n 3, 1) := by decide +kernel
theorem dXR_takeSprites_67 : decode cXR_takeSprites 67 = .ok (.goto 47, 3) := by decide +kernel
theorem dXR_takeSprites_70 : decode cXR_takeSprites 70 = .ok (.aload_n 0, 1) := by decide +kernel
theorem dXR_takeSprites_71 : decode cXR_takeSprites 71 = .ok (.iload_n 2, 1) := by decide +kernel
theorem dXR_takeSprites_72 : decode cXR_takeSprites 72 = .ok (.iconst 3, 1) := by decide +kernel
theorem dXR_takeSprites_73 : decode cXR_takeSprites 73 = .ok (.invokevirtual 293, 3) := by decide +kernel
theorem dXR_takeSprites_76 : decode cXR_takeSprites 76 = .ok (.bipush 63, 2) := by decide +kernel
theorem dXR_takeSprites_78 : decode cXR_takeSprites 78 = .ok (.iand, 1) := by decide +kernel
theorem dXR_takeSprites_79 : decode cXR_takeSprites 79 = .ok (.ifCond .ne 12, 3) := by decide +kernel
theorem dXR_takeSprites_82 : decode cXR_takeSprites 82 = .ok (.iload_n 1, 1) := by decide +kernel
theorem dXR_takeSprites_83 : decode cXR_takeSprites 83 = .ok (.ifCond .le 8, 3) := by decide +kernel
theorem dXR_takeSprites_86 : decode cXR_takeSprites 86 = .ok (.iconst 0, 1) := by decide +kernel
theorem dXR_takeSprites_87 : decode cXR_takeSprites 87 = .ok (.istore_n 3, 1) := by decide +kernel
theorem dXR_takeSprites_88 : decode cXR_takeSprites 88 = .ok (.goto 26, 3) := by decide +kernel
theorem dXR_takeSprites_91 : decode cXR_takeSprites 91 = .ok (.aload_n 0, 1) := by decide +kernel
theorem dXR_takeSprites_92 : decode cXR_takeSprites 92 = .ok (.getfield 41, 3) := by decide +kernel
theorem dXR_takeSprites_95 : decode cXR_takeSprites 95 = .ok (.aload_n 0, 1) := by decide +kernel
theorem dXR_takeSprites_96 : decode cXR_takeSprites 96 = .ok (.getfield 290, 3) := by decide +kernel
theorem dXR_takeSprites_99 : decode cXR_takeSprites 99 = .ok (.iload_n 2, 1) := by decide +kernel
theorem dXR_takeSprites_100 : decode cXR_takeSprites 100 = .ok (.iastore, 1) := by decide +kernel
theorem dXR_takeSprites_101 : decode cXR_takeSprites 101 = .ok (.aload_n 0, 1) := by decide +kernel
theorem dXR_takeSprites_102 : decode cXR_takeSprites 102 = .ok (.dup, 1) := by decide +kernel
theorem dXR_takeSprites_103 : decode cXR_takeSprites 103 = .ok (.getfield 290, 3) := by decide +kernel
theorem dXR_takeSprites_106 : decode cXR_takeSprites 106 = .ok (.iconst 1, 1) := by decide +kernel
theorem dXR_takeSprites_107 : decode cXR_takeSprites 107 = .ok (.iadd, 1) := by decide +kernel
theorem dXR_takeSprites_108 : decode cXR_takeSprites 108 = .ok (.putfield 290, 3) := by decide +kernel
theorem dXR_takeSprites_111 : decode cXR_takeSprites 111 = .ok (.iinc 1 1, 3) := by decide +kernel
theorem dXR_takeSprites_114 : decode cXR_takeSprites 114 = .ok (.aload_n 0, 1) := by decide +kernel
theorem dXR_takeSprites_115 : decode cXR_takeSprites 115 = .ok (.iload_n 2, 1) := by decide +kernel
theorem dXR_takeSprites_116 : decode cXR_takeSprites 116 = .ok (.iconst 1, 1) := by decide +kernel
theorem dXR_takeSprites_117 : decode cXR_takeSprites 117 = .ok (.invokevirtual 293, 3) := by decide +kernel
theorem dXR_takeSprites_120 : decode cXR_takeSprites 120 = .ok (.bipush 7, 2) := by decide +kernel
theorem dXR_takeSprites_122 : decode cXR_takeSprites 122 = .ok (.iand, 1) := by decide +kernel
theorem dXR_takeSprites_123 : decode cXR_takeSprites 123 = .ok (.istore_n 2, 1) := by decide +kernel
theorem dXR_takeSprites_124 : decode cXR_takeSprites 124 = .ok (.iload_n 3, 1) := by decide +kernel
theorem dXR_takeSprites_125 : decode cXR_takeSprites 125 = .ok (.ifCond .eq 11, 3) := by decide +kernel
theorem dXR_takeSprites_128 : decode cXR_takeSprites 128 = .ok (.iload_n 2, 1) := by decide +kernel
theorem dXR_takeSprites_129 : decode cXR_takeSprites 129 = .ok (.ifCond .eq 7, 3) := by decide +kernel
theorem dXR_takeSprites_132 : decode cXR_takeSprites 132 = .ok (.iconst 1, 1) := by decide +kernel
theorem dXR_takeSprites_133 : decode cXR_takeSprites 133 = .ok (.goto 4, 3) := by decide +kernel
theorem dXR_takeSprites_136 : decode cXR_takeSprites 136 = .ok (.iconst 0, 1) := by decide +kernel
theorem dXR_takeSprites_137 : decode cXR_takeSprites 137 = .ok (.istore_n 3, 1) := by decide +kernel
theorem dXR_takeSprites_138 : decode cXR_takeSprites 138 = .ok (.iinc 4 1, 3) := by decide +kernel
theorem dXR_takeSprites_141 : decode cXR_takeSprites 141 = .ok (.goto (-127), 3) := by decide +kernel
theorem dXR_takeSprites_144 : decode cXR_takeSprites 144 = .ok (.return_, 1) := by decide +kernel
theorem dXR_spritePixel_0 : decode cXR_spritePixel 0 = .ok (.iload_n 2, 1) := by decide +kernel
theorem dXR_spritePixel_1 : decode cXR_spritePixel 1 = .ok (.bipush 16, 2) := by decide +kernel
theorem dXR_spritePixel_3 : decode cXR_spritePixel 3 = .ok (.iadd, 1) := by decide +kernel
theorem dXR_spritePixel_4 : decode cXR_spritePixel 4 = .ok (.aload_n 0, 1) := by decide +kernel
theorem dXR_spritePixel_5 : decode cXR_spritePixel 5 = .ok (.iload_n 1, 1) := by decide +kernel
theorem dXR_spritePixel_6 : decode cXR_spritePixel 6 = .ok (.iconst 3, 1) := by decide +kernel
theorem dXR_spritePixel_7 : decode cXR_spritePixel 7 = .ok (.invokevirtual 293, 3) := by decide +kernel
theorem dXR_spritePixel_10 : decode cXR_spritePixel 10 = .ok (.bipush 63, 2) := by decide +kernel
theorem dXR_spritePixel_12 : decode cXR_spritePixel 12 = .ok (.iand, 1) := by decide +kernel
theorem dXR_spritePixel_13 : decode cXR_spritePixel 13 = .ok (.isub, 1) := by decide +kernel
theorem dXR_spritePixel_14 : decode cXR_spritePixel 14 = .ok (.istore_n 3, 1) := by decide +kernel
theorem dXR_spritePixel_15 : decode cXR_spritePixel 15 = .ok (.aload_n 0, 1) := by decide +kernel
theorem dXR_spritePixel_16 : decode cXR_spritePixel 16 = .ok (.getfield 55, 3) := by decide +kernel
theorem dXR_spritePixel_19 : decode cXR_spritePixel 19 = .ok (.bipush 16, 2) := by decide +kernel
theorem dXR_spritePixel_21 : decode cXR_spritePixel 21 = .ok (.iadd, 1) := by decide +kernel
theorem dXR_spritePixel_22 : decode cXR_spritePixel 22 = .ok (.aload_n 0, 1) := by decide +kernel
theorem dXR_spritePixel_23 : decode cXR_spritePixel 23 = .ok (.iload_n 1, 1) := by decide +kernel
theorem dXR_spritePixel_24 : decode cXR_spritePixel 24 = .ok (.iconst 0, 1) := by decide +kernel
theorem dXR_spritePixel_25 : decode cXR_spritePixel 25 = .ok (.invokevirtual 293, 3) := by decide +kernel
theorem dXR_spritePixel_28 : decode cXR_spritePixel 28 = .ok (.bipush 63, 2) := by decide +kernel
theorem dXR_spritePixel_30 : decode cXR_spritePixel 30 = .ok (.iand, 1) := by decide +kernel
theorem dXR_spritePixel_31 : decode cXR_spritePixel 31 = .ok (.isub, 1) := by decide +kernel
theorem dXR_spritePixel_32 : decode cXR_spritePixel 32 = .ok (.istore 4, 2) := by decide +kernel
theorem dXR_spritePixel_34 : decode cXR_spritePixel 34 = .ok (.iload_n 3, 1) := by decide +kernel
theorem dXR_spritePixel_35 : decode cXR_spritePixel 35 = .ok (.ifCond .lt 8, 3) := by decide +kernel
theorem dXR_spritePixel_38 : decode cXR_spritePixel 38 = .ok (.iload_n 3, 1) := by decide +kernel
theorem dXR_spritePixel_39 : decode cXR_spritePixel 39 = .ok (.iconst 3, 1) := by decide +kernel
theorem dXR_spritePixel_40 : decode cXR_spritePixel 40 = .ok (.if_icmp .le 7, 3) := by decide +kernel
theorem dXR_spritePixel_43 : decode cXR_spritePixel 43 = .ok (.iconst 0, 1) := by decide +kernel
theorem dXR_spritePixel_44 : decode cXR_spritePixel 44 = .ok (.goto 16, 3) := by decide +kernel
theorem dXR_spritePixel_47 : decode cXR_spritePixel 47 = .ok (.aload_n 0, 1) := by decide +kernel
theorem dXR_spritePixel_48 : decode cXR_spritePixel 48 = .ok (.aload_n 0, 1) := by decide +kernel
theorem dXR_spritePixel_49 : decode cXR_spritePixel 49 = .ok (.iload_n 1, 1) := by decide +kernel
theorem dXR_spritePixel_50 : decode cXR_spritePixel 50 = .ok (.iconst 2, 1) := by decide +kernel
theorem dXR_spritePixel_51 : decode cXR_spritePixel 51 = .ok (.invokevirtual 293, 3) := by decide +kernel
theorem dXR_spritePixel_54 : decode cXR_spritePixel 54 = .ok (.iload_n 3, 1) := by decide +kernel
theorem dXR_spritePixel_55 : decode cXR_spritePixel 55 = .ok (.iload 4, 2) := by decide +kernel
theorem dXR_spritePixel_57 : decode cXR_spritePixel 57 = .ok (.invokevirtual 283, 3) := by decide +kernel
theorem dXR_spritePixel_60 : decode cXR_spritePixel 60 = .ok (.ireturn, 1) := by decide +kernel
theorem dXR_spriteAt_0 : decode cXR_spriteAt 0 = .ok (.iconst 0, 1) := by decide +kernel
theorem dXR_spriteAt_1 : decode cXR_spriteAt 1 = .ok (.istore_n 2, 1) := by decide +kernel
theorem dXR_spriteAt_2 : decode cXR_spriteAt 2 = .ok (.iconst 0, 1) := by decide +kernel
theorem dXR_spriteAt_3 : decode cXR_spriteAt 3 = .ok (.istore_n 3, 1) := by decide +kernel
theorem dXR_spriteAt_4 : decode cXR_spriteAt 4 = .ok (.iload_n 3, 1) := by decide +kernel
theorem dXR_spriteAt_5 : decode cXR_spriteAt 5 = .ok (.aload_n 0, 1) := by decide +kernel
theorem dXR_spriteAt_6 : decode cXR_spriteAt 6 = .ok (.getfield 290, 3) := by decide +kernel
theorem dXR_spriteAt_9 : decode cXR_spriteAt 9 = .ok (.if_icmp .ge 58, 3) := by decide +kernel
theorem dXR_spriteAt_12 : decode cXR_spriteAt 12 = .ok (.aload_n 0, 1) := by decide +kernel
theorem dXR_spriteAt_13 : decode cXR_spriteAt 13 = .ok (.aload_n 0, 1) := by decide +kernel
theorem dXR_spriteAt_14 : decode cXR_spriteAt 14 = .ok (.getfield 41, 3) := by decide +kernel
theorem dXR_spriteAt_17 : decode cXR_spriteAt 17 = .ok (.iload_n 3, 1) := by decide +kernel
theorem dXR_spriteAt_18 : decode cXR_spriteAt 18 = .ok (.iaload, 1) := by decide +kernel
theorem dXR_spriteAt_19 : decode cXR_spriteAt 19 = .ok (.iload_n 1, 1) := by decide +kernel
theorem dXR_spriteAt_20 : decode cXR_spriteAt 20 = .ok (.invokevirtual 297, 3) := by decide +kernel
theorem dXR_spriteAt_23 : decode cXR_spriteAt 23 = .ok (.istore 4, 2) := by decide +kernel
theorem dXR_spriteAt_25 : decode cXR_spriteAt 25 = .ok (.aload_n 0, 1) := by decide +kernel
theorem dXR_spriteAt_26 : decode cXR_spriteAt 26 = .ok (.aload_n 0, 1) := by decide +kernel
theorem dXR_spriteAt_27 : decode cXR_spriteAt 27 = .ok (.getfield 61, 3) := by decide +kernel
theorem dXR_spriteAt_30 : decode cXR_spriteAt 30 = .ok (.ifCond .ne 12, 3) := by decide +kernel
theorem dXR_spriteAt_33 : decode cXR_spriteAt 33 = .ok (.iload 4, 2) := by decide +kernel
theorem dXR_spriteAt_35 : decode cXR_spriteAt 35 = .ok (.ifCond .le 11, 3) := by decide +kernel
theorem dXR_spriteAt_38 : decode cXR_spriteAt 38 = .ok (.iload_n 2, 1) := by decide +kernel
theorem dXR_spriteAt_39 : decode cXR_spriteAt 39 = .ok (.ifCond .le 7, 3) := by decide +kernel
theorem dXR_spriteAt_42 : decode cXR_spriteAt 42 = .ok (.iconst 1, 1) := by decide +kernel
theorem dXR_spriteAt_43 : decode cXR_spriteAt 43 = .ok (.goto 4, 3) := by decide +kernel
theorem dXR_spriteAt_46 : decode cXR_spriteAt 46 = .ok (.iconst 0, 1) := by decide +kernel
theorem dXR_spriteAt_47 : decode cXR_spriteAt 47 = .ok (.putfield 61, 3) := by decide +kernel
theorem dXR_spriteAt_50 : decode cXR_spriteAt 50 = .ok (.iload_n 2, 1) := by decide +kernel
theorem dXR_spriteAt_51 : decode cXR_spriteAt 51 = .ok (.ifCond .ne 8, 3) := by decide +kernel
theorem dXR_spriteAt_54 : decode cXR_spriteAt 54 = .ok (.iload 4, 2) := by decide +kernel
theorem dXR_spriteAt_56 : decode cXR_spriteAt 56 = .ok (.goto 4, 3) := by decide +kernel
theorem dXR_spriteAt_59 : decode cXR_spriteAt 59 = .ok (.iload_n 2, 1) := by decide +kernel
theorem dXR_spriteAt_60 : decode cXR_spriteAt 60 = .ok (.istore_n 2, 1) := by decide +kernel
theorem dXR_spriteAt_61 : decode cXR_spriteAt 61 = .ok (.iinc 3 1, 3) := by decide +kernel
theorem dXR_spriteAt_64 : decode cXR_spriteAt 64 = .ok (.goto (-60), 3) := by decide +kernel
theorem dXR_spriteAt_67 : decode cXR_spriteAt 67 = .ok (.iload_n 2, 1) := by decide +kernel
theorem dXR_spriteAt_68 : decode cXR_spriteAt 68 = .ok (.ireturn, 1) := by decide +kernel
theorem dXR_draw_0 : decode cXR_draw 0 = .ok (.aload_n 0, 1) := by decide +kernel
theorem dXR_draw_1 : decode cXR_draw 1 = .ok (.getfield 35, 3) := by decide +kernel
theorem dXR_draw_4 : decode cXR_draw 4 = .ok (.iconst 1, 1) := by decide +kernel
theorem dXR_draw_5 : decode cXR_draw 5 = .ok (.iaload, 1) := by decide +kernel
theorem dXR_draw_6 : decode cXR_draw 6 = .ok (.bipush 64, 2) := by decide +kernel
theorem dXR_draw_8 : decode cXR_draw 8 = .ok (.iand, 1) := by decide +kernel
theorem dXR_draw_9 : decode cXR_draw 9 = .ok (.ifCond .eq 7, 3) := by decide +kernel
theorem dXR_draw_12 : decode cXR_draw 12 = .ok (.iconst 1, 1) := by decide +kernel
theorem dXR_draw_13 : decode cXR_draw 13 = .ok (.goto 4, 3) := by decide +kernel
theorem dXR_draw_16 : decode cXR_draw 16 = .ok (.iconst 0, 1) := by decide +kernel
theorem dXR_draw_17 : decode cXR_draw 17 = .ok (.istore_n 1, 1) := by decide +kernel
theorem dXR_draw_18 : decode cXR_draw 18 = .ok (.iload_n 1, 1) := by decide +kernel
theorem dXR_draw_19 : decode cXR_draw 19 = .ok (.ifCond .eq 7, 3) := by decide +kernel
theorem dXR_draw_22 : decode cXR_draw 22 = .ok (.aload_n 0, 1) := by decide +kernel
theorem dXR_draw_23 : decode cXR_draw 23 = .ok (.invokevirtual 300, 3) := by decide +kernel
theorem dXR_draw_26 : decode cXR_draw 26 = .ok (.iconst 0, 1) := by decide +kernel
theorem dXR_draw_27 : decode cXR_draw 27 = .ok (.istore_n 2, 1) := by decide +kernel
theorem dXR_draw_28 : decode cXR_draw 28 = .ok (.iload_n 2, 1) := by decide +kernel
theorem dXR_draw_29 : decode cXR_draw 29 = .ok (.bipush 16, 2) := by decide +kernel
theorem dXR_draw_31 : decode cXR_draw 31 = .ok (.if_icmp .ge 137, 3) := by decide +kernel
theorem dXR_draw_34 : decode cXR_draw 34 = .ok (.aload_n 0, 1) := by decide +kernel
theorem dXR_draw_35 : decode cXR_draw 35 = .ok (.getfield 35, 3) := by decide +kernel
theorem dXR_draw_38 : decode cXR_draw 38 = .ok (.bipush 7, 2) := by decide +kernel
theorem dXR_draw_40 : decode cXR_draw 40 = .ok (.iaload, 1) := by decide +kernel
theorem dXR_draw_41 : decode cXR_draw 41 = .ok (.bipush 15, 2) := by decide +kernel
theorem dXR_draw_43 : decode cXR_draw 43 = .ok (.iand, 1) := by decide +kernel
theorem dXR_draw_44 : decode cXR_draw 44 = .ok (.istore_n 3, 1) := by decide +kernel
theorem dXR_draw_45 : decode cXR_draw 45 = .ok (.iload_n 1, 1) := by decide +kernel
theorem dXR_draw_46 : decode cXR_draw 46 = .ok (.ifCond .eq 101, 3) := by decide +kernel
theorem dXR_draw_49 : decode cXR_draw 49 = .ok (.aload_n 0, 1) := by decide +kernel
theorem dXR_draw_50 : decode cXR_draw 50 = .ok (.iload_n 2, 1) := by decide +kernel
theorem dXR_draw_51 : decode cXR_draw 51 = .ok (.invokevirtual 303, 3) := by decide +kernel
theorem dXR_draw_54 : decode cXR_draw 54 = .ok (.istore 4, 2) := by decide +kernel
theorem dXR_draw_56 : decode cXR_draw 56 = .ok (.aload_n 0, 1) := by decide +kernel
theorem dXR_draw_57 : decode cXR_draw 57 = .ok (.iconst 0, 1) := by decide +kernel
theorem dXR_draw_58 : decode cXR_draw 58 = .ok (.iload_n 2, 1) := by decide +kernel
theorem dXR_draw_59 : decode cXR_draw 59 = .ok (.invokevirtual 306, 3) := by decide +kernel
theorem dXR_draw_62 : decode cXR_draw 62 = .ok (.istore 5, 2) := by decide +kernel
theorem dXR_draw_64 : decode cXR_draw 64 = .ok (.aload_n 0, 1) := by decide +kernel
theorem dXR_draw_65 : decode cXR_draw 65 = .ok (.iconst 1, 1) := by decide +kernel
theorem dXR_draw_66 : decode cXR_draw 66 = .ok (.iload_n 2, 1) := by decide +kernel
theorem dXR_draw_67 : decode cXR_draw 67 = .ok (.invokevirtual 306, 3) := by decide +kernel
theorem dXR_draw_70 : decode cXR_draw 70 = .ok (.istore 6, 2) := by decide +kernel
theorem dXR_draw_72 : decode cXR_draw 72 = .ok (.iload 4, 2) := by decide +kernel
theorem dXR_draw_74 : decode cXR_draw 74 = .ok (.bipush 15, 2) := by decide +kernel
theorem dXR_draw_76 : decode cXR_draw 76 = .ok (.if_icmp .le 8, 3) := by decide +kernel
theorem dXR_draw_79 : decode cXR_draw 79 = .ok (.iload 4, 2) := by decide +kernel
theorem dXR_draw_81 : decode cXR_draw 81 = .ok (.goto 49, 3) := by decide +kernel
theorem dXR_draw_84 : decode cXR_draw 84 = .ok (.iload 5, 2) := by decide +kernel
theorem dXR_draw_86 : decode cXR_draw 86 = .ok (.bipush 15, 2) := by decide +kernel
theorem dXR_draw_88 : decode cXR_draw 88 = .ok (.if_icmp .le 8, 3) := by decide +kernel
theorem dXR_draw_91 : decode cXR_draw 91 = .ok (.iload 5, 2) := by decide +kernel
theorem dXR_draw_93 : decode cXR_draw 93 = .ok (.goto 37, 3) := by decide +kernel
theorem dXR_draw_96 : decode cXR_draw 96 = .ok (.iload 6, 2) := by decide +kernel
theorem dXR_draw_98 : decode cXR_draw 98 = .ok (.bipush 15, 2) := by decide +kernel
theorem dXR_draw_100 : decode cXR_draw 100 = .ok (.if_icmp .le 8, 3) := by decide +kernel
theorem dXR_draw_103 : decode cXR_draw 103 = .ok (.iload 6, 2) := by decide +kernel
theorem dXR_draw_105 : decode cXR_draw 105 = .ok (.goto 25, 3) := by decide +kernel
theorem dXR_draw_108 : decode cXR_draw 108 = .ok (.iload 4, 2) := by decide +kernel
theorem dXR_draw_110 : decode cXR_draw 110 = .ok (.ifCond .le 8, 3) := by decide +kernel
theorem dXR_draw_113 : decode cXR_draw 113 = .ok (.iload 4, 2) := by decide +kernel
theorem dXR_draw_115 : decode cXR_draw 115 = .ok (.goto 15, 3) := by decide +kernel
theorem dXR_draw_118 : decode cXR_draw 118 = .ok (.iload 5, 2) := by decide +kernel
theorem dXR_draw_120 : decode cXR_draw 120 = .ok (.ifCond .le 8, 3) := by decide +kernel
theorem dXR_draw_123 : decode cXR_draw 123 = .ok (.iload 5, 2) := by decide +kernel
theorem dXR_draw_125 : decode cXR_draw 125 = .ok (.goto 5, 3) := by decide +kernel
theorem dXR_draw_128 : decode cXR_draw 128 = .ok (.iload 6, 2) := by decide +kernel
theorem dXR_draw_130 : decode cXR_draw 130 = .ok (.istore 7, 2) := by decide +kernel
theorem dXR_draw_132 : decode cXR_draw 132 = .ok (.iload 7, 2) := by decide +kernel
theorem dXR_draw_134 : decode cXR_draw 134 = .ok (.ifCond .le 11, 3) := by decide +kernel
theorem dXR_draw_137 : decode cXR_draw 137 = .ok (.iload 7, 2) := by decide +kernel
theorem dXR_draw_139 : decode cXR_draw 139 = .ok (.bipush 15, 2) := by decide +kernel
theorem dXR_draw_141 : decode cXR_draw 141 = .ok (.iand, 1) := by decide +kernel
theorem dXR_draw_142 : decode cXR_draw 142 = .ok (.goto 4, 3) := by decide +kernel
theorem dXR_draw_145 : decode cXR_draw 145 = .ok (.iload_n 3, 1) := by decide +kernel
theorem dXR_draw_146 : decode cXR_draw 146 = .ok (.istore_n 3, 1) := by decide +kernel
theorem dXR_draw_147 : decode cXR_draw 147 = .ok (.aload_n 0, 1) := by decide +kernel
theorem dXR_draw_148 : decode cXR_draw 148 = .ok (.getfield 38, 3) := by decide +kernel
theorem dXR_draw_151 : decode cXR_draw 151 = .ok (.bipush 16, 2) := by decide +kernel
theorem dXR_draw_153 : decode cXR_draw 153 = .ok (.aload_n 0, 1) := by decide +kernel
theorem dXR_draw_154 : decode cXR_draw 154 = .ok (.getfield 55, 3) := by decide +kernel
theorem dXR_draw_157 : decode cXR_draw 157 = .ok (.imul, 1) := by decide +kernel
theorem dXR_draw_158 : decode cXR_draw 158 = .ok (.iload_n 2, 1) := by decide +kernel
theorem dXR_draw_159 : decode cXR_draw 159 = .ok (.iadd, 1) := by decide +kernel
theorem dXR_draw_160 : decode cXR_draw 160 = .ok (.iload_n 3, 1) := by decide +kernel
theorem dXR_draw_161 : decode cXR_draw 161 = .ok (.iastore, 1) := by decide +kernel
theorem dXR_draw_162 : decode cXR_draw 162 = .ok (.iinc 2 1, 3) := by decide +kernel
theorem dXR_draw_165 : decode cXR_draw 165 = .ok (.goto (-137), 3) := by decide +kernel
theorem dXR_draw_168 : decode cXR_draw 168 = .ok (.return_, 1) := by decide +kernel
theorem dXR_rom_0 : decode cXR_rom 0 = .ok (.iload_n 1, 1) := by decide +kernel
theorem dXR_rom_1 : decode cXR_rom 1 = .ok (.ifCond .lt 10, 3) := by decide +kernel
theorem dXR_rom_4 : decode cXR_rom 4 = .ok (.iload_n 1, 1) := by decide +kernel
theorem dXR_rom_5 : decode cXR_rom 5 = .ok (.sipush 255, 3) := by decide +kernel
theorem dXR_rom_8 : decode cXR_rom 8 = .ok (.if_icmp .le 5, 3) := by decide +kernel
theorem dXR_rom_11 : decode cXR_rom 11 = .ok (.iconst 0, 1) := by decide +kernel
theorem dXR_rom_12 : decode cXR_rom 12 = .ok (.ireturn, 1) := by decide +kernel
theorem dXR_rom_13 : decode cXR_rom 13 = .ok (.aload_n 0, 1) := by decide +kernel
theorem dXR_rom_14 : decode cXR_rom 14 = .ok (.getfield 7, 3) := by decide +kernel
theorem dXR_rom_17 : decode cXR_rom 17 = .ok (.iconst 2, 1) := by decide +kernel
theorem dXR_rom_18 : decode cXR_rom 18 = .ok (.iload_n 1, 1) := by decide +kernel
theorem dXR_rom_19 : decode cXR_rom 19 = .ok (.imul, 1) := by decide +kernel
theorem dXR_rom_20 : decode cXR_rom 20 = .ok (.iload_n 2, 1) := by decide +kernel
theorem dXR_rom_21 : decode cXR_rom 21 = .ok (.bipush 8, 2) := by decide +kernel
theorem dXR_rom_23 : decode cXR_rom 23 = .ok (.ishr, 1) := by decide +kernel
theorem dXR_rom_24 : decode cXR_rom 24 = .ok (.sipush 255, 3) := by decide +kernel
theorem dXR_rom_27 : decode cXR_rom 27 = .ok (.iand, 1) := by decide +kernel
theorem dXR_rom_28 : decode cXR_rom 28 = .ok (.iastore, 1) := by decide +kernel
theorem dXR_rom_29 : decode cXR_rom 29 = .ok (.aload_n 0, 1) := by decide +kernel
theorem dXR_rom_30 : decode cXR_rom 30 = .ok (.getfield 7, 3) := by decide +kernel
theorem dXR_rom_33 : decode cXR_rom 33 = .ok (.iconst 2, 1) := by decide +kernel
theorem dXR_rom_34 : decode cXR_rom 34 = .ok (.iload_n 1, 1) := by decide +kernel
theorem dXR_rom_35 : decode cXR_rom 35 = .ok (.imul, 1) := by decide +kernel
theorem dXR_rom_36 : decode cXR_rom 36 = .ok (.iconst 1, 1) := by decide +kernel
theorem dXR_rom_37 : decode cXR_rom 37 = .ok (.iadd, 1) := by decide +kernel
theorem dXR_rom_38 : decode cXR_rom 38 = .ok (.iload_n 2, 1) := by decide +kernel
theorem dXR_rom_39 : decode cXR_rom 39 = .ok (.sipush 255, 3) := by decide +kernel
theorem dXR_rom_42 : decode cXR_rom 42 = .ok (.iand, 1) := by decide +kernel
theorem dXR_rom_43 : decode cXR_rom 43 = .ok (.iastore, 1) := by decide +kernel
theorem dXR_rom_44 : decode cXR_rom 44 = .ok (.iconst 1, 1) := by decide +kernel
theorem dXR_rom_45 : decode cXR_rom 45 = .ok (.ireturn, 1) := by decide +kernel
theorem dXR_reset_0 : decode cXR_reset 0 = .ok (.iconst 0, 1) := by decide +kernel
theorem dXR_reset_1 : decode cXR_reset 1 = .ok (.istore_n 1, 1) := by decide +kernel
theorem dXR_reset_2 : decode cXR_reset 2 = .ok (.iload_n 1, 1) := by decide +kernel
theorem dXR_reset_3 : decode cXR_reset 3 = .ok (.bipush 8, 2) := by decide +kernel
theorem dXR_reset_5 : decode cXR_reset 5 = .ok (.if_icmp .ge 16, 3) := by decide +kernel
theorem dXR_reset_8 : decode cXR_reset 8 = .ok (.aload_n 0, 1) := by decide +kernel
theorem dXR_reset_9 : decode cXR_reset 9 = .ok (.getfield 16, 3) := by decide +kernel
theorem dXR_reset_12 : decode cXR_reset 12 = .ok (.iload_n 1, 1) := by decide +kernel
theorem dXR_reset_13 : decode cXR_reset 13 = .ok (.iconst 0, 1) := by decide +kernel
theorem dXR_reset_14 : decode cXR_reset 14 = .ok (.iastore, 1) := by decide +kernel
theorem dXR_reset_15 : decode cXR_reset 15 = .ok (.iinc 1 1, 3) := by decide +kernel
theorem dXR_reset_18 : decode cXR_reset 18 = .ok (.goto (-16), 3) := by decide +kernel
theorem dXR_reset_21 : decode cXR_reset 21 = .ok (.aload_n 0, 1) := by decide +kernel
theorem dXR_reset_22 : decode cXR_reset 22 = .ok (.aload_n 0, 1) := by decide +kernel
theorem dXR_reset_23 : decode cXR_reset 23 = .ok (.iconst 2, 1) := by decide +kernel
theorem dXR_reset_24 : decode cXR_reset 24 = .ok (.invokevirtual 76, 3) := by decide +kernel
theorem dXR_reset_27 : decode cXR_reset 27 = .ok (.putfield 183, 3) := by decide +kernel
theorem dXR_reset_30 : decode cXR_reset 30 = .ok (.aload_n 0, 1) := by decide +kernel
theorem dXR_reset_31 : decode cXR_reset 31 = .ok (.aload_n 0, 1) := by decide +kernel
theorem dXR_reset_32 : decode cXR_reset 32 = .ok (.bipush 6, 2) := by decide +kernel
theorem dXR_reset_34 : decode cXR_reset 34 = .ok (.invokevirtual 76, 3) := by decide +kernel
theorem dXR_reset_37 : decode cXR_reset 37 = .ok (.putfield 180, 3) := by decide +kernel
theorem dXR_reset_40 : decode cXR_reset 40 = .ok (.aload_n 0, 1) := by decide +kernel
theorem dXR_reset_41 : decode cXR_reset 41 = .ok (.sipush 1792, 3) := by decide +kernel
theorem dXR_reset_44 : decode cXR_reset 44 = .ok (.invokevirtual 217, 3) := by decide +kernel
theorem dXR_reset_47 : decode cXR_reset 47 = .ok (.aload_n 0, 1) := by decide +kernel
theorem dXR_reset_48 : decode cXR_reset 48 = .ok (.iconst 0, 1) := by decide +kernel
theorem dXR_reset_49 : decode cXR_reset 49 = .ok (.putfield 220, 3) := by decide +kernel
theorem dXR_reset_52 : decode cXR_reset 52 = .ok (.return_, 1) := by decide +kernel
theorem dXR_pad_0 : decode cXR_pad 0 = .ok (.aload_n 0, 1) := by decide +kernel
theorem dXR_pad_1 : decode cXR_pad 1 = .ok (.iload_n 1, 1) := by decide +kernel
theorem dXR_pad_2 : decode cXR_pad 2 = .ok (.sipush 255, 3) := by decide +kernel
theorem dXR_pad_5 : decode cXR_pad 5 = .ok (.iand, 1) := by decide +kernel
theorem dXR_pad_6 : decode cXR_pad 6 = .ok (.putfield 70, 3) := by decide +kernel
theorem dXR_pad_9 : decode cXR_pad 9 = .ok (.return_, 1) := by decide +kernel
theorem dXR_step_0 : decode cXR_step 0 = .ok (.aload_n 0, 1) := by decide +kernel
theorem dXR_step_1 : decode cXR_step 1 = .ok (.iconst 0, 1) := by decide +kernel
theorem dXR_step_2 : decode cXR_step 2 = .ok (.putfield 247, 3) := by decide +kernel
theorem dXR_step_5 : decode cXR_step 5 = .ok (.aload_n 0, 1) := by decide +kernel
theorem dXR_step_6 : decode cXR_step 6 = .ok (.invokevirtual 309, 3) := by decide +kernel
theorem dXR_step_9 : decode cXR_step 9 = .ok (.istore_n 1, 1) := by decide +kernel
theorem dXR_step_10 : decode cXR_step 10 = .ok (.aload_n 0, 1) := by decide +kernel
theorem dXR_step_11 : decode cXR_step 11 = .ok (.iload_n 1, 1) := by decide +kernel
theorem dXR_step_12 : decode cXR_step 12 = .ok (.invokevirtual 312, 3) := by decide +kernel
theorem dXR_step_15 : decode cXR_step 15 = .ok (.aload_n 0, 1) := by decide +kernel
theorem dXR_step_16 : decode cXR_step 16 = .ok (.iload_n 1, 1) := by decide +kernel
theorem dXR_step_17 : decode cXR_step 17 = .ok (.aload_n 0, 1) := by decide +kernel
theorem dXR_step_18 : decode cXR_step 18 = .ok (.getfield 247, 3) := by decide +kernel
theorem dXR_step_21 : decode cXR_step 21 = .ok (.iadd, 1) := by decide +kernel
theorem dXR_step_22 : decode cXR_step 22 = .ok (.invokevirtual 315, 3) := by decide +kernel
theorem dXR_step_25 : decode cXR_step 25 = .ok (.iload_n 1, 1) := by decide +kernel
theorem dXR_step_26 : decode cXR_step 26 = .ok (.aload_n 0, 1) := by decide +kernel
theorem dXR_step_27 : decode cXR_step 27 = .ok (.getfield 247, 3) := by decide +kernel
theorem dXR_step_30 : decode cXR_step 30 = .ok (.iadd, 1) := by decide +kernel
theorem dXR_step_31 : decode cXR_step 31 = .ok (.ireturn, 1) := by decide +kernel
theorem dXR_run_0 : decode cXR_run 0 = .ok (.iload_n 1, 1) := by decide +kernel
theorem dXR_run_1 : decode cXR_run 1 = .ok (.ifCond .lt 10, 3) := by decide +kernel
theorem dXR_run_4 : decode cXR_run 4 = .ok (.iload_n 1, 1) := by decide +kernel
theorem dXR_run_5 : decode cXR_run 5 = .ok (.sipush 800, 3) := by decide +kernel
theorem dXR_run_8 : decode cXR_run 8 = .ok (.if_icmp .le 5, 3) := by decide +kernel
theorem dXR_run_11 : decode cXR_run 11 = .ok (.iconst (-1), 1) := by decide +kernel
theorem dXR_run_12 : decode cXR_run 12 = .ok (.ireturn, 1) := by decide +kernel
theorem dXR_run_13 : decode cXR_run 13 = .ok (.iconst 0, 1) := by decide +kernel
theorem dXR_run_14 : decode cXR_run 14 = .ok (.istore_n 2, 1) := by decide +kernel
theorem dXR_run_15 : decode cXR_run 15 = .ok (.iload_n 2, 1) := by decide +kernel
theorem dXR_run_16 : decode cXR_run 16 = .ok (.iload_n 1, 1) := by decide +kernel
theorem dXR_run_17 : decode cXR_run 17 = .ok (.if_icmp .ge 13, 3) := by decide +kernel
theorem dXR_run_20 : decode cXR_run 20 = .ok (.iload_n 2, 1) := by decide +kernel
theorem dXR_run_21 : decode cXR_run 21 = .ok (.aload_n 0, 1) := by decide +kernel
theorem dXR_run_22 : decode cXR_run 22 = .ok (.invokevirtual 318, 3) := by decide +kernel
theorem dXR_run_25 : decode cXR_run 25 = .ok (.iadd, 1) := by decide +kernel
theorem dXR_run_26 : decode cXR_run 26 = .ok (.istore_n 2, 1) := by decide +kernel
theorem dXR_run_27 : decode cXR_run 27 = .ok (.goto (-12), 3) := by decide +kernel
theorem dXR_run_30 : decode cXR_run 30 = .ok (.iload_n 2, 1) := by decide +kernel
theorem dXR_run_31 : decode cXR_run 31 = .ok (.ireturn, 1) := by decide +kernel
theorem dXR_memory_0 : decode cXR_memory 0 = .ok (.aload_n 0, 1) := by decide +kernel
theorem dXR_memory_1 : decode cXR_memory 1 = .ok (.iload_n 1, 1) := by decide +kernel
theorem dXR_memory_2 : decode cXR_memory 2 = .ok (.invokevirtual 76, 3) := by decide +kernel
theorem dXR_memory_5 : decode cXR_memory 5 = .ok (.ireturn, 1) := by decide +kernel
theorem dXR_seed_0 : decode cXR_seed 0 = .ok (.iload_n 1, 1) := by decide +kernel
theorem dXR_seed_1 : decode cXR_seed 1 = .ok (.ifCond .lt 9, 3) := by decide +kernel
theorem dXR_seed_4 : decode cXR_seed 4 = .ok (.iload_n 1, 1) := by decide +kernel
theorem dXR_seed_5 : decode cXR_seed 5 = .ok (.bipush 127, 2) := by decide +kernel
theorem dXR_seed_7 : decode cXR_seed 7 = .ok (.if_icmp .le 5, 3) := by decide +kernel
theorem dXR_seed_10 : decode cXR_seed 10 = .ok (.iconst 0, 1) := by decide +kernel
theorem dXR_seed_11 : decode cXR_seed 11 = .ok (.ireturn, 1) := by decide +kernel
theorem dXR_seed_12 : decode cXR_seed 12 = .ok (.aload_n 0, 1) := by decide +kernel
theorem dXR_seed_13 : decode cXR_seed 13 = .ok (.getfield 19, 3) := by decide +kernel
theorem dXR_seed_16 : decode cXR_seed 16 = .ok (.iload_n 1, 1) := by decide +kernel
theorem dXR_seed_17 : decode cXR_seed 17 = .ok (.iload_n 2, 1) := by decide +kernel
theorem dXR_seed_18 : decode cXR_seed 18 = .ok (.sipush 255, 3) := by decide +kernel
theorem dXR_seed_21 : decode cXR_seed 21 = .ok (.iand, 1) := by decide +kernel
theorem dXR_seed_22 : decode cXR_seed 22 = .ok (.iastore, 1) := by decide +kernel
theorem dXR_seed_23 : decode cXR_seed 23 = .ok (.iconst 1, 1) := by decide +kernel
theorem dXR_seed_24 : decode cXR_seed 24 = .ok (.ireturn, 1) := by decide +kernel
theorem dXR_register_0 : decode cXR_register 0 = .ok (.iload_n 1, 1) := by decide +kernel
theorem dXR_register_1 : decode cXR_register 1 = .ok (.ifCond .lt 9, 3) := by decide +kernel
theorem dXR_register_4 : decode cXR_register 4 = .ok (.iload_n 1, 1) := by decide +kernel
theorem dXR_register_5 : decode cXR_register 5 = .ok (.bipush 16, 2) := by decide +kernel
theorem dXR_register_7 : decode cXR_register 7 = .ok (.if_icmp .le 5, 3) := by decide +kernel
theorem dXR_register_10 : decode cXR_register 10 = .ok (.iconst (-1), 1) := by decide +kernel
theorem dXR_register_11 : decode cXR_register 11 = .ok (.ireturn, 1) := by decide +kernel
theorem dXR_register_12 : decode cXR_register 12 = .ok (.iload_n 1, 1) := by decide +kernel
theorem dXR_register_13 : decode cXR_register 13 = .ok (.bipush 8, 2) := by decide +kernel
theorem dXR_register_15 : decode cXR_register 15 = .ok (.if_icmp .ge 10, 3) := by decide +kernel
theorem dXR_register_18 : decode cXR_register 18 = .ok (.aload_n 0, 1) := by decide +kernel
theorem dXR_register_19 : decode cXR_register 19 = .ok (.getfield 16, 3) := by decide +kernel
theorem dXR_register_22 : decode cXR_register 22 = .ok (.iload_n 1, 1) := by decide +kernel
theorem dXR_register_23 : decode cXR_register 23 = .ok (.iaload, 1) := by decide +kernel
theorem dXR_register_24 : decode cXR_register 24 = .ok (.ireturn, 1) := by decide +kernel
theorem dXR_register_25 : decode cXR_register 25 = .ok (.iload_n 1, 1) := by decide +kernel
theorem dXR_register_26 : decode cXR_register 26 = .ok (.tableswitch 107 8 15 #[46, 51, 56, 61, 87, 92, 97, 102], 46) := by decide +kernel
theorem dXR_register_72 : decode cXR_register 72 = .ok (.aload_n 0, 1) := by decide +kernel
theorem dXR_register_73 : decode cXR_register 73 = .ok (.getfield 183, 3) := by decide +kernel
theorem dXR_register_76 : decode cXR_register 76 = .ok (.ireturn, 1) := by decide +kernel
theorem dXR_register_77 : decode cXR_register 77 = .ok (.aload_n 0, 1) := by decide +kernel
theorem dXR_register_78 : decode cXR_register 78 = .ok (.getfield 180, 3) := by decide +kernel
theorem dXR_register_81 : decode cXR_register 81 = .ok (.ireturn, 1) := by decide +kernel
theorem dXR_register_82 : decode cXR_register 82 = .ok (.aload_n 0, 1) := by decide +kernel
theorem dXR_register_83 : decode cXR_register 83 = .ok (.invokevirtual 186, 3) := by decide +kernel
theorem dXR_register_86 : decode cXR_register 86 = .ok (.ireturn, 1) := by decide +kernel
theorem dXR_register_87 : decode cXR_register 87 = .ok (.aload_n 0, 1) := by decide +kernel
theorem dXR_register_88 : decode cXR_register 88 = .ok (.getfield 220, 3) := by decide +kernel
theorem dXR_register_91 : decode cXR_register 91 = .ok (.ifCond .eq 7, 3) := by decide +kernel
theorem dXR_register_94 : decode cXR_register 94 = .ok (.iconst 1, 1) := by decide +kernel
theorem dXR_register_95 : decode cXR_register 95 = .ok (.goto 4, 3) := by decide +kernel
theorem dXR_register_98 : decode cXR_register 98 = .ok (.iconst 0, 1) := by decide +kernel
theorem dXR_register_99 : decode cXR_register 99 = .ok (.aload_n 0, 1) := by decide +kernel
theorem dXR_register_100 : decode cXR_register 100 = .ok (.getfield 51, 3) := by decide +kernel
theorem dXR_register_103 : decode cXR_register 103 = .ok (.ifCond .le 7, 3) := by decide +kernel
theorem dXR_register_106 : decode cXR_register 106 = .ok (.iconst 2, 1) := by decide +kernel
theorem dXR_register_107 : decode cXR_register 107 = .ok (.goto 4, 3) := by decide +kernel
theorem dXR_register_110 : decode cXR_register 110 = .ok (.iconst 0, 1) := by decide +kernel
theorem dXR_register_111 : decode cXR_register 111 = .ok (.iadd, 1) := by decide +kernel
theorem dXR_register_112 : decode cXR_register 112 = .ok (.ireturn, 1) := by decide +kernel
theorem dXR_register_113 : decode cXR_register 113 = .ok (.aload_n 0, 1) := by decide +kernel
theorem dXR_register_114 : decode cXR_register 114 = .ok (.getfield 104, 3) := by decide +kernel
theorem dXR_register_117 : decode cXR_register 117 = .ok (.ireturn, 1) := by decide +kernel
theorem dXR_register_118 : decode cXR_register 118 = .ok (.aload_n 0, 1) := by decide +kernel
theorem dXR_register_119 : decode cXR_register 119 = .ok (.getfield 107, 3) := by decide +kernel
theorem dXR_register_122 : decode cXR_register 122 = .ok (.ireturn, 1) := by decide +kernel
theorem dXR_register_123 : decode cXR_register 123 = .ok (.aload_n 0, 1) := by decide +kernel
theorem dXR_register_124 : decode cXR_register 124 = .ok (.getfield 110, 3) := by decide +kernel
theorem dXR_register_127 : decode cXR_register 127 = .ok (.ireturn, 1) := by decide +kernel
theorem dXR_register_128 : decode cXR_register 128 = .ok (.aload_n 0, 1) := by decide +kernel
theorem dXR_register_129 : decode cXR_register 129 = .ok (.getfield 113, 3) := by decide +kernel
theorem dXR_register_132 : decode cXR_register 132 = .ok (.ireturn, 1) := by decide +kernel
theorem dXR_register_133 : decode cXR_register 133 = .ok (.aload_n 0, 1) := by decide +kernel
theorem dXR_register_134 : decode cXR_register 134 = .ok (.getfield 116, 3) := by decide +kernel
theorem dXR_register_137 : decode cXR_register 137 = .ok (.ifCond .eq 7, 3) := by decide +kernel
theorem dXR_register_140 : decode cXR_register 140 = .ok (.iconst 1, 1) := by decide +kernel
theorem dXR_register_141 : decode cXR_register 141 = .ok (.goto 4, 3) := by decide +kernel
theorem dXR_register_144 : decode cXR_register 144 = .ok (.iconst 0, 1) := by decide +kernel
theorem dXR_register_145 : decode cXR_register 145 = .ok (.aload_n 0, 1) := by decide +kernel
theorem dXR_register_146 : decode cXR_register 146 = .ok (.getfield 119, 3) := by decide +kernel
theorem dXR_register_149 : decode cXR_register 149 = .ok (.ifCond .eq 7, 3) := by decide +kernel
theorem dXR_register_152 : decode cXR_register 152 = .ok (.iconst 2, 1) := by decide +kernel
theorem dXR_register_153 : decode cXR_register 153 = .ok (.goto 4, 3) := by decide +kernel
theorem dXR_register_156 : decode cXR_register 156 = .ok (.iconst 0, 1) := by decide +kernel
theorem dXR_register_157 : decode cXR_register 157 = .ok (.iadd, 1) := by decide +kernel
theorem dXR_register_158 : decode cXR_register 158 = .ok (.aload_n 0, 1) := by decide +kernel
theorem dXR_register_159 : decode cXR_register 159 = .ok (.getfield 122, 3) := by decide +kernel
theorem dXR_register_162 : decode cXR_register 162 = .ok (.ifCond .eq 7, 3) := by decide +kernel
theorem dXR_register_165 : decode cXR_register 165 = .ok (.iconst 4, 1) := by decide +kernel
theorem dXR_register_166 : decode cXR_register 166 = .ok (.goto 4, 3) := by decide +kernel
theorem dXR_register_169 : decode cXR_register 169 = .ok (.iconst 0, 1) := by decide +kernel
theorem dXR_register_170 : decode cXR_register 170 = .ok (.iadd, 1) := by decide +kernel
theorem dXR_register_171 : decode cXR_register 171 = .ok (.aload_n 0, 1) := by decide +kernel
theorem dXR_register_172 : decode cXR_register 172 = .ok (.getfield 44, 3) := by decide +kernel
theorem dXR_register_175 : decode cXR_register 175 = .ok (.ifCond .eq 8, 3) := by decide +kernel
theorem dXR_register_178 : decode cXR_register 178 = .ok (.bipush 8, 2) := by decide +kernel
theorem dXR_register_180 : decode cXR_register 180 = .ok (.goto 4, 3) := by decide +kernel
theorem dXR_register_183 : decode cXR_register 183 = .ok (.iconst 0, 1) := by decide +kernel
theorem dXR_register_184 : decode cXR_register 184 = .ok (.iadd, 1) := by decide +kernel
theorem dXR_register_185 : decode cXR_register 185 = .ok (.aload_n 0, 1) := by decide +kernel
theorem dXR_register_186 : decode cXR_register 186 = .ok (.getfield 22, 3) := by decide +kernel
theorem dXR_register_189 : decode cXR_register 189 = .ok (.ifCond .eq 8, 3) := by decide +kernel
theorem dXR_register_192 : decode cXR_register 192 = .ok (.bipush 16, 2) := by decide +kernel
theorem dXR_register_194 : decode cXR_register 194 = .ok (.goto 4, 3) := by decide +kernel
theorem dXR_register_197 : decode cXR_register 197 = .ok (.iconst 0, 1) := by decide +kernel
theorem dXR_register_198 : decode cXR_register 198 = .ok (.iadd, 1) := by decide +kernel
theorem dXR_register_199 : decode cXR_register 199 = .ok (.ireturn, 1) := by decide +kernel
theorem dXR_video_0 : decode cXR_video 0 = .ok (.iload_n 2, 1) := by decide +kernel
theorem dXR_video_1 : decode cXR_video 1 = .ok (.ifCond .ge 5, 3) := by decide +kernel
theorem dXR_video_4 : decode cXR_video 4 = .ok (.iconst (-1), 1) := by decide +kernel
theorem dXR_video_5 : decode cXR_video 5 = .ok (.ireturn, 1) := by decide +kernel
theorem dXR_video_6 : decode cXR_video 6 = .ok (.iload_n 1, 1) := by decide +kernel
theorem dXR_video_7 : decode cXR_video 7 = .ok (.tableswitch 179 0 4 #[33, 50, 67, 83, 100], 33) := by decide +kernel
theorem dXR_video_40 : decode cXR_video 40 = .ok (.iload_n 2, 1) := by decide +kernel
theorem dXR_video_41 : decode cXR_video 41 = .ok (.sipush 512, 3) := by decide +kernel
theorem dXR_video_44 : decode cXR_video 44 = .ok (.if_icmp .ge 11, 3) := by decide +kernel
theorem dXR_video_47 : decode cXR_video 47 = .ok (.aload_n 0, 1) := by decide +kernel
theorem dXR_video_48 : decode cXR_video 48 = .ok (.iload_n 2, 1) := by decide +kernel
theorem dXR_video_49 : decode cXR_video 49 = .ok (.invokevirtual 135, 3) := by decide +kernel
theorem dXR_video_52 : decode cXR_video 52 = .ok (.goto 4, 3) := by decide +kernel
theorem dXR_video_55 : decode cXR_video 55 = .ok (.iconst (-1), 1) := by decide +kernel
theorem dXR_video_56 : decode cXR_video 56 = .ok (.ireturn, 1) := by decide +kernel
theorem dXR_video_57 : decode cXR_video 57 = .ok (.iload_n 2, 1) := by decide +kernel
theorem dXR_video_58 : decode cXR_video 58 = .ok (.bipush 16, 2) := by decide +kernel
theorem dXR_video_60 : decode cXR_video 60 = .ok (.if_icmp .ge 12, 3) := by decide +kernel
theorem dXR_video_63 : decode cXR_video 63 = .ok (.aload_n 0, 1) := by decide +kernel
theorem dXR_video_64 : decode cXR_video 64 = .ok (.getfield 29, 3) := by decide +kernel
theorem dXR_video_67 : decode cXR_video 67 = .ok (.iload_n 2, 1) := by decide +kernel
theorem dXR_video_68 : decode cXR_video 68 = .ok (.iaload, 1) := by decide +kernel
theorem dXR_video_69 : decode cXR_video 69 = .ok (.goto 4, 3) := by decide +kernel
theorem dXR_video_72 : decode cXR_video 72 = .ok (.iconst (-1), 1) := by decide +kernel
theorem dXR_video_73 : decode cXR_video 73 = .ok (.ireturn, 1) := by decide +kernel
theorem dXR_video_74 : decode cXR_video 74 = .ok (.iload_n 2, 1) := by decide +kernel
theorem dXR_video_75 : decode cXR_video 75 = .ok (.iconst 2, 1) := by decide +kernel
theorem dXR_video_76 : decode cXR_video 76 = .ok (.if_icmp .ge 12, 3) := by decide +kernel
theorem dXR_video_79 : decode cXR_video 79 = .ok (.aload_n 0, 1) := by decide +kernel
theorem dXR_video_80 : decode cXR_video 80 = .ok (.getfield 32, 3) := by decide +kernel
theorem dXR_video_83 : decode cXR_video 83 = .ok (.iload_n 2, 1) := by decide +kernel
theorem dXR_video_84 : decode cXR_video 84 = .ok (.iaload, 1) := by decide +kernel
theorem dXR_video_85 : decode cXR_video 85 = .ok (.goto 4, 3) := by decide +kernel
theorem dXR_video_88 : decode cXR_video 88 = .ok (.iconst (-1), 1) := by decide +kernel
theorem dXR_video_89 : decode cXR_video 89 = .ok (.ireturn, 1) := by decide +kernel
theorem dXR_video_90 : decode cXR_video 90 = .ok (.iload_n 2, 1) := by decide +kernel
theorem dXR_video_91 : decode cXR_video 91 = .ok (.bipush 16, 2) := by decide +kernel
theorem dXR_video_93 : decode cXR_video 93 = .ok (.if_icmp .ge 12, 3) := by decide +kernel
theorem dXR_video_96 : decode cXR_video 96 = .ok (.aload_n 0, 1) := by decide +kernel
theorem dXR_video_97 : decode cXR_video 97 = .ok (.getfield 35, 3) := by decide +kernel
theorem dXR_video_100 : decode cXR_video 100 = .ok (.iload_n 2, 1) := by decide +kernel
theorem dXR_video_101 : decode cXR_video 101 = .ok (.iaload, 1) := by decide +kernel
theorem dXR_video_102 : decode cXR_video 102 = .ok (.goto 4, 3) := by decide +kernel
theorem dXR_video_105 : decode cXR_video 105 = .ok (.iconst (-1), 1) := by decide +kernel
theorem dXR_video_106 : decode cXR_video 106 = .ok (.ireturn, 1) := by decide +kernel
theorem dXR_video_107 : decode cXR_video 107 = .ok (.iload_n 2, 1) := by decide +kernel
theorem dXR_video_108 : decode cXR_video 108 = .ok (.ifCond .ne 10, 3) := by decide +kernel
theorem dXR_video_111 : decode cXR_video 111 = .ok (.aload_n 0, 1) := by decide +kernel
theorem dXR_video_112 : decode cXR_video 112 = .ok (.getfield 128, 3) := by decide +kernel
theorem dXR_video_115 : decode cXR_video 115 = .ok (.goto 70, 3) := by decide +kernel
theorem dXR_video_118 : decode cXR_video 118 = .ok (.iload_n 2, 1) := by decide +kernel
theorem dXR_video_119 : decode cXR_video 119 = .ok (.iconst 1, 1) := by decide +kernel
theorem dXR_video_120 : decode cXR_video 120 = .ok (.if_icmp .ne 10, 3) := by decide +kernel
theorem dXR_video_123 : decode cXR_video 123 = .ok (.aload_n 0, 1) := by decide +kernel
theorem dXR_video_124 : decode cXR_video 124 = .ok (.getfield 132, 3) := by decide +kernel
theorem dXR_video_127 : decode cXR_video 127 = .ok (.goto 58, 3) := by decide +kernel
theorem dXR_video_130 : decode cXR_video 130 = .ok (.iload_n 2, 1) := by decide +kernel
theorem dXR_video_131 : decode cXR_video 131 = .ok (.iconst 2, 1) := by decide +kernel
theorem dXR_video_132 : decode cXR_video 132 = .ok (.if_icmp .ne 18, 3) := by decide +kernel
theorem dXR_video_135 : decode cXR_video 135 = .ok (.aload_n 0, 1) := by decide +kernel
theorem dXR_video_136 : decode cXR_video 136 = .ok (.getfield 67, 3) := by decide +kernel
theorem dXR_video_139 : decode cXR_video 139 = .ok (.ifCond .eq 7, 3) := by decide +kernel
theorem dXR_video_142 : decode cXR_video 142 = .ok (.iconst 1, 1) := by decide +kernel
theorem dXR_video_143 : decode cXR_video 143 = .ok (.goto 42, 3) := by decide +kernel
theorem dXR_video_146 : decode cXR_video 146 = .ok (.iconst 0, 1) := by decide +kernel
theorem dXR_video_147 : decode cXR_video 147 = .ok (.goto 38, 3) := by decide +kernel
theorem dXR_video_150 : decode cXR_video 150 = .ok (.iload_n 2, 1) := by decide +kernel
theorem dXR_video_151 : decode cXR_video 151 = .ok (.iconst 3, 1) := by decide +kernel
theorem dXR_video_152 : decode cXR_video 152 = .ok (.if_icmp .ne 32, 3) := by decide +kernel
theorem dXR_video_155 : decode cXR_video 155 = .ok (.aload_n 0, 1) := by decide +kernel
theorem dXR_video_156 : decode cXR_video 156 = .ok (.getfield 241, 3) := by decide +kernel
theorem dXR_video_159 : decode cXR_video 159 = .ok (.ifCond .eq 7, 3) := by decide +kernel
theorem dXR_video_162 : decode cXR_video 162 = .ok (.iconst 4, 1) := by decide +kernel
theorem dXR_video_163 : decode cXR_video 163 = .ok (.goto 4, 3) := by decide +kernel
theorem dXR_video_166 : decode cXR_video 166 = .ok (.iconst 0, 1) := by decide +kernel
theorem dXR_video_167 : decode cXR_video 167 = .ok (.aload_n 0, 1) := by decide +kernel
theorem dXR_video_168 : decode cXR_video 168 = .ok (.getfield 58, 3) := by decide +kernel
theorem dXR_video_171 : decode cXR_video 171 = .ok (.ifCond .eq 8, 3) := by decide +kernel
theorem dXR_video_174 : decode cXR_video 174 = .ok (.bipush 6, 2) := by decide +kernel
theorem dXR_video_176 : decode cXR_video 176 = .ok (.goto 4, 3) := by decide +kernel
theorem dXR_video_179 : decode cXR_video 179 = .ok (.iconst 0, 1) := by decide +kernel
theorem dXR_video_180 : decode cXR_video 180 = .ok (.iadd, 1) := by decide +kernel
theorem dXR_video_181 : decode cXR_video 181 = .ok (.goto 4, 3) := by decide +kernel
theorem dXR_video_184 : decode cXR_video 184 = .ok (.iconst (-1), 1) := by decide +kernel
theorem dXR_video_185 : decode cXR_video 185 = .ok (.ireturn, 1) := by decide +kernel
theorem dXR_video_186 : decode cXR_video 186 = .ok (.iconst (-1), 1) := by decide +kernel
theorem dXR_video_187 : decode cXR_video 187 = .ok (.ireturn, 1) := by decide +kernel
theorem dXR_pixel_0 : decode cXR_pixel 0 = .ok (.iload_n 1, 1) := by decide +kernel
theorem dXR_pixel_1 : decode cXR_pixel 1 = .ok (.ifCond .lt 19, 3) := by decide +kernel
theorem dXR_pixel_4 : decode cXR_pixel 4 = .ok (.iload_n 1, 1) := by decide +kernel
theorem dXR_pixel_5 : decode cXR_pixel 5 = .ok (.bipush 15, 2) := by decide +kernel
theorem dXR_pixel_7 : decode cXR_pixel 7 = .ok (.if_icmp .gt 13, 3) := by decide +kernel
theorem dXR_pixel_10 : decode cXR_pixel 10 = .ok (.iload_n 2, 1) := by decide +kernel
theorem dXR_pixel_11 : decode cXR_pixel 11 = .ok (.ifCond .lt 9, 3) := by decide +kernel
theorem dXR_pixel_14 : decode cXR_pixel 14 = .ok (.iload_n 2, 1) := by decide +kernel
theorem dXR_pixel_15 : decode cXR_pixel 15 = .ok (.bipush 7, 2) := by decide +kernel
theorem dXR_pixel_17 : decode cXR_pixel 17 = .ok (.if_icmp .le 7, 3) := by decide +kernel
theorem dXR_pixel_20 : decode cXR_pixel 20 = .ok (.iconst (-1), 1) := by decide +kernel
theorem dXR_pixel_21 : decode cXR_pixel 21 = .ok (.goto 14, 3) := by decide +kernel
theorem dXR_pixel_24 : decode cXR_pixel 24 = .ok (.aload_n 0, 1) := by decide +kernel
theorem dXR_pixel_25 : decode cXR_pixel 25 = .ok (.getfield 38, 3) := by decide +kernel
theorem dXR_pixel_28 : decode cXR_pixel 28 = .ok (.bipush 16, 2) := by decide +kernel
theorem dXR_pixel_30 : decode cXR_pixel 30 = .ok (.iload_n 2, 1) := by decide +kernel
theorem dXR_pixel_31 : decode cXR_pixel 31 = .ok (.imul, 1) := by decide +kernel
theorem dXR_pixel_32 : decode cXR_pixel 32 = .ok (.iload_n 1, 1) := by decide +kernel
theorem dXR_pixel_33 : decode cXR_pixel 33 = .ok (.iadd, 1) := by decide +kernel
theorem dXR_pixel_34 : decode cXR_pixel 34 = .ok (.iaload, 1) := by decide +kernel
theorem dXR_pixel_35 : decode cXR_pixel 35 = .ok (.ireturn, 1) := by decide +kernel
