theorem dXM_init_0 : decode cXM_init 0 = .ok (.aload_n 0, 1) := by decide +kernel
theorem dXM_init_1 : decode cXM_init 1 = .ok (.invokespecial 1, 3) := by decide +kernel
theorem dXM_init_4 : decode cXM_init 4 = .ok (.aload_n 0, 1) := by decide +kernel
theorem dXM_init_5 : decode cXM_init 5 = .ok (.aload_n 1, 1) := by decide +kernel
theorem dXM_init_6 : decode cXM_init 6 = .ok (.putfield 7, 3) := by decide +kernel
theorem dXM_init_9 : decode cXM_init 9 = .ok (.aload_n 0, 1) := by decide +kernel
theorem dXM_init_10 : decode cXM_init 10 = .ok (.bipush 8, 2) := by decide +kernel
theorem dXM_init_12 : decode cXM_init 12 = .ok (.newarray .int, 2) := by decide +kernel
theorem dXM_init_14 : decode cXM_init 14 = .ok (.putfield 13, 3) := by decide +kernel
theorem dXM_init_17 : decode cXM_init 17 = .ok (.return_, 1) := by decide +kernel
theorem dXM_startAgain_0 : decode cXM_startAgain 0 = .ok (.iconst 0, 1) := by decide +kernel
theorem dXM_startAgain_1 : decode cXM_startAgain 1 = .ok (.istore_n 1, 1) := by decide +kernel
theorem dXM_startAgain_2 : decode cXM_startAgain 2 = .ok (.iload_n 1, 1) := by decide +kernel
theorem dXM_startAgain_3 : decode cXM_startAgain 3 = .ok (.aload_n 0, 1) := by decide +kernel
theorem dXM_startAgain_4 : decode cXM_startAgain 4 = .ok (.getfield 13, 3) := by decide +kernel
theorem dXM_startAgain_7 : decode cXM_startAgain 7 = .ok (.arraylength, 1) := by decide +kernel
theorem dXM_startAgain_8 : decode cXM_startAgain 8 = .ok (.if_icmp .ge 16, 3) := by decide +kernel
theorem dXM_startAgain_11 : decode cXM_startAgain 11 = .ok (.aload_n 0, 1) := by decide +kernel
theorem dXM_startAgain_12 : decode cXM_startAgain 12 = .ok (.getfield 13, 3) := by decide +kernel
theorem dXM_startAgain_15 : decode cXM_startAgain 15 = .ok (.iload_n 1, 1) := by decide +kernel
theorem dXM_startAgain_16 : decode cXM_startAgain 16 = .ok (.iconst 0, 1) := by decide +kernel
theorem dXM_startAgain_17 : decode cXM_startAgain 17 = .ok (.iastore, 1) := by decide +kernel
theorem dXM_startAgain_18 : decode cXM_startAgain 18 = .ok (.iinc 1 1, 3) := by decide +kernel
theorem dXM_startAgain_21 : decode cXM_startAgain 21 = .ok (.goto (-19), 3) := by decide +kernel
theorem dXM_startAgain_24 : decode cXM_startAgain 24 = .ok (.aload_n 0, 1) := by decide +kernel
theorem dXM_startAgain_25 : decode cXM_startAgain 25 = .ok (.sipush 1792, 3) := by decide +kernel
theorem dXM_startAgain_28 : decode cXM_startAgain 28 = .ok (.invokevirtual 17, 3) := by decide +kernel
theorem dXM_startAgain_31 : decode cXM_startAgain 31 = .ok (.aload_n 0, 1) := by decide +kernel
theorem dXM_startAgain_32 : decode cXM_startAgain 32 = .ok (.aload_n 0, 1) := by decide +kernel
theorem dXM_startAgain_33 : decode cXM_startAgain 33 = .ok (.getfield 7, 3) := by decide +kernel
theorem dXM_startAgain_36 : decode cXM_startAgain 36 = .ok (.iconst 2, 1) := by decide +kernel
theorem dXM_startAgain_37 : decode cXM_startAgain 37 = .ok (.invokevirtual 21, 3) := by decide +kernel
theorem dXM_startAgain_40 : decode cXM_startAgain 40 = .ok (.putfield 27, 3) := by decide +kernel
theorem dXM_startAgain_43 : decode cXM_startAgain 43 = .ok (.aload_n 0, 1) := by decide +kernel
theorem dXM_startAgain_44 : decode cXM_startAgain 44 = .ok (.aload_n 0, 1) := by decide +kernel
theorem dXM_startAgain_45 : decode cXM_startAgain 45 = .ok (.getfield 7, 3) := by decide +kernel
theorem dXM_startAgain_48 : decode cXM_startAgain 48 = .ok (.bipush 6, 2) := by decide +kernel
theorem dXM_startAgain_50 : decode cXM_startAgain 50 = .ok (.invokevirtual 21, 3) := by decide +kernel
theorem dXM_startAgain_53 : decode cXM_startAgain 53 = .ok (.putfield 31, 3) := by decide +kernel
theorem dXM_startAgain_56 : decode cXM_startAgain 56 = .ok (.aload_n 0, 1) := by decide +kernel
theorem dXM_startAgain_57 : decode cXM_startAgain 57 = .ok (.iconst 0, 1) := by decide +kernel
theorem dXM_startAgain_58 : decode cXM_startAgain 58 = .ok (.putfield 34, 3) := by decide +kernel
theorem dXM_startAgain_61 : decode cXM_startAgain 61 = .ok (.return_, 1) := by decide +kernel
theorem dXM_maskAndFlags_0 : decode cXM_maskAndFlags 0 = .ok (.aload_n 0, 1) := by decide +kernel
theorem dXM_maskAndFlags_1 : decode cXM_maskAndFlags 1 = .ok (.getfield 38, 3) := by decide +kernel
theorem dXM_maskAndFlags_4 : decode cXM_maskAndFlags 4 = .ok (.sipush 256, 3) := by decide +kernel
theorem dXM_maskAndFlags_7 : decode cXM_maskAndFlags 7 = .ok (.imul, 1) := by decide +kernel
theorem dXM_maskAndFlags_8 : decode cXM_maskAndFlags 8 = .ok (.aload_n 0, 1) := by decide +kernel
theorem dXM_maskAndFlags_9 : decode cXM_maskAndFlags 9 = .ok (.getfield 41, 3) := by decide +kernel
theorem dXM_maskAndFlags_12 : decode cXM_maskAndFlags 12 = .ok (.ifCond .eq 8, 3) := by decide +kernel
theorem dXM_maskAndFlags_15 : decode cXM_maskAndFlags 15 = .ok (.bipush 8, 2) := by decide +kernel
theorem dXM_maskAndFlags_17 : decode cXM_maskAndFlags 17 = .ok (.goto 4, 3) := by decide +kernel
theorem dXM_maskAndFlags_20 : decode cXM_maskAndFlags 20 = .ok (.iconst 0, 1) := by decide +kernel
theorem dXM_maskAndFlags_21 : decode cXM_maskAndFlags 21 = .ok (.iadd, 1) := by decide +kernel
theorem dXM_maskAndFlags_22 : decode cXM_maskAndFlags 22 = .ok (.aload_n 0, 1) := by decide +kernel
theorem dXM_maskAndFlags_23 : decode cXM_maskAndFlags 23 = .ok (.getfield 44, 3) := by decide +kernel
theorem dXM_maskAndFlags_26 : decode cXM_maskAndFlags 26 = .ok (.ifCond .eq 7, 3) := by decide +kernel
theorem dXM_maskAndFlags_29 : decode cXM_maskAndFlags 29 = .ok (.iconst 4, 1) := by decide +kernel
theorem dXM_maskAndFlags_30 : decode cXM_maskAndFlags 30 = .ok (.goto 4, 3) := by decide +kernel
theorem dXM_maskAndFlags_33 : decode cXM_maskAndFlags 33 = .ok (.iconst 0, 1) := by decide +kernel
theorem dXM_maskAndFlags_34 : decode cXM_maskAndFlags 34 = .ok (.iadd, 1) := by decide +kernel
theorem dXM_maskAndFlags_35 : decode cXM_maskAndFlags 35 = .ok (.aload_n 0, 1) := by decide +kernel
theorem dXM_maskAndFlags_36 : decode cXM_maskAndFlags 36 = .ok (.getfield 47, 3) := by decide +kernel
theorem dXM_maskAndFlags_39 : decode cXM_maskAndFlags 39 = .ok (.ifCond .eq 7, 3) := by decide +kernel
theorem dXM_maskAndFlags_42 : decode cXM_maskAndFlags 42 = .ok (.iconst 2, 1) := by decide +kernel
theorem dXM_maskAndFlags_43 : decode cXM_maskAndFlags 43 = .ok (.goto 4, 3) := by decide +kernel
theorem dXM_maskAndFlags_46 : decode cXM_maskAndFlags 46 = .ok (.iconst 0, 1) := by decide +kernel
theorem dXM_maskAndFlags_47 : decode cXM_maskAndFlags 47 = .ok (.iadd, 1) := by decide +kernel
theorem dXM_maskAndFlags_48 : decode cXM_maskAndFlags 48 = .ok (.aload_n 0, 1) := by decide +kernel
theorem dXM_maskAndFlags_49 : decode cXM_maskAndFlags 49 = .ok (.getfield 50, 3) := by decide +kernel
theorem dXM_maskAndFlags_52 : decode cXM_maskAndFlags 52 = .ok (.ifCond .eq 7, 3) := by decide +kernel
theorem dXM_maskAndFlags_55 : decode cXM_maskAndFlags 55 = .ok (.iconst 1, 1) := by decide +kernel
theorem dXM_maskAndFlags_56 : decode cXM_maskAndFlags 56 = .ok (.goto 4, 3) := by decide +kernel
theorem dXM_maskAndFlags_59 : decode cXM_maskAndFlags 59 = .ok (.iconst 0, 1) := by decide +kernel
theorem dXM_maskAndFlags_60 : decode cXM_maskAndFlags 60 = .ok (.iadd, 1) := by decide +kernel
theorem dXM_maskAndFlags_61 : decode cXM_maskAndFlags 61 = .ok (.ireturn, 1) := by decide +kernel
theorem dXM_interrupt_0 : decode cXM_interrupt 0 = .ok (.aload_n 0, 1) := by decide +kernel
theorem dXM_interrupt_1 : decode cXM_interrupt 1 = .ok (.bipush 24, 2) := by decide +kernel
theorem dXM_interrupt_3 : decode cXM_interrupt 3 = .ok (.iload_n 1, 1) := by decide +kernel
theorem dXM_interrupt_4 : decode cXM_interrupt 4 = .ok (.iadd, 1) := by decide +kernel
theorem dXM_interrupt_5 : decode cXM_interrupt 5 = .ok (.invokevirtual 53, 3) := by decide +kernel
theorem dXM_interrupt_8 : decode cXM_interrupt 8 = .ok (.aload_n 0, 1) := by decide +kernel
theorem dXM_interrupt_9 : decode cXM_interrupt 9 = .ok (.iload_n 1, 1) := by decide +kernel
theorem dXM_interrupt_10 : decode cXM_interrupt 10 = .ok (.putfield 38, 3) := by decide +kernel
theorem dXM_interrupt_13 : decode cXM_interrupt 13 = .ok (.aload_n 0, 1) := by decide +kernel
theorem dXM_interrupt_14 : decode cXM_interrupt 14 = .ok (.iconst 0, 1) := by decide +kernel
theorem dXM_interrupt_15 : decode cXM_interrupt 15 = .ok (.putfield 34, 3) := by decide +kernel
theorem dXM_interrupt_18 : decode cXM_interrupt 18 = .ok (.bipush 44, 2) := by decide +kernel
theorem dXM_interrupt_20 : decode cXM_interrupt 20 = .ok (.ireturn, 1) := by decide +kernel
theorem dXM_instruct_0 : decode cXM_instruct 0 = .ok (.aload_n 0, 1) := by decide +kernel
theorem dXM_instruct_1 : decode cXM_instruct 1 = .ok (.getfield 31, 3) := by decide +kernel
theorem dXM_instruct_4 : decode cXM_instruct 4 = .ok (.istore_n 1, 1) := by decide +kernel
theorem dXM_instruct_5 : decode cXM_instruct 5 = .ok (.aload_n 0, 1) := by decide +kernel
theorem dXM_instruct_6 : decode cXM_instruct 6 = .ok (.invokevirtual 56, 3) := by decide +kernel
theorem dXM_instruct_9 : decode cXM_instruct 9 = .ok (.istore_n 2, 1) := by decide +kernel
theorem dXM_instruct_10 : decode cXM_instruct 10 = .ok (.iconst 0, 1) := by decide +kernel
theorem dXM_instruct_11 : decode cXM_instruct 11 = .ok (.istore_n 3, 1) := by decide +kernel
theorem dXM_instruct_12 : decode cXM_instruct 12 = .ok (.iload_n 2, 1) := by decide +kernel
theorem dXM_instruct_13 : decode cXM_instruct 13 = .ok (.bipush 12, 2) := by decide +kernel
theorem dXM_instruct_15 : decode cXM_instruct 15 = .ok (.ishr, 1) := by decide +kernel
theorem dXM_instruct_16 : decode cXM_instruct 16 = .ok (.tableswitch 114 3 13 #[60, 69, 114, 78, 87, 114, 114, 114, 96, 114, 105], 60) := by decide +kernel
theorem dXM_instruct_76 : decode cXM_instruct 76 = .ok (.aload_n 0, 1) := by decide +kernel
theorem dXM_instruct_77 : decode cXM_instruct 77 = .ok (.iload_n 2, 1) := by decide +kernel
theorem dXM_instruct_78 : decode cXM_instruct 78 = .ok (.invokevirtual 60, 3) := by decide +kernel
theorem dXM_instruct_81 : decode cXM_instruct 81 = .ok (.istore_n 3, 1) := by decide +kernel
theorem dXM_instruct_82 : decode cXM_instruct 82 = .ok (.goto 48, 3) := by decide +kernel
theorem dXM_instruct_85 : decode cXM_instruct 85 = .ok (.aload_n 0, 1) := by decide +kernel
theorem dXM_instruct_86 : decode cXM_instruct 86 = .ok (.iload_n 2, 1) := by decide +kernel
theorem dXM_instruct_87 : decode cXM_instruct 87 = .ok (.invokevirtual 63, 3) := by decide +kernel
theorem dXM_instruct_90 : decode cXM_instruct 90 = .ok (.istore_n 3, 1) := by decide +kernel
theorem dXM_instruct_91 : decode cXM_instruct 91 = .ok (.goto 39, 3) := by decide +kernel
theorem dXM_instruct_94 : decode cXM_instruct 94 = .ok (.aload_n 0, 1) := by decide +kernel
theorem dXM_instruct_95 : decode cXM_instruct 95 = .ok (.iload_n 2, 1) := by decide +kernel
theorem dXM_instruct_96 : decode cXM_instruct 96 = .ok (.invokevirtual 66, 3) := by decide +kernel
theorem dXM_instruct_99 : decode cXM_instruct 99 = .ok (.istore_n 3, 1) := by decide +kernel
theorem dXM_instruct_100 : decode cXM_instruct 100 = .ok (.goto 30, 3) := by decide +kernel
theorem dXM_instruct_103 : decode cXM_instruct 103 = .ok (.aload_n 0, 1) := by decide +kernel
theorem dXM_instruct_104 : decode cXM_instruct 104 = .ok (.iload_n 2, 1) := by decide +kernel
theorem dXM_instruct_105 : decode cXM_instruct 105 = .ok (.invokevirtual 69, 3) := by decide +kernel
theorem dXM_instruct_108 : decode cXM_instruct 108 = .ok (.istore_n 3, 1) := by decide +kernel
theorem dXM_instruct_109 : decode cXM_instruct 109 = .ok (.goto 21, 3) := by decide +kernel
theorem dXM_instruct_112 : decode cXM_instruct 112 = .ok (.aload_n 0, 1) := by decide +kernel
theorem dXM_instruct_113 : decode cXM_instruct 113 = .ok (.iload_n 2, 1) := by decide +kernel
theorem dXM_instruct_114 : decode cXM_instruct 114 = .ok (.invokevirtual 72, 3) := by decide +kernel
theorem dXM_instruct_117 : decode cXM_instruct 117 = .ok (.istore_n 3, 1) := by decide +kernel
theorem dXM_instruct_118 : decode cXM_instruct 118 = .ok (.goto 12, 3) := by decide +kernel
theorem dXM_instruct_121 : decode cXM_instruct 121 = .ok (.aload_n 0, 1) := by decide +kernel
theorem dXM_instruct_122 : decode cXM_instruct 122 = .ok (.iload_n 2, 1) := by decide +kernel
theorem dXM_instruct_123 : decode cXM_instruct 123 = .ok (.invokevirtual 75, 3) := by decide +kernel
theorem dXM_instruct_126 : decode cXM_instruct 126 = .ok (.istore_n 3, 1) := by decide +kernel
theorem dXM_instruct_127 : decode cXM_instruct 127 = .ok (.goto 3, 3) := by decide +kernel
theorem dXM_instruct_130 : decode cXM_instruct 130 = .ok (.iload_n 3, 1) := by decide +kernel
theorem dXM_instruct_131 : decode cXM_instruct 131 = .ok (.ifCond .ne 16, 3) := by decide +kernel
theorem dXM_instruct_134 : decode cXM_instruct 134 = .ok (.aload_n 0, 1) := by decide +kernel
theorem dXM_instruct_135 : decode cXM_instruct 135 = .ok (.iload_n 1, 1) := by decide +kernel
theorem dXM_instruct_136 : decode cXM_instruct 136 = .ok (.putfield 31, 3) := by decide +kernel
theorem dXM_instruct_139 : decode cXM_instruct 139 = .ok (.aload_n 0, 1) := by decide +kernel
theorem dXM_instruct_140 : decode cXM_instruct 140 = .ok (.iconst 4, 1) := by decide +kernel
theorem dXM_instruct_141 : decode cXM_instruct 141 = .ok (.invokevirtual 53, 3) := by decide +kernel
theorem dXM_instruct_144 : decode cXM_instruct 144 = .ok (.bipush 34, 2) := by decide +kernel
theorem dXM_instruct_146 : decode cXM_instruct 146 = .ok (.istore_n 3, 1) := by decide +kernel
theorem dXM_instruct_147 : decode cXM_instruct 147 = .ok (.iload_n 3, 1) := by decide +kernel
theorem dXM_instruct_148 : decode cXM_instruct 148 = .ok (.ireturn, 1) := by decide +kernel
theorem dXM_setMaskAndFlags_0 : decode cXM_setMaskAndFlags 0 = .ok (.aload_n 0, 1) := by decide +kernel
theorem dXM_setMaskAndFlags_1 : decode cXM_setMaskAndFlags 1 = .ok (.iload_n 1, 1) := by decide +kernel
theorem dXM_setMaskAndFlags_2 : decode cXM_setMaskAndFlags 2 = .ok (.bipush 8, 2) := by decide +kernel
theorem dXM_setMaskAndFlags_4 : decode cXM_setMaskAndFlags 4 = .ok (.ishr, 1) := by decide +kernel
theorem dXM_setMaskAndFlags_5 : decode cXM_setMaskAndFlags 5 = .ok (.bipush 7, 2) := by decide +kernel
theorem dXM_setMaskAndFlags_7 : decode cXM_setMaskAndFlags 7 = .ok (.iand, 1) := by decide +kernel
theorem dXM_setMaskAndFlags_8 : decode cXM_setMaskAndFlags 8 = .ok (.putfield 38, 3) := by decide +kernel
theorem dXM_setMaskAndFlags_11 : decode cXM_setMaskAndFlags 11 = .ok (.aload_n 0, 1) := by decide +kernel
theorem dXM_setMaskAndFlags_12 : decode cXM_setMaskAndFlags 12 = .ok (.iload_n 1, 1) := by decide +kernel
theorem dXM_setMaskAndFlags_13 : decode cXM_setMaskAndFlags 13 = .ok (.bipush 8, 2) := by decide +kernel
theorem dXM_setMaskAndFlags_15 : decode cXM_setMaskAndFlags 15 = .ok (.iand, 1) := by decide +kernel
theorem dXM_setMaskAndFlags_16 : decode cXM_setMaskAndFlags 16 = .ok (.ifCond .eq 7, 3) := by decide +kernel
theorem dXM_setMaskAndFlags_19 : decode cXM_setMaskAndFlags 19 = .ok (.iconst 1, 1) := by decide +kernel
theorem dXM_setMaskAndFlags_20 : decode cXM_setMaskAndFlags 20 = .ok (.goto 4, 3) := by decide +kernel
theorem dXM_setMaskAndFlags_23 : decode cXM_setMaskAndFlags 23 = .ok (.iconst 0, 1) := by decide +kernel
theorem dXM_setMaskAndFlags_24 : decode cXM_setMaskAndFlags 24 = .ok (.putfield 41, 3) := by decide +kernel
theorem dXM_setMaskAndFlags_27 : decode cXM_setMaskAndFlags 27 = .ok (.aload_n 0, 1) := by decide +kernel
theorem dXM_setMaskAndFlags_28 : decode cXM_setMaskAndFlags 28 = .ok (.iload_n 1, 1) := by decide +kernel
theorem dXM_setMaskAndFlags_29 : decode cXM_setMaskAndFlags 29 = .ok (.iconst 4, 1) := by decide +kernel
theorem dXM_setMaskAndFlags_30 : decode cXM_setMaskAndFlags 30 = .ok (.iand, 1) := by decide +kernel
theorem dXM_setMaskAndFlags_31 : decode cXM_setMaskAndFlags 31 = .ok (.ifCond .eq 7, 3) := by decide +kernel
theorem dXM_setMaskAndFlags_34 : decode cXM_setMaskAndFlags 34 = .ok (.iconst 1, 1) := by decide +kernel
theorem dXM_setMaskAndFlags_35 : decode cXM_setMaskAndFlags 35 = .ok (.goto 4, 3) := by decide +kernel
theorem dXM_setMaskAndFlags_38 : decode cXM_setMaskAndFlags 38 = .ok (.iconst 0, 1) := by decide +kernel
theorem dXM_setMaskAndFlags_39 : decode cXM_setMaskAndFlags 39 = .ok (.putfield 44, 3) := by decide +kernel
theorem dXM_setMaskAndFlags_42 : decode cXM_setMaskAndFlags 42 = .ok (.aload_n 0, 1) := by decide +kernel
theorem dXM_setMaskAndFlags_43 : decode cXM_setMaskAndFlags 43 = .ok (.iload_n 1, 1) := by decide +kernel
theorem dXM_setMaskAndFlags_44 : decode cXM_setMaskAndFlags 44 = .ok (.iconst 2, 1) := by decide +kernel
theorem dXM_setMaskAndFlags_45 : decode cXM_setMaskAndFlags 45 = .ok (.iand, 1) := by decide +kernel
theorem dXM_setMaskAndFlags_46 : decode cXM_setMaskAndFlags 46 = .ok (.ifCond .eq 7, 3) := by decide +kernel
theorem dXM_setMaskAndFlags_49 : decode cXM_setMaskAndFlags 49 = .ok (.iconst 1, 1) := by decide +kernel
theorem dXM_setMaskAndFlags_50 : decode cXM_setMaskAndFlags 50 = .ok (.goto 4, 3) := by decide +kernel
theorem dXM_setMaskAndFlags_53 : decode cXM_setMaskAndFlags 53 = .ok (.iconst 0, 1) := by decide +kernel
theorem dXM_setMaskAndFlags_54 : decode cXM_setMaskAndFlags 54 = .ok (.putfield 47, 3) := by decide +kernel
theorem dXM_setMaskAndFlags_57 : decode cXM_setMaskAndFlags 57 = .ok (.aload_n 0, 1) := by decide +kernel
theorem dXM_setMaskAndFlags_58 : decode cXM_setMaskAndFlags 58 = .ok (.iload_n 1, 1) := by decide +kernel
theorem dXM_setMaskAndFlags_59 : decode cXM_setMaskAndFlags 59 = .ok (.iconst 1, 1) := by decide +kernel
theorem dXM_setMaskAndFlags_60 : decode cXM_setMaskAndFlags 60 = .ok (.iand, 1) := by decide +kernel
theorem dXM_setMaskAndFlags_61 : decode cXM_setMaskAndFlags 61 = .ok (.ifCond .eq 7, 3) := by decide +kernel
theorem dXM_setMaskAndFlags_64 : decode cXM_setMaskAndFlags 64 = .ok (.iconst 1, 1) := by decide +kernel
theorem dXM_setMaskAndFlags_65 : decode cXM_setMaskAndFlags 65 = .ok (.goto 4, 3) := by decide +kernel
theorem dXM_setMaskAndFlags_68 : decode cXM_setMaskAndFlags 68 = .ok (.iconst 0, 1) := by decide +kernel
theorem dXM_setMaskAndFlags_69 : decode cXM_setMaskAndFlags 69 = .ok (.putfield 50, 3) := by decide +kernel
theorem dXM_setMaskAndFlags_72 : decode cXM_setMaskAndFlags 72 = .ok (.return_, 1) := by decide +kernel
theorem dXM_raise_0 : decode cXM_raise 0 = .ok (.aload_n 0, 1) := by decide +kernel
theorem dXM_raise_1 : decode cXM_raise 1 = .ok (.getfield 7, 3) := by decide +kernel
theorem dXM_raise_4 : decode cXM_raise 4 = .ok (.aload_n 0, 1) := by decide +kernel
theorem dXM_raise_5 : decode cXM_raise 5 = .ok (.getfield 27, 3) := by decide +kernel
theorem dXM_raise_8 : decode cXM_raise 8 = .ok (.bipush 6, 2) := by decide +kernel
theorem dXM_raise_10 : decode cXM_raise 10 = .ok (.isub, 1) := by decide +kernel
theorem dXM_raise_11 : decode cXM_raise 11 = .ok (.ldc 78, 2) := by decide +kernel
theorem dXM_raise_13 : decode cXM_raise 13 = .ok (.iand, 1) := by decide +kernel
theorem dXM_raise_14 : decode cXM_raise 14 = .ok (.aload_n 0, 1) := by decide +kernel
theorem dXM_raise_15 : decode cXM_raise 15 = .ok (.invokevirtual 79, 3) := by decide +kernel
theorem dXM_raise_18 : decode cXM_raise 18 = .ok (.invokevirtual 82, 3) := by decide +kernel
theorem dXM_raise_21 : decode cXM_raise 21 = .ok (.aload_n 0, 1) := by decide +kernel
theorem dXM_raise_22 : decode cXM_raise 22 = .ok (.getfield 7, 3) := by decide +kernel
theorem dXM_raise_25 : decode cXM_raise 25 = .ok (.aload_n 0, 1) := by decide +kernel
theorem dXM_raise_26 : decode cXM_raise 26 = .ok (.getfield 27, 3) := by decide +kernel
theorem dXM_raise_29 : decode cXM_raise 29 = .ok (.iconst 4, 1) := by decide +kernel
theorem dXM_raise_30 : decode cXM_raise 30 = .ok (.isub, 1) := by decide +kernel
theorem dXM_raise_31 : decode cXM_raise 31 = .ok (.ldc 78, 2) := by decide +kernel
theorem dXM_raise_33 : decode cXM_raise 33 = .ok (.iand, 1) := by decide +kernel
theorem dXM_raise_34 : decode cXM_raise 34 = .ok (.iconst 0, 1) := by decide +kernel
theorem dXM_raise_35 : decode cXM_raise 35 = .ok (.invokevirtual 82, 3) := by decide +kernel
theorem dXM_raise_38 : decode cXM_raise 38 = .ok (.aload_n 0, 1) := by decide +kernel
theorem dXM_raise_39 : decode cXM_raise 39 = .ok (.getfield 7, 3) := by decide +kernel
theorem dXM_raise_42 : decode cXM_raise 42 = .ok (.aload_n 0, 1) := by decide +kernel
theorem dXM_raise_43 : decode cXM_raise 43 = .ok (.getfield 27, 3) := by decide +kernel
theorem dXM_raise_46 : decode cXM_raise 46 = .ok (.iconst 2, 1) := by decide +kernel
theorem dXM_raise_47 : decode cXM_raise 47 = .ok (.isub, 1) := by decide +kernel
theorem dXM_raise_48 : decode cXM_raise 48 = .ok (.ldc 78, 2) := by decide +kernel
theorem dXM_raise_50 : decode cXM_raise 50 = .ok (.iand, 1) := by decide +kernel
theorem dXM_raise_51 : decode cXM_raise 51 = .ok (.aload_n 0, 1) := by decide +kernel
theorem dXM_raise_52 : decode cXM_raise 52 = .ok (.getfield 31, 3) := by decide +kernel
theorem dXM_raise_55 : decode cXM_raise 55 = .ok (.invokevirtual 82, 3) := by decide +kernel
theorem dXM_raise_58 : decode cXM_raise 58 = .ok (.aload_n 0, 1) := by decide +kernel
theorem dXM_raise_59 : decode cXM_raise 59 = .ok (.aload_n 0, 1) := by decide +kernel
theorem dXM_raise_60 : decode cXM_raise 60 = .ok (.getfield 27, 3) := by decide +kernel
theorem dXM_raise_63 : decode cXM_raise 63 = .ok (.bipush 6, 2) := by decide +kernel
theorem dXM_raise_65 : decode cXM_raise 65 = .ok (.isub, 1) := by decide +kernel
theorem dXM_raise_66 : decode cXM_raise 66 = .ok (.ldc 78, 2) := by decide +kernel
theorem dXM_raise_68 : decode cXM_raise 68 = .ok (.iand, 1) := by decide +kernel
theorem dXM_raise_69 : decode cXM_raise 69 = .ok (.putfield 27, 3) := by decide +kernel
theorem dXM_raise_72 : decode cXM_raise 72 = .ok (.aload_n 0, 1) := by decide +kernel
theorem dXM_raise_73 : decode cXM_raise 73 = .ok (.aload_n 0, 1) := by decide +kernel
theorem dXM_raise_74 : decode cXM_raise 74 = .ok (.getfield 7, 3) := by decide +kernel
theorem dXM_raise_77 : decode cXM_raise 77 = .ok (.iconst 4, 1) := by decide +kernel
theorem dXM_raise_78 : decode cXM_raise 78 = .ok (.iload_n 1, 1) := by decide +kernel
theorem dXM_raise_79 : decode cXM_raise 79 = .ok (.imul, 1) := by decide +kernel
theorem dXM_raise_80 : decode cXM_raise 80 = .ok (.iconst 2, 1) := by decide +kernel
theorem dXM_raise_81 : decode cXM_raise 81 = .ok (.iadd, 1) := by decide +kernel
theorem dXM_raise_82 : decode cXM_raise 82 = .ok (.invokevirtual 21, 3) := by decide +kernel
theorem dXM_raise_85 : decode cXM_raise 85 = .ok (.putfield 31, 3) := by decide +kernel
theorem dXM_raise_88 : decode cXM_raise 88 = .ok (.return_, 1) := by decide +kernel
theorem dXM_nextWord_0 : decode cXM_nextWord 0 = .ok (.aload_n 0, 1) := by decide +kernel
theorem dXM_nextWord_1 : decode cXM_nextWord 1 = .ok (.getfield 7, 3) := by decide +kernel
theorem dXM_nextWord_4 : decode cXM_nextWord 4 = .ok (.aload_n 0, 1) := by decide +kernel
theorem dXM_nextWord_5 : decode cXM_nextWord 5 = .ok (.getfield 31, 3) := by decide +kernel
theorem dXM_nextWord_8 : decode cXM_nextWord 8 = .ok (.invokevirtual 21, 3) := by decide +kernel
theorem dXM_nextWord_11 : decode cXM_nextWord 11 = .ok (.istore_n 1, 1) := by decide +kernel
theorem dXM_nextWord_12 : decode cXM_nextWord 12 = .ok (.aload_n 0, 1) := by decide +kernel
theorem dXM_nextWord_13 : decode cXM_nextWord 13 = .ok (.aload_n 0, 1) := by decide +kernel
theorem dXM_nextWord_14 : decode cXM_nextWord 14 = .ok (.getfield 31, 3) := by decide +kernel
theorem dXM_nextWord_17 : decode cXM_nextWord 17 = .ok (.iconst 2, 1) := by decide +kernel
theorem dXM_nextWord_18 : decode cXM_nextWord 18 = .ok (.iadd, 1) := by decide +kernel
theorem dXM_nextWord_19 : decode cXM_nextWord 19 = .ok (.ldc 78, 2) := by decide +kernel
theorem dXM_nextWord_21 : decode cXM_nextWord 21 = .ok (.iand, 1) := by decide +kernel
theorem dXM_nextWord_22 : decode cXM_nextWord 22 = .ok (.putfield 31, 3) := by decide +kernel
theorem dXM_nextWord_25 : decode cXM_nextWord 25 = .ok (.iload_n 1, 1) := by decide +kernel
theorem dXM_nextWord_26 : decode cXM_nextWord 26 = .ok (.ireturn, 1) := by decide +kernel
theorem dXM_setMoveFlags_0 : decode cXM_setMoveFlags 0 = .ok (.aload_n 0, 1) := by decide +kernel
theorem dXM_setMoveFlags_1 : decode cXM_setMoveFlags 1 = .ok (.iload_n 1, 1) := by decide +kernel
theorem dXM_setMoveFlags_2 : decode cXM_setMoveFlags 2 = .ok (.ifCond .ge 7, 3) := by decide +kernel
theorem dXM_setMoveFlags_5 : decode cXM_setMoveFlags 5 = .ok (.iconst 1, 1) := by decide +kernel
theorem dXM_setMoveFlags_6 : decode cXM_setMoveFlags 6 = .ok (.goto 4, 3) := by decide +kernel
theorem dXM_setMoveFlags_9 : decode cXM_setMoveFlags 9 = .ok (.iconst 0, 1) := by decide +kernel
theorem dXM_setMoveFlags_10 : decode cXM_setMoveFlags 10 = .ok (.putfield 41, 3) := by decide +kernel
theorem dXM_setMoveFlags_13 : decode cXM_setMoveFlags 13 = .ok (.aload_n 0, 1) := by decide +kernel
theorem dXM_setMoveFlags_14 : decode cXM_setMoveFlags 14 = .ok (.iload_n 1, 1) := by decide +kernel
theorem dXM_setMoveFlags_15 : decode cXM_setMoveFlags 15 = .ok (.ifCond .ne 7, 3) := by decide +kernel
theorem dXM_setMoveFlags_18 : decode cXM_setMoveFlags 18 = .ok (.iconst 1, 1) := by decide +kernel
theorem dXM_setMoveFlags_19 : decode cXM_setMoveFlags 19 = .ok (.goto 4, 3) := by decide +kernel
theorem dXM_setMoveFlags_22 : decode cXM_setMoveFlags 22 = .ok (.iconst 0, 1) := by decide +kernel
theorem dXM_setMoveFlags_23 : decode cXM_setMoveFlags 23 = .ok (.putfield 44, 3) := by decide +kernel
theorem dXM_setMoveFlags_26 : decode cXM_setMoveFlags 26 = .ok (.aload_n 0, 1) := by decide +kernel
theorem dXM_setMoveFlags_27 : decode cXM_setMoveFlags 27 = .ok (.iconst 0, 1) := by decide +kernel
theorem dXM_setMoveFlags_28 : decode cXM_setMoveFlags 28 = .ok (.putfield 47, 3) := by decide +kernel
theorem dXM_setMoveFlags_31 : decode cXM_setMoveFlags 31 = .ok (.aload_n 0, 1) := by decide +kernel
theorem dXM_setMoveFlags_32 : decode cXM_setMoveFlags 32 = .ok (.iconst 0, 1) := by decide +kernel
theorem dXM_setMoveFlags_33 : decode cXM_setMoveFlags 33 = .ok (.putfield 50, 3) := by decide +kernel
theorem dXM_setMoveFlags_36 : decode cXM_setMoveFlags 36 = .ok (.return_, 1) := by decide +kernel
theorem dXM_setReckonedFlags_0 : decode cXM_setReckonedFlags 0 = .ok (.aload_n 0, 1) := by decide +kernel
theorem dXM_setReckonedFlags_1 : decode cXM_setReckonedFlags 1 = .ok (.iload_n 1, 1) := by decide +kernel
theorem dXM_setReckonedFlags_2 : decode cXM_setReckonedFlags 2 = .ok (.i2s, 1) := by decide +kernel
theorem dXM_setReckonedFlags_3 : decode cXM_setReckonedFlags 3 = .ok (.invokevirtual 86, 3) := by decide +kernel
theorem dXM_setReckonedFlags_6 : decode cXM_setReckonedFlags 6 = .ok (.aload_n 0, 1) := by decide +kernel
theorem dXM_setReckonedFlags_7 : decode cXM_setReckonedFlags 7 = .ok (.iload_n 1, 1) := by decide +kernel
theorem dXM_setReckonedFlags_8 : decode cXM_setReckonedFlags 8 = .ok (.iload_n 1, 1) := by decide +kernel
theorem dXM_setReckonedFlags_9 : decode cXM_setReckonedFlags 9 = .ok (.i2s, 1) := by decide +kernel
theorem dXM_setReckonedFlags_10 : decode cXM_setReckonedFlags 10 = .ok (.if_icmp .eq 7, 3) := by decide +kernel
theorem dXM_setReckonedFlags_13 : decode cXM_setReckonedFlags 13 = .ok (.iconst 1, 1) := by decide +kernel
theorem dXM_setReckonedFlags_14 : decode cXM_setReckonedFlags 14 = .ok (.goto 4, 3) := by decide +kernel
theorem dXM_setReckonedFlags_17 : decode cXM_setReckonedFlags 17 = .ok (.iconst 0, 1) := by decide +kernel
theorem dXM_setReckonedFlags_18 : decode cXM_setReckonedFlags 18 = .ok (.putfield 47, 3) := by decide +kernel
theorem dXM_setReckonedFlags_21 : decode cXM_setReckonedFlags 21 = .ok (.aload_n 0, 1) := by decide +kernel
theorem dXM_setReckonedFlags_22 : decode cXM_setReckonedFlags 22 = .ok (.iload_n 2, 1) := by decide +kernel
theorem dXM_setReckonedFlags_23 : decode cXM_setReckonedFlags 23 = .ok (.putfield 50, 3) := by decide +kernel
theorem dXM_setReckonedFlags_26 : decode cXM_setReckonedFlags 26 = .ok (.return_, 1) := by decide +kernel
theorem dXM_setLowWord_0 : decode cXM_setLowWord 0 = .ok (.aload_n 0, 1) := by decide +kernel
theorem dXM_setLowWord_1 : decode cXM_setLowWord 1 = .ok (.getfield 13, 3) := by decide +kernel
theorem dXM_setLowWord_4 : decode cXM_setLowWord 4 = .ok (.iload_n 1, 1) := by decide +kernel
theorem dXM_setLowWord_5 : decode cXM_setLowWord 5 = .ok (.aload_n 0, 1) := by decide +kernel
theorem dXM_setLowWord_6 : decode cXM_setLowWord 6 = .ok (.getfield 13, 3) := by decide +kernel
theorem dXM_setLowWord_9 : decode cXM_setLowWord 9 = .ok (.iload_n 1, 1) := by decide +kernel
theorem dXM_setLowWord_10 : decode cXM_setLowWord 10 = .ok (.iaload, 1) := by decide +kernel
theorem dXM_setLowWord_11 : decode cXM_setLowWord 11 = .ok (.ldc 89, 2) := by decide +kernel
theorem dXM_setLowWord_13 : decode cXM_setLowWord 13 = .ok (.iand, 1) := by decide +kernel
theorem dXM_setLowWord_14 : decode cXM_setLowWord 14 = .ok (.iload_n 2, 1) := by decide +kernel
theorem dXM_setLowWord_15 : decode cXM_setLowWord 15 = .ok (.ldc 78, 2) := by decide +kernel
theorem dXM_setLowWord_17 : decode cXM_setLowWord 17 = .ok (.iand, 1) := by decide +kernel
theorem dXM_setLowWord_18 : decode cXM_setLowWord 18 = .ok (.ior, 1) := by decide +kernel
theorem dXM_setLowWord_19 : decode cXM_setLowWord 19 = .ok (.iastore, 1) := by decide +kernel
theorem dXM_setLowWord_20 : decode cXM_setLowWord 20 = .ok (.return_, 1) := by decide +kernel
theorem dXM_moveQuick_0 : decode cXM_moveQuick 0 = .ok (.iload_n 1, 1) := by decide +kernel
theorem dXM_moveQuick_1 : decode cXM_moveQuick 1 = .ok (.sipush 256, 3) := by decide +kernel
theorem dXM_moveQuick_4 : decode cXM_moveQuick 4 = .ok (.iand, 1) := by decide +kernel
theorem dXM_moveQuick_5 : decode cXM_moveQuick 5 = .ok (.ifCond .eq 5, 3) := by decide +kernel
theorem dXM_moveQuick_8 : decode cXM_moveQuick 8 = .ok (.iconst 0, 1) := by decide +kernel
theorem dXM_moveQuick_9 : decode cXM_moveQuick 9 = .ok (.ireturn, 1) := by decide +kernel
theorem dXM_moveQuick_10 : decode cXM_moveQuick 10 = .ok (.iload_n 1, 1) := by decide +kernel
theorem dXM_moveQuick_11 : decode cXM_moveQuick 11 = .ok (.i2b, 1) := by decide +kernel
theorem dXM_moveQuick_12 : decode cXM_moveQuick 12 = .ok (.istore_n 2, 1) := by decide +kernel
theorem dXM_moveQuick_13 : decode cXM_moveQuick 13 = .ok (.aload_n 0, 1) := by decide +kernel
theorem dXM_moveQuick_14 : decode cXM_moveQuick 14 = .ok (.getfield 13, 3) := by decide +kernel
theorem dXM_moveQuick_17 : decode cXM_moveQuick 17 = .ok (.iload_n 1, 1) := by decide +kernel
theorem dXM_moveQuick_18 : decode cXM_moveQuick 18 = .ok (.bipush 9, 2) := by decide +kernel
theorem dXM_moveQuick_20 : decode cXM_moveQuick 20 = .ok (.ishr, 1) := by decide +kernel
theorem dXM_moveQuick_21 : decode cXM_moveQuick 21 = .ok (.bipush 7, 2) := by decide +kernel
theorem dXM_moveQuick_23 : decode cXM_moveQuick 23 = .ok (.iand, 1) := by decide +kernel
theorem dXM_moveQuick_24 : decode cXM_moveQuick 24 = .ok (.iload_n 2, 1) := by decide +kernel
theorem dXM_moveQuick_25 : decode cXM_moveQuick 25 = .ok (.iastore, 1) := by decide +kernel
theorem dXM_moveQuick_26 : decode cXM_moveQuick 26 = .ok (.aload_n 0, 1) := by decide +kernel
theorem dXM_moveQuick_27 : decode cXM_moveQuick 27 = .ok (.iload_n 2, 1) := by decide +kernel
theorem dXM_moveQuick_28 : decode cXM_moveQuick 28 = .ok (.invokevirtual 86, 3) := by decide +kernel
theorem dXM_moveQuick_31 : decode cXM_moveQuick 31 = .ok (.iconst 4, 1) := by decide +kernel
theorem dXM_moveQuick_32 : decode cXM_moveQuick 32 = .ok (.ireturn, 1) := by decide +kernel
theorem dXM_moveWord_0 : decode cXM_moveWord 0 = .ok (.iload_n 1, 1) := by decide +kernel
theorem dXM_moveWord_1 : decode cXM_moveWord 1 = .ok (.bipush 9, 2) := by decide +kernel
theorem dXM_moveWord_3 : decode cXM_moveWord 3 = .ok (.ishr, 1) := by decide +kernel
theorem dXM_moveWord_4 : decode cXM_moveWord 4 = .ok (.bipush 7, 2) := by decide +kernel
theorem dXM_moveWord_6 : decode cXM_moveWord 6 = .ok (.iand, 1) := by decide +kernel
theorem dXM_moveWord_7 : decode cXM_moveWord 7 = .ok (.istore_n 2, 1) := by decide +kernel
theorem dXM_moveWord_8 : decode cXM_moveWord 8 = .ok (.iload_n 1, 1) := by decide +kernel
theorem dXM_moveWord_9 : decode cXM_moveWord 9 = .ok (.sipush 504, 3) := by decide +kernel
theorem dXM_moveWord_12 : decode cXM_moveWord 12 = .ok (.iand, 1) := by decide +kernel
theorem dXM_moveWord_13 : decode cXM_moveWord 13 = .ok (.ifCond .ne 19, 3) := by decide +kernel
theorem dXM_moveWord_16 : decode cXM_moveWord 16 = .ok (.aload_n 0, 1) := by decide +kernel
theorem dXM_moveWord_17 : decode cXM_moveWord 17 = .ok (.iload_n 2, 1) := by decide +kernel
theorem dXM_moveWord_18 : decode cXM_moveWord 18 = .ok (.aload_n 0, 1) := by decide +kernel
theorem dXM_moveWord_19 : decode cXM_moveWord 19 = .ok (.getfield 13, 3) := by decide +kernel
theorem dXM_moveWord_22 : decode cXM_moveWord 22 = .ok (.iload_n 1, 1) := by decide +kernel
theorem dXM_moveWord_23 : decode cXM_moveWord 23 = .ok (.bipush 7, 2) := by decide +kernel
theorem dXM_moveWord_25 : decode cXM_moveWord 25 = .ok (.iand, 1) := by decide +kernel
theorem dXM_moveWord_26 : decode cXM_moveWord 26 = .ok (.iaload, 1) := by decide +kernel
theorem dXM_moveWord_27 : decode cXM_moveWord 27 = .ok (.invokevirtual 90, 3) := by decide +kernel
theorem dXM_moveWord_30 : decode cXM_moveWord 30 = .ok (.iconst 4, 1) := by decide +kernel
theorem dXM_moveWord_31 : decode cXM_moveWord 31 = .ok (.ireturn, 1) := by decide +kernel
theorem dXM_moveWord_32 : decode cXM_moveWord 32 = .ok (.iload_n 1, 1) := by decide +kernel
theorem dXM_moveWord_33 : decode cXM_moveWord 33 = .ok (.sipush 511, 3) := by decide +kernel
theorem dXM_moveWord_36 : decode cXM_moveWord 36 = .ok (.iand, 1) := by decide +kernel
theorem dXM_moveWord_37 : decode cXM_moveWord 37 = .ok (.bipush 56, 2) := by decide +kernel
theorem dXM_moveWord_39 : decode cXM_moveWord 39 = .ok (.if_icmp .ne 22, 3) := by decide +kernel
theorem dXM_moveWord_42 : decode cXM_moveWord 42 = .ok (.aload_n 0, 1) := by decide +kernel
theorem dXM_moveWord_43 : decode cXM_moveWord 43 = .ok (.iload_n 2, 1) := by decide +kernel
theorem dXM_moveWord_44 : decode cXM_moveWord 44 = .ok (.aload_n 0, 1) := by decide +kernel
theorem dXM_moveWord_45 : decode cXM_moveWord 45 = .ok (.getfield 7, 3) := by decide +kernel
theorem dXM_moveWord_48 : decode cXM_moveWord 48 = .ok (.aload_n 0, 1) := by decide +kernel
theorem dXM_moveWord_49 : decode cXM_moveWord 49 = .ok (.invokevirtual 56, 3) := by decide +kernel
theorem dXM_moveWord_52 : decode cXM_moveWord 52 = .ok (.invokevirtual 93, 3) := by decide +kernel
theorem dXM_moveWord_55 : decode cXM_moveWord 55 = .ok (.invokevirtual 90, 3) := by decide +kernel
theorem dXM_moveWord_58 : decode cXM_moveWord 58 = .ok (.bipush 12, 2) := by decide +kernel
theorem dXM_moveWord_60 : decode cXM_moveWord 60 = .ok (.ireturn, 1) := by decide +kernel
theorem dXM_moveWord_61 : decode cXM_moveWord 61 = .ok (.iload_n 1, 1) := by decide +kernel
theorem dXM_moveWord_62 : decode cXM_moveWord 62 = .ok (.sipush 12796, 3) := by decide +kernel
theorem dXM_moveWord_65 : decode cXM_moveWord 65 = .ok (.if_icmp .ne 7, 3) := by decide +kernel
theorem dXM_moveWord_68 : decode cXM_moveWord 68 = .ok (.iconst 1, 1) := by decide +kernel
theorem dXM_moveWord_69 : decode cXM_moveWord 69 = .ok (.goto 4, 3) := by decide +kernel
theorem dXM_moveWord_72 : decode cXM_moveWord 72 = .ok (.iconst 0, 1) := by decide +kernel
theorem dXM_moveWord_73 : decode cXM_moveWord 73 = .ok (.istore_n 3, 1) := by decide +kernel
theorem dXM_moveWord_74 : decode cXM_moveWord 74 = .ok (.iload_n 3, 1) := by decide +kernel
theorem dXM_moveWord_75 : decode cXM_moveWord 75 = .ok (.ifCond .ne 15, 3) := by decide +kernel
theorem dXM_moveWord_78 : decode cXM_moveWord 78 = .ok (.iload_n 1, 1) := by decide +kernel
theorem dXM_moveWord_79 : decode cXM_moveWord 79 = .ok (.ldc 96, 2) := by decide +kernel
theorem dXM_moveWord_81 : decode cXM_moveWord 81 = .ok (.iand, 1) := by decide +kernel
theorem dXM_moveWord_82 : decode cXM_moveWord 82 = .ok (.sipush 12736, 3) := by decide +kernel
theorem dXM_moveWord_85 : decode cXM_moveWord 85 = .ok (.if_icmp .eq 5, 3) := by decide +kernel
theorem dXM_moveWord_88 : decode cXM_moveWord 88 = .ok (.iconst 0, 1) := by decide +kernel
theorem dXM_moveWord_89 : decode cXM_moveWord 89 = .ok (.ireturn, 1) := by decide +kernel
theorem dXM_moveWord_90 : decode cXM_moveWord 90 = .ok (.iload_n 3, 1) := by decide +kernel
theorem dXM_moveWord_91 : decode cXM_moveWord 91 = .ok (.ifCond .eq 10, 3) := by decide +kernel
theorem dXM_moveWord_94 : decode cXM_moveWord 94 = .ok (.aload_n 0, 1) := by decide +kernel
theorem dXM_moveWord_95 : decode cXM_moveWord 95 = .ok (.invokevirtual 56, 3) := by decide +kernel
theorem dXM_moveWord_98 : decode cXM_moveWord 98 = .ok (.goto 15, 3) := by decide +kernel
theorem dXM_moveWord_101 : decode cXM_moveWord 101 = .ok (.aload_n 0, 1) := by decide +kernel
theorem dXM_moveWord_102 : decode cXM_moveWord 102 = .ok (.getfield 13, 3) := by decide +kernel
theorem dXM_moveWord_105 : decode cXM_moveWord 105 = .ok (.iload_n 1, 1) := by decide +kernel
theorem dXM_moveWord_106 : decode cXM_moveWord 106 = .ok (.bipush 7, 2) := by decide +kernel
theorem dXM_moveWord_108 : decode cXM_moveWord 108 = .ok (.iand, 1) := by decide +kernel
theorem dXM_moveWord_109 : decode cXM_moveWord 109 = .ok (.iaload, 1) := by decide +kernel
theorem dXM_moveWord_110 : decode cXM_moveWord 110 = .ok (.ldc 78, 2) := by decide +kernel
theorem dXM_moveWord_112 : decode cXM_moveWord 112 = .ok (.iand, 1) := by decide +kernel
theorem dXM_moveWord_113 : decode cXM_moveWord 113 = .ok (.istore 4, 2) := by decide +kernel
theorem dXM_moveWord_115 : decode cXM_moveWord 115 = .ok (.aload_n 0, 1) := by decide +kernel
theorem dXM_moveWord_116 : decode cXM_moveWord 116 = .ok (.getfield 7, 3) := by decide +kernel
theorem dXM_moveWord_119 : decode cXM_moveWord 119 = .ok (.aload_n 0, 1) := by decide +kernel
theorem dXM_moveWord_120 : decode cXM_moveWord 120 = .ok (.invokevirtual 56, 3) := by decide +kernel
theorem dXM_moveWord_123 : decode cXM_moveWord 123 = .ok (.iload 4, 2) := by decide +kernel
theorem dXM_moveWord_125 : decode cXM_moveWord 125 = .ok (.invokevirtual 82, 3) := by decide +kernel
theorem dXM_moveWord_128 : decode cXM_moveWord 128 = .ok (.aload_n 0, 1) := by decide +kernel
theorem dXM_moveWord_129 : decode cXM_moveWord 129 = .ok (.iload 4, 2) := by decide +kernel
theorem dXM_moveWord_131 : decode cXM_moveWord 131 = .ok (.i2s, 1) := by decide +kernel
theorem dXM_moveWord_132 : decode cXM_moveWord 132 = .ok (.invokevirtual 86, 3) := by decide +kernel
theorem dXM_moveWord_135 : decode cXM_moveWord 135 = .ok (.iload_n 3, 1) := by decide +kernel
theorem dXM_moveWord_136 : decode cXM_moveWord 136 = .ok (.ifCond .eq 8, 3) := by decide +kernel
theorem dXM_moveWord_139 : decode cXM_moveWord 139 = .ok (.bipush 16, 2) := by decide +kernel
theorem dXM_moveWord_141 : decode cXM_moveWord 141 = .ok (.goto 5, 3) := by decide +kernel
theorem dXM_moveWord_144 : decode cXM_moveWord 144 = .ok (.bipush 12, 2) := by decide +kernel
theorem dXM_moveWord_146 : decode cXM_moveWord 146 = .ok (.ireturn, 1) := by decide +kernel
theorem dXM_load_0 : decode cXM_load 0 = .ok (.aload_n 0, 1) := by decide +kernel
theorem dXM_load_1 : decode cXM_load 1 = .ok (.iload_n 1, 1) := by decide +kernel
theorem dXM_load_2 : decode cXM_load 2 = .ok (.iload_n 2, 1) := by decide +kernel
theorem dXM_load_3 : decode cXM_load 3 = .ok (.invokevirtual 97, 3) := by decide +kernel
theorem dXM_load_6 : decode cXM_load 6 = .ok (.aload_n 0, 1) := by decide +kernel
theorem dXM_load_7 : decode cXM_load 7 = .ok (.iload_n 2, 1) := by decide +kernel
theorem dXM_load_8 : decode cXM_load 8 = .ok (.i2s, 1) := by decide +kernel
theorem dXM_load_9 : decode cXM_load 9 = .ok (.invokevirtual 86, 3) := by decide +kernel
theorem dXM_load_12 : decode cXM_load 12 = .ok (.return_, 1) := by decide +kernel
theorem dXM_add_0 : decode cXM_add 0 = .ok (.iload_n 1, 1) := by decide +kernel
theorem dXM_add_1 : decode cXM_add 1 = .ok (.sipush 504, 3) := by decide +kernel
theorem dXM_add_4 : decode cXM_add 4 = .ok (.iand, 1) := by decide +kernel
theorem dXM_add_5 : decode cXM_add 5 = .ok (.bipush 64, 2) := by decide +kernel
theorem dXM_add_7 : decode cXM_add 7 = .ok (.if_icmp .eq 5, 3) := by decide +kernel
theorem dXM_add_10 : decode cXM_add 10 = .ok (.iconst 0, 1) := by decide +kernel
theorem dXM_add_11 : decode cXM_add 11 = .ok (.ireturn, 1) := by decide +kernel
theorem dXM_add_12 : decode cXM_add 12 = .ok (.iload_n 1, 1) := by decide +kernel
theorem dXM_add_13 : decode cXM_add 13 = .ok (.bipush 9, 2) := by decide +kernel
theorem dXM_add_15 : decode cXM_add 15 = .ok (.ishr, 1) := by decide +kernel
theorem dXM_add_16 : decode cXM_add 16 = .ok (.bipush 7, 2) := by decide +kernel
theorem dXM_add_18 : decode cXM_add 18 = .ok (.iand, 1) := by decide +kernel
theorem dXM_add_19 : decode cXM_add 19 = .ok (.istore_n 2, 1) := by decide +kernel
theorem dXM_add_20 : decode cXM_add 20 = .ok (.aload_n 0, 1) := by decide +kernel
theorem dXM_add_21 : decode cXM_add 21 = .ok (.getfield 13, 3) := by decide +kernel
theorem dXM_add_24 : decode cXM_add 24 = .ok (.iload_n 2, 1) := by decide +kernel
theorem dXM_add_25 : decode cXM_add 25 = .ok (.iaload, 1) := by decide +kernel
theorem dXM_add_26 : decode cXM_add 26 = .ok (.istore_n 3, 1) := by decide +kernel
theorem dXM_add_27 : decode cXM_add 27 = .ok (.aload_n 0, 1) := by decide +kernel
theorem dXM_add_28 : decode cXM_add 28 = .ok (.getfield 13, 3) := by decide +kernel
theorem dXM_add_31 : decode cXM_add 31 = .ok (.iload_n 1, 1) := by decide +kernel
theorem dXM_add_32 : decode cXM_add 32 = .ok (.bipush 7, 2) := by decide +kernel
theorem dXM_add_34 : decode cXM_add 34 = .ok (.iand, 1) := by decide +kernel
theorem dXM_add_35 : decode cXM_add 35 = .ok (.iaload, 1) := by decide +kernel
theorem dXM_add_36 : decode cXM_add 36 = .ok (.istore 4, 2) := by decide +kernel
theorem dXM_add_38 : decode cXM_add 38 = .ok (.iload_n 3, 1) := by decide +kernel
theorem dXM_add_39 : decode cXM_add 39 = .ok (.i2s, 1) := by decide +kernel
theorem dXM_add_40 : decode cXM_add 40 = .ok (.iload 4, 2) := by decide +kernel
theorem dXM_add_42 : decode cXM_add 42 = .ok (.i2s, 1) := by decide +kernel
theorem dXM_add_43 : decode cXM_add 43 = .ok (.iadd, 1) := by decide +kernel
theorem dXM_add_44 : decode cXM_add 44 = .ok (.istore 5, 2) := by decide +kernel
theorem dXM_add_46 : decode cXM_add 46 = .ok (.aload_n 0, 1) := by decide +kernel
theorem dXM_add_47 : decode cXM_add 47 = .ok (.iload 5, 2) := by decide +kernel
theorem dXM_add_49 : decode cXM_add 49 = .ok (.iload_n 3, 1) := by decide +kernel
theorem dXM_add_50 : decode cXM_add 50 = .ok (.ldc 78, 2) := by decide +kernel
theorem dXM_add_52 : decode cXM_add 52 = .ok (.iand, 1) := by decide +kernel
theorem dXM_add_53 : decode cXM_add 53 = .ok (.iload 4, 2) := by decide +kernel
theorem dXM_add_55 : decode cXM_add 55 = .ok (.ldc 78, 2) := by decide +kernel
theorem dXM_add_57 : decode cXM_add 57 = .ok (.iand, 1) := by decide +kernel
theorem dXM_add_58 : decode cXM_add 58 = .ok (.iadd, 1) := by decide +kernel
theorem dXM_add_59 : decode cXM_add 59 = .ok (.ldc 78, 2) := by decide +kernel
theorem dXM_add_61 : decode cXM_add 61 = .ok (.if_icmp .le 7, 3) := by decide +kernel
theorem dXM_add_64 : decode cXM_add 64 = .ok (.iconst 1, 1) := by decide +kernel
theorem dXM_add_65 : decode cXM_add 65 = .ok (.goto 4, 3) := by decide +kernel
theorem dXM_add_68 : decode cXM_add 68 = .ok (.iconst 0, 1) := by decide +kernel
theorem dXM_add_69 : decode cXM_add 69 = .ok (.invokevirtual 100, 3) := by decide +kernel
theorem dXM_add_72 : decode cXM_add 72 = .ok (.aload_n 0, 1) := by decide +kernel
theorem dXM_add_73 : decode cXM_add 73 = .ok (.iload_n 2, 1) := by decide +kernel
theorem dXM_add_74 : decode cXM_add 74 = .ok (.iload 5, 2) := by decide +kernel
theorem dXM_add_76 : decode cXM_add 76 = .ok (.invokevirtual 97, 3) := by decide +kernel
theorem dXM_add_79 : decode cXM_add 79 = .ok (.iconst 4, 1) := by decide +kernel
theorem dXM_add_80 : decode cXM_add 80 = .ok (.ireturn, 1) := by decide +kernel
theorem dXM_compare_0 : decode cXM_compare 0 = .ok (.iload_n 1, 1) := by decide +kernel
theorem dXM_compare_1 : decode cXM_compare 1 = .ok (.sipush 504, 3) := by decide +kernel
theorem dXM_compare_4 : decode cXM_compare 4 = .ok (.iand, 1) := by decide +kernel
theorem dXM_compare_5 : decode cXM_compare 5 = .ok (.bipush 64, 2) := by decide +kernel
theorem dXM_compare_7 : decode cXM_compare 7 = .ok (.if_icmp .eq 5, 3) := by decide +kernel
theorem dXM_compare_10 : decode cXM_compare 10 = .ok (.iconst 0, 1) := by decide +kernel
theorem dXM_compare_11 : decode cXM_compare 11 = .ok (.ireturn, 1) := by decide +kernel
theorem dXM_compare_12 : decode cXM_compare 12 = .ok (.aload_n 0, 1) := by decide +kernel
theorem dXM_compare_13 : decode cXM_compare 13 = .ok (.getfield 13, 3) := by decide +kernel
theorem dXM_compare_16 : decode cXM_compare 16 = .ok (.iload_n 1, 1) := by decide +kernel
theorem dXM_compare_17 : decode cXM_compare 17 = .ok (.bipush 9, 2) := by decide +kernel
theorem dXM_compare_19 : decode cXM_compare 19 = .ok (.ishr, 1) := by decide +kernel
theorem dXM_compare_20 : decode cXM_compare 20 = .ok (.bipush 7, 2) := by decide +kernel
theorem dXM_compare_22 : decode cXM_compare 22 = .ok (.iand, 1) := by decide +kernel
theorem dXM_compare_23 : decode cXM_compare 23 = .ok (.iaload, 1) := by decide +kernel
theorem dXM_compare_24 : decode cXM_compare 24 = .ok (.istore_n 2, 1) := by decide +kernel
theorem dXM_compare_25 : decode cXM_compare 25 = .ok (.aload_n 0, 1) := by decide +kernel
theorem dXM_compare_26 : decode cXM_compare 26 = .ok (.getfield 13, 3) := by decide +kernel
theorem dXM_compare_29 : decode cXM_compare 29 = .ok (.iload_n 1, 1) := by decide +kernel
theorem dXM_compare_30 : decode cXM_compare 30 = .ok (.bipush 7, 2) := by decide +kernel
theorem dXM_compare_32 : decode cXM_compare 32 = .ok (.iand, 1) := by decide +kernel
theorem dXM_compare_33 : decode cXM_compare 33 = .ok (.iaload, 1) := by decide +kernel
theorem dXM_compare_34 : decode cXM_compare 34 = .ok (.istore_n 3, 1) := by decide +kernel
theorem dXM_compare_35 : decode cXM_compare 35 = .ok (.aload_n 0, 1) := by decide +kernel
theorem dXM_compare_36 : decode cXM_compare 36 = .ok (.iload_n 2, 1) := by decide +kernel
theorem dXM_compare_37 : decode cXM_compare 37 = .ok (.i2s, 1) := by decide +kernel
theorem dXM_compare_38 : decode cXM_compare 38 = .ok (.iload_n 3, 1) := by decide +kernel
theorem dXM_compare_39 : decode cXM_compare 39 = .ok (.i2s, 1) := by decide +kernel
theorem dXM_compare_40 : decode cXM_compare 40 = .ok (.isub, 1) := by decide +kernel
theorem dXM_compare_41 : decode cXM_compare 41 = .ok (.iload_n 2, 1) := by decide +kernel
theorem dXM_compare_42 : decode cXM_compare 42 = .ok (.ldc 78, 2) := by decide +kernel
theorem dXM_compare_44 : decode cXM_compare 44 = .ok (.iand, 1) := by decide +kernel
theorem dXM_compare_45 : decode cXM_compare 45 = .ok (.iload_n 3, 1) := by decide +kernel
theorem dXM_compare_46 : decode cXM_compare 46 = .ok (.ldc 78, 2) := by decide +kernel
theorem dXM_compare_48 : decode cXM_compare 48 = .ok (.iand, 1) := by decide +kernel
theorem dXM_compare_49 : decode cXM_compare 49 = .ok (.if_icmp .ge 7, 3) := by decide +kernel
theorem dXM_compare_52 : decode cXM_compare 52 = .ok (.iconst 1, 1) := by decide +kernel
theorem dXM_compare_53 : decode cXM_compare 53 = .ok (.goto 4, 3) := by decide +kernel
theorem dXM_compare_56 : decode cXM_compare 56 = .ok (.iconst 0, 1) := by decide +kernel
theorem dXM_compare_57 : decode cXM_compare 57 = .ok (.invokevirtual 100, 3) := by decide +kernel
theorem dXM_compare_60 : decode cXM_compare 60 = .ok (.iconst 4, 1) := by decide +kernel
theorem dXM_compare_61 : decode cXM_compare 61 = .ok (.ireturn, 1) := by decide +kernel
theorem dXM_branch_0 : decode cXM_branch 0 = .ok (.iload_n 1, 1) := by decide +kernel
theorem dXM_branch_1 : decode cXM_branch 1 = .ok (.i2b, 1) := by decide +kernel
theorem dXM_branch_2 : decode cXM_branch 2 = .ok (.istore_n 2, 1) := by decide +kernel
theorem dXM_branch_3 : decode cXM_branch 3 = .ok (.iload_n 2, 1) := by decide +kernel
theorem dXM_branch_4 : decode cXM_branch 4 = .ok (.ifCond .ne 5, 3) := by decide +kernel
theorem dXM_branch_7 : decode cXM_branch 7 = .ok (.iconst 0, 1) := by decide +kernel
theorem dXM_branch_8 : decode cXM_branch 8 = .ok (.ireturn, 1) := by decide +kernel
theorem dXM_branch_9 : decode cXM_branch 9 = .ok (.aload_n 0, 1) := by decide +kernel
theorem dXM_branch_10 : decode cXM_branch 10 = .ok (.iload_n 1, 1) := by decide +kernel
theorem dXM_branch_11 : decode cXM_branch 11 = .ok (.bipush 8, 2) := by decide +kernel
theorem dXM_branch_13 : decode cXM_branch 13 = .ok (.ishr, 1) := by decide +kernel
theorem dXM_branch_14 : decode cXM_branch 14 = .ok (.bipush 15, 2) := by decide +kernel
theorem dXM_branch_16 : decode cXM_branch 16 = .ok (.iand, 1) := by decide +kernel
theorem dXM_branch_17 : decode cXM_branch 17 = .ok (.invokevirtual 104, 3) := by decide +kernel
theorem dXM_branch_20 : decode cXM_branch 20 = .ok (.ifCond .ne 6, 3) := by decide +kernel
theorem dXM_branch_23 : decode cXM_branch 23 = .ok (.bipush 8, 2) := by decide +kernel
theorem dXM_branch_25 : decode cXM_branch 25 = .ok (.ireturn, 1) := by decide +kernel
theorem dXM_branch_26 : decode cXM_branch 26 = .ok (.aload_n 0, 1) := by decide +kernel
theorem dXM_branch_27 : decode cXM_branch 27 = .ok (.aload_n 0, 1) := by decide +kernel
theorem dXM_branch_28 : decode cXM_branch 28 = .ok (.getfield 31, 3) := by decide +kernel
theorem dXM_branch_31 : decode cXM_branch 31 = .ok (.iload_n 2, 1) := by decide +kernel
theorem dXM_branch_32 : decode cXM_branch 32 = .ok (.iadd, 1) := by decide +kernel
theorem dXM_branch_33 : decode cXM_branch 33 = .ok (.ldc 78, 2) := by decide +kernel
theorem dXM_branch_35 : decode cXM_branch 35 = .ok (.iand, 1) := by decide +kernel
theorem dXM_branch_36 : decode cXM_branch 36 = .ok (.putfield 31, 3) := by decide +kernel
theorem dXM_branch_39 : decode cXM_branch 39 = .ok (.bipush 10, 2) := by decide +kernel
theorem dXM_branch_41 : decode cXM_branch 41 = .ok (.ireturn, 1) := by decide +kernel
theorem dXM_conditionHolds_0 : decode cXM_conditionHolds 0 = .ok (.iload_n 1, 1) := by decide +kernel
theorem dXM_conditionHolds_1 : decode cXM_conditionHolds 1 = .ok (.tableswitch 119 0 11 #[63, 119, 119, 119, 65, 78, 83, 96, 119, 119, 101, 114], 63) := by decide +kernel
theorem dXM_conditionHolds_64 : decode cXM_conditionHolds 64 = .ok (.iconst 1, 1) := by decide +kernel
theorem dXM_conditionHolds_65 : decode cXM_conditionHolds 65 = .ok (.ireturn, 1) := by decide +kernel
theorem dXM_conditionHolds_66 : decode cXM_conditionHolds 66 = .ok (.aload_n 0, 1) := by decide +kernel
theorem dXM_conditionHolds_67 : decode cXM_conditionHolds 67 = .ok (.getfield 50, 3) := by decide +kernel
theorem dXM_conditionHolds_70 : decode cXM_conditionHolds 70 = .ok (.ifCond .ne 7, 3) := by decide +kernel
theorem dXM_conditionHolds_73 : decode cXM_conditionHolds 73 = .ok (.iconst 1, 1) := by decide +kernel
theorem dXM_conditionHolds_74 : decode cXM_conditionHolds 74 = .ok (.goto 4, 3) := by decide +kernel
theorem dXM_conditionHolds_77 : decode cXM_conditionHolds 77 = .ok (.iconst 0, 1) := by decide +kernel
theorem dXM_conditionHolds_78 : decode cXM_conditionHolds 78 = .ok (.ireturn, 1) := by decide +kernel
theorem dXM_conditionHolds_79 : decode cXM_conditionHolds 79 = .ok (.aload_n 0, 1) := by decide +kernel
theorem dXM_conditionHolds_80 : decode cXM_conditionHolds 80 = .ok (.getfield 50, 3) := by decide +kernel
theorem dXM_conditionHolds_83 : decode cXM_conditionHolds 83 = .ok (.ireturn, 1) := by decide +kernel
theorem dXM_conditionHolds_84 : decode cXM_conditionHolds 84 = .ok (.aload_n 0, 1) := by decide +kernel
theorem dXM_conditionHolds_85 : decode cXM_conditionHolds 85 = .ok (.getfield 44, 3) := by decide +kernel
theorem dXM_conditionHolds_88 : decode cXM_conditionHolds 88 = .ok (.ifCond .ne 7, 3) := by decide +kernel
theorem dXM_conditionHolds_91 : decode cXM_conditionHolds 91 = .ok (.iconst 1, 1) := by decide +kernel
theorem dXM_conditionHolds_92 : decode cXM_conditionHolds 92 = .ok (.goto 4, 3) := by decide +kernel
theorem dXM_conditionHolds_95 : decode cXM_conditionHolds 95 = .ok (.iconst 0, 1) := by decide +kernel
theorem dXM_conditionHolds_96 : decode cXM_conditionHolds 96 = .ok (.ireturn, 1) := by decide +kernel
theorem dXM_conditionHolds_97 : decode cXM_conditionHolds 97 = .ok (.aload_n 0, 1) := by decide +kernel
theorem dXM_conditionHolds_98 : decode cXM_conditionHolds 98 = .ok (.getfield 44, 3) := by decide +kernel
theorem dXM_conditionHolds_101 : decode cXM_conditionHolds 101 = .ok (.ireturn, 1) := by decide +kernel
theorem dXM_conditionHolds_102 : decode cXM_conditionHolds 102 = .ok (.aload_n 0, 1) := by decide +kernel
theorem dXM_conditionHolds_103 : decode cXM_conditionHolds 103 = .ok (.getfield 41, 3) := by decide +kernel
theorem dXM_conditionHolds_106 : decode cXM_conditionHolds 106 = .ok (.ifCond .ne 7, 3) := by decide +kernel
theorem dXM_conditionHolds_109 : decode cXM_conditionHolds 109 = .ok (.iconst 1, 1) := by decide +kernel
theorem dXM_conditionHolds_110 : decode cXM_conditionHolds 110 = .ok (.goto 4, 3) := by decide +kernel
theorem dXM_conditionHolds_113 : decode cXM_conditionHolds 113 = .ok (.iconst 0, 1) := by decide +kernel
theorem dXM_conditionHolds_114 : decode cXM_conditionHolds 114 = .ok (.ireturn, 1) := by decide +kernel
theorem dXM_conditionHolds_115 : decode cXM_conditionHolds 115 = .ok (.aload_n 0, 1) := by decide +kernel
theorem dXM_conditionHolds_116 : decode cXM_conditionHolds 116 = .ok (.getfield 41, 3) := by decide +kernel
theorem dXM_conditionHolds_119 : decode cXM_conditionHolds 119 = .ok (.ireturn, 1) := by decide +kernel
theorem dXM_conditionHolds_120 : decode cXM_conditionHolds 120 = .ok (.iconst 0, 1) := by decide +kernel
theorem dXM_conditionHolds_121 : decode cXM_conditionHolds 121 = .ok (.ireturn, 1) := by decide +kernel
theorem dXM_controlMachine_0 : decode cXM_controlMachine 0 = .ok (.iload_n 1, 1) := by decide +kernel
theorem dXM_controlMachine_1 : decode cXM_controlMachine 1 = .ok (.ldc 96, 2) := by decide +kernel
theorem dXM_controlMachine_3 : decode cXM_controlMachine 3 = .ok (.iand, 1) := by decide +kernel
theorem dXM_controlMachine_4 : decode cXM_controlMachine 4 = .ok (.sipush 20064, 3) := by decide +kernel
theorem dXM_controlMachine_7 : decode cXM_controlMachine 7 = .ok (.if_icmp .ne 21, 3) := by decide +kernel
theorem dXM_controlMachine_10 : decode cXM_controlMachine 10 = .ok (.aload_n 0, 1) := by decide +kernel
theorem dXM_controlMachine_11 : decode cXM_controlMachine 11 = .ok (.aload_n 0, 1) := by decide +kernel
theorem dXM_controlMachine_12 : decode cXM_controlMachine 12 = .ok (.getfield 13, 3) := by decide +kernel
theorem dXM_controlMachine_15 : decode cXM_controlMachine 15 = .ok (.iload_n 1, 1) := by decide +kernel
theorem dXM_controlMachine_16 : decode cXM_controlMachine 16 = .ok (.bipush 7, 2) := by decide +kernel
theorem dXM_controlMachine_18 : decode cXM_controlMachine 18 = .ok (.iand, 1) := by decide +kernel
theorem dXM_controlMachine_19 : decode cXM_controlMachine 19 = .ok (.iaload, 1) := by decide +kernel
theorem dXM_controlMachine_20 : decode cXM_controlMachine 20 = .ok (.ldc 78, 2) := by decide +kernel
theorem dXM_controlMachine_22 : decode cXM_controlMachine 22 = .ok (.iand, 1) := by decide +kernel
theorem dXM_controlMachine_23 : decode cXM_controlMachine 23 = .ok (.putfield 27, 3) := by decide +kernel
theorem dXM_controlMachine_26 : decode cXM_controlMachine 26 = .ok (.iconst 4, 1) := by decide +kernel
theorem dXM_controlMachine_27 : decode cXM_controlMachine 27 = .ok (.ireturn, 1) := by decide +kernel
theorem dXM_controlMachine_28 : decode cXM_controlMachine 28 = .ok (.iload_n 1, 1) := by decide +kernel
theorem dXM_controlMachine_29 : decode cXM_controlMachine 29 = .ok (.tableswitch 96 20081 20083 #[27, 29, 44], 27) := by decide +kernel
theorem dXM_controlMachine_56 : decode cXM_controlMachine 56 = .ok (.iconst 4, 1) := by decide +kernel
theorem dXM_controlMachine_57 : decode cXM_controlMachine 57 = .ok (.ireturn, 1) := by decide +kernel
theorem dXM_controlMachine_58 : decode cXM_controlMachine 58 = .ok (.aload_n 0, 1) := by decide +kernel
theorem dXM_controlMachine_59 : decode cXM_controlMachine 59 = .ok (.aload_n 0, 1) := by decide +kernel
theorem dXM_controlMachine_60 : decode cXM_controlMachine 60 = .ok (.invokevirtual 56, 3) := by decide +kernel
theorem dXM_controlMachine_63 : decode cXM_controlMachine 63 = .ok (.invokevirtual 17, 3) := by decide +kernel
theorem dXM_controlMachine_66 : decode cXM_controlMachine 66 = .ok (.aload_n 0, 1) := by decide +kernel
theorem dXM_controlMachine_67 : decode cXM_controlMachine 67 = .ok (.iconst 1, 1) := by decide +kernel
theorem dXM_controlMachine_68 : decode cXM_controlMachine 68 = .ok (.putfield 34, 3) := by decide +kernel
theorem dXM_controlMachine_71 : decode cXM_controlMachine 71 = .ok (.iconst 4, 1) := by decide +kernel
theorem dXM_controlMachine_72 : decode cXM_controlMachine 72 = .ok (.ireturn, 1) := by decide +kernel
theorem dXM_controlMachine_73 : decode cXM_controlMachine 73 = .ok (.aload_n 0, 1) := by decide +kernel
theorem dXM_controlMachine_74 : decode cXM_controlMachine 74 = .ok (.aload_n 0, 1) := by decide +kernel
theorem dXM_controlMachine_75 : decode cXM_controlMachine 75 = .ok (.getfield 7, 3) := by decide +kernel
theorem dXM_controlMachine_78 : decode cXM_controlMachine 78 = .ok (.aload_n 0, 1) := by decide +kernel
theorem dXM_controlMachine_79 : decode cXM_controlMachine 79 = .ok (.getfield 27, 3) := by decide +kernel
theorem dXM_controlMachine_82 : decode cXM_controlMachine 82 = .ok (.invokevirtual 21, 3) := by decide +kernel
theorem dXM_controlMachine_85 : decode cXM_controlMachine 85 = .ok (.invokevirtual 17, 3) := by decide +kernel
theorem dXM_controlMachine_88 : decode cXM_controlMachine 88 = .ok (.aload_n 0, 1) := by decide +kernel
theorem dXM_controlMachine_89 : decode cXM_controlMachine 89 = .ok (.aload_n 0, 1) := by decide +kernel
theorem dXM_controlMachine_90 : decode cXM_controlMachine 90 = .ok (.getfield 7, 3) := by decide +kernel
theorem dXM_controlMachine_93 : decode cXM_controlMachine 93 = .ok (.aload_n 0, 1) := by decide +kernel
theorem dXM_controlMachine_94 : decode cXM_controlMachine 94 = .ok (.getfield 27, 3) := by decide +kernel
theorem dXM_controlMachine_97 : decode cXM_controlMachine 97 = .ok (.iconst 4, 1) := by decide +kernel
theorem dXM_controlMachine_98 : decode cXM_controlMachine 98 = .ok (.iadd, 1) := by decide +kernel
theorem dXM_controlMachine_99 : decode cXM_controlMachine 99 = .ok (.ldc 78, 2) := by decide +kernel
theorem dXM_controlMachine_101 : decode cXM_controlMachine 101 = .ok (.iand, 1) := by decide +kernel
theorem dXM_controlMachine_102 : decode cXM_controlMachine 102 = .ok (.invokevirtual 21, 3) := by decide +kernel
theorem dXM_controlMachine_105 : decode cXM_controlMachine 105 = .ok (.putfield 31, 3) := by decide +kernel
theorem dXM_controlMachine_108 : decode cXM_controlMachine 108 = .ok (.aload_n 0, 1) := by decide +kernel
theorem dXM_controlMachine_109 : decode cXM_controlMachine 109 = .ok (.aload_n 0, 1) := by decide +kernel
theorem dXM_controlMachine_110 : decode cXM_controlMachine 110 = .ok (.getfield 27, 3) := by decide +kernel
theorem dXM_controlMachine_113 : decode cXM_controlMachine 113 = .ok (.bipush 6, 2) := by decide +kernel
theorem dXM_controlMachine_115 : decode cXM_controlMachine 115 = .ok (.iadd, 1) := by decide +kernel
theorem dXM_controlMachine_116 : decode cXM_controlMachine 116 = .ok (.ldc 78, 2) := by decide +kernel
theorem dXM_controlMachine_118 : decode cXM_controlMachine 118 = .ok (.iand, 1) := by decide +kernel
theorem dXM_controlMachine_119 : decode cXM_controlMachine 119 = .ok (.putfield 27, 3) := by decide +kernel
theorem dXM_controlMachine_122 : decode cXM_controlMachine 122 = .ok (.bipush 20, 2) := by decide +kernel
theorem dXM_controlMachine_124 : decode cXM_controlMachine 124 = .ok (.ireturn, 1) := by decide +kernel
theorem dXM_controlMachine_125 : decode cXM_controlMachine 125 = .ok (.iconst 0, 1) := by decide +kernel
theorem dXM_controlMachine_126 : decode cXM_controlMachine 126 = .ok (.ireturn, 1) := by decide +kernel
