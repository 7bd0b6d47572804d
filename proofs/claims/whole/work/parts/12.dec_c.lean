theorem dXP_init_0 : decode cXP_init 0 = .ok (.aload_n 0, 1) := by decide +kernel
theorem dXP_init_1 : decode cXP_init 1 = .ok (.invokespecial 1, 3) := by decide +kernel
theorem dXP_init_4 : decode cXP_init 4 = .ok (.aload_n 0, 1) := by decide +kernel
theorem dXP_init_5 : decode cXP_init 5 = .ok (.sipush 1024, 3) := by decide +kernel
theorem dXP_init_8 : decode cXP_init 8 = .ok (.newarray .int, 2) := by decide +kernel
theorem dXP_init_10 : decode cXP_init 10 = .ok (.putfield 7, 3) := by decide +kernel
theorem dXP_init_13 : decode cXP_init 13 = .ok (.aload_n 0, 1) := by decide +kernel
theorem dXP_init_14 : decode cXP_init 14 = .ok (.bipush 16, 2) := by decide +kernel
theorem dXP_init_16 : decode cXP_init 16 = .ok (.newarray .int, 2) := by decide +kernel
theorem dXP_init_18 : decode cXP_init 18 = .ok (.putfield 13, 3) := by decide +kernel
theorem dXP_init_21 : decode cXP_init 21 = .ok (.aload_n 0, 1) := by decide +kernel
theorem dXP_init_22 : decode cXP_init 22 = .ok (.iconst 2, 1) := by decide +kernel
theorem dXP_init_23 : decode cXP_init 23 = .ok (.newarray .int, 2) := by decide +kernel
theorem dXP_init_25 : decode cXP_init 25 = .ok (.putfield 16, 3) := by decide +kernel
theorem dXP_init_28 : decode cXP_init 28 = .ok (.aload_n 0, 1) := by decide +kernel
theorem dXP_init_29 : decode cXP_init 29 = .ok (.bipush 16, 2) := by decide +kernel
theorem dXP_init_31 : decode cXP_init 31 = .ok (.newarray .int, 2) := by decide +kernel
theorem dXP_init_33 : decode cXP_init 33 = .ok (.putfield 19, 3) := by decide +kernel
theorem dXP_init_36 : decode cXP_init 36 = .ok (.return_, 1) := by decide +kernel
theorem dXP_vramWord_0 : decode cXP_vramWord 0 = .ok (.iconst 2, 1) := by decide +kernel
theorem dXP_vramWord_1 : decode cXP_vramWord 1 = .ok (.iload_n 1, 1) := by decide +kernel
theorem dXP_vramWord_2 : decode cXP_vramWord 2 = .ok (.imul, 1) := by decide +kernel
theorem dXP_vramWord_3 : decode cXP_vramWord 3 = .ok (.sipush 1023, 3) := by decide +kernel
theorem dXP_vramWord_6 : decode cXP_vramWord 6 = .ok (.iand, 1) := by decide +kernel
theorem dXP_vramWord_7 : decode cXP_vramWord 7 = .ok (.istore_n 2, 1) := by decide +kernel
theorem dXP_vramWord_8 : decode cXP_vramWord 8 = .ok (.aload_n 0, 1) := by decide +kernel
theorem dXP_vramWord_9 : decode cXP_vramWord 9 = .ok (.getfield 7, 3) := by decide +kernel
theorem dXP_vramWord_12 : decode cXP_vramWord 12 = .ok (.iload_n 2, 1) := by decide +kernel
theorem dXP_vramWord_13 : decode cXP_vramWord 13 = .ok (.iaload, 1) := by decide +kernel
theorem dXP_vramWord_14 : decode cXP_vramWord 14 = .ok (.sipush 256, 3) := by decide +kernel
theorem dXP_vramWord_17 : decode cXP_vramWord 17 = .ok (.imul, 1) := by decide +kernel
theorem dXP_vramWord_18 : decode cXP_vramWord 18 = .ok (.aload_n 0, 1) := by decide +kernel
theorem dXP_vramWord_19 : decode cXP_vramWord 19 = .ok (.getfield 7, 3) := by decide +kernel
theorem dXP_vramWord_22 : decode cXP_vramWord 22 = .ok (.iload_n 2, 1) := by decide +kernel
theorem dXP_vramWord_23 : decode cXP_vramWord 23 = .ok (.iconst 1, 1) := by decide +kernel
theorem dXP_vramWord_24 : decode cXP_vramWord 24 = .ok (.iadd, 1) := by decide +kernel
theorem dXP_vramWord_25 : decode cXP_vramWord 25 = .ok (.iaload, 1) := by decide +kernel
theorem dXP_vramWord_26 : decode cXP_vramWord 26 = .ok (.iadd, 1) := by decide +kernel
theorem dXP_vramWord_27 : decode cXP_vramWord 27 = .ok (.ireturn, 1) := by decide +kernel
theorem dXP_movesFromMemory_0 : decode cXP_movesFromMemory 0 = .ok (.aload_n 0, 1) := by decide +kernel
theorem dXP_movesFromMemory_1 : decode cXP_movesFromMemory 1 = .ok (.getfield 22, 3) := by decide +kernel
theorem dXP_movesFromMemory_4 : decode cXP_movesFromMemory 4 = .ok (.ifCond .le 7, 3) := by decide +kernel
theorem dXP_movesFromMemory_7 : decode cXP_movesFromMemory 7 = .ok (.iconst 1, 1) := by decide +kernel
theorem dXP_movesFromMemory_8 : decode cXP_movesFromMemory 8 = .ok (.goto 4, 3) := by decide +kernel
theorem dXP_movesFromMemory_11 : decode cXP_movesFromMemory 11 = .ok (.iconst 0, 1) := by decide +kernel
theorem dXP_movesFromMemory_12 : decode cXP_movesFromMemory 12 = .ok (.ireturn, 1) := by decide +kernel
theorem dXP_writeControl_0 : decode cXP_writeControl 0 = .ok (.aload_n 0, 1) := by decide +kernel
theorem dXP_writeControl_1 : decode cXP_writeControl 1 = .ok (.getfield 26, 3) := by decide +kernel
theorem dXP_writeControl_4 : decode cXP_writeControl 4 = .ok (.ifCond .ne 9, 3) := by decide +kernel
theorem dXP_writeControl_7 : decode cXP_writeControl 7 = .ok (.aload_n 0, 1) := by decide +kernel
theorem dXP_writeControl_8 : decode cXP_writeControl 8 = .ok (.iload_n 1, 1) := by decide +kernel
theorem dXP_writeControl_9 : decode cXP_writeControl 9 = .ok (.invokevirtual 30, 3) := by decide +kernel
theorem dXP_writeControl_12 : decode cXP_writeControl 12 = .ok (.return_, 1) := by decide +kernel
theorem dXP_writeControl_13 : decode cXP_writeControl 13 = .ok (.aload_n 0, 1) := by decide +kernel
theorem dXP_writeControl_14 : decode cXP_writeControl 14 = .ok (.iconst 0, 1) := by decide +kernel
theorem dXP_writeControl_15 : decode cXP_writeControl 15 = .ok (.putfield 26, 3) := by decide +kernel
theorem dXP_writeControl_18 : decode cXP_writeControl 18 = .ok (.aload_n 0, 1) := by decide +kernel
theorem dXP_writeControl_19 : decode cXP_writeControl 19 = .ok (.aload_n 0, 1) := by decide +kernel
theorem dXP_writeControl_20 : decode cXP_writeControl 20 = .ok (.getfield 34, 3) := by decide +kernel
theorem dXP_writeControl_23 : decode cXP_writeControl 23 = .ok (.sipush 16383, 3) := by decide +kernel
theorem dXP_writeControl_26 : decode cXP_writeControl 26 = .ok (.iand, 1) := by decide +kernel
theorem dXP_writeControl_27 : decode cXP_writeControl 27 = .ok (.iload_n 1, 1) := by decide +kernel
theorem dXP_writeControl_28 : decode cXP_writeControl 28 = .ok (.iconst 3, 1) := by decide +kernel
theorem dXP_writeControl_29 : decode cXP_writeControl 29 = .ok (.iand, 1) := by decide +kernel
theorem dXP_writeControl_30 : decode cXP_writeControl 30 = .ok (.bipush 14, 2) := by decide +kernel
theorem dXP_writeControl_32 : decode cXP_writeControl 32 = .ok (.ishl, 1) := by decide +kernel
theorem dXP_writeControl_33 : decode cXP_writeControl 33 = .ok (.ior, 1) := by decide +kernel
theorem dXP_writeControl_34 : decode cXP_writeControl 34 = .ok (.putfield 34, 3) := by decide +kernel
theorem dXP_writeControl_37 : decode cXP_writeControl 37 = .ok (.aload_n 0, 1) := by decide +kernel
theorem dXP_writeControl_38 : decode cXP_writeControl 38 = .ok (.aload_n 0, 1) := by decide +kernel
theorem dXP_writeControl_39 : decode cXP_writeControl 39 = .ok (.getfield 37, 3) := by decide +kernel
theorem dXP_writeControl_42 : decode cXP_writeControl 42 = .ok (.iconst 3, 1) := by decide +kernel
theorem dXP_writeControl_43 : decode cXP_writeControl 43 = .ok (.iand, 1) := by decide +kernel
theorem dXP_writeControl_44 : decode cXP_writeControl 44 = .ok (.iload_n 1, 1) := by decide +kernel
theorem dXP_writeControl_45 : decode cXP_writeControl 45 = .ok (.iconst 4, 1) := by decide +kernel
theorem dXP_writeControl_46 : decode cXP_writeControl 46 = .ok (.ishr, 1) := by decide +kernel
theorem dXP_writeControl_47 : decode cXP_writeControl 47 = .ok (.bipush 15, 2) := by decide +kernel
theorem dXP_writeControl_49 : decode cXP_writeControl 49 = .ok (.iand, 1) := by decide +kernel
theorem dXP_writeControl_50 : decode cXP_writeControl 50 = .ok (.iconst 2, 1) := by decide +kernel
theorem dXP_writeControl_51 : decode cXP_writeControl 51 = .ok (.ishl, 1) := by decide +kernel
theorem dXP_writeControl_52 : decode cXP_writeControl 52 = .ok (.ior, 1) := by decide +kernel
theorem dXP_writeControl_53 : decode cXP_writeControl 53 = .ok (.putfield 37, 3) := by decide +kernel
theorem dXP_writeControl_56 : decode cXP_writeControl 56 = .ok (.aload_n 0, 1) := by decide +kernel
theorem dXP_writeControl_57 : decode cXP_writeControl 57 = .ok (.getfield 37, 3) := by decide +kernel
theorem dXP_writeControl_60 : decode cXP_writeControl 60 = .ok (.bipush 32, 2) := by decide +kernel
theorem dXP_writeControl_62 : decode cXP_writeControl 62 = .ok (.iand, 1) := by decide +kernel
theorem dXP_writeControl_63 : decode cXP_writeControl 63 = .ok (.ifCond .eq 15, 3) := by decide +kernel
theorem dXP_writeControl_66 : decode cXP_writeControl 66 = .ok (.aload_n 0, 1) := by decide +kernel
theorem dXP_writeControl_67 : decode cXP_writeControl 67 = .ok (.getfield 19, 3) := by decide +kernel
theorem dXP_writeControl_70 : decode cXP_writeControl 70 = .ok (.iconst 1, 1) := by decide +kernel
theorem dXP_writeControl_71 : decode cXP_writeControl 71 = .ok (.iaload, 1) := by decide +kernel
theorem dXP_writeControl_72 : decode cXP_writeControl 72 = .ok (.bipush 16, 2) := by decide +kernel
theorem dXP_writeControl_74 : decode cXP_writeControl 74 = .ok (.iand, 1) := by decide +kernel
theorem dXP_writeControl_75 : decode cXP_writeControl 75 = .ok (.ifCond .ne 4, 3) := by decide +kernel
theorem dXP_writeControl_78 : decode cXP_writeControl 78 = .ok (.return_, 1) := by decide +kernel
theorem dXP_writeControl_79 : decode cXP_writeControl 79 = .ok (.aload_n 0, 1) := by decide +kernel
theorem dXP_writeControl_80 : decode cXP_writeControl 80 = .ok (.getfield 19, 3) := by decide +kernel
theorem dXP_writeControl_83 : decode cXP_writeControl 83 = .ok (.bipush 15, 2) := by decide +kernel
theorem dXP_writeControl_85 : decode cXP_writeControl 85 = .ok (.iaload, 1) := by decide +kernel
theorem dXP_writeControl_86 : decode cXP_writeControl 86 = .ok (.bipush 6, 2) := by decide +kernel
theorem dXP_writeControl_88 : decode cXP_writeControl 88 = .ok (.ishr, 1) := by decide +kernel
theorem dXP_writeControl_89 : decode cXP_writeControl 89 = .ok (.lookupswitch 46 #[(2, 27), (3, 35)], 27) := by decide +kernel
theorem dXP_writeControl_116 : decode cXP_writeControl 116 = .ok (.aload_n 0, 1) := by decide +kernel
theorem dXP_writeControl_117 : decode cXP_writeControl 117 = .ok (.iconst 1, 1) := by decide +kernel
theorem dXP_writeControl_118 : decode cXP_writeControl 118 = .ok (.putfield 40, 3) := by decide +kernel
theorem dXP_writeControl_121 : decode cXP_writeControl 121 = .ok (.goto 32, 3) := by decide +kernel
theorem dXP_writeControl_124 : decode cXP_writeControl 124 = .ok (.aload_n 0, 1) := by decide +kernel
theorem dXP_writeControl_125 : decode cXP_writeControl 125 = .ok (.aload_n 0, 1) := by decide +kernel
theorem dXP_writeControl_126 : decode cXP_writeControl 126 = .ok (.invokevirtual 43, 3) := by decide +kernel
theorem dXP_writeControl_129 : decode cXP_writeControl 129 = .ok (.invokevirtual 47, 3) := by decide +kernel
theorem dXP_writeControl_132 : decode cXP_writeControl 132 = .ok (.goto 21, 3) := by decide +kernel
theorem dXP_writeControl_135 : decode cXP_writeControl 135 = .ok (.aload_n 0, 1) := by decide +kernel
theorem dXP_writeControl_136 : decode cXP_writeControl 136 = .ok (.iconst 2, 1) := by decide +kernel
theorem dXP_writeControl_137 : decode cXP_writeControl 137 = .ok (.aload_n 0, 1) := by decide +kernel
theorem dXP_writeControl_138 : decode cXP_writeControl 138 = .ok (.invokevirtual 50, 3) := by decide +kernel
theorem dXP_writeControl_141 : decode cXP_writeControl 141 = .ok (.imul, 1) := by decide +kernel
theorem dXP_writeControl_142 : decode cXP_writeControl 142 = .ok (.putfield 53, 3) := by decide +kernel
theorem dXP_writeControl_145 : decode cXP_writeControl 145 = .ok (.aload_n 0, 1) := by decide +kernel
theorem dXP_writeControl_146 : decode cXP_writeControl 146 = .ok (.aload_n 0, 1) := by decide +kernel
theorem dXP_writeControl_147 : decode cXP_writeControl 147 = .ok (.invokevirtual 43, 3) := by decide +kernel
theorem dXP_writeControl_150 : decode cXP_writeControl 150 = .ok (.putfield 22, 3) := by decide +kernel
theorem dXP_writeControl_153 : decode cXP_writeControl 153 = .ok (.return_, 1) := by decide +kernel
theorem dXP_writeData_0 : decode cXP_writeData 0 = .ok (.aload_n 0, 1) := by decide +kernel
theorem dXP_writeData_1 : decode cXP_writeData 1 = .ok (.iconst 0, 1) := by decide +kernel
theorem dXP_writeData_2 : decode cXP_writeData 2 = .ok (.putfield 26, 3) := by decide +kernel
theorem dXP_writeData_5 : decode cXP_writeData 5 = .ok (.aload_n 0, 1) := by decide +kernel
theorem dXP_writeData_6 : decode cXP_writeData 6 = .ok (.iload_n 1, 1) := by decide +kernel
theorem dXP_writeData_7 : decode cXP_writeData 7 = .ok (.invokevirtual 56, 3) := by decide +kernel
theorem dXP_writeData_10 : decode cXP_writeData 10 = .ok (.aload_n 0, 1) := by decide +kernel
theorem dXP_writeData_11 : decode cXP_writeData 11 = .ok (.getfield 40, 3) := by decide +kernel
theorem dXP_writeData_14 : decode cXP_writeData 14 = .ok (.ifCond .eq 20, 3) := by decide +kernel
theorem dXP_writeData_17 : decode cXP_writeData 17 = .ok (.aload_n 0, 1) := by decide +kernel
theorem dXP_writeData_18 : decode cXP_writeData 18 = .ok (.iconst 0, 1) := by decide +kernel
theorem dXP_writeData_19 : decode cXP_writeData 19 = .ok (.putfield 40, 3) := by decide +kernel
theorem dXP_writeData_22 : decode cXP_writeData 22 = .ok (.aload_n 0, 1) := by decide +kernel
theorem dXP_writeData_23 : decode cXP_writeData 23 = .ok (.iload_n 1, 1) := by decide +kernel
theorem dXP_writeData_24 : decode cXP_writeData 24 = .ok (.bipush 8, 2) := by decide +kernel
theorem dXP_writeData_26 : decode cXP_writeData 26 = .ok (.ishr, 1) := by decide +kernel
theorem dXP_writeData_27 : decode cXP_writeData 27 = .ok (.aload_n 0, 1) := by decide +kernel
theorem dXP_writeData_28 : decode cXP_writeData 28 = .ok (.invokevirtual 43, 3) := by decide +kernel
theorem dXP_writeData_31 : decode cXP_writeData 31 = .ok (.invokevirtual 59, 3) := by decide +kernel
theorem dXP_writeData_34 : decode cXP_writeData 34 = .ok (.return_, 1) := by decide +kernel
theorem dXP_readData_0 : decode cXP_readData 0 = .ok (.aload_n 0, 1) := by decide +kernel
theorem dXP_readData_1 : decode cXP_readData 1 = .ok (.iconst 0, 1) := by decide +kernel
theorem dXP_readData_2 : decode cXP_readData 2 = .ok (.putfield 26, 3) := by decide +kernel
theorem dXP_readData_5 : decode cXP_readData 5 = .ok (.aload_n 0, 1) := by decide +kernel
theorem dXP_readData_6 : decode cXP_readData 6 = .ok (.getfield 34, 3) := by decide +kernel
theorem dXP_readData_9 : decode cXP_readData 9 = .ok (.iconst 1, 1) := by decide +kernel
theorem dXP_readData_10 : decode cXP_readData 10 = .ok (.ishr, 1) := by decide +kernel
theorem dXP_readData_11 : decode cXP_readData 11 = .ok (.istore_n 1, 1) := by decide +kernel
theorem dXP_readData_12 : decode cXP_readData 12 = .ok (.iconst 0, 1) := by decide +kernel
theorem dXP_readData_13 : decode cXP_readData 13 = .ok (.istore_n 2, 1) := by decide +kernel
theorem dXP_readData_14 : decode cXP_readData 14 = .ok (.aload_n 0, 1) := by decide +kernel
theorem dXP_readData_15 : decode cXP_readData 15 = .ok (.getfield 37, 3) := by decide +kernel
theorem dXP_readData_18 : decode cXP_readData 18 = .ok (.bipush 15, 2) := by decide +kernel
theorem dXP_readData_20 : decode cXP_readData 20 = .ok (.iand, 1) := by decide +kernel
theorem dXP_readData_21 : decode cXP_readData 21 = .ok (.lookupswitch 69 #[(0, 35), (4, 57), (8, 44)], 35) := by decide +kernel
theorem dXP_readData_56 : decode cXP_readData 56 = .ok (.aload_n 0, 1) := by decide +kernel
theorem dXP_readData_57 : decode cXP_readData 57 = .ok (.iload_n 1, 1) := by decide +kernel
theorem dXP_readData_58 : decode cXP_readData 58 = .ok (.invokevirtual 63, 3) := by decide +kernel
theorem dXP_readData_61 : decode cXP_readData 61 = .ok (.istore_n 2, 1) := by decide +kernel
theorem dXP_readData_62 : decode cXP_readData 62 = .ok (.goto 28, 3) := by decide +kernel
theorem dXP_readData_65 : decode cXP_readData 65 = .ok (.aload_n 0, 1) := by decide +kernel
theorem dXP_readData_66 : decode cXP_readData 66 = .ok (.getfield 13, 3) := by decide +kernel
theorem dXP_readData_69 : decode cXP_readData 69 = .ok (.iload_n 1, 1) := by decide +kernel
theorem dXP_readData_70 : decode cXP_readData 70 = .ok (.bipush 15, 2) := by decide +kernel
theorem dXP_readData_72 : decode cXP_readData 72 = .ok (.iand, 1) := by decide +kernel
theorem dXP_readData_73 : decode cXP_readData 73 = .ok (.iaload, 1) := by decide +kernel
theorem dXP_readData_74 : decode cXP_readData 74 = .ok (.istore_n 2, 1) := by decide +kernel
theorem dXP_readData_75 : decode cXP_readData 75 = .ok (.goto 15, 3) := by decide +kernel
theorem dXP_readData_78 : decode cXP_readData 78 = .ok (.aload_n 0, 1) := by decide +kernel
theorem dXP_readData_79 : decode cXP_readData 79 = .ok (.getfield 16, 3) := by decide +kernel
theorem dXP_readData_82 : decode cXP_readData 82 = .ok (.iload_n 1, 1) := by decide +kernel
theorem dXP_readData_83 : decode cXP_readData 83 = .ok (.iconst 1, 1) := by decide +kernel
theorem dXP_readData_84 : decode cXP_readData 84 = .ok (.iand, 1) := by decide +kernel
theorem dXP_readData_85 : decode cXP_readData 85 = .ok (.iaload, 1) := by decide +kernel
theorem dXP_readData_86 : decode cXP_readData 86 = .ok (.istore_n 2, 1) := by decide +kernel
theorem dXP_readData_87 : decode cXP_readData 87 = .ok (.goto 3, 3) := by decide +kernel
theorem dXP_readData_90 : decode cXP_readData 90 = .ok (.aload_n 0, 1) := by decide +kernel
theorem dXP_readData_91 : decode cXP_readData 91 = .ok (.invokevirtual 67, 3) := by decide +kernel
theorem dXP_readData_94 : decode cXP_readData 94 = .ok (.iload_n 2, 1) := by decide +kernel
theorem dXP_readData_95 : decode cXP_readData 95 = .ok (.ireturn, 1) := by decide +kernel
theorem dXP_takeMovedWord_0 : decode cXP_takeMovedWord 0 = .ok (.aload_n 0, 1) := by decide +kernel
theorem dXP_takeMovedWord_1 : decode cXP_takeMovedWord 1 = .ok (.iload_n 1, 1) := by decide +kernel
theorem dXP_takeMovedWord_2 : decode cXP_takeMovedWord 2 = .ok (.invokevirtual 56, 3) := by decide +kernel
theorem dXP_takeMovedWord_5 : decode cXP_takeMovedWord 5 = .ok (.aload_n 0, 1) := by decide +kernel
theorem dXP_takeMovedWord_6 : decode cXP_takeMovedWord 6 = .ok (.aload_n 0, 1) := by decide +kernel
theorem dXP_takeMovedWord_7 : decode cXP_takeMovedWord 7 = .ok (.getfield 53, 3) := by decide +kernel
theorem dXP_takeMovedWord_10 : decode cXP_takeMovedWord 10 = .ok (.ldc 70, 2) := by decide +kernel
theorem dXP_takeMovedWord_12 : decode cXP_takeMovedWord 12 = .ok (.iand, 1) := by decide +kernel
theorem dXP_takeMovedWord_13 : decode cXP_takeMovedWord 13 = .ok (.aload_n 0, 1) := by decide +kernel
theorem dXP_takeMovedWord_14 : decode cXP_takeMovedWord 14 = .ok (.getfield 53, 3) := by decide +kernel
theorem dXP_takeMovedWord_17 : decode cXP_takeMovedWord 17 = .ok (.iconst 2, 1) := by decide +kernel
theorem dXP_takeMovedWord_18 : decode cXP_takeMovedWord 18 = .ok (.iadd, 1) := by decide +kernel
theorem dXP_takeMovedWord_19 : decode cXP_takeMovedWord 19 = .ok (.sipush 1023, 3) := by decide +kernel
theorem dXP_takeMovedWord_22 : decode cXP_takeMovedWord 22 = .ok (.iand, 1) := by decide +kernel
theorem dXP_takeMovedWord_23 : decode cXP_takeMovedWord 23 = .ok (.ior, 1) := by decide +kernel
theorem dXP_takeMovedWord_24 : decode cXP_takeMovedWord 24 = .ok (.putfield 53, 3) := by decide +kernel
theorem dXP_takeMovedWord_27 : decode cXP_takeMovedWord 27 = .ok (.aload_n 0, 1) := by decide +kernel
theorem dXP_takeMovedWord_28 : decode cXP_takeMovedWord 28 = .ok (.dup, 1) := by decide +kernel
theorem dXP_takeMovedWord_29 : decode cXP_takeMovedWord 29 = .ok (.getfield 22, 3) := by decide +kernel
theorem dXP_takeMovedWord_32 : decode cXP_takeMovedWord 32 = .ok (.iconst 1, 1) := by decide +kernel
theorem dXP_takeMovedWord_33 : decode cXP_takeMovedWord 33 = .ok (.isub, 1) := by decide +kernel
theorem dXP_takeMovedWord_34 : decode cXP_takeMovedWord 34 = .ok (.putfield 22, 3) := by decide +kernel
theorem dXP_takeMovedWord_37 : decode cXP_takeMovedWord 37 = .ok (.aload_n 0, 1) := by decide +kernel
theorem dXP_takeMovedWord_38 : decode cXP_takeMovedWord 38 = .ok (.getfield 22, 3) := by decide +kernel
theorem dXP_takeMovedWord_41 : decode cXP_takeMovedWord 41 = .ok (.ifCond .ne 7, 3) := by decide +kernel
theorem dXP_takeMovedWord_44 : decode cXP_takeMovedWord 44 = .ok (.aload_n 0, 1) := by decide +kernel
theorem dXP_takeMovedWord_45 : decode cXP_takeMovedWord 45 = .ok (.invokevirtual 71, 3) := by decide +kernel
theorem dXP_takeMovedWord_48 : decode cXP_takeMovedWord 48 = .ok (.return_, 1) := by decide +kernel
theorem dXP_takeFirstWord_0 : decode cXP_takeFirstWord 0 = .ok (.iload_n 1, 1) := by decide +kernel
theorem dXP_takeFirstWord_1 : decode cXP_takeFirstWord 1 = .ok (.bipush 14, 2) := by decide +kernel
theorem dXP_takeFirstWord_3 : decode cXP_takeFirstWord 3 = .ok (.ishr, 1) := by decide +kernel
theorem dXP_takeFirstWord_4 : decode cXP_takeFirstWord 4 = .ok (.iconst 2, 1) := by decide +kernel
theorem dXP_takeFirstWord_5 : decode cXP_takeFirstWord 5 = .ok (.if_icmp .ne 32, 3) := by decide +kernel
theorem dXP_takeFirstWord_8 : decode cXP_takeFirstWord 8 = .ok (.aload_n 0, 1) := by decide +kernel
theorem dXP_takeFirstWord_9 : decode cXP_takeFirstWord 9 = .ok (.getfield 19, 3) := by decide +kernel
theorem dXP_takeFirstWord_12 : decode cXP_takeFirstWord 12 = .ok (.iload_n 1, 1) := by decide +kernel
theorem dXP_takeFirstWord_13 : decode cXP_takeFirstWord 13 = .ok (.bipush 8, 2) := by decide +kernel
theorem dXP_takeFirstWord_15 : decode cXP_takeFirstWord 15 = .ok (.ishr, 1) := by decide +kernel
theorem dXP_takeFirstWord_16 : decode cXP_takeFirstWord 16 = .ok (.bipush 15, 2) := by decide +kernel
theorem dXP_takeFirstWord_18 : decode cXP_takeFirstWord 18 = .ok (.iand, 1) := by decide +kernel
theorem dXP_takeFirstWord_19 : decode cXP_takeFirstWord 19 = .ok (.iload_n 1, 1) := by decide +kernel
theorem dXP_takeFirstWord_20 : decode cXP_takeFirstWord 20 = .ok (.sipush 255, 3) := by decide +kernel
theorem dXP_takeFirstWord_23 : decode cXP_takeFirstWord 23 = .ok (.iand, 1) := by decide +kernel
theorem dXP_takeFirstWord_24 : decode cXP_takeFirstWord 24 = .ok (.iastore, 1) := by decide +kernel
theorem dXP_takeFirstWord_25 : decode cXP_takeFirstWord 25 = .ok (.aload_n 0, 1) := by decide +kernel
theorem dXP_takeFirstWord_26 : decode cXP_takeFirstWord 26 = .ok (.aload_n 0, 1) := by decide +kernel
theorem dXP_takeFirstWord_27 : decode cXP_takeFirstWord 27 = .ok (.getfield 37, 3) := by decide +kernel
theorem dXP_takeFirstWord_30 : decode cXP_takeFirstWord 30 = .ok (.bipush 60, 2) := by decide +kernel
theorem dXP_takeFirstWord_32 : decode cXP_takeFirstWord 32 = .ok (.iand, 1) := by decide +kernel
theorem dXP_takeFirstWord_33 : decode cXP_takeFirstWord 33 = .ok (.putfield 37, 3) := by decide +kernel
theorem dXP_takeFirstWord_36 : decode cXP_takeFirstWord 36 = .ok (.return_, 1) := by decide +kernel
theorem dXP_takeFirstWord_37 : decode cXP_takeFirstWord 37 = .ok (.aload_n 0, 1) := by decide +kernel
theorem dXP_takeFirstWord_38 : decode cXP_takeFirstWord 38 = .ok (.aload_n 0, 1) := by decide +kernel
theorem dXP_takeFirstWord_39 : decode cXP_takeFirstWord 39 = .ok (.getfield 34, 3) := by decide +kernel
theorem dXP_takeFirstWord_42 : decode cXP_takeFirstWord 42 = .ok (.ldc 74, 2) := by decide +kernel
theorem dXP_takeFirstWord_44 : decode cXP_takeFirstWord 44 = .ok (.iand, 1) := by decide +kernel
theorem dXP_takeFirstWord_45 : decode cXP_takeFirstWord 45 = .ok (.iload_n 1, 1) := by decide +kernel
theorem dXP_takeFirstWord_46 : decode cXP_takeFirstWord 46 = .ok (.sipush 16383, 3) := by decide +kernel
theorem dXP_takeFirstWord_49 : decode cXP_takeFirstWord 49 = .ok (.iand, 1) := by decide +kernel
theorem dXP_takeFirstWord_50 : decode cXP_takeFirstWord 50 = .ok (.ior, 1) := by decide +kernel
theorem dXP_takeFirstWord_51 : decode cXP_takeFirstWord 51 = .ok (.putfield 34, 3) := by decide +kernel
theorem dXP_takeFirstWord_54 : decode cXP_takeFirstWord 54 = .ok (.aload_n 0, 1) := by decide +kernel
theorem dXP_takeFirstWord_55 : decode cXP_takeFirstWord 55 = .ok (.aload_n 0, 1) := by decide +kernel
theorem dXP_takeFirstWord_56 : decode cXP_takeFirstWord 56 = .ok (.getfield 37, 3) := by decide +kernel
theorem dXP_takeFirstWord_59 : decode cXP_takeFirstWord 59 = .ok (.bipush 60, 2) := by decide +kernel
theorem dXP_takeFirstWord_61 : decode cXP_takeFirstWord 61 = .ok (.iand, 1) := by decide +kernel
theorem dXP_takeFirstWord_62 : decode cXP_takeFirstWord 62 = .ok (.iload_n 1, 1) := by decide +kernel
theorem dXP_takeFirstWord_63 : decode cXP_takeFirstWord 63 = .ok (.bipush 14, 2) := by decide +kernel
theorem dXP_takeFirstWord_65 : decode cXP_takeFirstWord 65 = .ok (.ishr, 1) := by decide +kernel
theorem dXP_takeFirstWord_66 : decode cXP_takeFirstWord 66 = .ok (.ior, 1) := by decide +kernel
theorem dXP_takeFirstWord_67 : decode cXP_takeFirstWord 67 = .ok (.putfield 37, 3) := by decide +kernel
theorem dXP_takeFirstWord_70 : decode cXP_takeFirstWord 70 = .ok (.aload_n 0, 1) := by decide +kernel
theorem dXP_takeFirstWord_71 : decode cXP_takeFirstWord 71 = .ok (.iconst 1, 1) := by decide +kernel
theorem dXP_takeFirstWord_72 : decode cXP_takeFirstWord 72 = .ok (.putfield 26, 3) := by decide +kernel
theorem dXP_takeFirstWord_75 : decode cXP_takeFirstWord 75 = .ok (.return_, 1) := by decide +kernel
theorem dXP_halfSource_0 : decode cXP_halfSource 0 = .ok (.aload_n 0, 1) := by decide +kernel
theorem dXP_halfSource_1 : decode cXP_halfSource 1 = .ok (.getfield 19, 3) := by decide +kernel
theorem dXP_halfSource_4 : decode cXP_halfSource 4 = .ok (.bipush 10, 2) := by decide +kernel
theorem dXP_halfSource_6 : decode cXP_halfSource 6 = .ok (.iaload, 1) := by decide +kernel
theorem dXP_halfSource_7 : decode cXP_halfSource 7 = .ok (.bipush 127, 2) := by decide +kernel
theorem dXP_halfSource_9 : decode cXP_halfSource 9 = .ok (.iand, 1) := by decide +kernel
theorem dXP_halfSource_10 : decode cXP_halfSource 10 = .ok (.sipush 256, 3) := by decide +kernel
theorem dXP_halfSource_13 : decode cXP_halfSource 13 = .ok (.imul, 1) := by decide +kernel
theorem dXP_halfSource_14 : decode cXP_halfSource 14 = .ok (.aload_n 0, 1) := by decide +kernel
theorem dXP_halfSource_15 : decode cXP_halfSource 15 = .ok (.getfield 19, 3) := by decide +kernel
theorem dXP_halfSource_18 : decode cXP_halfSource 18 = .ok (.bipush 9, 2) := by decide +kernel
theorem dXP_halfSource_20 : decode cXP_halfSource 20 = .ok (.iaload, 1) := by decide +kernel
theorem dXP_halfSource_21 : decode cXP_halfSource 21 = .ok (.iadd, 1) := by decide +kernel
theorem dXP_halfSource_22 : decode cXP_halfSource 22 = .ok (.ireturn, 1) := by decide +kernel
theorem dXP_moveLength_0 : decode cXP_moveLength 0 = .ok (.aload_n 0, 1) := by decide +kernel
theorem dXP_moveLength_1 : decode cXP_moveLength 1 = .ok (.getfield 19, 3) := by decide +kernel
theorem dXP_moveLength_4 : decode cXP_moveLength 4 = .ok (.bipush 12, 2) := by decide +kernel
theorem dXP_moveLength_6 : decode cXP_moveLength 6 = .ok (.iaload, 1) := by decide +kernel
theorem dXP_moveLength_7 : decode cXP_moveLength 7 = .ok (.sipush 256, 3) := by decide +kernel
theorem dXP_moveLength_10 : decode cXP_moveLength 10 = .ok (.imul, 1) := by decide +kernel
theorem dXP_moveLength_11 : decode cXP_moveLength 11 = .ok (.aload_n 0, 1) := by decide +kernel
theorem dXP_moveLength_12 : decode cXP_moveLength 12 = .ok (.getfield 19, 3) := by decide +kernel
theorem dXP_moveLength_15 : decode cXP_moveLength 15 = .ok (.bipush 11, 2) := by decide +kernel
theorem dXP_moveLength_17 : decode cXP_moveLength 17 = .ok (.iaload, 1) := by decide +kernel
theorem dXP_moveLength_18 : decode cXP_moveLength 18 = .ok (.iadd, 1) := by decide +kernel
theorem dXP_moveLength_19 : decode cXP_moveLength 19 = .ok (.sipush 511, 3) := by decide +kernel
theorem dXP_moveLength_22 : decode cXP_moveLength 22 = .ok (.iand, 1) := by decide +kernel
theorem dXP_moveLength_23 : decode cXP_moveLength 23 = .ok (.istore_n 1, 1) := by decide +kernel
theorem dXP_moveLength_24 : decode cXP_moveLength 24 = .ok (.iload_n 1, 1) := by decide +kernel
theorem dXP_moveLength_25 : decode cXP_moveLength 25 = .ok (.ifCond .ne 9, 3) := by decide +kernel
theorem dXP_moveLength_28 : decode cXP_moveLength 28 = .ok (.sipush 512, 3) := by decide +kernel
theorem dXP_moveLength_31 : decode cXP_moveLength 31 = .ok (.goto 4, 3) := by decide +kernel
theorem dXP_moveLength_34 : decode cXP_moveLength 34 = .ok (.iload_n 1, 1) := by decide +kernel
theorem dXP_moveLength_35 : decode cXP_moveLength 35 = .ok (.ireturn, 1) := by decide +kernel
theorem dXP_endMove_0 : decode cXP_endMove 0 = .ok (.aload_n 0, 1) := by decide +kernel
theorem dXP_endMove_1 : decode cXP_endMove 1 = .ok (.getfield 19, 3) := by decide +kernel
theorem dXP_endMove_4 : decode cXP_endMove 4 = .ok (.bipush 11, 2) := by decide +kernel
theorem dXP_endMove_6 : decode cXP_endMove 6 = .ok (.iconst 0, 1) := by decide +kernel
theorem dXP_endMove_7 : decode cXP_endMove 7 = .ok (.iastore, 1) := by decide +kernel
theorem dXP_endMove_8 : decode cXP_endMove 8 = .ok (.aload_n 0, 1) := by decide +kernel
theorem dXP_endMove_9 : decode cXP_endMove 9 = .ok (.getfield 19, 3) := by decide +kernel
theorem dXP_endMove_12 : decode cXP_endMove 12 = .ok (.bipush 12, 2) := by decide +kernel
theorem dXP_endMove_14 : decode cXP_endMove 14 = .ok (.iconst 0, 1) := by decide +kernel
theorem dXP_endMove_15 : decode cXP_endMove 15 = .ok (.iastore, 1) := by decide +kernel
theorem dXP_endMove_16 : decode cXP_endMove 16 = .ok (.return_, 1) := by decide +kernel
theorem dXP_growAddress_0 : decode cXP_growAddress 0 = .ok (.aload_n 0, 1) := by decide +kernel
theorem dXP_growAddress_1 : decode cXP_growAddress 1 = .ok (.aload_n 0, 1) := by decide +kernel
theorem dXP_growAddress_2 : decode cXP_growAddress 2 = .ok (.getfield 34, 3) := by decide +kernel
theorem dXP_growAddress_5 : decode cXP_growAddress 5 = .ok (.aload_n 0, 1) := by decide +kernel
theorem dXP_growAddress_6 : decode cXP_growAddress 6 = .ok (.getfield 19, 3) := by decide +kernel
theorem dXP_growAddress_9 : decode cXP_growAddress 9 = .ok (.bipush 14, 2) := by decide +kernel
theorem dXP_growAddress_11 : decode cXP_growAddress 11 = .ok (.iaload, 1) := by decide +kernel
theorem dXP_growAddress_12 : decode cXP_growAddress 12 = .ok (.iadd, 1) := by decide +kernel
theorem dXP_growAddress_13 : decode cXP_growAddress 13 = .ok (.ldc 75, 2) := by decide +kernel
theorem dXP_growAddress_15 : decode cXP_growAddress 15 = .ok (.iand, 1) := by decide +kernel
theorem dXP_growAddress_16 : decode cXP_growAddress 16 = .ok (.putfield 34, 3) := by decide +kernel
theorem dXP_growAddress_19 : decode cXP_growAddress 19 = .ok (.return_, 1) := by decide +kernel
theorem dXP_storeWord_0 : decode cXP_storeWord 0 = .ok (.aload_n 0, 1) := by decide +kernel
theorem dXP_storeWord_1 : decode cXP_storeWord 1 = .ok (.getfield 34, 3) := by decide +kernel
theorem dXP_storeWord_4 : decode cXP_storeWord 4 = .ok (.iconst 1, 1) := by decide +kernel
theorem dXP_storeWord_5 : decode cXP_storeWord 5 = .ok (.ishr, 1) := by decide +kernel
theorem dXP_storeWord_6 : decode cXP_storeWord 6 = .ok (.istore_n 2, 1) := by decide +kernel
theorem dXP_storeWord_7 : decode cXP_storeWord 7 = .ok (.aload_n 0, 1) := by decide +kernel
theorem dXP_storeWord_8 : decode cXP_storeWord 8 = .ok (.getfield 37, 3) := by decide +kernel
theorem dXP_storeWord_11 : decode cXP_storeWord 11 = .ok (.bipush 15, 2) := by decide +kernel
theorem dXP_storeWord_13 : decode cXP_storeWord 13 = .ok (.iand, 1) := by decide +kernel
theorem dXP_storeWord_14 : decode cXP_storeWord 14 = .ok (.tableswitch 99 1 5 #[34, 99, 74, 99, 87], 34) := by decide +kernel
theorem dXP_storeWord_48 : decode cXP_storeWord 48 = .ok (.aload_n 0, 1) := by decide +kernel
theorem dXP_storeWord_49 : decode cXP_storeWord 49 = .ok (.getfield 7, 3) := by decide +kernel
theorem dXP_storeWord_52 : decode cXP_storeWord 52 = .ok (.aload_n 0, 1) := by decide +kernel
theorem dXP_storeWord_53 : decode cXP_storeWord 53 = .ok (.getfield 34, 3) := by decide +kernel
theorem dXP_storeWord_56 : decode cXP_storeWord 56 = .ok (.sipush 1023, 3) := by decide +kernel
theorem dXP_storeWord_59 : decode cXP_storeWord 59 = .ok (.iand, 1) := by decide +kernel
theorem dXP_storeWord_60 : decode cXP_storeWord 60 = .ok (.iload_n 1, 1) := by decide +kernel
theorem dXP_storeWord_61 : decode cXP_storeWord 61 = .ok (.bipush 8, 2) := by decide +kernel
theorem dXP_storeWord_63 : decode cXP_storeWord 63 = .ok (.ishr, 1) := by decide +kernel
theorem dXP_storeWord_64 : decode cXP_storeWord 64 = .ok (.iastore, 1) := by decide +kernel
theorem dXP_storeWord_65 : decode cXP_storeWord 65 = .ok (.aload_n 0, 1) := by decide +kernel
theorem dXP_storeWord_66 : decode cXP_storeWord 66 = .ok (.getfield 7, 3) := by decide +kernel
theorem dXP_storeWord_69 : decode cXP_storeWord 69 = .ok (.aload_n 0, 1) := by decide +kernel
theorem dXP_storeWord_70 : decode cXP_storeWord 70 = .ok (.getfield 34, 3) := by decide +kernel
theorem dXP_storeWord_73 : decode cXP_storeWord 73 = .ok (.iconst 1, 1) := by decide +kernel
theorem dXP_storeWord_74 : decode cXP_storeWord 74 = .ok (.ixor, 1) := by decide +kernel
theorem dXP_storeWord_75 : decode cXP_storeWord 75 = .ok (.sipush 1023, 3) := by decide +kernel
theorem dXP_storeWord_78 : decode cXP_storeWord 78 = .ok (.iand, 1) := by decide +kernel
theorem dXP_storeWord_79 : decode cXP_storeWord 79 = .ok (.iload_n 1, 1) := by decide +kernel
theorem dXP_storeWord_80 : decode cXP_storeWord 80 = .ok (.sipush 255, 3) := by decide +kernel
theorem dXP_storeWord_83 : decode cXP_storeWord 83 = .ok (.iand, 1) := by decide +kernel
theorem dXP_storeWord_84 : decode cXP_storeWord 84 = .ok (.iastore, 1) := by decide +kernel
theorem dXP_storeWord_85 : decode cXP_storeWord 85 = .ok (.goto 28, 3) := by decide +kernel
theorem dXP_storeWord_88 : decode cXP_storeWord 88 = .ok (.aload_n 0, 1) := by decide +kernel
theorem dXP_storeWord_89 : decode cXP_storeWord 89 = .ok (.getfield 13, 3) := by decide +kernel
theorem dXP_storeWord_92 : decode cXP_storeWord 92 = .ok (.iload_n 2, 1) := by decide +kernel
theorem dXP_storeWord_93 : decode cXP_storeWord 93 = .ok (.bipush 15, 2) := by decide +kernel
theorem dXP_storeWord_95 : decode cXP_storeWord 95 = .ok (.iand, 1) := by decide +kernel
theorem dXP_storeWord_96 : decode cXP_storeWord 96 = .ok (.iload_n 1, 1) := by decide +kernel
theorem dXP_storeWord_97 : decode cXP_storeWord 97 = .ok (.iastore, 1) := by decide +kernel
theorem dXP_storeWord_98 : decode cXP_storeWord 98 = .ok (.goto 15, 3) := by decide +kernel
theorem dXP_storeWord_101 : decode cXP_storeWord 101 = .ok (.aload_n 0, 1) := by decide +kernel
theorem dXP_storeWord_102 : decode cXP_storeWord 102 = .ok (.getfield 16, 3) := by decide +kernel
theorem dXP_storeWord_105 : decode cXP_storeWord 105 = .ok (.iload_n 2, 1) := by decide +kernel
theorem dXP_storeWord_106 : decode cXP_storeWord 106 = .ok (.iconst 1, 1) := by decide +kernel
theorem dXP_storeWord_107 : decode cXP_storeWord 107 = .ok (.iand, 1) := by decide +kernel
theorem dXP_storeWord_108 : decode cXP_storeWord 108 = .ok (.iload_n 1, 1) := by decide +kernel
theorem dXP_storeWord_109 : decode cXP_storeWord 109 = .ok (.iastore, 1) := by decide +kernel
theorem dXP_storeWord_110 : decode cXP_storeWord 110 = .ok (.goto 3, 3) := by decide +kernel
theorem dXP_storeWord_113 : decode cXP_storeWord 113 = .ok (.aload_n 0, 1) := by decide +kernel
theorem dXP_storeWord_114 : decode cXP_storeWord 114 = .ok (.invokevirtual 67, 3) := by decide +kernel
theorem dXP_storeWord_117 : decode cXP_storeWord 117 = .ok (.return_, 1) := by decide +kernel
theorem dXP_fill_0 : decode cXP_fill 0 = .ok (.iconst 0, 1) := by decide +kernel
theorem dXP_fill_1 : decode cXP_fill 1 = .ok (.istore_n 3, 1) := by decide +kernel
theorem dXP_fill_2 : decode cXP_fill 2 = .ok (.iload_n 3, 1) := by decide +kernel
theorem dXP_fill_3 : decode cXP_fill 3 = .ok (.iload_n 2, 1) := by decide +kernel
theorem dXP_fill_4 : decode cXP_fill 4 = .ok (.if_icmp .ge 29, 3) := by decide +kernel
theorem dXP_fill_7 : decode cXP_fill 7 = .ok (.aload_n 0, 1) := by decide +kernel
theorem dXP_fill_8 : decode cXP_fill 8 = .ok (.getfield 7, 3) := by decide +kernel
theorem dXP_fill_11 : decode cXP_fill 11 = .ok (.aload_n 0, 1) := by decide +kernel
theorem dXP_fill_12 : decode cXP_fill 12 = .ok (.getfield 34, 3) := by decide +kernel
theorem dXP_fill_15 : decode cXP_fill 15 = .ok (.iconst 1, 1) := by decide +kernel
theorem dXP_fill_16 : decode cXP_fill 16 = .ok (.ixor, 1) := by decide +kernel
theorem dXP_fill_17 : decode cXP_fill 17 = .ok (.sipush 1023, 3) := by decide +kernel
theorem dXP_fill_20 : decode cXP_fill 20 = .ok (.iand, 1) := by decide +kernel
theorem dXP_fill_21 : decode cXP_fill 21 = .ok (.iload_n 1, 1) := by decide +kernel
theorem dXP_fill_22 : decode cXP_fill 22 = .ok (.iastore, 1) := by decide +kernel
theorem dXP_fill_23 : decode cXP_fill 23 = .ok (.aload_n 0, 1) := by decide +kernel
theorem dXP_fill_24 : decode cXP_fill 24 = .ok (.invokevirtual 67, 3) := by decide +kernel
theorem dXP_fill_27 : decode cXP_fill 27 = .ok (.iinc 3 1, 3) := by decide +kernel
theorem dXP_fill_30 : decode cXP_fill 30 = .ok (.goto (-28), 3) := by decide +kernel
theorem dXP_fill_33 : decode cXP_fill 33 = .ok (.aload_n 0, 1) := by decide +kernel
theorem dXP_fill_34 : decode cXP_fill 34 = .ok (.invokevirtual 71, 3) := by decide +kernel
theorem dXP_fill_37 : decode cXP_fill 37 = .ok (.return_, 1) := by decide +kernel
theorem dXP_copy_0 : decode cXP_copy 0 = .ok (.aload_n 0, 1) := by decide +kernel
theorem dXP_copy_1 : decode cXP_copy 1 = .ok (.invokevirtual 50, 3) := by decide +kernel
theorem dXP_copy_4 : decode cXP_copy 4 = .ok (.istore_n 2, 1) := by decide +kernel
theorem dXP_copy_5 : decode cXP_copy 5 = .ok (.iconst 0, 1) := by decide +kernel
theorem dXP_copy_6 : decode cXP_copy 6 = .ok (.istore_n 3, 1) := by decide +kernel
theorem dXP_copy_7 : decode cXP_copy 7 = .ok (.iload_n 3, 1) := by decide +kernel
theorem dXP_copy_8 : decode cXP_copy 8 = .ok (.iload_n 1, 1) := by decide +kernel
theorem dXP_copy_9 : decode cXP_copy 9 = .ok (.if_icmp .ge 38, 3) := by decide +kernel
theorem dXP_copy_12 : decode cXP_copy 12 = .ok (.aload_n 0, 1) := by decide +kernel
theorem dXP_copy_13 : decode cXP_copy 13 = .ok (.getfield 7, 3) := by decide +kernel
theorem dXP_copy_16 : decode cXP_copy 16 = .ok (.aload_n 0, 1) := by decide +kernel
theorem dXP_copy_17 : decode cXP_copy 17 = .ok (.getfield 34, 3) := by decide +kernel
theorem dXP_copy_20 : decode cXP_copy 20 = .ok (.sipush 1023, 3) := by decide +kernel
theorem dXP_copy_23 : decode cXP_copy 23 = .ok (.iand, 1) := by decide +kernel
theorem dXP_copy_24 : decode cXP_copy 24 = .ok (.aload_n 0, 1) := by decide +kernel
theorem dXP_copy_25 : decode cXP_copy 25 = .ok (.getfield 7, 3) := by decide +kernel
theorem dXP_copy_28 : decode cXP_copy 28 = .ok (.iload_n 2, 1) := by decide +kernel
theorem dXP_copy_29 : decode cXP_copy 29 = .ok (.iload_n 3, 1) := by decide +kernel
theorem dXP_copy_30 : decode cXP_copy 30 = .ok (.iadd, 1) := by decide +kernel
theorem dXP_copy_31 : decode cXP_copy 31 = .ok (.sipush 1023, 3) := by decide +kernel
theorem dXP_copy_34 : decode cXP_copy 34 = .ok (.iand, 1) := by decide +kernel
theorem dXP_copy_35 : decode cXP_copy 35 = .ok (.iaload, 1) := by decide +kernel
theorem dXP_copy_36 : decode cXP_copy 36 = .ok (.iastore, 1) := by decide +kernel
theorem dXP_copy_37 : decode cXP_copy 37 = .ok (.aload_n 0, 1) := by decide +kernel
theorem dXP_copy_38 : decode cXP_copy 38 = .ok (.invokevirtual 67, 3) := by decide +kernel
theorem dXP_copy_41 : decode cXP_copy 41 = .ok (.iinc 3 1, 3) := by decide +kernel
theorem dXP_copy_44 : decode cXP_copy 44 = .ok (.goto (-37), 3) := by decide +kernel
theorem dXP_copy_47 : decode cXP_copy 47 = .ok (.aload_n 0, 1) := by decide +kernel
theorem dXP_copy_48 : decode cXP_copy 48 = .ok (.invokevirtual 71, 3) := by decide +kernel
theorem dXP_copy_51 : decode cXP_copy 51 = .ok (.return_, 1) := by decide +kernel
theorem dXS_init_0 : decode cXS_init 0 = .ok (.aload_n 0, 1) := by decide +kernel
theorem dXS_init_1 : decode cXS_init 1 = .ok (.invokespecial 1, 3) := by decide +kernel
theorem dXS_init_4 : decode cXS_init 4 = .ok (.aload_n 0, 1) := by decide +kernel
theorem dXS_init_5 : decode cXS_init 5 = .ok (.aload_n 1, 1) := by decide +kernel
theorem dXS_init_6 : decode cXS_init 6 = .ok (.putfield 7, 3) := by decide +kernel
theorem dXS_init_9 : decode cXS_init 9 = .ok (.aload_n 0, 1) := by decide +kernel
theorem dXS_init_10 : decode cXS_init 10 = .ok (.sipush 128, 3) := by decide +kernel
theorem dXS_init_13 : decode cXS_init 13 = .ok (.newarray .int, 2) := by decide +kernel
theorem dXS_init_15 : decode cXS_init 15 = .ok (.putfield 13, 3) := by decide +kernel
theorem dXS_init_18 : decode cXS_init 18 = .ok (.aload_n 0, 1) := by decide +kernel
theorem dXS_init_19 : decode cXS_init 19 = .ok (.iconst 1, 1) := by decide +kernel
theorem dXS_init_20 : decode cXS_init 20 = .ok (.putfield 16, 3) := by decide +kernel
theorem dXS_init_23 : decode cXS_init 23 = .ok (.return_, 1) := by decide +kernel
theorem dXS_stands_0 : decode cXS_stands 0 = .ok (.aload_n 0, 1) := by decide +kernel
theorem dXS_stands_1 : decode cXS_stands 1 = .ok (.getfield 20, 3) := by decide +kernel
theorem dXS_stands_4 : decode cXS_stands 4 = .ok (.ifCond .ne 10, 3) := by decide +kernel
theorem dXS_stands_7 : decode cXS_stands 7 = .ok (.aload_n 0, 1) := by decide +kernel
theorem dXS_stands_8 : decode cXS_stands 8 = .ok (.getfield 16, 3) := by decide +kernel
theorem dXS_stands_11 : decode cXS_stands 11 = .ok (.ifCond .eq 7, 3) := by decide +kernel
theorem dXS_stands_14 : decode cXS_stands 14 = .ok (.iconst 1, 1) := by decide +kernel
theorem dXS_stands_15 : decode cXS_stands 15 = .ok (.goto 4, 3) := by decide +kernel
theorem dXS_stands_18 : decode cXS_stands 18 = .ok (.iconst 0, 1) := by decide +kernel
theorem dXS_stands_19 : decode cXS_stands 19 = .ok (.ireturn, 1) := by decide +kernel
theorem dXS_stateBits_0 : decode cXS_stateBits 0 = .ok (.aload_n 0, 1) := by decide +kernel
theorem dXS_stateBits_1 : decode cXS_stateBits 1 = .ok (.getfield 23, 3) := by decide +kernel
theorem dXS_stateBits_4 : decode cXS_stateBits 4 = .ok (.ifCond .eq 7, 3) := by decide +kernel
theorem dXS_stateBits_7 : decode cXS_stateBits 7 = .ok (.iconst 1, 1) := by decide +kernel
theorem dXS_stateBits_8 : decode cXS_stateBits 8 = .ok (.goto 4, 3) := by decide +kernel
theorem dXS_stateBits_11 : decode cXS_stateBits 11 = .ok (.iconst 0, 1) := by decide +kernel
theorem dXS_stateBits_12 : decode cXS_stateBits 12 = .ok (.aload_n 0, 1) := by decide +kernel
theorem dXS_stateBits_13 : decode cXS_stateBits 13 = .ok (.getfield 26, 3) := by decide +kernel
theorem dXS_stateBits_16 : decode cXS_stateBits 16 = .ok (.ifCond .eq 7, 3) := by decide +kernel
theorem dXS_stateBits_19 : decode cXS_stateBits 19 = .ok (.iconst 2, 1) := by decide +kernel
theorem dXS_stateBits_20 : decode cXS_stateBits 20 = .ok (.goto 4, 3) := by decide +kernel
theorem dXS_stateBits_23 : decode cXS_stateBits 23 = .ok (.iconst 0, 1) := by decide +kernel
theorem dXS_stateBits_24 : decode cXS_stateBits 24 = .ok (.iadd, 1) := by decide +kernel
theorem dXS_stateBits_25 : decode cXS_stateBits 25 = .ok (.aload_n 0, 1) := by decide +kernel
theorem dXS_stateBits_26 : decode cXS_stateBits 26 = .ok (.getfield 29, 3) := by decide +kernel
theorem dXS_stateBits_29 : decode cXS_stateBits 29 = .ok (.ifCond .eq 7, 3) := by decide +kernel
theorem dXS_stateBits_32 : decode cXS_stateBits 32 = .ok (.iconst 4, 1) := by decide +kernel
theorem dXS_stateBits_33 : decode cXS_stateBits 33 = .ok (.goto 4, 3) := by decide +kernel
theorem dXS_stateBits_36 : decode cXS_stateBits 36 = .ok (.iconst 0, 1) := by decide +kernel
theorem dXS_stateBits_37 : decode cXS_stateBits 37 = .ok (.iadd, 1) := by decide +kernel
theorem dXS_stateBits_38 : decode cXS_stateBits 38 = .ok (.aload_n 0, 1) := by decide +kernel
theorem dXS_stateBits_39 : decode cXS_stateBits 39 = .ok (.getfield 20, 3) := by decide +kernel
theorem dXS_stateBits_42 : decode cXS_stateBits 42 = .ok (.ifCond .eq 8, 3) := by decide +kernel
theorem dXS_stateBits_45 : decode cXS_stateBits 45 = .ok (.bipush 8, 2) := by decide +kernel
theorem dXS_stateBits_47 : decode cXS_stateBits 47 = .ok (.goto 4, 3) := by decide +kernel
theorem dXS_stateBits_50 : decode cXS_stateBits 50 = .ok (.iconst 0, 1) := by decide +kernel
theorem dXS_stateBits_51 : decode cXS_stateBits 51 = .ok (.iadd, 1) := by decide +kernel
theorem dXS_stateBits_52 : decode cXS_stateBits 52 = .ok (.aload_n 0, 1) := by decide +kernel
theorem dXS_stateBits_53 : decode cXS_stateBits 53 = .ok (.getfield 16, 3) := by decide +kernel
theorem dXS_stateBits_56 : decode cXS_stateBits 56 = .ok (.ifCond .eq 8, 3) := by decide +kernel
theorem dXS_stateBits_59 : decode cXS_stateBits 59 = .ok (.bipush 16, 2) := by decide +kernel
theorem dXS_stateBits_61 : decode cXS_stateBits 61 = .ok (.goto 4, 3) := by decide +kernel
theorem dXS_stateBits_64 : decode cXS_stateBits 64 = .ok (.iconst 0, 1) := by decide +kernel
theorem dXS_stateBits_65 : decode cXS_stateBits 65 = .ok (.iadd, 1) := by decide +kernel
theorem dXS_stateBits_66 : decode cXS_stateBits 66 = .ok (.ireturn, 1) := by decide +kernel
theorem dXS_takeMainLate_0 : decode cXS_takeMainLate 0 = .ok (.aload_n 0, 1) := by decide +kernel
theorem dXS_takeMainLate_1 : decode cXS_takeMainLate 1 = .ok (.getfield 32, 3) := by decide +kernel
theorem dXS_takeMainLate_4 : decode cXS_takeMainLate 4 = .ok (.istore_n 1, 1) := by decide +kernel
theorem dXS_takeMainLate_5 : decode cXS_takeMainLate 5 = .ok (.aload_n 0, 1) := by decide +kernel
theorem dXS_takeMainLate_6 : decode cXS_takeMainLate 6 = .ok (.iconst 0, 1) := by decide +kernel
theorem dXS_takeMainLate_7 : decode cXS_takeMainLate 7 = .ok (.putfield 32, 3) := by decide +kernel
theorem dXS_takeMainLate_10 : decode cXS_takeMainLate 10 = .ok (.iload_n 1, 1) := by decide +kernel
theorem dXS_takeMainLate_11 : decode cXS_takeMainLate 11 = .ok (.ireturn, 1) := by decide +kernel
theorem dXS_setReset_0 : decode cXS_setReset 0 = .ok (.aload_n 0, 1) := by decide +kernel
theorem dXS_setReset_1 : decode cXS_setReset 1 = .ok (.getfield 16, 3) := by decide +kernel
theorem dXS_setReset_4 : decode cXS_setReset 4 = .ok (.ifCond .eq 47, 3) := by decide +kernel
theorem dXS_setReset_7 : decode cXS_setReset 7 = .ok (.iload_n 1, 1) := by decide +kernel
theorem dXS_setReset_8 : decode cXS_setReset 8 = .ok (.ifCond .ne 43, 3) := by decide +kernel
theorem dXS_setReset_11 : decode cXS_setReset 11 = .ok (.aload_n 0, 1) := by decide +kernel
theorem dXS_setReset_12 : decode cXS_setReset 12 = .ok (.iconst 0, 1) := by decide +kernel
theorem dXS_setReset_13 : decode cXS_setReset 13 = .ok (.putfield 36, 3) := by decide +kernel
theorem dXS_setReset_16 : decode cXS_setReset 16 = .ok (.aload_n 0, 1) := by decide +kernel
theorem dXS_setReset_17 : decode cXS_setReset 17 = .ok (.iconst 0, 1) := by decide +kernel
theorem dXS_setReset_18 : decode cXS_setReset 18 = .ok (.putfield 39, 3) := by decide +kernel
theorem dXS_setReset_21 : decode cXS_setReset 21 = .ok (.aload_n 0, 1) := by decide +kernel
theorem dXS_setReset_22 : decode cXS_setReset 22 = .ok (.iconst 0, 1) := by decide +kernel
theorem dXS_setReset_23 : decode cXS_setReset 23 = .ok (.putfield 42, 3) := by decide +kernel
theorem dXS_setReset_26 : decode cXS_setReset 26 = .ok (.aload_n 0, 1) := by decide +kernel
theorem dXS_setReset_27 : decode cXS_setReset 27 = .ok (.iconst 0, 1) := by decide +kernel
theorem dXS_setReset_28 : decode cXS_setReset 28 = .ok (.putfield 45, 3) := by decide +kernel
theorem dXS_setReset_31 : decode cXS_setReset 31 = .ok (.aload_n 0, 1) := by decide +kernel
theorem dXS_setReset_32 : decode cXS_setReset 32 = .ok (.iconst 0, 1) := by decide +kernel
theorem dXS_setReset_33 : decode cXS_setReset 33 = .ok (.putfield 23, 3) := by decide +kernel
theorem dXS_setReset_36 : decode cXS_setReset 36 = .ok (.aload_n 0, 1) := by decide +kernel
theorem dXS_setReset_37 : decode cXS_setReset 37 = .ok (.iconst 0, 1) := by decide +kernel
theorem dXS_setReset_38 : decode cXS_setReset 38 = .ok (.putfield 26, 3) := by decide +kernel
theorem dXS_setReset_41 : decode cXS_setReset 41 = .ok (.aload_n 0, 1) := by decide +kernel
theorem dXS_setReset_42 : decode cXS_setReset 42 = .ok (.iconst 0, 1) := by decide +kernel
theorem dXS_setReset_43 : decode cXS_setReset 43 = .ok (.putfield 29, 3) := by decide +kernel
theorem dXS_setReset_46 : decode cXS_setReset 46 = .ok (.aload_n 0, 1) := by decide +kernel
theorem dXS_setReset_47 : decode cXS_setReset 47 = .ok (.iconst 0, 1) := by decide +kernel
theorem dXS_setReset_48 : decode cXS_setReset 48 = .ok (.putfield 48, 3) := by decide +kernel
theorem dXS_setReset_51 : decode cXS_setReset 51 = .ok (.aload_n 0, 1) := by decide +kernel
theorem dXS_setReset_52 : decode cXS_setReset 52 = .ok (.iload_n 1, 1) := by decide +kernel
theorem dXS_setReset_53 : decode cXS_setReset 53 = .ok (.putfield 16, 3) := by decide +kernel
theorem dXS_setReset_56 : decode cXS_setReset 56 = .ok (.return_, 1) := by decide +kernel
theorem dXS_tellLine8_0 : decode cXS_tellLine8 0 = .ok (.aload_n 0, 1) := by decide +kernel
theorem dXS_tellLine8_1 : decode cXS_tellLine8 1 = .ok (.invokevirtual 51, 3) := by decide +kernel
theorem dXS_tellLine8_4 : decode cXS_tellLine8 4 = .ok (.ifCond .ne 10, 3) := by decide +kernel
theorem dXS_tellLine8_7 : decode cXS_tellLine8 7 = .ok (.aload_n 0, 1) := by decide +kernel
theorem dXS_tellLine8_8 : decode cXS_tellLine8 8 = .ok (.getfield 29, 3) := by decide +kernel
theorem dXS_tellLine8_11 : decode cXS_tellLine8 11 = .ok (.ifCond .ne 4, 3) := by decide +kernel
theorem dXS_tellLine8_14 : decode cXS_tellLine8 14 = .ok (.return_, 1) := by decide +kernel
theorem dXS_tellLine8_15 : decode cXS_tellLine8 15 = .ok (.aload_n 0, 1) := by decide +kernel
theorem dXS_tellLine8_16 : decode cXS_tellLine8 16 = .ok (.aload_n 0, 1) := by decide +kernel
theorem dXS_tellLine8_17 : decode cXS_tellLine8 17 = .ok (.getfield 45, 3) := by decide +kernel
theorem dXS_tellLine8_20 : decode cXS_tellLine8 20 = .ok (.sipush 255, 3) := by decide +kernel
theorem dXS_tellLine8_23 : decode cXS_tellLine8 23 = .ok (.iand, 1) := by decide +kernel
theorem dXS_tellLine8_24 : decode cXS_tellLine8 24 = .ok (.putfield 42, 3) := by decide +kernel
theorem dXS_tellLine8_27 : decode cXS_tellLine8 27 = .ok (.aload_n 0, 1) := by decide +kernel
theorem dXS_tellLine8_28 : decode cXS_tellLine8 28 = .ok (.bipush 56, 2) := by decide +kernel
theorem dXS_tellLine8_30 : decode cXS_tellLine8 30 = .ok (.putfield 45, 3) := by decide +kernel
theorem dXS_tellLine8_33 : decode cXS_tellLine8 33 = .ok (.aload_n 0, 1) := by decide +kernel
theorem dXS_tellLine8_34 : decode cXS_tellLine8 34 = .ok (.iconst 0, 1) := by decide +kernel
theorem dXS_tellLine8_35 : decode cXS_tellLine8 35 = .ok (.putfield 29, 3) := by decide +kernel
theorem dXS_tellLine8_38 : decode cXS_tellLine8 38 = .ok (.aload_n 0, 1) := by decide +kernel
theorem dXS_tellLine8_39 : decode cXS_tellLine8 39 = .ok (.iconst 0, 1) := by decide +kernel
theorem dXS_tellLine8_40 : decode cXS_tellLine8 40 = .ok (.putfield 26, 3) := by decide +kernel
theorem dXS_tellLine8_43 : decode cXS_tellLine8 43 = .ok (.aload_n 0, 1) := by decide +kernel
theorem dXS_tellLine8_44 : decode cXS_tellLine8 44 = .ok (.dup, 1) := by decide +kernel
theorem dXS_tellLine8_45 : decode cXS_tellLine8 45 = .ok (.getfield 48, 3) := by decide +kernel
theorem dXS_tellLine8_48 : decode cXS_tellLine8 48 = .ok (.bipush 13, 2) := by decide +kernel
theorem dXS_tellLine8_50 : decode cXS_tellLine8 50 = .ok (.isub, 1) := by decide +kernel
theorem dXS_tellLine8_51 : decode cXS_tellLine8 51 = .ok (.putfield 48, 3) := by decide +kernel
theorem dXS_tellLine8_54 : decode cXS_tellLine8 54 = .ok (.return_, 1) := by decide +kernel
theorem dXS_give_0 : decode cXS_give 0 = .ok (.aload_n 0, 1) := by decide +kernel
theorem dXS_give_1 : decode cXS_give 1 = .ok (.invokevirtual 51, 3) := by decide +kernel
theorem dXS_give_4 : decode cXS_give 4 = .ok (.ifCond .eq 4, 3) := by decide +kernel
theorem dXS_give_7 : decode cXS_give 7 = .ok (.return_, 1) := by decide +kernel
theorem dXS_give_8 : decode cXS_give 8 = .ok (.aload_n 0, 1) := by decide +kernel
theorem dXS_give_9 : decode cXS_give 9 = .ok (.dup, 1) := by decide +kernel
theorem dXS_give_10 : decode cXS_give 10 = .ok (.getfield 48, 3) := by decide +kernel
theorem dXS_give_13 : decode cXS_give 13 = .ok (.iload_n 1, 1) := by decide +kernel
theorem dXS_give_14 : decode cXS_give 14 = .ok (.iadd, 1) := by decide +kernel
theorem dXS_give_15 : decode cXS_give 15 = .ok (.putfield 48, 3) := by decide +kernel
theorem dXS_give_18 : decode cXS_give 18 = .ok (.iconst 0, 1) := by decide +kernel
theorem dXS_give_19 : decode cXS_give 19 = .ok (.istore_n 2, 1) := by decide +kernel
theorem dXS_give_20 : decode cXS_give 20 = .ok (.iload_n 2, 1) := by decide +kernel
theorem dXS_give_21 : decode cXS_give 21 = .ok (.iload_n 1, 1) := by decide +kernel
theorem dXS_give_22 : decode cXS_give 22 = .ok (.if_icmp .ge 42, 3) := by decide +kernel
theorem dXS_give_25 : decode cXS_give 25 = .ok (.aload_n 0, 1) := by decide +kernel
theorem dXS_give_26 : decode cXS_give 26 = .ok (.getfield 48, 3) := by decide +kernel
theorem dXS_give_29 : decode cXS_give 29 = .ok (.ifCond .le 35, 3) := by decide +kernel
theorem dXS_give_32 : decode cXS_give 32 = .ok (.aload_n 0, 1) := by decide +kernel
theorem dXS_give_33 : decode cXS_give 33 = .ok (.getfield 26, 3) := by decide +kernel
theorem dXS_give_36 : decode cXS_give 36 = .ok (.ifCond .eq 7, 3) := by decide +kernel
theorem dXS_give_39 : decode cXS_give 39 = .ok (.iconst 4, 1) := by decide +kernel
theorem dXS_give_40 : decode cXS_give 40 = .ok (.goto 7, 3) := by decide +kernel
theorem dXS_give_43 : decode cXS_give 43 = .ok (.aload_n 0, 1) := by decide +kernel
theorem dXS_give_44 : decode cXS_give 44 = .ok (.invokevirtual 55, 3) := by decide +kernel
theorem dXS_give_47 : decode cXS_give 47 = .ok (.istore_n 3, 1) := by decide +kernel
theorem dXS_give_48 : decode cXS_give 48 = .ok (.aload_n 0, 1) := by decide +kernel
theorem dXS_give_49 : decode cXS_give 49 = .ok (.dup, 1) := by decide +kernel
theorem dXS_give_50 : decode cXS_give 50 = .ok (.getfield 48, 3) := by decide +kernel
theorem dXS_give_53 : decode cXS_give 53 = .ok (.iload_n 3, 1) := by decide +kernel
theorem dXS_give_54 : decode cXS_give 54 = .ok (.isub, 1) := by decide +kernel
theorem dXS_give_55 : decode cXS_give 55 = .ok (.putfield 48, 3) := by decide +kernel
theorem dXS_give_58 : decode cXS_give 58 = .ok (.iinc 2 1, 3) := by decide +kernel
theorem dXS_give_61 : decode cXS_give 61 = .ok (.goto (-41), 3) := by decide +kernel
theorem dXS_give_64 : decode cXS_give 64 = .ok (.return_, 1) := by decide +kernel
theorem dXS_instruct_0 : decode cXS_instruct 0 = .ok (.aload_n 0, 1) := by decide +kernel
theorem dXS_instruct_1 : decode cXS_instruct 1 = .ok (.invokevirtual 59, 3) := by decide +kernel
theorem dXS_instruct_4 : decode cXS_instruct 4 = .ok (.lookupswitch 288 #[(32, 169), (50, 143), (58, 154), (60, 231), (61, 256), (62, 132), (71, 201), (103, 221), (118, 267), (120, 211), (128, 242), (195, 179), (201, 190), (243, 281), (251, 274)], 132) := by decide +kernel
theorem dXS_instruct_136 : decode cXS_instruct 136 = .ok (.aload_n 0, 1) := by decide +kernel
theorem dXS_instruct_137 : decode cXS_instruct 137 = .ok (.aload_n 0, 1) := by decide +kernel
theorem dXS_instruct_138 : decode cXS_instruct 138 = .ok (.invokevirtual 59, 3) := by decide +kernel
theorem dXS_instruct_141 : decode cXS_instruct 141 = .ok (.putfield 36, 3) := by decide +kernel
theorem dXS_instruct_144 : decode cXS_instruct 144 = .ok (.bipush 7, 2) := by decide +kernel
theorem dXS_instruct_146 : decode cXS_instruct 146 = .ok (.ireturn, 1) := by decide +kernel
theorem dXS_instruct_147 : decode cXS_instruct 147 = .ok (.aload_n 0, 1) := by decide +kernel
theorem dXS_instruct_148 : decode cXS_instruct 148 = .ok (.aload_n 0, 1) := by decide +kernel
theorem dXS_instruct_149 : decode cXS_instruct 149 = .ok (.invokevirtual 62, 3) := by decide +kernel
theorem dXS_instruct_152 : decode cXS_instruct 152 = .ok (.invokevirtual 65, 3) := by decide +kernel
theorem dXS_instruct_155 : decode cXS_instruct 155 = .ok (.bipush 13, 2) := by decide +kernel
theorem dXS_instruct_157 : decode cXS_instruct 157 = .ok (.ireturn, 1) := by decide +kernel
theorem dXS_instruct_158 : decode cXS_instruct 158 = .ok (.aload_n 0, 1) := by decide +kernel
theorem dXS_instruct_159 : decode cXS_instruct 159 = .ok (.aload_n 0, 1) := by decide +kernel
theorem dXS_instruct_160 : decode cXS_instruct 160 = .ok (.aload_n 0, 1) := by decide +kernel
theorem dXS_instruct_161 : decode cXS_instruct 161 = .ok (.invokevirtual 62, 3) := by decide +kernel
theorem dXS_instruct_164 : decode cXS_instruct 164 = .ok (.invokevirtual 69, 3) := by decide +kernel
theorem dXS_instruct_167 : decode cXS_instruct 167 = .ok (.putfield 36, 3) := by decide +kernel
theorem dXS_instruct_170 : decode cXS_instruct 170 = .ok (.bipush 13, 2) := by decide +kernel
theorem dXS_instruct_172 : decode cXS_instruct 172 = .ok (.ireturn, 1) := by decide +kernel
theorem dXS_instruct_173 : decode cXS_instruct 173 = .ok (.aload_n 0, 1) := by decide +kernel
theorem dXS_instruct_174 : decode cXS_instruct 174 = .ok (.aload_n 0, 1) := by decide +kernel
theorem dXS_instruct_175 : decode cXS_instruct 175 = .ok (.invokevirtual 59, 3) := by decide +kernel
theorem dXS_instruct_178 : decode cXS_instruct 178 = .ok (.i2b, 1) := by decide +kernel
theorem dXS_instruct_179 : decode cXS_instruct 179 = .ok (.invokevirtual 73, 3) := by decide +kernel
theorem dXS_instruct_182 : decode cXS_instruct 182 = .ok (.ireturn, 1) := by decide +kernel
theorem dXS_instruct_183 : decode cXS_instruct 183 = .ok (.aload_n 0, 1) := by decide +kernel
theorem dXS_instruct_184 : decode cXS_instruct 184 = .ok (.aload_n 0, 1) := by decide +kernel
theorem dXS_instruct_185 : decode cXS_instruct 185 = .ok (.invokevirtual 62, 3) := by decide +kernel
theorem dXS_instruct_188 : decode cXS_instruct 188 = .ok (.putfield 45, 3) := by decide +kernel
theorem dXS_instruct_191 : decode cXS_instruct 191 = .ok (.bipush 10, 2) := by decide +kernel
theorem dXS_instruct_193 : decode cXS_instruct 193 = .ok (.ireturn, 1) := by decide +kernel
theorem dXS_instruct_194 : decode cXS_instruct 194 = .ok (.aload_n 0, 1) := by decide +kernel
theorem dXS_instruct_195 : decode cXS_instruct 195 = .ok (.aload_n 0, 1) := by decide +kernel
theorem dXS_instruct_196 : decode cXS_instruct 196 = .ok (.getfield 42, 3) := by decide +kernel
theorem dXS_instruct_199 : decode cXS_instruct 199 = .ok (.putfield 45, 3) := by decide +kernel
theorem dXS_instruct_202 : decode cXS_instruct 202 = .ok (.bipush 10, 2) := by decide +kernel
theorem dXS_instruct_204 : decode cXS_instruct 204 = .ok (.ireturn, 1) := by decide +kernel
theorem dXS_instruct_205 : decode cXS_instruct 205 = .ok (.aload_n 0, 1) := by decide +kernel
theorem dXS_instruct_206 : decode cXS_instruct 206 = .ok (.aload_n 0, 1) := by decide +kernel
theorem dXS_instruct_207 : decode cXS_instruct 207 = .ok (.getfield 36, 3) := by decide +kernel
theorem dXS_instruct_210 : decode cXS_instruct 210 = .ok (.putfield 39, 3) := by decide +kernel
theorem dXS_instruct_213 : decode cXS_instruct 213 = .ok (.iconst 4, 1) := by decide +kernel
theorem dXS_instruct_214 : decode cXS_instruct 214 = .ok (.ireturn, 1) := by decide +kernel
theorem dXS_instruct_215 : decode cXS_instruct 215 = .ok (.aload_n 0, 1) := by decide +kernel
theorem dXS_instruct_216 : decode cXS_instruct 216 = .ok (.aload_n 0, 1) := by decide +kernel
theorem dXS_instruct_217 : decode cXS_instruct 217 = .ok (.getfield 39, 3) := by decide +kernel
theorem dXS_instruct_220 : decode cXS_instruct 220 = .ok (.putfield 36, 3) := by decide +kernel
theorem dXS_instruct_223 : decode cXS_instruct 223 = .ok (.iconst 4, 1) := by decide +kernel
theorem dXS_instruct_224 : decode cXS_instruct 224 = .ok (.ireturn, 1) := by decide +kernel
theorem dXS_instruct_225 : decode cXS_instruct 225 = .ok (.aload_n 0, 1) := by decide +kernel
theorem dXS_instruct_226 : decode cXS_instruct 226 = .ok (.aload_n 0, 1) := by decide +kernel
theorem dXS_instruct_227 : decode cXS_instruct 227 = .ok (.getfield 36, 3) := by decide +kernel
theorem dXS_instruct_230 : decode cXS_instruct 230 = .ok (.putfield 42, 3) := by decide +kernel
theorem dXS_instruct_233 : decode cXS_instruct 233 = .ok (.iconst 4, 1) := by decide +kernel
theorem dXS_instruct_234 : decode cXS_instruct 234 = .ok (.ireturn, 1) := by decide +kernel
theorem dXS_instruct_235 : decode cXS_instruct 235 = .ok (.aload_n 0, 1) := by decide +kernel
theorem dXS_instruct_236 : decode cXS_instruct 236 = .ok (.aload_n 0, 1) := by decide +kernel
theorem dXS_instruct_237 : decode cXS_instruct 237 = .ok (.getfield 36, 3) := by decide +kernel
theorem dXS_instruct_240 : decode cXS_instruct 240 = .ok (.iconst 1, 1) := by decide +kernel
theorem dXS_instruct_241 : decode cXS_instruct 241 = .ok (.iadd, 1) := by decide +kernel
theorem dXS_instruct_242 : decode cXS_instruct 242 = .ok (.invokevirtual 76, 3) := by decide +kernel
theorem dXS_instruct_245 : decode cXS_instruct 245 = .ok (.ireturn, 1) := by decide +kernel
theorem dXS_instruct_246 : decode cXS_instruct 246 = .ok (.aload_n 0, 1) := by decide +kernel
theorem dXS_instruct_247 : decode cXS_instruct 247 = .ok (.aload_n 0, 1) := by decide +kernel
theorem dXS_instruct_248 : decode cXS_instruct 248 = .ok (.getfield 36, 3) := by decide +kernel
theorem dXS_instruct_251 : decode cXS_instruct 251 = .ok (.aload_n 0, 1) := by decide +kernel
theorem dXS_instruct_252 : decode cXS_instruct 252 = .ok (.getfield 39, 3) := by decide +kernel
theorem dXS_instruct_255 : decode cXS_instruct 255 = .ok (.iadd, 1) := by decide +kernel
theorem dXS_instruct_256 : decode cXS_instruct 256 = .ok (.invokevirtual 76, 3) := by decide +kernel
theorem dXS_instruct_259 : decode cXS_instruct 259 = .ok (.ireturn, 1) := by decide +kernel
theorem dXS_instruct_260 : decode cXS_instruct 260 = .ok (.aload_n 0, 1) := by decide +kernel
theorem dXS_instruct_261 : decode cXS_instruct 261 = .ok (.aload_n 0, 1) := by decide +kernel
theorem dXS_instruct_262 : decode cXS_instruct 262 = .ok (.getfield 36, 3) := by decide +kernel
theorem dXS_instruct_265 : decode cXS_instruct 265 = .ok (.iconst 1, 1) := by decide +kernel
theorem dXS_instruct_266 : decode cXS_instruct 266 = .ok (.isub, 1) := by decide +kernel
theorem dXS_instruct_267 : decode cXS_instruct 267 = .ok (.invokevirtual 76, 3) := by decide +kernel
theorem dXS_instruct_270 : decode cXS_instruct 270 = .ok (.ireturn, 1) := by decide +kernel
theorem dXS_instruct_271 : decode cXS_instruct 271 = .ok (.aload_n 0, 1) := by decide +kernel
theorem dXS_instruct_272 : decode cXS_instruct 272 = .ok (.iconst 1, 1) := by decide +kernel
theorem dXS_instruct_273 : decode cXS_instruct 273 = .ok (.putfield 26, 3) := by decide +kernel
theorem dXS_instruct_276 : decode cXS_instruct 276 = .ok (.iconst 4, 1) := by decide +kernel
theorem dXS_instruct_277 : decode cXS_instruct 277 = .ok (.ireturn, 1) := by decide +kernel
theorem dXS_instruct_278 : decode cXS_instruct 278 = .ok (.aload_n 0, 1) := by decide +kernel
theorem dXS_instruct_279 : decode cXS_instruct 279 = .ok (.iconst 1, 1) := by decide +kernel
theorem dXS_instruct_280 : decode cXS_instruct 280 = .ok (.putfield 29, 3) := by decide +kernel
theorem dXS_instruct_283 : decode cXS_instruct 283 = .ok (.iconst 4, 1) := by decide +kernel
theorem dXS_instruct_284 : decode cXS_instruct 284 = .ok (.ireturn, 1) := by decide +kernel
theorem dXS_instruct_285 : decode cXS_instruct 285 = .ok (.aload_n 0, 1) := by decide +kernel
theorem dXS_instruct_286 : decode cXS_instruct 286 = .ok (.iconst 0, 1) := by decide +kernel
theorem dXS_instruct_287 : decode cXS_instruct 287 = .ok (.putfield 29, 3) := by decide +kernel
theorem dXS_instruct_290 : decode cXS_instruct 290 = .ok (.iconst 4, 1) := by decide +kernel
theorem dXS_instruct_291 : decode cXS_instruct 291 = .ok (.ireturn, 1) := by decide +kernel
theorem dXS_instruct_292 : decode cXS_instruct 292 = .ok (.iconst 4, 1) := by decide +kernel
theorem dXS_instruct_293 : decode cXS_instruct 293 = .ok (.ireturn, 1) := by decide +kernel
theorem dXS_count_0 : decode cXS_count 0 = .ok (.aload_n 0, 1) := by decide +kernel
theorem dXS_count_1 : decode cXS_count 1 = .ok (.iload_n 1, 1) := by decide +kernel
theorem dXS_count_2 : decode cXS_count 2 = .ok (.sipush 255, 3) := by decide +kernel
theorem dXS_count_5 : decode cXS_count 5 = .ok (.iand, 1) := by decide +kernel
theorem dXS_count_6 : decode cXS_count 6 = .ok (.putfield 36, 3) := by decide +kernel
theorem dXS_count_9 : decode cXS_count 9 = .ok (.aload_n 0, 1) := by decide +kernel
theorem dXS_count_10 : decode cXS_count 10 = .ok (.aload_n 0, 1) := by decide +kernel
theorem dXS_count_11 : decode cXS_count 11 = .ok (.getfield 36, 3) := by decide +kernel
theorem dXS_count_14 : decode cXS_count 14 = .ok (.ifCond .ne 7, 3) := by decide +kernel
theorem dXS_count_17 : decode cXS_count 17 = .ok (.iconst 1, 1) := by decide +kernel
theorem dXS_count_18 : decode cXS_count 18 = .ok (.goto 4, 3) := by decide +kernel
theorem dXS_count_21 : decode cXS_count 21 = .ok (.iconst 0, 1) := by decide +kernel
theorem dXS_count_22 : decode cXS_count 22 = .ok (.putfield 23, 3) := by decide +kernel
theorem dXS_count_25 : decode cXS_count 25 = .ok (.iconst 4, 1) := by decide +kernel
theorem dXS_count_26 : decode cXS_count 26 = .ok (.ireturn, 1) := by decide +kernel
theorem dXS_branch_0 : decode cXS_branch 0 = .ok (.aload_n 0, 1) := by decide +kernel
theorem dXS_branch_1 : decode cXS_branch 1 = .ok (.getfield 23, 3) := by decide +kernel
theorem dXS_branch_4 : decode cXS_branch 4 = .ok (.ifCond .eq 6, 3) := by decide +kernel
theorem dXS_branch_7 : decode cXS_branch 7 = .ok (.bipush 7, 2) := by decide +kernel
theorem dXS_branch_9 : decode cXS_branch 9 = .ok (.ireturn, 1) := by decide +kernel
theorem dXS_branch_10 : decode cXS_branch 10 = .ok (.aload_n 0, 1) := by decide +kernel
theorem dXS_branch_11 : decode cXS_branch 11 = .ok (.aload_n 0, 1) := by decide +kernel
theorem dXS_branch_12 : decode cXS_branch 12 = .ok (.getfield 45, 3) := by decide +kernel
theorem dXS_branch_15 : decode cXS_branch 15 = .ok (.iload_n 1, 1) := by decide +kernel
theorem dXS_branch_16 : decode cXS_branch 16 = .ok (.iadd, 1) := by decide +kernel
theorem dXS_branch_17 : decode cXS_branch 17 = .ok (.ldc 79, 2) := by decide +kernel
theorem dXS_branch_19 : decode cXS_branch 19 = .ok (.iand, 1) := by decide +kernel
theorem dXS_branch_20 : decode cXS_branch 20 = .ok (.putfield 45, 3) := by decide +kernel
theorem dXS_branch_23 : decode cXS_branch 23 = .ok (.bipush 12, 2) := by decide +kernel
theorem dXS_branch_25 : decode cXS_branch 25 = .ok (.ireturn, 1) := by decide +kernel
theorem dXS_nextByte_0 : decode cXS_nextByte 0 = .ok (.aload_n 0, 1) := by decide +kernel
theorem dXS_nextByte_1 : decode cXS_nextByte 1 = .ok (.aload_n 0, 1) := by decide +kernel
theorem dXS_nextByte_2 : decode cXS_nextByte 2 = .ok (.getfield 45, 3) := by decide +kernel
theorem dXS_nextByte_5 : decode cXS_nextByte 5 = .ok (.invokevirtual 69, 3) := by decide +kernel
theorem dXS_nextByte_8 : decode cXS_nextByte 8 = .ok (.istore_n 1, 1) := by decide +kernel
theorem dXS_nextByte_9 : decode cXS_nextByte 9 = .ok (.aload_n 0, 1) := by decide +kernel
theorem dXS_nextByte_10 : decode cXS_nextByte 10 = .ok (.aload_n 0, 1) := by decide +kernel
theorem dXS_nextByte_11 : decode cXS_nextByte 11 = .ok (.getfield 45, 3) := by decide +kernel
theorem dXS_nextByte_14 : decode cXS_nextByte 14 = .ok (.iconst 1, 1) := by decide +kernel
theorem dXS_nextByte_15 : decode cXS_nextByte 15 = .ok (.iadd, 1) := by decide +kernel
theorem dXS_nextByte_16 : decode cXS_nextByte 16 = .ok (.ldc 79, 2) := by decide +kernel
theorem dXS_nextByte_18 : decode cXS_nextByte 18 = .ok (.iand, 1) := by decide +kernel
theorem dXS_nextByte_19 : decode cXS_nextByte 19 = .ok (.putfield 45, 3) := by decide +kernel
theorem dXS_nextByte_22 : decode cXS_nextByte 22 = .ok (.iload_n 1, 1) := by decide +kernel
theorem dXS_nextByte_23 : decode cXS_nextByte 23 = .ok (.ireturn, 1) := by decide +kernel
theorem dXS_nextAddress_0 : decode cXS_nextAddress 0 = .ok (.aload_n 0, 1) := by decide +kernel
theorem dXS_nextAddress_1 : decode cXS_nextAddress 1 = .ok (.invokevirtual 59, 3) := by decide +kernel
theorem dXS_nextAddress_4 : decode cXS_nextAddress 4 = .ok (.istore_n 1, 1) := by decide +kernel
theorem dXS_nextAddress_5 : decode cXS_nextAddress 5 = .ok (.aload_n 0, 1) := by decide +kernel
theorem dXS_nextAddress_6 : decode cXS_nextAddress 6 = .ok (.invokevirtual 59, 3) := by decide +kernel
theorem dXS_nextAddress_9 : decode cXS_nextAddress 9 = .ok (.sipush 256, 3) := by decide +kernel
theorem dXS_nextAddress_12 : decode cXS_nextAddress 12 = .ok (.imul, 1) := by decide +kernel
theorem dXS_nextAddress_13 : decode cXS_nextAddress 13 = .ok (.iload_n 1, 1) := by decide +kernel
theorem dXS_nextAddress_14 : decode cXS_nextAddress 14 = .ok (.iadd, 1) := by decide +kernel
theorem dXS_nextAddress_15 : decode cXS_nextAddress 15 = .ok (.ireturn, 1) := by decide +kernel
theorem dXS_readByte_0 : decode cXS_readByte 0 = .ok (.iload_n 1, 1) := by decide +kernel
theorem dXS_readByte_1 : decode cXS_readByte 1 = .ok (.ldc 80, 2) := by decide +kernel
theorem dXS_readByte_3 : decode cXS_readByte 3 = .ok (.if_icmp .ge 13, 3) := by decide +kernel
theorem dXS_readByte_6 : decode cXS_readByte 6 = .ok (.aload_n 0, 1) := by decide +kernel
theorem dXS_readByte_7 : decode cXS_readByte 7 = .ok (.getfield 13, 3) := by decide +kernel
theorem dXS_readByte_10 : decode cXS_readByte 10 = .ok (.iload_n 1, 1) := by decide +kernel
theorem dXS_readByte_11 : decode cXS_readByte 11 = .ok (.bipush 127, 2) := by decide +kernel
theorem dXS_readByte_13 : decode cXS_readByte 13 = .ok (.iand, 1) := by decide +kernel
theorem dXS_readByte_14 : decode cXS_readByte 14 = .ok (.iaload, 1) := by decide +kernel
theorem dXS_readByte_15 : decode cXS_readByte 15 = .ok (.ireturn, 1) := by decide +kernel
theorem dXS_readByte_16 : decode cXS_readByte 16 = .ok (.aload_n 0, 1) := by decide +kernel
theorem dXS_readByte_17 : decode cXS_readByte 17 = .ok (.dup, 1) := by decide +kernel
theorem dXS_readByte_18 : decode cXS_readByte 18 = .ok (.getfield 48, 3) := by decide +kernel
theorem dXS_readByte_21 : decode cXS_readByte 21 = .ok (.iconst 3, 1) := by decide +kernel
theorem dXS_readByte_22 : decode cXS_readByte 22 = .ok (.isub, 1) := by decide +kernel
theorem dXS_readByte_23 : decode cXS_readByte 23 = .ok (.putfield 48, 3) := by decide +kernel
theorem dXS_readByte_26 : decode cXS_readByte 26 = .ok (.aload_n 0, 1) := by decide +kernel
theorem dXS_readByte_27 : decode cXS_readByte 27 = .ok (.dup, 1) := by decide +kernel
theorem dXS_readByte_28 : decode cXS_readByte 28 = .ok (.getfield 32, 3) := by decide +kernel
theorem dXS_readByte_31 : decode cXS_readByte 31 = .ok (.bipush 11, 2) := by decide +kernel
theorem dXS_readByte_33 : decode cXS_readByte 33 = .ok (.iadd, 1) := by decide +kernel
theorem dXS_readByte_34 : decode cXS_readByte 34 = .ok (.putfield 32, 3) := by decide +kernel
theorem dXS_readByte_37 : decode cXS_readByte 37 = .ok (.aload_n 0, 1) := by decide +kernel
theorem dXS_readByte_38 : decode cXS_readByte 38 = .ok (.getfield 7, 3) := by decide +kernel
theorem dXS_readByte_41 : decode cXS_readByte 41 = .ok (.iload_n 1, 1) := by decide +kernel
theorem dXS_readByte_42 : decode cXS_readByte 42 = .ok (.sipush 511, 3) := by decide +kernel
theorem dXS_readByte_45 : decode cXS_readByte 45 = .ok (.iand, 1) := by decide +kernel
theorem dXS_readByte_46 : decode cXS_readByte 46 = .ok (.iconst 1, 1) := by decide +kernel
theorem dXS_readByte_47 : decode cXS_readByte 47 = .ok (.ishr, 1) := by decide +kernel
theorem dXS_readByte_48 : decode cXS_readByte 48 = .ok (.iaload, 1) := by decide +kernel
theorem dXS_readByte_49 : decode cXS_readByte 49 = .ok (.istore_n 2, 1) := by decide +kernel
theorem dXS_readByte_50 : decode cXS_readByte 50 = .ok (.iload_n 1, 1) := by decide +kernel
theorem dXS_readByte_51 : decode cXS_readByte 51 = .ok (.iconst 1, 1) := by decide +kernel
theorem dXS_readByte_52 : decode cXS_readByte 52 = .ok (.iand, 1) := by decide +kernel
theorem dXS_readByte_53 : decode cXS_readByte 53 = .ok (.ifCond .ne 10, 3) := by decide +kernel
theorem dXS_readByte_56 : decode cXS_readByte 56 = .ok (.iload_n 2, 1) := by decide +kernel
theorem dXS_readByte_57 : decode cXS_readByte 57 = .ok (.bipush 8, 2) := by decide +kernel
theorem dXS_readByte_59 : decode cXS_readByte 59 = .ok (.ishr, 1) := by decide +kernel
theorem dXS_readByte_60 : decode cXS_readByte 60 = .ok (.goto 8, 3) := by decide +kernel
theorem dXS_readByte_63 : decode cXS_readByte 63 = .ok (.iload_n 2, 1) := by decide +kernel
theorem dXS_readByte_64 : decode cXS_readByte 64 = .ok (.sipush 255, 3) := by decide +kernel
theorem dXS_readByte_67 : decode cXS_readByte 67 = .ok (.iand, 1) := by decide +kernel
theorem dXS_readByte_68 : decode cXS_readByte 68 = .ok (.ireturn, 1) := by decide +kernel
theorem dXS_writeByte_0 : decode cXS_writeByte 0 = .ok (.iload_n 1, 1) := by decide +kernel
theorem dXS_writeByte_1 : decode cXS_writeByte 1 = .ok (.ldc 80, 2) := by decide +kernel
theorem dXS_writeByte_3 : decode cXS_writeByte 3 = .ok (.if_icmp .ge 16, 3) := by decide +kernel
theorem dXS_writeByte_6 : decode cXS_writeByte 6 = .ok (.aload_n 0, 1) := by decide +kernel
theorem dXS_writeByte_7 : decode cXS_writeByte 7 = .ok (.getfield 13, 3) := by decide +kernel
theorem dXS_writeByte_10 : decode cXS_writeByte 10 = .ok (.iload_n 1, 1) := by decide +kernel
theorem dXS_writeByte_11 : decode cXS_writeByte 11 = .ok (.bipush 127, 2) := by decide +kernel
theorem dXS_writeByte_13 : decode cXS_writeByte 13 = .ok (.iand, 1) := by decide +kernel
theorem dXS_writeByte_14 : decode cXS_writeByte 14 = .ok (.aload_n 0, 1) := by decide +kernel
theorem dXS_writeByte_15 : decode cXS_writeByte 15 = .ok (.getfield 36, 3) := by decide +kernel
theorem dXS_writeByte_18 : decode cXS_writeByte 18 = .ok (.iastore, 1) := by decide +kernel
theorem dXS_writeByte_19 : decode cXS_writeByte 19 = .ok (.return_, 1) := by decide +kernel
