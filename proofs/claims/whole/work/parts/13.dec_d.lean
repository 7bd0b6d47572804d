theorem dXT_init_0 : decode cXT_init 0 = .ok (.aload_n 0, 1) := by decide +kernel
theorem dXT_init_1 : decode cXT_init 1 = .ok (.invokespecial 1, 3) := by decide +kernel
theorem dXT_init_4 : decode cXT_init 4 = .ok (.aload_n 0, 1) := by decide +kernel
theorem dXT_init_5 : decode cXT_init 5 = .ok (.sipush 256, 3) := by decide +kernel
theorem dXT_init_8 : decode cXT_init 8 = .ok (.newarray .int, 2) := by decide +kernel
theorem dXT_init_10 : decode cXT_init 10 = .ok (.putfield 7, 3) := by decide +kernel
theorem dXT_init_13 : decode cXT_init 13 = .ok (.aload_n 0, 1) := by decide +kernel
theorem dXT_init_14 : decode cXT_init 14 = .ok (.new 13, 3) := by decide +kernel
theorem dXT_init_17 : decode cXT_init 17 = .ok (.dup, 1) := by decide +kernel
theorem dXT_init_18 : decode cXT_init 18 = .ok (.aload_n 0, 1) := by decide +kernel
theorem dXT_init_19 : decode cXT_init 19 = .ok (.getfield 7, 3) := by decide +kernel
theorem dXT_init_22 : decode cXT_init 22 = .ok (.invokespecial 15, 3) := by decide +kernel
theorem dXT_init_25 : decode cXT_init 25 = .ok (.putfield 18, 3) := by decide +kernel
theorem dXT_init_28 : decode cXT_init 28 = .ok (.aload_n 0, 1) := by decide +kernel
theorem dXT_init_29 : decode cXT_init 29 = .ok (.new 22, 3) := by decide +kernel
theorem dXT_init_32 : decode cXT_init 32 = .ok (.dup, 1) := by decide +kernel
theorem dXT_init_33 : decode cXT_init 33 = .ok (.invokespecial 24, 3) := by decide +kernel
theorem dXT_init_36 : decode cXT_init 36 = .ok (.putfield 25, 3) := by decide +kernel
theorem dXT_init_39 : decode cXT_init 39 = .ok (.aload_n 0, 1) := by decide +kernel
theorem dXT_init_40 : decode cXT_init 40 = .ok (.new 29, 3) := by decide +kernel
theorem dXT_init_43 : decode cXT_init 43 = .ok (.dup, 1) := by decide +kernel
theorem dXT_init_44 : decode cXT_init 44 = .ok (.aload_n 0, 1) := by decide +kernel
theorem dXT_init_45 : decode cXT_init 45 = .ok (.getfield 25, 3) := by decide +kernel
theorem dXT_init_48 : decode cXT_init 48 = .ok (.invokespecial 31, 3) := by decide +kernel
theorem dXT_init_51 : decode cXT_init 51 = .ok (.putfield 34, 3) := by decide +kernel
theorem dXT_init_54 : decode cXT_init 54 = .ok (.aload_n 0, 1) := by decide +kernel
theorem dXT_init_55 : decode cXT_init 55 = .ok (.new 38, 3) := by decide +kernel
theorem dXT_init_58 : decode cXT_init 58 = .ok (.dup, 1) := by decide +kernel
theorem dXT_init_59 : decode cXT_init 59 = .ok (.aload_n 0, 1) := by decide +kernel
theorem dXT_init_60 : decode cXT_init 60 = .ok (.getfield 25, 3) := by decide +kernel
theorem dXT_init_63 : decode cXT_init 63 = .ok (.aload_n 0, 1) := by decide +kernel
theorem dXT_init_64 : decode cXT_init 64 = .ok (.getfield 34, 3) := by decide +kernel
theorem dXT_init_67 : decode cXT_init 67 = .ok (.aload_n 0, 1) := by decide +kernel
theorem dXT_init_68 : decode cXT_init 68 = .ok (.getfield 18, 3) := by decide +kernel
theorem dXT_init_71 : decode cXT_init 71 = .ok (.invokespecial 40, 3) := by decide +kernel
theorem dXT_init_74 : decode cXT_init 74 = .ok (.putfield 43, 3) := by decide +kernel
theorem dXT_init_77 : decode cXT_init 77 = .ok (.aload_n 0, 1) := by decide +kernel
theorem dXT_init_78 : decode cXT_init 78 = .ok (.new 47, 3) := by decide +kernel
theorem dXT_init_81 : decode cXT_init 81 = .ok (.dup, 1) := by decide +kernel
theorem dXT_init_82 : decode cXT_init 82 = .ok (.aload_n 0, 1) := by decide +kernel
theorem dXT_init_83 : decode cXT_init 83 = .ok (.getfield 7, 3) := by decide +kernel
theorem dXT_init_86 : decode cXT_init 86 = .ok (.aload_n 0, 1) := by decide +kernel
theorem dXT_init_87 : decode cXT_init 87 = .ok (.getfield 18, 3) := by decide +kernel
theorem dXT_init_90 : decode cXT_init 90 = .ok (.aload_n 0, 1) := by decide +kernel
theorem dXT_init_91 : decode cXT_init 91 = .ok (.getfield 25, 3) := by decide +kernel
theorem dXT_init_94 : decode cXT_init 94 = .ok (.aload_n 0, 1) := by decide +kernel
theorem dXT_init_95 : decode cXT_init 95 = .ok (.getfield 34, 3) := by decide +kernel
theorem dXT_init_98 : decode cXT_init 98 = .ok (.aload_n 0, 1) := by decide +kernel
theorem dXT_init_99 : decode cXT_init 99 = .ok (.getfield 43, 3) := by decide +kernel
theorem dXT_init_102 : decode cXT_init 102 = .ok (.invokespecial 49, 3) := by decide +kernel
theorem dXT_init_105 : decode cXT_init 105 = .ok (.putfield 52, 3) := by decide +kernel
theorem dXT_init_108 : decode cXT_init 108 = .ok (.aload_n 0, 1) := by decide +kernel
theorem dXT_init_109 : decode cXT_init 109 = .ok (.new 56, 3) := by decide +kernel
theorem dXT_init_112 : decode cXT_init 112 = .ok (.dup, 1) := by decide +kernel
theorem dXT_init_113 : decode cXT_init 113 = .ok (.aload_n 0, 1) := by decide +kernel
theorem dXT_init_114 : decode cXT_init 114 = .ok (.getfield 52, 3) := by decide +kernel
theorem dXT_init_117 : decode cXT_init 117 = .ok (.invokespecial 58, 3) := by decide +kernel
theorem dXT_init_120 : decode cXT_init 120 = .ok (.putfield 61, 3) := by decide +kernel
theorem dXT_init_123 : decode cXT_init 123 = .ok (.return_, 1) := by decide +kernel
theorem dXT_rom_0 : decode cXT_rom 0 = .ok (.iload_n 1, 1) := by decide +kernel
theorem dXT_rom_1 : decode cXT_rom 1 = .ok (.ifCond .lt 12, 3) := by decide +kernel
theorem dXT_rom_4 : decode cXT_rom 4 = .ok (.iload_n 1, 1) := by decide +kernel
theorem dXT_rom_5 : decode cXT_rom 5 = .ok (.aload_n 0, 1) := by decide +kernel
theorem dXT_rom_6 : decode cXT_rom 6 = .ok (.getfield 7, 3) := by decide +kernel
theorem dXT_rom_9 : decode cXT_rom 9 = .ok (.arraylength, 1) := by decide +kernel
theorem dXT_rom_10 : decode cXT_rom 10 = .ok (.if_icmp .lt 5, 3) := by decide +kernel
theorem dXT_rom_13 : decode cXT_rom 13 = .ok (.iconst 0, 1) := by decide +kernel
theorem dXT_rom_14 : decode cXT_rom 14 = .ok (.ireturn, 1) := by decide +kernel
theorem dXT_rom_15 : decode cXT_rom 15 = .ok (.aload_n 0, 1) := by decide +kernel
theorem dXT_rom_16 : decode cXT_rom 16 = .ok (.getfield 7, 3) := by decide +kernel
theorem dXT_rom_19 : decode cXT_rom 19 = .ok (.iload_n 1, 1) := by decide +kernel
theorem dXT_rom_20 : decode cXT_rom 20 = .ok (.iload_n 2, 1) := by decide +kernel
theorem dXT_rom_21 : decode cXT_rom 21 = .ok (.ldc 65, 2) := by decide +kernel
theorem dXT_rom_23 : decode cXT_rom 23 = .ok (.iand, 1) := by decide +kernel
theorem dXT_rom_24 : decode cXT_rom 24 = .ok (.iastore, 1) := by decide +kernel
theorem dXT_rom_25 : decode cXT_rom 25 = .ok (.iconst 1, 1) := by decide +kernel
theorem dXT_rom_26 : decode cXT_rom 26 = .ok (.ireturn, 1) := by decide +kernel
theorem dXT_reset_0 : decode cXT_reset 0 = .ok (.aload_n 0, 1) := by decide +kernel
theorem dXT_reset_1 : decode cXT_reset 1 = .ok (.getfield 61, 3) := by decide +kernel
theorem dXT_reset_4 : decode cXT_reset 4 = .ok (.invokevirtual 66, 3) := by decide +kernel
theorem dXT_reset_7 : decode cXT_reset 7 = .ok (.return_, 1) := by decide +kernel
theorem dXT_pad_0 : decode cXT_pad 0 = .ok (.aload_n 0, 1) := by decide +kernel
theorem dXT_pad_1 : decode cXT_pad 1 = .ok (.getfield 52, 3) := by decide +kernel
theorem dXT_pad_4 : decode cXT_pad 4 = .ok (.iload_n 1, 1) := by decide +kernel
theorem dXT_pad_5 : decode cXT_pad 5 = .ok (.sipush 255, 3) := by decide +kernel
theorem dXT_pad_8 : decode cXT_pad 8 = .ok (.iand, 1) := by decide +kernel
theorem dXT_pad_9 : decode cXT_pad 9 = .ok (.putfield 69, 3) := by decide +kernel
theorem dXT_pad_12 : decode cXT_pad 12 = .ok (.return_, 1) := by decide +kernel
theorem dXT_step_0 : decode cXT_step 0 = .ok (.aload_n 0, 1) := by decide +kernel
theorem dXT_step_1 : decode cXT_step 1 = .ok (.invokevirtual 73, 3) := by decide +kernel
theorem dXT_step_4 : decode cXT_step 4 = .ok (.ireturn, 1) := by decide +kernel
theorem dXT_run_0 : decode cXT_run 0 = .ok (.iload_n 1, 1) := by decide +kernel
theorem dXT_run_1 : decode cXT_run 1 = .ok (.ifCond .lt 10, 3) := by decide +kernel
theorem dXT_run_4 : decode cXT_run 4 = .ok (.iload_n 1, 1) := by decide +kernel
theorem dXT_run_5 : decode cXT_run 5 = .ok (.sipush 800, 3) := by decide +kernel
theorem dXT_run_8 : decode cXT_run 8 = .ok (.if_icmp .le 5, 3) := by decide +kernel
theorem dXT_run_11 : decode cXT_run 11 = .ok (.iconst (-1), 1) := by decide +kernel
theorem dXT_run_12 : decode cXT_run 12 = .ok (.ireturn, 1) := by decide +kernel
theorem dXT_run_13 : decode cXT_run 13 = .ok (.iconst 0, 1) := by decide +kernel
theorem dXT_run_14 : decode cXT_run 14 = .ok (.istore_n 2, 1) := by decide +kernel
theorem dXT_run_15 : decode cXT_run 15 = .ok (.iconst 0, 1) := by decide +kernel
theorem dXT_run_16 : decode cXT_run 16 = .ok (.istore_n 3, 1) := by decide +kernel
theorem dXT_run_17 : decode cXT_run 17 = .ok (.iload_n 3, 1) := by decide +kernel
theorem dXT_run_18 : decode cXT_run 18 = .ok (.sipush 800, 3) := by decide +kernel
theorem dXT_run_21 : decode cXT_run 21 = .ok (.if_icmp .ge 21, 3) := by decide +kernel
theorem dXT_run_24 : decode cXT_run 24 = .ok (.iload_n 2, 1) := by decide +kernel
theorem dXT_run_25 : decode cXT_run 25 = .ok (.iload_n 1, 1) := by decide +kernel
theorem dXT_run_26 : decode cXT_run 26 = .ok (.if_icmp .ge 16, 3) := by decide +kernel
theorem dXT_run_29 : decode cXT_run 29 = .ok (.iload_n 2, 1) := by decide +kernel
theorem dXT_run_30 : decode cXT_run 30 = .ok (.aload_n 0, 1) := by decide +kernel
theorem dXT_run_31 : decode cXT_run 31 = .ok (.invokevirtual 73, 3) := by decide +kernel
theorem dXT_run_34 : decode cXT_run 34 = .ok (.iadd, 1) := by decide +kernel
theorem dXT_run_35 : decode cXT_run 35 = .ok (.istore_n 2, 1) := by decide +kernel
theorem dXT_run_36 : decode cXT_run 36 = .ok (.iinc 3 1, 3) := by decide +kernel
theorem dXT_run_39 : decode cXT_run 39 = .ok (.goto (-22), 3) := by decide +kernel
theorem dXT_run_42 : decode cXT_run 42 = .ok (.iload_n 2, 1) := by decide +kernel
theorem dXT_run_43 : decode cXT_run 43 = .ok (.ireturn, 1) := by decide +kernel
theorem dXT_memory_0 : decode cXT_memory 0 = .ok (.iload_n 1, 1) := by decide +kernel
theorem dXT_memory_1 : decode cXT_memory 1 = .ok (.ifCond .lt 9, 3) := by decide +kernel
theorem dXT_memory_4 : decode cXT_memory 4 = .ok (.iload_n 1, 1) := by decide +kernel
theorem dXT_memory_5 : decode cXT_memory 5 = .ok (.ldc 65, 2) := by decide +kernel
theorem dXT_memory_7 : decode cXT_memory 7 = .ok (.if_icmp .le 5, 3) := by decide +kernel
theorem dXT_memory_10 : decode cXT_memory 10 = .ok (.iconst 0, 1) := by decide +kernel
theorem dXT_memory_11 : decode cXT_memory 11 = .ok (.ireturn, 1) := by decide +kernel
theorem dXT_memory_12 : decode cXT_memory 12 = .ok (.aload_n 0, 1) := by decide +kernel
theorem dXT_memory_13 : decode cXT_memory 13 = .ok (.getfield 52, 3) := by decide +kernel
theorem dXT_memory_16 : decode cXT_memory 16 = .ok (.iload_n 1, 1) := by decide +kernel
theorem dXT_memory_17 : decode cXT_memory 17 = .ok (.invokevirtual 77, 3) := by decide +kernel
theorem dXT_memory_20 : decode cXT_memory 20 = .ok (.ireturn, 1) := by decide +kernel
theorem dXT_register_0 : decode cXT_register 0 = .ok (.iload_n 1, 1) := by decide +kernel
theorem dXT_register_1 : decode cXT_register 1 = .ok (.ifCond .lt 19, 3) := by decide +kernel
theorem dXT_register_4 : decode cXT_register 4 = .ok (.iload_n 1, 1) := by decide +kernel
theorem dXT_register_5 : decode cXT_register 5 = .ok (.bipush 8, 2) := by decide +kernel
theorem dXT_register_7 : decode cXT_register 7 = .ok (.if_icmp .ge 13, 3) := by decide +kernel
theorem dXT_register_10 : decode cXT_register 10 = .ok (.aload_n 0, 1) := by decide +kernel
theorem dXT_register_11 : decode cXT_register 11 = .ok (.getfield 61, 3) := by decide +kernel
theorem dXT_register_14 : decode cXT_register 14 = .ok (.getfield 81, 3) := by decide +kernel
theorem dXT_register_17 : decode cXT_register 17 = .ok (.iload_n 1, 1) := by decide +kernel
theorem dXT_register_18 : decode cXT_register 18 = .ok (.iaload, 1) := by decide +kernel
theorem dXT_register_19 : decode cXT_register 19 = .ok (.ireturn, 1) := by decide +kernel
theorem dXT_register_20 : decode cXT_register 20 = .ok (.iload_n 1, 1) := by decide +kernel
theorem dXT_register_21 : decode cXT_register 21 = .ok (.tableswitch 147 8 16 #[51, 59, 67, 75, 107, 115, 123, 131, 139], 51) := by decide +kernel
theorem dXT_register_72 : decode cXT_register 72 = .ok (.aload_n 0, 1) := by decide +kernel
theorem dXT_register_73 : decode cXT_register 73 = .ok (.getfield 61, 3) := by decide +kernel
theorem dXT_register_76 : decode cXT_register 76 = .ok (.getfield 84, 3) := by decide +kernel
theorem dXT_register_79 : decode cXT_register 79 = .ok (.ireturn, 1) := by decide +kernel
theorem dXT_register_80 : decode cXT_register 80 = .ok (.aload_n 0, 1) := by decide +kernel
theorem dXT_register_81 : decode cXT_register 81 = .ok (.getfield 61, 3) := by decide +kernel
theorem dXT_register_84 : decode cXT_register 84 = .ok (.getfield 87, 3) := by decide +kernel
theorem dXT_register_87 : decode cXT_register 87 = .ok (.ireturn, 1) := by decide +kernel
theorem dXT_register_88 : decode cXT_register 88 = .ok (.aload_n 0, 1) := by decide +kernel
theorem dXT_register_89 : decode cXT_register 89 = .ok (.getfield 61, 3) := by decide +kernel
theorem dXT_register_92 : decode cXT_register 92 = .ok (.invokevirtual 90, 3) := by decide +kernel
theorem dXT_register_95 : decode cXT_register 95 = .ok (.ireturn, 1) := by decide +kernel
theorem dXT_register_96 : decode cXT_register 96 = .ok (.aload_n 0, 1) := by decide +kernel
theorem dXT_register_97 : decode cXT_register 97 = .ok (.getfield 61, 3) := by decide +kernel
theorem dXT_register_100 : decode cXT_register 100 = .ok (.getfield 93, 3) := by decide +kernel
theorem dXT_register_103 : decode cXT_register 103 = .ok (.ifCond .eq 7, 3) := by decide +kernel
theorem dXT_register_106 : decode cXT_register 106 = .ok (.iconst 1, 1) := by decide +kernel
theorem dXT_register_107 : decode cXT_register 107 = .ok (.goto 4, 3) := by decide +kernel
theorem dXT_register_110 : decode cXT_register 110 = .ok (.iconst 0, 1) := by decide +kernel
theorem dXT_register_111 : decode cXT_register 111 = .ok (.aload_n 0, 1) := by decide +kernel
theorem dXT_register_112 : decode cXT_register 112 = .ok (.getfield 25, 3) := by decide +kernel
theorem dXT_register_115 : decode cXT_register 115 = .ok (.invokevirtual 97, 3) := by decide +kernel
theorem dXT_register_118 : decode cXT_register 118 = .ok (.ifCond .eq 7, 3) := by decide +kernel
theorem dXT_register_121 : decode cXT_register 121 = .ok (.iconst 2, 1) := by decide +kernel
theorem dXT_register_122 : decode cXT_register 122 = .ok (.goto 4, 3) := by decide +kernel
theorem dXT_register_125 : decode cXT_register 125 = .ok (.iconst 0, 1) := by decide +kernel
theorem dXT_register_126 : decode cXT_register 126 = .ok (.iadd, 1) := by decide +kernel
theorem dXT_register_127 : decode cXT_register 127 = .ok (.ireturn, 1) := by decide +kernel
theorem dXT_register_128 : decode cXT_register 128 = .ok (.aload_n 0, 1) := by decide +kernel
theorem dXT_register_129 : decode cXT_register 129 = .ok (.getfield 18, 3) := by decide +kernel
theorem dXT_register_132 : decode cXT_register 132 = .ok (.getfield 101, 3) := by decide +kernel
theorem dXT_register_135 : decode cXT_register 135 = .ok (.ireturn, 1) := by decide +kernel
theorem dXT_register_136 : decode cXT_register 136 = .ok (.aload_n 0, 1) := by decide +kernel
theorem dXT_register_137 : decode cXT_register 137 = .ok (.getfield 18, 3) := by decide +kernel
theorem dXT_register_140 : decode cXT_register 140 = .ok (.getfield 104, 3) := by decide +kernel
theorem dXT_register_143 : decode cXT_register 143 = .ok (.ireturn, 1) := by decide +kernel
theorem dXT_register_144 : decode cXT_register 144 = .ok (.aload_n 0, 1) := by decide +kernel
theorem dXT_register_145 : decode cXT_register 145 = .ok (.getfield 18, 3) := by decide +kernel
theorem dXT_register_148 : decode cXT_register 148 = .ok (.getfield 107, 3) := by decide +kernel
theorem dXT_register_151 : decode cXT_register 151 = .ok (.ireturn, 1) := by decide +kernel
theorem dXT_register_152 : decode cXT_register 152 = .ok (.aload_n 0, 1) := by decide +kernel
theorem dXT_register_153 : decode cXT_register 153 = .ok (.getfield 18, 3) := by decide +kernel
theorem dXT_register_156 : decode cXT_register 156 = .ok (.getfield 110, 3) := by decide +kernel
theorem dXT_register_159 : decode cXT_register 159 = .ok (.ireturn, 1) := by decide +kernel
theorem dXT_register_160 : decode cXT_register 160 = .ok (.aload_n 0, 1) := by decide +kernel
theorem dXT_register_161 : decode cXT_register 161 = .ok (.getfield 18, 3) := by decide +kernel
theorem dXT_register_164 : decode cXT_register 164 = .ok (.invokevirtual 111, 3) := by decide +kernel
theorem dXT_register_167 : decode cXT_register 167 = .ok (.ireturn, 1) := by decide +kernel
theorem dXT_register_168 : decode cXT_register 168 = .ok (.iconst (-1), 1) := by decide +kernel
theorem dXT_register_169 : decode cXT_register 169 = .ok (.ireturn, 1) := by decide +kernel
theorem dXT_seed_0 : decode cXT_seed 0 = .ok (.iload_n 1, 1) := by decide +kernel
theorem dXT_seed_1 : decode cXT_seed 1 = .ok (.ifCond .lt 15, 3) := by decide +kernel
theorem dXT_seed_4 : decode cXT_seed 4 = .ok (.iload_n 1, 1) := by decide +kernel
theorem dXT_seed_5 : decode cXT_seed 5 = .ok (.aload_n 0, 1) := by decide +kernel
theorem dXT_seed_6 : decode cXT_seed 6 = .ok (.getfield 18, 3) := by decide +kernel
theorem dXT_seed_9 : decode cXT_seed 9 = .ok (.getfield 114, 3) := by decide +kernel
theorem dXT_seed_12 : decode cXT_seed 12 = .ok (.arraylength, 1) := by decide +kernel
theorem dXT_seed_13 : decode cXT_seed 13 = .ok (.if_icmp .lt 5, 3) := by decide +kernel
theorem dXT_seed_16 : decode cXT_seed 16 = .ok (.iconst 0, 1) := by decide +kernel
theorem dXT_seed_17 : decode cXT_seed 17 = .ok (.ireturn, 1) := by decide +kernel
theorem dXT_seed_18 : decode cXT_seed 18 = .ok (.aload_n 0, 1) := by decide +kernel
theorem dXT_seed_19 : decode cXT_seed 19 = .ok (.getfield 18, 3) := by decide +kernel
theorem dXT_seed_22 : decode cXT_seed 22 = .ok (.getfield 114, 3) := by decide +kernel
theorem dXT_seed_25 : decode cXT_seed 25 = .ok (.iload_n 1, 1) := by decide +kernel
theorem dXT_seed_26 : decode cXT_seed 26 = .ok (.iload_n 2, 1) := by decide +kernel
theorem dXT_seed_27 : decode cXT_seed 27 = .ok (.sipush 255, 3) := by decide +kernel
theorem dXT_seed_30 : decode cXT_seed 30 = .ok (.iand, 1) := by decide +kernel
theorem dXT_seed_31 : decode cXT_seed 31 = .ok (.iastore, 1) := by decide +kernel
theorem dXT_seed_32 : decode cXT_seed 32 = .ok (.iconst 1, 1) := by decide +kernel
theorem dXT_seed_33 : decode cXT_seed 33 = .ok (.ireturn, 1) := by decide +kernel
theorem dXT_video_0 : decode cXT_video 0 = .ok (.iload_n 1, 1) := by decide +kernel
theorem dXT_video_1 : decode cXT_video 1 = .ok (.tableswitch 101 0 4 #[35, 59, 71, 83, 95], 35) := by decide +kernel
theorem dXT_video_36 : decode cXT_video 36 = .ok (.iload_n 2, 1) := by decide +kernel
theorem dXT_video_37 : decode cXT_video 37 = .ok (.ifCond .lt 21, 3) := by decide +kernel
theorem dXT_video_40 : decode cXT_video 40 = .ok (.iload_n 2, 1) := by decide +kernel
theorem dXT_video_41 : decode cXT_video 41 = .ok (.sipush 512, 3) := by decide +kernel
theorem dXT_video_44 : decode cXT_video 44 = .ok (.if_icmp .ge 14, 3) := by decide +kernel
theorem dXT_video_47 : decode cXT_video 47 = .ok (.aload_n 0, 1) := by decide +kernel
theorem dXT_video_48 : decode cXT_video 48 = .ok (.getfield 25, 3) := by decide +kernel
theorem dXT_video_51 : decode cXT_video 51 = .ok (.iload_n 2, 1) := by decide +kernel
theorem dXT_video_52 : decode cXT_video 52 = .ok (.invokevirtual 117, 3) := by decide +kernel
theorem dXT_video_55 : decode cXT_video 55 = .ok (.goto 4, 3) := by decide +kernel
theorem dXT_video_58 : decode cXT_video 58 = .ok (.iconst (-1), 1) := by decide +kernel
theorem dXT_video_59 : decode cXT_video 59 = .ok (.ireturn, 1) := by decide +kernel
theorem dXT_video_60 : decode cXT_video 60 = .ok (.aload_n 0, 1) := by decide +kernel
theorem dXT_video_61 : decode cXT_video 61 = .ok (.getfield 25, 3) := by decide +kernel
theorem dXT_video_64 : decode cXT_video 64 = .ok (.getfield 120, 3) := by decide +kernel
theorem dXT_video_67 : decode cXT_video 67 = .ok (.iload_n 2, 1) := by decide +kernel
theorem dXT_video_68 : decode cXT_video 68 = .ok (.invokestatic 123, 3) := by decide +kernel
theorem dXT_video_71 : decode cXT_video 71 = .ok (.ireturn, 1) := by decide +kernel
theorem dXT_video_72 : decode cXT_video 72 = .ok (.aload_n 0, 1) := by decide +kernel
theorem dXT_video_73 : decode cXT_video 73 = .ok (.getfield 25, 3) := by decide +kernel
theorem dXT_video_76 : decode cXT_video 76 = .ok (.getfield 127, 3) := by decide +kernel
theorem dXT_video_79 : decode cXT_video 79 = .ok (.iload_n 2, 1) := by decide +kernel
theorem dXT_video_80 : decode cXT_video 80 = .ok (.invokestatic 123, 3) := by decide +kernel
theorem dXT_video_83 : decode cXT_video 83 = .ok (.ireturn, 1) := by decide +kernel
theorem dXT_video_84 : decode cXT_video 84 = .ok (.aload_n 0, 1) := by decide +kernel
theorem dXT_video_85 : decode cXT_video 85 = .ok (.getfield 25, 3) := by decide +kernel
theorem dXT_video_88 : decode cXT_video 88 = .ok (.getfield 130, 3) := by decide +kernel
theorem dXT_video_91 : decode cXT_video 91 = .ok (.iload_n 2, 1) := by decide +kernel
theorem dXT_video_92 : decode cXT_video 92 = .ok (.invokestatic 123, 3) := by decide +kernel
theorem dXT_video_95 : decode cXT_video 95 = .ok (.ireturn, 1) := by decide +kernel
theorem dXT_video_96 : decode cXT_video 96 = .ok (.aload_n 0, 1) := by decide +kernel
theorem dXT_video_97 : decode cXT_video 97 = .ok (.iload_n 2, 1) := by decide +kernel
theorem dXT_video_98 : decode cXT_video 98 = .ok (.invokevirtual 133, 3) := by decide +kernel
theorem dXT_video_101 : decode cXT_video 101 = .ok (.ireturn, 1) := by decide +kernel
theorem dXT_video_102 : decode cXT_video 102 = .ok (.iconst (-1), 1) := by decide +kernel
theorem dXT_video_103 : decode cXT_video 103 = .ok (.ireturn, 1) := by decide +kernel
theorem dXT_pixel_0 : decode cXT_pixel 0 = .ok (.iload_n 1, 1) := by decide +kernel
theorem dXT_pixel_1 : decode cXT_pixel 1 = .ok (.ifCond .lt 19, 3) := by decide +kernel
theorem dXT_pixel_4 : decode cXT_pixel 4 = .ok (.iload_n 1, 1) := by decide +kernel
theorem dXT_pixel_5 : decode cXT_pixel 5 = .ok (.bipush 16, 2) := by decide +kernel
theorem dXT_pixel_7 : decode cXT_pixel 7 = .ok (.if_icmp .ge 13, 3) := by decide +kernel
theorem dXT_pixel_10 : decode cXT_pixel 10 = .ok (.iload_n 2, 1) := by decide +kernel
theorem dXT_pixel_11 : decode cXT_pixel 11 = .ok (.ifCond .lt 9, 3) := by decide +kernel
theorem dXT_pixel_14 : decode cXT_pixel 14 = .ok (.iload_n 2, 1) := by decide +kernel
theorem dXT_pixel_15 : decode cXT_pixel 15 = .ok (.bipush 8, 2) := by decide +kernel
theorem dXT_pixel_17 : decode cXT_pixel 17 = .ok (.if_icmp .lt 5, 3) := by decide +kernel
theorem dXT_pixel_20 : decode cXT_pixel 20 = .ok (.iconst (-1), 1) := by decide +kernel
theorem dXT_pixel_21 : decode cXT_pixel 21 = .ok (.ireturn, 1) := by decide +kernel
theorem dXT_pixel_22 : decode cXT_pixel 22 = .ok (.aload_n 0, 1) := by decide +kernel
theorem dXT_pixel_23 : decode cXT_pixel 23 = .ok (.getfield 34, 3) := by decide +kernel
theorem dXT_pixel_26 : decode cXT_pixel 26 = .ok (.getfield 136, 3) := by decide +kernel
theorem dXT_pixel_29 : decode cXT_pixel 29 = .ok (.iload_n 2, 1) := by decide +kernel
theorem dXT_pixel_30 : decode cXT_pixel 30 = .ok (.bipush 16, 2) := by decide +kernel
theorem dXT_pixel_32 : decode cXT_pixel 32 = .ok (.imul, 1) := by decide +kernel
theorem dXT_pixel_33 : decode cXT_pixel 33 = .ok (.iload_n 1, 1) := by decide +kernel
theorem dXT_pixel_34 : decode cXT_pixel 34 = .ok (.iadd, 1) := by decide +kernel
theorem dXT_pixel_35 : decode cXT_pixel 35 = .ok (.iaload, 1) := by decide +kernel
theorem dXT_pixel_36 : decode cXT_pixel 36 = .ok (.ireturn, 1) := by decide +kernel
theorem dXT_elementOrNone_0 : decode cXT_elementOrNone 0 = .ok (.iload_n 1, 1) := by decide +kernel
theorem dXT_elementOrNone_1 : decode cXT_elementOrNone 1 = .ok (.ifCond .lt 15, 3) := by decide +kernel
theorem dXT_elementOrNone_4 : decode cXT_elementOrNone 4 = .ok (.iload_n 1, 1) := by decide +kernel
theorem dXT_elementOrNone_5 : decode cXT_elementOrNone 5 = .ok (.aload_n 0, 1) := by decide +kernel
theorem dXT_elementOrNone_6 : decode cXT_elementOrNone 6 = .ok (.arraylength, 1) := by decide +kernel
theorem dXT_elementOrNone_7 : decode cXT_elementOrNone 7 = .ok (.if_icmp .ge 9, 3) := by decide +kernel
theorem dXT_elementOrNone_10 : decode cXT_elementOrNone 10 = .ok (.aload_n 0, 1) := by decide +kernel
theorem dXT_elementOrNone_11 : decode cXT_elementOrNone 11 = .ok (.iload_n 1, 1) := by decide +kernel
theorem dXT_elementOrNone_12 : decode cXT_elementOrNone 12 = .ok (.iaload, 1) := by decide +kernel
theorem dXT_elementOrNone_13 : decode cXT_elementOrNone 13 = .ok (.goto 4, 3) := by decide +kernel
theorem dXT_elementOrNone_16 : decode cXT_elementOrNone 16 = .ok (.iconst (-1), 1) := by decide +kernel
theorem dXT_elementOrNone_17 : decode cXT_elementOrNone 17 = .ok (.ireturn, 1) := by decide +kernel
theorem dXT_portState_0 : decode cXT_portState 0 = .ok (.iload_n 1, 1) := by decide +kernel
theorem dXT_portState_1 : decode cXT_portState 1 = .ok (.tableswitch 96 0 3 #[31, 39, 47, 63], 31) := by decide +kernel
theorem dXT_portState_32 : decode cXT_portState 32 = .ok (.aload_n 0, 1) := by decide +kernel
theorem dXT_portState_33 : decode cXT_portState 33 = .ok (.getfield 25, 3) := by decide +kernel
theorem dXT_portState_36 : decode cXT_portState 36 = .ok (.getfield 139, 3) := by decide +kernel
theorem dXT_portState_39 : decode cXT_portState 39 = .ok (.ireturn, 1) := by decide +kernel
theorem dXT_portState_40 : decode cXT_portState 40 = .ok (.aload_n 0, 1) := by decide +kernel
theorem dXT_portState_41 : decode cXT_portState 41 = .ok (.getfield 25, 3) := by decide +kernel
theorem dXT_portState_44 : decode cXT_portState 44 = .ok (.getfield 142, 3) := by decide +kernel
theorem dXT_portState_47 : decode cXT_portState 47 = .ok (.ireturn, 1) := by decide +kernel
theorem dXT_portState_48 : decode cXT_portState 48 = .ok (.aload_n 0, 1) := by decide +kernel
theorem dXT_portState_49 : decode cXT_portState 49 = .ok (.getfield 25, 3) := by decide +kernel
theorem dXT_portState_52 : decode cXT_portState 52 = .ok (.getfield 145, 3) := by decide +kernel
theorem dXT_portState_55 : decode cXT_portState 55 = .ok (.ifCond .eq 7, 3) := by decide +kernel
theorem dXT_portState_58 : decode cXT_portState 58 = .ok (.iconst 1, 1) := by decide +kernel
theorem dXT_portState_59 : decode cXT_portState 59 = .ok (.goto 4, 3) := by decide +kernel
theorem dXT_portState_62 : decode cXT_portState 62 = .ok (.iconst 0, 1) := by decide +kernel
theorem dXT_portState_63 : decode cXT_portState 63 = .ok (.ireturn, 1) := by decide +kernel
theorem dXT_portState_64 : decode cXT_portState 64 = .ok (.aload_n 0, 1) := by decide +kernel
theorem dXT_portState_65 : decode cXT_portState 65 = .ok (.getfield 43, 3) := by decide +kernel
theorem dXT_portState_68 : decode cXT_portState 68 = .ok (.getfield 148, 3) := by decide +kernel
theorem dXT_portState_71 : decode cXT_portState 71 = .ok (.ifCond .eq 7, 3) := by decide +kernel
theorem dXT_portState_74 : decode cXT_portState 74 = .ok (.iconst 4, 1) := by decide +kernel
theorem dXT_portState_75 : decode cXT_portState 75 = .ok (.goto 4, 3) := by decide +kernel
theorem dXT_portState_78 : decode cXT_portState 78 = .ok (.iconst 0, 1) := by decide +kernel
theorem dXT_portState_79 : decode cXT_portState 79 = .ok (.aload_n 0, 1) := by decide +kernel
theorem dXT_portState_80 : decode cXT_portState 80 = .ok (.getfield 43, 3) := by decide +kernel
theorem dXT_portState_83 : decode cXT_portState 83 = .ok (.getfield 151, 3) := by decide +kernel
theorem dXT_portState_86 : decode cXT_portState 86 = .ok (.ifCond .eq 8, 3) := by decide +kernel
theorem dXT_portState_89 : decode cXT_portState 89 = .ok (.bipush 6, 2) := by decide +kernel
theorem dXT_portState_91 : decode cXT_portState 91 = .ok (.goto 4, 3) := by decide +kernel
theorem dXT_portState_94 : decode cXT_portState 94 = .ok (.iconst 0, 1) := by decide +kernel
theorem dXT_portState_95 : decode cXT_portState 95 = .ok (.iadd, 1) := by decide +kernel
theorem dXT_portState_96 : decode cXT_portState 96 = .ok (.ireturn, 1) := by decide +kernel
theorem dXT_portState_97 : decode cXT_portState 97 = .ok (.iconst (-1), 1) := by decide +kernel
theorem dXT_portState_98 : decode cXT_portState 98 = .ok (.ireturn, 1) := by decide +kernel
theorem dXT_oneStep_0 : decode cXT_oneStep 0 = .ok (.iconst 0, 1) := by decide +kernel
theorem dXT_oneStep_1 : decode cXT_oneStep 1 = .ok (.istore_n 2, 1) := by decide +kernel
theorem dXT_oneStep_2 : decode cXT_oneStep 2 = .ok (.aload_n 0, 1) := by decide +kernel
theorem dXT_oneStep_3 : decode cXT_oneStep 3 = .ok (.getfield 43, 3) := by decide +kernel
theorem dXT_oneStep_6 : decode cXT_oneStep 6 = .ok (.aload_n 0, 1) := by decide +kernel
theorem dXT_oneStep_7 : decode cXT_oneStep 7 = .ok (.getfield 61, 3) := by decide +kernel
theorem dXT_oneStep_10 : decode cXT_oneStep 10 = .ok (.getfield 154, 3) := by decide +kernel
theorem dXT_oneStep_13 : decode cXT_oneStep 13 = .ok (.invokevirtual 157, 3) := by decide +kernel
theorem dXT_oneStep_16 : decode cXT_oneStep 16 = .ok (.istore_n 3, 1) := by decide +kernel
theorem dXT_oneStep_17 : decode cXT_oneStep 17 = .ok (.aload_n 0, 1) := by decide +kernel
theorem dXT_oneStep_18 : decode cXT_oneStep 18 = .ok (.getfield 25, 3) := by decide +kernel
theorem dXT_oneStep_21 : decode cXT_oneStep 21 = .ok (.invokevirtual 97, 3) := by decide +kernel
theorem dXT_oneStep_24 : decode cXT_oneStep 24 = .ok (.ifCond .eq 15, 3) := by decide +kernel
theorem dXT_oneStep_27 : decode cXT_oneStep 27 = .ok (.aload_n 0, 1) := by decide +kernel
theorem dXT_oneStep_28 : decode cXT_oneStep 28 = .ok (.getfield 52, 3) := by decide +kernel
theorem dXT_oneStep_31 : decode cXT_oneStep 31 = .ok (.invokevirtual 160, 3) := by decide +kernel
theorem dXT_oneStep_34 : decode cXT_oneStep 34 = .ok (.iconst 2, 1) := by decide +kernel
theorem dXT_oneStep_35 : decode cXT_oneStep 35 = .ok (.istore_n 1, 1) := by decide +kernel
theorem dXT_oneStep_36 : decode cXT_oneStep 36 = .ok (.goto 58, 3) := by decide +kernel
theorem dXT_oneStep_39 : decode cXT_oneStep 39 = .ok (.iload_n 3, 1) := by decide +kernel
theorem dXT_oneStep_40 : decode cXT_oneStep 40 = .ok (.ifCond .eq 23, 3) := by decide +kernel
theorem dXT_oneStep_43 : decode cXT_oneStep 43 = .ok (.aload_n 0, 1) := by decide +kernel
theorem dXT_oneStep_44 : decode cXT_oneStep 44 = .ok (.getfield 43, 3) := by decide +kernel
theorem dXT_oneStep_47 : decode cXT_oneStep 47 = .ok (.iload_n 3, 1) := by decide +kernel
theorem dXT_oneStep_48 : decode cXT_oneStep 48 = .ok (.invokevirtual 163, 3) := by decide +kernel
theorem dXT_oneStep_51 : decode cXT_oneStep 51 = .ok (.aload_n 0, 1) := by decide +kernel
theorem dXT_oneStep_52 : decode cXT_oneStep 52 = .ok (.getfield 61, 3) := by decide +kernel
theorem dXT_oneStep_55 : decode cXT_oneStep 55 = .ok (.iload_n 3, 1) := by decide +kernel
theorem dXT_oneStep_56 : decode cXT_oneStep 56 = .ok (.invokevirtual 167, 3) := by decide +kernel
theorem dXT_oneStep_59 : decode cXT_oneStep 59 = .ok (.istore_n 1, 1) := by decide +kernel
theorem dXT_oneStep_60 : decode cXT_oneStep 60 = .ok (.goto 34, 3) := by decide +kernel
theorem dXT_oneStep_63 : decode cXT_oneStep 63 = .ok (.aload_n 0, 1) := by decide +kernel
theorem dXT_oneStep_64 : decode cXT_oneStep 64 = .ok (.getfield 61, 3) := by decide +kernel
theorem dXT_oneStep_67 : decode cXT_oneStep 67 = .ok (.getfield 93, 3) := by decide +kernel
theorem dXT_oneStep_70 : decode cXT_oneStep 70 = .ok (.ifCond .eq 8, 3) := by decide +kernel
theorem dXT_oneStep_73 : decode cXT_oneStep 73 = .ok (.iconst 4, 1) := by decide +kernel
theorem dXT_oneStep_74 : decode cXT_oneStep 74 = .ok (.istore_n 1, 1) := by decide +kernel
theorem dXT_oneStep_75 : decode cXT_oneStep 75 = .ok (.goto 19, 3) := by decide +kernel
theorem dXT_oneStep_78 : decode cXT_oneStep 78 = .ok (.aload_n 0, 1) := by decide +kernel
theorem dXT_oneStep_79 : decode cXT_oneStep 79 = .ok (.getfield 18, 3) := by decide +kernel
theorem dXT_oneStep_82 : decode cXT_oneStep 82 = .ok (.invokevirtual 170, 3) := by decide +kernel
theorem dXT_oneStep_85 : decode cXT_oneStep 85 = .ok (.istore_n 2, 1) := by decide +kernel
theorem dXT_oneStep_86 : decode cXT_oneStep 86 = .ok (.aload_n 0, 1) := by decide +kernel
theorem dXT_oneStep_87 : decode cXT_oneStep 87 = .ok (.getfield 61, 3) := by decide +kernel
theorem dXT_oneStep_90 : decode cXT_oneStep 90 = .ok (.invokevirtual 173, 3) := by decide +kernel
theorem dXT_oneStep_93 : decode cXT_oneStep 93 = .ok (.istore_n 1, 1) := by decide +kernel
theorem dXT_oneStep_94 : decode cXT_oneStep 94 = .ok (.aload_n 0, 1) := by decide +kernel
theorem dXT_oneStep_95 : decode cXT_oneStep 95 = .ok (.getfield 18, 3) := by decide +kernel
theorem dXT_oneStep_98 : decode cXT_oneStep 98 = .ok (.iload_n 1, 1) := by decide +kernel
theorem dXT_oneStep_99 : decode cXT_oneStep 99 = .ok (.invokevirtual 176, 3) := by decide +kernel
theorem dXT_oneStep_102 : decode cXT_oneStep 102 = .ok (.aload_n 0, 1) := by decide +kernel
theorem dXT_oneStep_103 : decode cXT_oneStep 103 = .ok (.getfield 43, 3) := by decide +kernel
theorem dXT_oneStep_106 : decode cXT_oneStep 106 = .ok (.iload_n 1, 1) := by decide +kernel
theorem dXT_oneStep_107 : decode cXT_oneStep 107 = .ok (.iload_n 2, 1) := by decide +kernel
theorem dXT_oneStep_108 : decode cXT_oneStep 108 = .ok (.iadd, 1) := by decide +kernel
theorem dXT_oneStep_109 : decode cXT_oneStep 109 = .ok (.invokevirtual 179, 3) := by decide +kernel
theorem dXT_oneStep_112 : decode cXT_oneStep 112 = .ok (.iload_n 1, 1) := by decide +kernel
theorem dXT_oneStep_113 : decode cXT_oneStep 113 = .ok (.iload_n 2, 1) := by decide +kernel
theorem dXT_oneStep_114 : decode cXT_oneStep 114 = .ok (.iadd, 1) := by decide +kernel
theorem dXT_oneStep_115 : decode cXT_oneStep 115 = .ok (.ireturn, 1) := by decide +kernel
theorem dXU_init_0 : decode cXU_init 0 = .ok (.aload_n 0, 1) := by decide +kernel
theorem dXU_init_1 : decode cXU_init 1 = .ok (.invokespecial 1, 3) := by decide +kernel
theorem dXU_init_4 : decode cXU_init 4 = .ok (.aload_n 0, 1) := by decide +kernel
theorem dXU_init_5 : decode cXU_init 5 = .ok (.aload_n 1, 1) := by decide +kernel
theorem dXU_init_6 : decode cXU_init 6 = .ok (.putfield 7, 3) := by decide +kernel
theorem dXU_init_9 : decode cXU_init 9 = .ok (.aload_n 0, 1) := by decide +kernel
theorem dXU_init_10 : decode cXU_init 10 = .ok (.aload_n 2, 1) := by decide +kernel
theorem dXU_init_11 : decode cXU_init 11 = .ok (.putfield 13, 3) := by decide +kernel
theorem dXU_init_14 : decode cXU_init 14 = .ok (.aload_n 0, 1) := by decide +kernel
theorem dXU_init_15 : decode cXU_init 15 = .ok (.aload_n 3, 1) := by decide +kernel
theorem dXU_init_16 : decode cXU_init 16 = .ok (.putfield 17, 3) := by decide +kernel
theorem dXU_init_19 : decode cXU_init 19 = .ok (.aload_n 0, 1) := by decide +kernel
theorem dXU_init_20 : decode cXU_init 20 = .ok (.aload 4, 2) := by decide +kernel
theorem dXU_init_22 : decode cXU_init 22 = .ok (.putfield 21, 3) := by decide +kernel
theorem dXU_init_25 : decode cXU_init 25 = .ok (.aload_n 0, 1) := by decide +kernel
theorem dXU_init_26 : decode cXU_init 26 = .ok (.aload 5, 2) := by decide +kernel
theorem dXU_init_28 : decode cXU_init 28 = .ok (.putfield 25, 3) := by decide +kernel
theorem dXU_init_31 : decode cXU_init 31 = .ok (.aload_n 0, 1) := by decide +kernel
theorem dXU_init_32 : decode cXU_init 32 = .ok (.bipush 64, 2) := by decide +kernel
theorem dXU_init_34 : decode cXU_init 34 = .ok (.newarray .int, 2) := by decide +kernel
theorem dXU_init_36 : decode cXU_init 36 = .ok (.putfield 29, 3) := by decide +kernel
theorem dXU_init_39 : decode cXU_init 39 = .ok (.return_, 1) := by decide +kernel
theorem dXU_readQuietly_0 : decode cXU_readQuietly 0 = .ok (.iload_n 1, 1) := by decide +kernel
theorem dXU_readQuietly_1 : decode cXU_readQuietly 1 = .ok (.iconst 1, 1) := by decide +kernel
theorem dXU_readQuietly_2 : decode cXU_readQuietly 2 = .ok (.iand, 1) := by decide +kernel
theorem dXU_readQuietly_3 : decode cXU_readQuietly 3 = .ok (.ifCond .ne 7, 3) := by decide +kernel
theorem dXU_readQuietly_6 : decode cXU_readQuietly 6 = .ok (.iload_n 1, 1) := by decide +kernel
theorem dXU_readQuietly_7 : decode cXU_readQuietly 7 = .ok (.ifCond .ge 5, 3) := by decide +kernel
theorem dXU_readQuietly_10 : decode cXU_readQuietly 10 = .ok (.iconst 0, 1) := by decide +kernel
theorem dXU_readQuietly_11 : decode cXU_readQuietly 11 = .ok (.ireturn, 1) := by decide +kernel
theorem dXU_readQuietly_12 : decode cXU_readQuietly 12 = .ok (.iload_n 1, 1) := by decide +kernel
theorem dXU_readQuietly_13 : decode cXU_readQuietly 13 = .ok (.sipush 512, 3) := by decide +kernel
theorem dXU_readQuietly_16 : decode cXU_readQuietly 16 = .ok (.if_icmp .ge 12, 3) := by decide +kernel
theorem dXU_readQuietly_19 : decode cXU_readQuietly 19 = .ok (.aload_n 0, 1) := by decide +kernel
theorem dXU_readQuietly_20 : decode cXU_readQuietly 20 = .ok (.getfield 7, 3) := by decide +kernel
theorem dXU_readQuietly_23 : decode cXU_readQuietly 23 = .ok (.iload_n 1, 1) := by decide +kernel
theorem dXU_readQuietly_24 : decode cXU_readQuietly 24 = .ok (.iconst 1, 1) := by decide +kernel
theorem dXU_readQuietly_25 : decode cXU_readQuietly 25 = .ok (.ishr, 1) := by decide +kernel
theorem dXU_readQuietly_26 : decode cXU_readQuietly 26 = .ok (.iaload, 1) := by decide +kernel
theorem dXU_readQuietly_27 : decode cXU_readQuietly 27 = .ok (.ireturn, 1) := by decide +kernel
theorem dXU_readQuietly_28 : decode cXU_readQuietly 28 = .ok (.iload_n 1, 1) := by decide +kernel
theorem dXU_readQuietly_29 : decode cXU_readQuietly 29 = .ok (.sipush 640, 3) := by decide +kernel
theorem dXU_readQuietly_32 : decode cXU_readQuietly 32 = .ok (.if_icmp .ge 16, 3) := by decide +kernel
theorem dXU_readQuietly_35 : decode cXU_readQuietly 35 = .ok (.aload_n 0, 1) := by decide +kernel
theorem dXU_readQuietly_36 : decode cXU_readQuietly 36 = .ok (.getfield 29, 3) := by decide +kernel
theorem dXU_readQuietly_39 : decode cXU_readQuietly 39 = .ok (.iload_n 1, 1) := by decide +kernel
theorem dXU_readQuietly_40 : decode cXU_readQuietly 40 = .ok (.sipush 512, 3) := by decide +kernel
theorem dXU_readQuietly_43 : decode cXU_readQuietly 43 = .ok (.isub, 1) := by decide +kernel
theorem dXU_readQuietly_44 : decode cXU_readQuietly 44 = .ok (.iconst 1, 1) := by decide +kernel
theorem dXU_readQuietly_45 : decode cXU_readQuietly 45 = .ok (.ishr, 1) := by decide +kernel
theorem dXU_readQuietly_46 : decode cXU_readQuietly 46 = .ok (.iaload, 1) := by decide +kernel
theorem dXU_readQuietly_47 : decode cXU_readQuietly 47 = .ok (.ireturn, 1) := by decide +kernel
theorem dXU_readQuietly_48 : decode cXU_readQuietly 48 = .ok (.iload_n 1, 1) := by decide +kernel
theorem dXU_readQuietly_49 : decode cXU_readQuietly 49 = .ok (.sipush 768, 3) := by decide +kernel
theorem dXU_readQuietly_52 : decode cXU_readQuietly 52 = .ok (.if_icmp .lt 38, 3) := by decide +kernel
theorem dXU_readQuietly_55 : decode cXU_readQuietly 55 = .ok (.iload_n 1, 1) := by decide +kernel
theorem dXU_readQuietly_56 : decode cXU_readQuietly 56 = .ok (.sipush 896, 3) := by decide +kernel
theorem dXU_readQuietly_59 : decode cXU_readQuietly 59 = .ok (.if_icmp .ge 31, 3) := by decide +kernel
theorem dXU_readQuietly_62 : decode cXU_readQuietly 62 = .ok (.aload_n 0, 1) := by decide +kernel
theorem dXU_readQuietly_63 : decode cXU_readQuietly 63 = .ok (.getfield 13, 3) := by decide +kernel
theorem dXU_readQuietly_66 : decode cXU_readQuietly 66 = .ok (.invokevirtual 32, 3) := by decide +kernel
theorem dXU_readQuietly_69 : decode cXU_readQuietly 69 = .ok (.ifCond .eq 21, 3) := by decide +kernel
theorem dXU_readQuietly_72 : decode cXU_readQuietly 72 = .ok (.aload_n 0, 1) := by decide +kernel
theorem dXU_readQuietly_73 : decode cXU_readQuietly 73 = .ok (.getfield 13, 3) := by decide +kernel
theorem dXU_readQuietly_76 : decode cXU_readQuietly 76 = .ok (.getfield 38, 3) := by decide +kernel
theorem dXU_readQuietly_79 : decode cXU_readQuietly 79 = .ok (.iload_n 1, 1) := by decide +kernel
theorem dXU_readQuietly_80 : decode cXU_readQuietly 80 = .ok (.sipush 768, 3) := by decide +kernel
theorem dXU_readQuietly_83 : decode cXU_readQuietly 83 = .ok (.isub, 1) := by decide +kernel
theorem dXU_readQuietly_84 : decode cXU_readQuietly 84 = .ok (.iaload, 1) := by decide +kernel
theorem dXU_readQuietly_85 : decode cXU_readQuietly 85 = .ok (.sipush 257, 3) := by decide +kernel
theorem dXU_readQuietly_88 : decode cXU_readQuietly 88 = .ok (.imul, 1) := by decide +kernel
theorem dXU_readQuietly_89 : decode cXU_readQuietly 89 = .ok (.ireturn, 1) := by decide +kernel
theorem dXU_readQuietly_90 : decode cXU_readQuietly 90 = .ok (.iconst 0, 1) := by decide +kernel
theorem dXU_readQuietly_91 : decode cXU_readQuietly 91 = .ok (.ireturn, 1) := by decide +kernel
theorem dXU_read_0 : decode cXU_read 0 = .ok (.iload_n 1, 1) := by decide +kernel
theorem dXU_read_1 : decode cXU_read 1 = .ok (.lookupswitch 107 #[(1024, 51), (1028, 59), (1032, 64), (1040, 84), (1048, 102)], 51) := by decide +kernel
theorem dXU_read_52 : decode cXU_read 52 = .ok (.aload_n 0, 1) := by decide +kernel
theorem dXU_read_53 : decode cXU_read 53 = .ok (.getfield 17, 3) := by decide +kernel
theorem dXU_read_56 : decode cXU_read 56 = .ok (.invokevirtual 39, 3) := by decide +kernel
theorem dXU_read_59 : decode cXU_read 59 = .ok (.ireturn, 1) := by decide +kernel
theorem dXU_read_60 : decode cXU_read 60 = .ok (.aload_n 0, 1) := by decide +kernel
theorem dXU_read_61 : decode cXU_read 61 = .ok (.invokevirtual 45, 3) := by decide +kernel
theorem dXU_read_64 : decode cXU_read 64 = .ok (.ireturn, 1) := by decide +kernel
theorem dXU_read_65 : decode cXU_read 65 = .ok (.aload_n 0, 1) := by decide +kernel
theorem dXU_read_66 : decode cXU_read 66 = .ok (.getfield 25, 3) := by decide +kernel
theorem dXU_read_69 : decode cXU_read 69 = .ok (.getfield 48, 3) := by decide +kernel
theorem dXU_read_72 : decode cXU_read 72 = .ok (.sipush 256, 3) := by decide +kernel
theorem dXU_read_75 : decode cXU_read 75 = .ok (.imul, 1) := by decide +kernel
theorem dXU_read_76 : decode cXU_read 76 = .ok (.aload_n 0, 1) := by decide +kernel
theorem dXU_read_77 : decode cXU_read 77 = .ok (.getfield 25, 3) := by decide +kernel
theorem dXU_read_80 : decode cXU_read 80 = .ok (.getfield 54, 3) := by decide +kernel
theorem dXU_read_83 : decode cXU_read 83 = .ok (.iadd, 1) := by decide +kernel
theorem dXU_read_84 : decode cXU_read 84 = .ok (.ireturn, 1) := by decide +kernel
theorem dXU_read_85 : decode cXU_read 85 = .ok (.aload_n 0, 1) := by decide +kernel
theorem dXU_read_86 : decode cXU_read 86 = .ok (.getfield 13, 3) := by decide +kernel
theorem dXU_read_89 : decode cXU_read 89 = .ok (.getfield 57, 3) := by decide +kernel
theorem dXU_read_92 : decode cXU_read 92 = .ok (.ifCond .eq 7, 3) := by decide +kernel
theorem dXU_read_95 : decode cXU_read 95 = .ok (.iconst 0, 1) := by decide +kernel
theorem dXU_read_96 : decode cXU_read 96 = .ok (.goto 6, 3) := by decide +kernel
theorem dXU_read_99 : decode cXU_read 99 = .ok (.sipush 256, 3) := by decide +kernel
theorem dXU_read_102 : decode cXU_read 102 = .ok (.ireturn, 1) := by decide +kernel
theorem dXU_read_103 : decode cXU_read 103 = .ok (.aload_n 0, 1) := by decide +kernel
theorem dXU_read_104 : decode cXU_read 104 = .ok (.invokevirtual 61, 3) := by decide +kernel
theorem dXU_read_107 : decode cXU_read 107 = .ok (.ireturn, 1) := by decide +kernel
theorem dXU_read_108 : decode cXU_read 108 = .ok (.aload_n 0, 1) := by decide +kernel
theorem dXU_read_109 : decode cXU_read 109 = .ok (.iload_n 1, 1) := by decide +kernel
theorem dXU_read_110 : decode cXU_read 110 = .ok (.invokevirtual 64, 3) := by decide +kernel
theorem dXU_read_113 : decode cXU_read 113 = .ok (.ireturn, 1) := by decide +kernel
theorem dXU_write_0 : decode cXU_write 0 = .ok (.iload_n 1, 1) := by decide +kernel
theorem dXU_write_1 : decode cXU_write 1 = .ok (.lookupswitch 130 #[(1024, 51), (1028, 62), (1040, 73), (1044, 96), (1048, 119)], 51) := by decide +kernel
theorem dXU_write_52 : decode cXU_write 52 = .ok (.aload_n 0, 1) := by decide +kernel
theorem dXU_write_53 : decode cXU_write 53 = .ok (.getfield 17, 3) := by decide +kernel
theorem dXU_write_56 : decode cXU_write 56 = .ok (.iload_n 2, 1) := by decide +kernel
theorem dXU_write_57 : decode cXU_write 57 = .ok (.invokevirtual 68, 3) := by decide +kernel
theorem dXU_write_60 : decode cXU_write 60 = .ok (.goto 77, 3) := by decide +kernel
theorem dXU_write_63 : decode cXU_write 63 = .ok (.aload_n 0, 1) := by decide +kernel
theorem dXU_write_64 : decode cXU_write 64 = .ok (.getfield 17, 3) := by decide +kernel
theorem dXU_write_67 : decode cXU_write 67 = .ok (.iload_n 2, 1) := by decide +kernel
theorem dXU_write_68 : decode cXU_write 68 = .ok (.invokevirtual 72, 3) := by decide +kernel
theorem dXU_write_71 : decode cXU_write 71 = .ok (.goto 66, 3) := by decide +kernel
theorem dXU_write_74 : decode cXU_write 74 = .ok (.aload_n 0, 1) := by decide +kernel
theorem dXU_write_75 : decode cXU_write 75 = .ok (.getfield 13, 3) := by decide +kernel
theorem dXU_write_78 : decode cXU_write 78 = .ok (.iload_n 2, 1) := by decide +kernel
theorem dXU_write_79 : decode cXU_write 79 = .ok (.sipush 256, 3) := by decide +kernel
theorem dXU_write_82 : decode cXU_write 82 = .ok (.iand, 1) := by decide +kernel
theorem dXU_write_83 : decode cXU_write 83 = .ok (.ifCond .eq 7, 3) := by decide +kernel
theorem dXU_write_86 : decode cXU_write 86 = .ok (.iconst 1, 1) := by decide +kernel
theorem dXU_write_87 : decode cXU_write 87 = .ok (.goto 4, 3) := by decide +kernel
theorem dXU_write_90 : decode cXU_write 90 = .ok (.iconst 0, 1) := by decide +kernel
theorem dXU_write_91 : decode cXU_write 91 = .ok (.putfield 57, 3) := by decide +kernel
theorem dXU_write_94 : decode cXU_write 94 = .ok (.goto 43, 3) := by decide +kernel
theorem dXU_write_97 : decode cXU_write 97 = .ok (.aload_n 0, 1) := by decide +kernel
theorem dXU_write_98 : decode cXU_write 98 = .ok (.getfield 13, 3) := by decide +kernel
theorem dXU_write_101 : decode cXU_write 101 = .ok (.iload_n 2, 1) := by decide +kernel
theorem dXU_write_102 : decode cXU_write 102 = .ok (.sipush 256, 3) := by decide +kernel
theorem dXU_write_105 : decode cXU_write 105 = .ok (.iand, 1) := by decide +kernel
theorem dXU_write_106 : decode cXU_write 106 = .ok (.ifCond .ne 7, 3) := by decide +kernel
theorem dXU_write_109 : decode cXU_write 109 = .ok (.iconst 1, 1) := by decide +kernel
theorem dXU_write_110 : decode cXU_write 110 = .ok (.goto 4, 3) := by decide +kernel
theorem dXU_write_113 : decode cXU_write 113 = .ok (.iconst 0, 1) := by decide +kernel
theorem dXU_write_114 : decode cXU_write 114 = .ok (.invokevirtual 75, 3) := by decide +kernel
theorem dXU_write_117 : decode cXU_write 117 = .ok (.goto 20, 3) := by decide +kernel
theorem dXU_write_120 : decode cXU_write 120 = .ok (.aload_n 0, 1) := by decide +kernel
theorem dXU_write_121 : decode cXU_write 121 = .ok (.iload_n 2, 1) := by decide +kernel
theorem dXU_write_122 : decode cXU_write 122 = .ok (.bipush 64, 2) := by decide +kernel
theorem dXU_write_124 : decode cXU_write 124 = .ok (.iand, 1) := by decide +kernel
theorem dXU_write_125 : decode cXU_write 125 = .ok (.putfield 79, 3) := by decide +kernel
theorem dXU_write_128 : decode cXU_write 128 = .ok (.goto 9, 3) := by decide +kernel
theorem dXU_write_131 : decode cXU_write 131 = .ok (.aload_n 0, 1) := by decide +kernel
theorem dXU_write_132 : decode cXU_write 132 = .ok (.iload_n 1, 1) := by decide +kernel
theorem dXU_write_133 : decode cXU_write 133 = .ok (.iload_n 2, 1) := by decide +kernel
theorem dXU_write_134 : decode cXU_write 134 = .ok (.invokevirtual 82, 3) := by decide +kernel
theorem dXU_write_137 : decode cXU_write 137 = .ok (.return_, 1) := by decide +kernel
theorem dXU_moveWord_0 : decode cXU_moveWord 0 = .ok (.aload_n 0, 1) := by decide +kernel
theorem dXU_moveWord_1 : decode cXU_moveWord 1 = .ok (.getfield 17, 3) := by decide +kernel
theorem dXU_moveWord_4 : decode cXU_moveWord 4 = .ok (.getfield 86, 3) := by decide +kernel
theorem dXU_moveWord_7 : decode cXU_moveWord 7 = .ok (.istore_n 1, 1) := by decide +kernel
theorem dXU_moveWord_8 : decode cXU_moveWord 8 = .ok (.aload_n 0, 1) := by decide +kernel
theorem dXU_moveWord_9 : decode cXU_moveWord 9 = .ok (.getfield 17, 3) := by decide +kernel
theorem dXU_moveWord_12 : decode cXU_moveWord 12 = .ok (.iload_n 1, 1) := by decide +kernel
theorem dXU_moveWord_13 : decode cXU_moveWord 13 = .ok (.sipush 768, 3) := by decide +kernel
theorem dXU_moveWord_16 : decode cXU_moveWord 16 = .ok (.if_icmp .ge 11, 3) := by decide +kernel
theorem dXU_moveWord_19 : decode cXU_moveWord 19 = .ok (.aload_n 0, 1) := by decide +kernel
theorem dXU_moveWord_20 : decode cXU_moveWord 20 = .ok (.iload_n 1, 1) := by decide +kernel
theorem dXU_moveWord_21 : decode cXU_moveWord 21 = .ok (.invokevirtual 64, 3) := by decide +kernel
theorem dXU_moveWord_24 : decode cXU_moveWord 24 = .ok (.goto 4, 3) := by decide +kernel
theorem dXU_moveWord_27 : decode cXU_moveWord 27 = .ok (.iconst 0, 1) := by decide +kernel
theorem dXU_moveWord_28 : decode cXU_moveWord 28 = .ok (.invokevirtual 89, 3) := by decide +kernel
theorem dXU_moveWord_31 : decode cXU_moveWord 31 = .ok (.return_, 1) := by decide +kernel
theorem dXU_writeMemory_0 : decode cXU_writeMemory 0 = .ok (.iload_n 1, 1) := by decide +kernel
theorem dXU_writeMemory_1 : decode cXU_writeMemory 1 = .ok (.iconst 1, 1) := by decide +kernel
theorem dXU_writeMemory_2 : decode cXU_writeMemory 2 = .ok (.iand, 1) := by decide +kernel
theorem dXU_writeMemory_3 : decode cXU_writeMemory 3 = .ok (.ifCond .eq 4, 3) := by decide +kernel
theorem dXU_writeMemory_6 : decode cXU_writeMemory 6 = .ok (.return_, 1) := by decide +kernel
theorem dXU_writeMemory_7 : decode cXU_writeMemory 7 = .ok (.iload_n 1, 1) := by decide +kernel
theorem dXU_writeMemory_8 : decode cXU_writeMemory 8 = .ok (.sipush 512, 3) := by decide +kernel
theorem dXU_writeMemory_11 : decode cXU_writeMemory 11 = .ok (.if_icmp .lt 26, 3) := by decide +kernel
theorem dXU_writeMemory_14 : decode cXU_writeMemory 14 = .ok (.iload_n 1, 1) := by decide +kernel
theorem dXU_writeMemory_15 : decode cXU_writeMemory 15 = .ok (.sipush 640, 3) := by decide +kernel
theorem dXU_writeMemory_18 : decode cXU_writeMemory 18 = .ok (.if_icmp .ge 19, 3) := by decide +kernel
theorem dXU_writeMemory_21 : decode cXU_writeMemory 21 = .ok (.aload_n 0, 1) := by decide +kernel
theorem dXU_writeMemory_22 : decode cXU_writeMemory 22 = .ok (.getfield 29, 3) := by decide +kernel
theorem dXU_writeMemory_25 : decode cXU_writeMemory 25 = .ok (.iload_n 1, 1) := by decide +kernel
theorem dXU_writeMemory_26 : decode cXU_writeMemory 26 = .ok (.sipush 512, 3) := by decide +kernel
theorem dXU_writeMemory_29 : decode cXU_writeMemory 29 = .ok (.isub, 1) := by decide +kernel
theorem dXU_writeMemory_30 : decode cXU_writeMemory 30 = .ok (.iconst 1, 1) := by decide +kernel
theorem dXU_writeMemory_31 : decode cXU_writeMemory 31 = .ok (.ishr, 1) := by decide +kernel
theorem dXU_writeMemory_32 : decode cXU_writeMemory 32 = .ok (.iload_n 2, 1) := by decide +kernel
theorem dXU_writeMemory_33 : decode cXU_writeMemory 33 = .ok (.iastore, 1) := by decide +kernel
theorem dXU_writeMemory_34 : decode cXU_writeMemory 34 = .ok (.goto 44, 3) := by decide +kernel
theorem dXU_writeMemory_37 : decode cXU_writeMemory 37 = .ok (.iload_n 1, 1) := by decide +kernel
theorem dXU_writeMemory_38 : decode cXU_writeMemory 38 = .ok (.sipush 768, 3) := by decide +kernel
theorem dXU_writeMemory_41 : decode cXU_writeMemory 41 = .ok (.if_icmp .lt 37, 3) := by decide +kernel
theorem dXU_writeMemory_44 : decode cXU_writeMemory 44 = .ok (.iload_n 1, 1) := by decide +kernel
theorem dXU_writeMemory_45 : decode cXU_writeMemory 45 = .ok (.sipush 896, 3) := by decide +kernel
theorem dXU_writeMemory_48 : decode cXU_writeMemory 48 = .ok (.if_icmp .ge 30, 3) := by decide +kernel
theorem dXU_writeMemory_51 : decode cXU_writeMemory 51 = .ok (.aload_n 0, 1) := by decide +kernel
theorem dXU_writeMemory_52 : decode cXU_writeMemory 52 = .ok (.getfield 13, 3) := by decide +kernel
theorem dXU_writeMemory_55 : decode cXU_writeMemory 55 = .ok (.invokevirtual 32, 3) := by decide +kernel
theorem dXU_writeMemory_58 : decode cXU_writeMemory 58 = .ok (.ifCond .eq 20, 3) := by decide +kernel
theorem dXU_writeMemory_61 : decode cXU_writeMemory 61 = .ok (.aload_n 0, 1) := by decide +kernel
theorem dXU_writeMemory_62 : decode cXU_writeMemory 62 = .ok (.getfield 13, 3) := by decide +kernel
theorem dXU_writeMemory_65 : decode cXU_writeMemory 65 = .ok (.getfield 38, 3) := by decide +kernel
theorem dXU_writeMemory_68 : decode cXU_writeMemory 68 = .ok (.iload_n 1, 1) := by decide +kernel
theorem dXU_writeMemory_69 : decode cXU_writeMemory 69 = .ok (.sipush 768, 3) := by decide +kernel
theorem dXU_writeMemory_72 : decode cXU_writeMemory 72 = .ok (.isub, 1) := by decide +kernel
theorem dXU_writeMemory_73 : decode cXU_writeMemory 73 = .ok (.iload_n 2, 1) := by decide +kernel
theorem dXU_writeMemory_74 : decode cXU_writeMemory 74 = .ok (.bipush 8, 2) := by decide +kernel
theorem dXU_writeMemory_76 : decode cXU_writeMemory 76 = .ok (.ishr, 1) := by decide +kernel
theorem dXU_writeMemory_77 : decode cXU_writeMemory 77 = .ok (.iastore, 1) := by decide +kernel
theorem dXU_writeMemory_78 : decode cXU_writeMemory 78 = .ok (.return_, 1) := by decide +kernel
theorem dXU_readStatus_0 : decode cXU_readStatus 0 = .ok (.aload_n 0, 1) := by decide +kernel
theorem dXU_readStatus_1 : decode cXU_readStatus 1 = .ok (.getfield 17, 3) := by decide +kernel
theorem dXU_readStatus_4 : decode cXU_readStatus 4 = .ok (.iconst 0, 1) := by decide +kernel
theorem dXU_readStatus_5 : decode cXU_readStatus 5 = .ok (.putfield 92, 3) := by decide +kernel
theorem dXU_readStatus_8 : decode cXU_readStatus 8 = .ok (.aload_n 0, 1) := by decide +kernel
theorem dXU_readStatus_9 : decode cXU_readStatus 9 = .ok (.getfield 17, 3) := by decide +kernel
theorem dXU_readStatus_12 : decode cXU_readStatus 12 = .ok (.invokevirtual 95, 3) := by decide +kernel
theorem dXU_readStatus_15 : decode cXU_readStatus 15 = .ok (.ifCond .eq 7, 3) := by decide +kernel
theorem dXU_readStatus_18 : decode cXU_readStatus 18 = .ok (.iconst 2, 1) := by decide +kernel
theorem dXU_readStatus_19 : decode cXU_readStatus 19 = .ok (.goto 4, 3) := by decide +kernel
theorem dXU_readStatus_22 : decode cXU_readStatus 22 = .ok (.iconst 0, 1) := by decide +kernel
theorem dXU_readStatus_23 : decode cXU_readStatus 23 = .ok (.aload_n 0, 1) := by decide +kernel
theorem dXU_readStatus_24 : decode cXU_readStatus 24 = .ok (.getfield 25, 3) := by decide +kernel
theorem dXU_readStatus_27 : decode cXU_readStatus 27 = .ok (.getfield 48, 3) := by decide +kernel
theorem dXU_readStatus_30 : decode cXU_readStatus 30 = .ok (.bipush 8, 2) := by decide +kernel
theorem dXU_readStatus_32 : decode cXU_readStatus 32 = .ok (.if_icmp .lt 7, 3) := by decide +kernel
theorem dXU_readStatus_35 : decode cXU_readStatus 35 = .ok (.iconst 4, 1) := by decide +kernel
theorem dXU_readStatus_36 : decode cXU_readStatus 36 = .ok (.goto 4, 3) := by decide +kernel
theorem dXU_readStatus_39 : decode cXU_readStatus 39 = .ok (.iconst 0, 1) := by decide +kernel
theorem dXU_readStatus_40 : decode cXU_readStatus 40 = .ok (.iadd, 1) := by decide +kernel
theorem dXU_readStatus_41 : decode cXU_readStatus 41 = .ok (.aload_n 0, 1) := by decide +kernel
theorem dXU_readStatus_42 : decode cXU_readStatus 42 = .ok (.getfield 25, 3) := by decide +kernel
theorem dXU_readStatus_45 : decode cXU_readStatus 45 = .ok (.getfield 100, 3) := by decide +kernel
theorem dXU_readStatus_48 : decode cXU_readStatus 48 = .ok (.ifCond .eq 8, 3) := by decide +kernel
theorem dXU_readStatus_51 : decode cXU_readStatus 51 = .ok (.bipush 8, 2) := by decide +kernel
theorem dXU_readStatus_53 : decode cXU_readStatus 53 = .ok (.goto 4, 3) := by decide +kernel
theorem dXU_readStatus_56 : decode cXU_readStatus 56 = .ok (.iconst 0, 1) := by decide +kernel
theorem dXU_readStatus_57 : decode cXU_readStatus 57 = .ok (.iadd, 1) := by decide +kernel
theorem dXU_readStatus_58 : decode cXU_readStatus 58 = .ok (.aload_n 0, 1) := by decide +kernel
theorem dXU_readStatus_59 : decode cXU_readStatus 59 = .ok (.getfield 21, 3) := by decide +kernel
theorem dXU_readStatus_62 : decode cXU_readStatus 62 = .ok (.getfield 103, 3) := by decide +kernel
theorem dXU_readStatus_65 : decode cXU_readStatus 65 = .ok (.ifCond .eq 8, 3) := by decide +kernel
theorem dXU_readStatus_68 : decode cXU_readStatus 68 = .ok (.bipush 32, 2) := by decide +kernel
theorem dXU_readStatus_70 : decode cXU_readStatus 70 = .ok (.goto 4, 3) := by decide +kernel
theorem dXU_readStatus_73 : decode cXU_readStatus 73 = .ok (.iconst 0, 1) := by decide +kernel
theorem dXU_readStatus_74 : decode cXU_readStatus 74 = .ok (.iadd, 1) := by decide +kernel
theorem dXU_readStatus_75 : decode cXU_readStatus 75 = .ok (.aload_n 0, 1) := by decide +kernel
theorem dXU_readStatus_76 : decode cXU_readStatus 76 = .ok (.getfield 21, 3) := by decide +kernel
theorem dXU_readStatus_79 : decode cXU_readStatus 79 = .ok (.getfield 106, 3) := by decide +kernel
theorem dXU_readStatus_82 : decode cXU_readStatus 82 = .ok (.ifCond .eq 8, 3) := by decide +kernel
theorem dXU_readStatus_85 : decode cXU_readStatus 85 = .ok (.bipush 64, 2) := by decide +kernel
theorem dXU_readStatus_87 : decode cXU_readStatus 87 = .ok (.goto 4, 3) := by decide +kernel
theorem dXU_readStatus_90 : decode cXU_readStatus 90 = .ok (.iconst 0, 1) := by decide +kernel
theorem dXU_readStatus_91 : decode cXU_readStatus 91 = .ok (.iadd, 1) := by decide +kernel
theorem dXU_readStatus_92 : decode cXU_readStatus 92 = .ok (.istore_n 1, 1) := by decide +kernel
theorem dXU_readStatus_93 : decode cXU_readStatus 93 = .ok (.aload_n 0, 1) := by decide +kernel
theorem dXU_readStatus_94 : decode cXU_readStatus 94 = .ok (.getfield 21, 3) := by decide +kernel
theorem dXU_readStatus_97 : decode cXU_readStatus 97 = .ok (.iconst 0, 1) := by decide +kernel
theorem dXU_readStatus_98 : decode cXU_readStatus 98 = .ok (.putfield 103, 3) := by decide +kernel
theorem dXU_readStatus_101 : decode cXU_readStatus 101 = .ok (.aload_n 0, 1) := by decide +kernel
theorem dXU_readStatus_102 : decode cXU_readStatus 102 = .ok (.getfield 21, 3) := by decide +kernel
theorem dXU_readStatus_105 : decode cXU_readStatus 105 = .ok (.iconst 0, 1) := by decide +kernel
theorem dXU_readStatus_106 : decode cXU_readStatus 106 = .ok (.putfield 106, 3) := by decide +kernel
theorem dXU_readStatus_109 : decode cXU_readStatus 109 = .ok (.iload_n 1, 1) := by decide +kernel
theorem dXU_readStatus_110 : decode cXU_readStatus 110 = .ok (.ireturn, 1) := by decide +kernel
theorem dXU_readPad_0 : decode cXU_readPad 0 = .ok (.aload_n 0, 1) := by decide +kernel
theorem dXU_readPad_1 : decode cXU_readPad 1 = .ok (.getfield 79, 3) := by decide +kernel
theorem dXU_readPad_4 : decode cXU_readPad 4 = .ok (.ifCond .eq 16, 3) := by decide +kernel
theorem dXU_readPad_7 : decode cXU_readPad 7 = .ok (.aload_n 0, 1) := by decide +kernel
theorem dXU_readPad_8 : decode cXU_readPad 8 = .ok (.getfield 79, 3) := by decide +kernel
theorem dXU_readPad_11 : decode cXU_readPad 11 = .ok (.aload_n 0, 1) := by decide +kernel
theorem dXU_readPad_12 : decode cXU_readPad 12 = .ok (.getfield 109, 3) := by decide +kernel
theorem dXU_readPad_15 : decode cXU_readPad 15 = .ok (.bipush 63, 2) := by decide +kernel
theorem dXU_readPad_17 : decode cXU_readPad 17 = .ok (.iand, 1) := by decide +kernel
theorem dXU_readPad_18 : decode cXU_readPad 18 = .ok (.ior, 1) := by decide +kernel
theorem dXU_readPad_19 : decode cXU_readPad 19 = .ok (.ireturn, 1) := by decide +kernel
theorem dXU_readPad_20 : decode cXU_readPad 20 = .ok (.aload_n 0, 1) := by decide +kernel
theorem dXU_readPad_21 : decode cXU_readPad 21 = .ok (.getfield 109, 3) := by decide +kernel
theorem dXU_readPad_24 : decode cXU_readPad 24 = .ok (.iconst 2, 1) := by decide +kernel
theorem dXU_readPad_25 : decode cXU_readPad 25 = .ok (.ishr, 1) := by decide +kernel
theorem dXU_readPad_26 : decode cXU_readPad 26 = .ok (.bipush 48, 2) := by decide +kernel
theorem dXU_readPad_28 : decode cXU_readPad 28 = .ok (.iand, 1) := by decide +kernel
theorem dXU_readPad_29 : decode cXU_readPad 29 = .ok (.aload_n 0, 1) := by decide +kernel
theorem dXU_readPad_30 : decode cXU_readPad 30 = .ok (.getfield 109, 3) := by decide +kernel
theorem dXU_readPad_33 : decode cXU_readPad 33 = .ok (.iconst 3, 1) := by decide +kernel
theorem dXU_readPad_34 : decode cXU_readPad 34 = .ok (.iand, 1) := by decide +kernel
theorem dXU_readPad_35 : decode cXU_readPad 35 = .ok (.ior, 1) := by decide +kernel
theorem dXU_readPad_36 : decode cXU_readPad 36 = .ok (.ireturn, 1) := by decide +kernel
