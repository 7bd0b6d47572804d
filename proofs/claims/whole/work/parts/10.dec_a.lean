theorem dXB_init_0 : decode cXB_init 0 = .ok (.aload_n 0, 1) := by decide +kernel
theorem dXB_init_1 : decode cXB_init 1 = .ok (.invokespecial 1, 3) := by decide +kernel
theorem dXB_init_4 : decode cXB_init 4 = .ok (.aload_n 0, 1) := by decide +kernel
theorem dXB_init_5 : decode cXB_init 5 = .ok (.aload_n 1, 1) := by decide +kernel
theorem dXB_init_6 : decode cXB_init 6 = .ok (.putfield 7, 3) := by decide +kernel
theorem dXB_init_9 : decode cXB_init 9 = .ok (.aload_n 0, 1) := by decide +kernel
theorem dXB_init_10 : decode cXB_init 10 = .ok (.aload_n 2, 1) := by decide +kernel
theorem dXB_init_11 : decode cXB_init 11 = .ok (.putfield 13, 3) := by decide +kernel
theorem dXB_init_14 : decode cXB_init 14 = .ok (.aload_n 0, 1) := by decide +kernel
theorem dXB_init_15 : decode cXB_init 15 = .ok (.aload_n 3, 1) := by decide +kernel
theorem dXB_init_16 : decode cXB_init 16 = .ok (.putfield 17, 3) := by decide +kernel
theorem dXB_init_19 : decode cXB_init 19 = .ok (.return_, 1) := by decide +kernel
theorem dXB_highestPending_0 : decode cXB_highestPending 0 = .ok (.aload_n 0, 1) := by decide +kernel
theorem dXB_highestPending_1 : decode cXB_highestPending 1 = .ok (.getfield 21, 3) := by decide +kernel
theorem dXB_highestPending_4 : decode cXB_highestPending 4 = .ok (.ifCond .eq 12, 3) := by decide +kernel
theorem dXB_highestPending_7 : decode cXB_highestPending 7 = .ok (.iload_n 1, 1) := by decide +kernel
theorem dXB_highestPending_8 : decode cXB_highestPending 8 = .ok (.bipush 6, 2) := by decide +kernel
theorem dXB_highestPending_10 : decode cXB_highestPending 10 = .ok (.if_icmp .ge 6, 3) := by decide +kernel
theorem dXB_highestPending_13 : decode cXB_highestPending 13 = .ok (.bipush 6, 2) := by decide +kernel
theorem dXB_highestPending_15 : decode cXB_highestPending 15 = .ok (.ireturn, 1) := by decide +kernel
theorem dXB_highestPending_16 : decode cXB_highestPending 16 = .ok (.aload_n 0, 1) := by decide +kernel
theorem dXB_highestPending_17 : decode cXB_highestPending 17 = .ok (.getfield 25, 3) := by decide +kernel
theorem dXB_highestPending_20 : decode cXB_highestPending 20 = .ok (.ifCond .eq 12, 3) := by decide +kernel
theorem dXB_highestPending_23 : decode cXB_highestPending 23 = .ok (.iload_n 1, 1) := by decide +kernel
theorem dXB_highestPending_24 : decode cXB_highestPending 24 = .ok (.iconst 4, 1) := by decide +kernel
theorem dXB_highestPending_25 : decode cXB_highestPending 25 = .ok (.if_icmp .ge 7, 3) := by decide +kernel
theorem dXB_highestPending_28 : decode cXB_highestPending 28 = .ok (.iconst 4, 1) := by decide +kernel
theorem dXB_highestPending_29 : decode cXB_highestPending 29 = .ok (.goto 4, 3) := by decide +kernel
theorem dXB_highestPending_32 : decode cXB_highestPending 32 = .ok (.iconst 0, 1) := by decide +kernel
theorem dXB_highestPending_33 : decode cXB_highestPending 33 = .ok (.ireturn, 1) := by decide +kernel
theorem dXB_takePending_0 : decode cXB_takePending 0 = .ok (.iload_n 1, 1) := by decide +kernel
theorem dXB_takePending_1 : decode cXB_takePending 1 = .ok (.bipush 6, 2) := by decide +kernel
theorem dXB_takePending_3 : decode cXB_takePending 3 = .ok (.if_icmp .ne 11, 3) := by decide +kernel
theorem dXB_takePending_6 : decode cXB_takePending 6 = .ok (.aload_n 0, 1) := by decide +kernel
theorem dXB_takePending_7 : decode cXB_takePending 7 = .ok (.iconst 0, 1) := by decide +kernel
theorem dXB_takePending_8 : decode cXB_takePending 8 = .ok (.putfield 21, 3) := by decide +kernel
theorem dXB_takePending_11 : decode cXB_takePending 11 = .ok (.goto 8, 3) := by decide +kernel
theorem dXB_takePending_14 : decode cXB_takePending 14 = .ok (.aload_n 0, 1) := by decide +kernel
theorem dXB_takePending_15 : decode cXB_takePending 15 = .ok (.iconst 0, 1) := by decide +kernel
theorem dXB_takePending_16 : decode cXB_takePending 16 = .ok (.putfield 25, 3) := by decide +kernel
theorem dXB_takePending_19 : decode cXB_takePending 19 = .ok (.return_, 1) := by decide +kernel
theorem dXB_goOn_0 : decode cXB_goOn 0 = .ok (.aload_n 0, 1) := by decide +kernel
theorem dXB_goOn_1 : decode cXB_goOn 1 = .ok (.getfield 28, 3) := by decide +kernel
theorem dXB_goOn_4 : decode cXB_goOn 4 = .ok (.iload_n 1, 1) := by decide +kernel
theorem dXB_goOn_5 : decode cXB_goOn 5 = .ok (.iadd, 1) := by decide +kernel
theorem dXB_goOn_6 : decode cXB_goOn 6 = .ok (.bipush 64, 2) := by decide +kernel
theorem dXB_goOn_8 : decode cXB_goOn 8 = .ok (.idiv, 1) := by decide +kernel
theorem dXB_goOn_9 : decode cXB_goOn 9 = .ok (.istore_n 2, 1) := by decide +kernel
theorem dXB_goOn_10 : decode cXB_goOn 10 = .ok (.aload_n 0, 1) := by decide +kernel
theorem dXB_goOn_11 : decode cXB_goOn 11 = .ok (.aload_n 0, 1) := by decide +kernel
theorem dXB_goOn_12 : decode cXB_goOn 12 = .ok (.getfield 28, 3) := by decide +kernel
theorem dXB_goOn_15 : decode cXB_goOn 15 = .ok (.iload_n 1, 1) := by decide +kernel
theorem dXB_goOn_16 : decode cXB_goOn 16 = .ok (.iadd, 1) := by decide +kernel
theorem dXB_goOn_17 : decode cXB_goOn 17 = .ok (.bipush 64, 2) := by decide +kernel
theorem dXB_goOn_19 : decode cXB_goOn 19 = .ok (.irem, 1) := by decide +kernel
theorem dXB_goOn_20 : decode cXB_goOn 20 = .ok (.putfield 28, 3) := by decide +kernel
theorem dXB_goOn_23 : decode cXB_goOn 23 = .ok (.iconst 0, 1) := by decide +kernel
theorem dXB_goOn_24 : decode cXB_goOn 24 = .ok (.istore_n 3, 1) := by decide +kernel
theorem dXB_goOn_25 : decode cXB_goOn 25 = .ok (.iload_n 3, 1) := by decide +kernel
theorem dXB_goOn_26 : decode cXB_goOn 26 = .ok (.iload_n 2, 1) := by decide +kernel
theorem dXB_goOn_27 : decode cXB_goOn 27 = .ok (.if_icmp .ge 53, 3) := by decide +kernel
theorem dXB_goOn_30 : decode cXB_goOn 30 = .ok (.aload_n 0, 1) := by decide +kernel
theorem dXB_goOn_31 : decode cXB_goOn 31 = .ok (.aload_n 0, 1) := by decide +kernel
theorem dXB_goOn_32 : decode cXB_goOn 32 = .ok (.getfield 32, 3) := by decide +kernel
theorem dXB_goOn_35 : decode cXB_goOn 35 = .ok (.iconst 1, 1) := by decide +kernel
theorem dXB_goOn_36 : decode cXB_goOn 36 = .ok (.iadd, 1) := by decide +kernel
theorem dXB_goOn_37 : decode cXB_goOn 37 = .ok (.bipush 12, 2) := by decide +kernel
theorem dXB_goOn_39 : decode cXB_goOn 39 = .ok (.irem, 1) := by decide +kernel
theorem dXB_goOn_40 : decode cXB_goOn 40 = .ok (.putfield 32, 3) := by decide +kernel
theorem dXB_goOn_43 : decode cXB_goOn 43 = .ok (.aload_n 0, 1) := by decide +kernel
theorem dXB_goOn_44 : decode cXB_goOn 44 = .ok (.getfield 32, 3) := by decide +kernel
theorem dXB_goOn_47 : decode cXB_goOn 47 = .ok (.bipush 8, 2) := by decide +kernel
theorem dXB_goOn_49 : decode cXB_goOn 49 = .ok (.if_icmp .ge 21, 3) := by decide +kernel
theorem dXB_goOn_52 : decode cXB_goOn 52 = .ok (.aload_n 0, 1) := by decide +kernel
theorem dXB_goOn_53 : decode cXB_goOn 53 = .ok (.getfield 13, 3) := by decide +kernel
theorem dXB_goOn_56 : decode cXB_goOn 56 = .ok (.aload_n 0, 1) := by decide +kernel
theorem dXB_goOn_57 : decode cXB_goOn 57 = .ok (.getfield 32, 3) := by decide +kernel
theorem dXB_goOn_60 : decode cXB_goOn 60 = .ok (.invokevirtual 37, 3) := by decide +kernel
theorem dXB_goOn_63 : decode cXB_goOn 63 = .ok (.aload_n 0, 1) := by decide +kernel
theorem dXB_goOn_64 : decode cXB_goOn 64 = .ok (.invokevirtual 41, 3) := by decide +kernel
theorem dXB_goOn_67 : decode cXB_goOn 67 = .ok (.goto 7, 3) := by decide +kernel
theorem dXB_goOn_70 : decode cXB_goOn 70 = .ok (.aload_n 0, 1) := by decide +kernel
theorem dXB_goOn_71 : decode cXB_goOn 71 = .ok (.invokevirtual 44, 3) := by decide +kernel
theorem dXB_goOn_74 : decode cXB_goOn 74 = .ok (.iinc 3 1, 3) := by decide +kernel
theorem dXB_goOn_77 : decode cXB_goOn 77 = .ok (.goto (-52), 3) := by decide +kernel
theorem dXB_goOn_80 : decode cXB_goOn 80 = .ok (.return_, 1) := by decide +kernel
theorem dXB_beginHiddenLine_0 : decode cXB_beginHiddenLine 0 = .ok (.aload_n 0, 1) := by decide +kernel
theorem dXB_beginHiddenLine_1 : decode cXB_beginHiddenLine 1 = .ok (.aload_n 0, 1) := by decide +kernel
theorem dXB_beginHiddenLine_2 : decode cXB_beginHiddenLine 2 = .ok (.getfield 7, 3) := by decide +kernel
theorem dXB_beginHiddenLine_5 : decode cXB_beginHiddenLine 5 = .ok (.getfield 47, 3) := by decide +kernel
theorem dXB_beginHiddenLine_8 : decode cXB_beginHiddenLine 8 = .ok (.bipush 8, 2) := by decide +kernel
theorem dXB_beginHiddenLine_10 : decode cXB_beginHiddenLine 10 = .ok (.iaload, 1) := by decide +kernel
theorem dXB_beginHiddenLine_11 : decode cXB_beginHiddenLine 11 = .ok (.putfield 53, 3) := by decide +kernel
theorem dXB_beginHiddenLine_14 : decode cXB_beginHiddenLine 14 = .ok (.aload_n 0, 1) := by decide +kernel
theorem dXB_beginHiddenLine_15 : decode cXB_beginHiddenLine 15 = .ok (.getfield 32, 3) := by decide +kernel
theorem dXB_beginHiddenLine_18 : decode cXB_beginHiddenLine 18 = .ok (.bipush 8, 2) := by decide +kernel
theorem dXB_beginHiddenLine_20 : decode cXB_beginHiddenLine 20 = .ok (.if_icmp .ne 41, 3) := by decide +kernel
theorem dXB_beginHiddenLine_23 : decode cXB_beginHiddenLine 23 = .ok (.aload_n 0, 1) := by decide +kernel
theorem dXB_beginHiddenLine_24 : decode cXB_beginHiddenLine 24 = .ok (.aload_n 0, 1) := by decide +kernel
theorem dXB_beginHiddenLine_25 : decode cXB_beginHiddenLine 25 = .ok (.getfield 21, 3) := by decide +kernel
theorem dXB_beginHiddenLine_28 : decode cXB_beginHiddenLine 28 = .ok (.ifCond .ne 18, 3) := by decide +kernel
theorem dXB_beginHiddenLine_31 : decode cXB_beginHiddenLine 31 = .ok (.aload_n 0, 1) := by decide +kernel
theorem dXB_beginHiddenLine_32 : decode cXB_beginHiddenLine 32 = .ok (.getfield 7, 3) := by decide +kernel
theorem dXB_beginHiddenLine_35 : decode cXB_beginHiddenLine 35 = .ok (.getfield 47, 3) := by decide +kernel
theorem dXB_beginHiddenLine_38 : decode cXB_beginHiddenLine 38 = .ok (.iconst 1, 1) := by decide +kernel
theorem dXB_beginHiddenLine_39 : decode cXB_beginHiddenLine 39 = .ok (.iaload, 1) := by decide +kernel
theorem dXB_beginHiddenLine_40 : decode cXB_beginHiddenLine 40 = .ok (.bipush 32, 2) := by decide +kernel
theorem dXB_beginHiddenLine_42 : decode cXB_beginHiddenLine 42 = .ok (.iand, 1) := by decide +kernel
theorem dXB_beginHiddenLine_43 : decode cXB_beginHiddenLine 43 = .ok (.ifCond .eq 7, 3) := by decide +kernel
theorem dXB_beginHiddenLine_46 : decode cXB_beginHiddenLine 46 = .ok (.iconst 1, 1) := by decide +kernel
theorem dXB_beginHiddenLine_47 : decode cXB_beginHiddenLine 47 = .ok (.goto 4, 3) := by decide +kernel
theorem dXB_beginHiddenLine_50 : decode cXB_beginHiddenLine 50 = .ok (.iconst 0, 1) := by decide +kernel
theorem dXB_beginHiddenLine_51 : decode cXB_beginHiddenLine 51 = .ok (.putfield 21, 3) := by decide +kernel
theorem dXB_beginHiddenLine_54 : decode cXB_beginHiddenLine 54 = .ok (.aload_n 0, 1) := by decide +kernel
theorem dXB_beginHiddenLine_55 : decode cXB_beginHiddenLine 55 = .ok (.getfield 17, 3) := by decide +kernel
theorem dXB_beginHiddenLine_58 : decode cXB_beginHiddenLine 58 = .ok (.invokevirtual 56, 3) := by decide +kernel
theorem dXB_beginHiddenLine_61 : decode cXB_beginHiddenLine 61 = .ok (.return_, 1) := by decide +kernel
theorem dXB_countDown_0 : decode cXB_countDown 0 = .ok (.aload_n 0, 1) := by decide +kernel
theorem dXB_countDown_1 : decode cXB_countDown 1 = .ok (.getfield 53, 3) := by decide +kernel
theorem dXB_countDown_4 : decode cXB_countDown 4 = .ok (.ifCond .le 14, 3) := by decide +kernel
theorem dXB_countDown_7 : decode cXB_countDown 7 = .ok (.aload_n 0, 1) := by decide +kernel
theorem dXB_countDown_8 : decode cXB_countDown 8 = .ok (.dup, 1) := by decide +kernel
theorem dXB_countDown_9 : decode cXB_countDown 9 = .ok (.getfield 53, 3) := by decide +kernel
theorem dXB_countDown_12 : decode cXB_countDown 12 = .ok (.iconst 1, 1) := by decide +kernel
theorem dXB_countDown_13 : decode cXB_countDown 13 = .ok (.isub, 1) := by decide +kernel
theorem dXB_countDown_14 : decode cXB_countDown 14 = .ok (.putfield 53, 3) := by decide +kernel
theorem dXB_countDown_17 : decode cXB_countDown 17 = .ok (.return_, 1) := by decide +kernel
theorem dXB_countDown_18 : decode cXB_countDown 18 = .ok (.aload_n 0, 1) := by decide +kernel
theorem dXB_countDown_19 : decode cXB_countDown 19 = .ok (.aload_n 0, 1) := by decide +kernel
theorem dXB_countDown_20 : decode cXB_countDown 20 = .ok (.getfield 7, 3) := by decide +kernel
theorem dXB_countDown_23 : decode cXB_countDown 23 = .ok (.getfield 47, 3) := by decide +kernel
theorem dXB_countDown_26 : decode cXB_countDown 26 = .ok (.bipush 8, 2) := by decide +kernel
theorem dXB_countDown_28 : decode cXB_countDown 28 = .ok (.iaload, 1) := by decide +kernel
theorem dXB_countDown_29 : decode cXB_countDown 29 = .ok (.putfield 53, 3) := by decide +kernel
theorem dXB_countDown_32 : decode cXB_countDown 32 = .ok (.aload_n 0, 1) := by decide +kernel
theorem dXB_countDown_33 : decode cXB_countDown 33 = .ok (.aload_n 0, 1) := by decide +kernel
theorem dXB_countDown_34 : decode cXB_countDown 34 = .ok (.getfield 25, 3) := by decide +kernel
theorem dXB_countDown_37 : decode cXB_countDown 37 = .ok (.ifCond .ne 18, 3) := by decide +kernel
theorem dXB_countDown_40 : decode cXB_countDown 40 = .ok (.aload_n 0, 1) := by decide +kernel
theorem dXB_countDown_41 : decode cXB_countDown 41 = .ok (.getfield 7, 3) := by decide +kernel
theorem dXB_countDown_44 : decode cXB_countDown 44 = .ok (.getfield 47, 3) := by decide +kernel
theorem dXB_countDown_47 : decode cXB_countDown 47 = .ok (.iconst 0, 1) := by decide +kernel
theorem dXB_countDown_48 : decode cXB_countDown 48 = .ok (.iaload, 1) := by decide +kernel
theorem dXB_countDown_49 : decode cXB_countDown 49 = .ok (.bipush 16, 2) := by decide +kernel
theorem dXB_countDown_51 : decode cXB_countDown 51 = .ok (.iand, 1) := by decide +kernel
theorem dXB_countDown_52 : decode cXB_countDown 52 = .ok (.ifCond .eq 7, 3) := by decide +kernel
theorem dXB_countDown_55 : decode cXB_countDown 55 = .ok (.iconst 1, 1) := by decide +kernel
theorem dXB_countDown_56 : decode cXB_countDown 56 = .ok (.goto 4, 3) := by decide +kernel
theorem dXB_countDown_59 : decode cXB_countDown 59 = .ok (.iconst 0, 1) := by decide +kernel
theorem dXB_countDown_60 : decode cXB_countDown 60 = .ok (.putfield 25, 3) := by decide +kernel
theorem dXB_countDown_63 : decode cXB_countDown 63 = .ok (.return_, 1) := by decide +kernel
theorem dXD_init_0 : decode cXD_init 0 = .ok (.aload_n 0, 1) := by decide +kernel
theorem dXD_init_1 : decode cXD_init 1 = .ok (.invokespecial 1, 3) := by decide +kernel
theorem dXD_init_4 : decode cXD_init 4 = .ok (.aload_n 0, 1) := by decide +kernel
theorem dXD_init_5 : decode cXD_init 5 = .ok (.aload_n 1, 1) := by decide +kernel
theorem dXD_init_6 : decode cXD_init 6 = .ok (.putfield 7, 3) := by decide +kernel
theorem dXD_init_9 : decode cXD_init 9 = .ok (.aload_n 0, 1) := by decide +kernel
theorem dXD_init_10 : decode cXD_init 10 = .ok (.aload_n 1, 1) := by decide +kernel
theorem dXD_init_11 : decode cXD_init 11 = .ok (.getfield 13, 3) := by decide +kernel
theorem dXD_init_14 : decode cXD_init 14 = .ok (.putfield 19, 3) := by decide +kernel
theorem dXD_init_17 : decode cXD_init 17 = .ok (.aload_n 0, 1) := by decide +kernel
theorem dXD_init_18 : decode cXD_init 18 = .ok (.sipush 128, 3) := by decide +kernel
theorem dXD_init_21 : decode cXD_init 21 = .ok (.newarray .int, 2) := by decide +kernel
theorem dXD_init_23 : decode cXD_init 23 = .ok (.putfield 20, 3) := by decide +kernel
theorem dXD_init_26 : decode cXD_init 26 = .ok (.aload_n 0, 1) := by decide +kernel
theorem dXD_init_27 : decode cXD_init 27 = .ok (.bipush 16, 2) := by decide +kernel
theorem dXD_init_29 : decode cXD_init 29 = .ok (.newarray .int, 2) := by decide +kernel
theorem dXD_init_31 : decode cXD_init 31 = .ok (.putfield 23, 3) := by decide +kernel
theorem dXD_init_34 : decode cXD_init 34 = .ok (.aload_n 0, 1) := by decide +kernel
theorem dXD_init_35 : decode cXD_init 35 = .ok (.bipush 16, 2) := by decide +kernel
theorem dXD_init_37 : decode cXD_init 37 = .ok (.newarray .int, 2) := by decide +kernel
theorem dXD_init_39 : decode cXD_init 39 = .ok (.putfield 26, 3) := by decide +kernel
theorem dXD_init_42 : decode cXD_init 42 = .ok (.aload_n 0, 1) := by decide +kernel
theorem dXD_init_43 : decode cXD_init 43 = .ok (.bipush 16, 2) := by decide +kernel
theorem dXD_init_45 : decode cXD_init 45 = .ok (.newarray .int, 2) := by decide +kernel
theorem dXD_init_47 : decode cXD_init 47 = .ok (.putfield 29, 3) := by decide +kernel
theorem dXD_init_50 : decode cXD_init 50 = .ok (.aload_n 0, 1) := by decide +kernel
theorem dXD_init_51 : decode cXD_init 51 = .ok (.iconst 3, 1) := by decide +kernel
theorem dXD_init_52 : decode cXD_init 52 = .ok (.newarray .int, 2) := by decide +kernel
theorem dXD_init_54 : decode cXD_init 54 = .ok (.putfield 32, 3) := by decide +kernel
theorem dXD_init_57 : decode cXD_init 57 = .ok (.return_, 1) := by decide +kernel
theorem dXD_draw_0 : decode cXD_draw 0 = .ok (.aload_n 0, 1) := by decide +kernel
theorem dXD_draw_1 : decode cXD_draw 1 = .ok (.getfield 19, 3) := by decide +kernel
theorem dXD_draw_4 : decode cXD_draw 4 = .ok (.iconst 1, 1) := by decide +kernel
theorem dXD_draw_5 : decode cXD_draw 5 = .ok (.iaload, 1) := by decide +kernel
theorem dXD_draw_6 : decode cXD_draw 6 = .ok (.bipush 64, 2) := by decide +kernel
theorem dXD_draw_8 : decode cXD_draw 8 = .ok (.iand, 1) := by decide +kernel
theorem dXD_draw_9 : decode cXD_draw 9 = .ok (.ifCond .eq 7, 3) := by decide +kernel
theorem dXD_draw_12 : decode cXD_draw 12 = .ok (.iconst 1, 1) := by decide +kernel
theorem dXD_draw_13 : decode cXD_draw 13 = .ok (.goto 4, 3) := by decide +kernel
theorem dXD_draw_16 : decode cXD_draw 16 = .ok (.iconst 0, 1) := by decide +kernel
theorem dXD_draw_17 : decode cXD_draw 17 = .ok (.istore_n 2, 1) := by decide +kernel
theorem dXD_draw_18 : decode cXD_draw 18 = .ok (.iload_n 2, 1) := by decide +kernel
theorem dXD_draw_19 : decode cXD_draw 19 = .ok (.ifCond .eq 28, 3) := by decide +kernel
theorem dXD_draw_22 : decode cXD_draw 22 = .ok (.aload_n 0, 1) := by decide +kernel
theorem dXD_draw_23 : decode cXD_draw 23 = .ok (.aload_n 0, 1) := by decide +kernel
theorem dXD_draw_24 : decode cXD_draw 24 = .ok (.getfield 23, 3) := by decide +kernel
theorem dXD_draw_27 : decode cXD_draw 27 = .ok (.iconst 0, 1) := by decide +kernel
theorem dXD_draw_28 : decode cXD_draw 28 = .ok (.iload_n 1, 1) := by decide +kernel
theorem dXD_draw_29 : decode cXD_draw 29 = .ok (.invokevirtual 35, 3) := by decide +kernel
theorem dXD_draw_32 : decode cXD_draw 32 = .ok (.aload_n 0, 1) := by decide +kernel
theorem dXD_draw_33 : decode cXD_draw 33 = .ok (.aload_n 0, 1) := by decide +kernel
theorem dXD_draw_34 : decode cXD_draw 34 = .ok (.getfield 26, 3) := by decide +kernel
theorem dXD_draw_37 : decode cXD_draw 37 = .ok (.iconst 1, 1) := by decide +kernel
theorem dXD_draw_38 : decode cXD_draw 38 = .ok (.iload_n 1, 1) := by decide +kernel
theorem dXD_draw_39 : decode cXD_draw 39 = .ok (.invokevirtual 35, 3) := by decide +kernel
theorem dXD_draw_42 : decode cXD_draw 42 = .ok (.aload_n 0, 1) := by decide +kernel
theorem dXD_draw_43 : decode cXD_draw 43 = .ok (.iload_n 1, 1) := by decide +kernel
theorem dXD_draw_44 : decode cXD_draw 44 = .ok (.invokevirtual 39, 3) := by decide +kernel
theorem dXD_draw_47 : decode cXD_draw 47 = .ok (.aload_n 0, 1) := by decide +kernel
theorem dXD_draw_48 : decode cXD_draw 48 = .ok (.getfield 19, 3) := by decide +kernel
theorem dXD_draw_51 : decode cXD_draw 51 = .ok (.bipush 7, 2) := by decide +kernel
theorem dXD_draw_53 : decode cXD_draw 53 = .ok (.iaload, 1) := by decide +kernel
theorem dXD_draw_54 : decode cXD_draw 54 = .ok (.bipush 15, 2) := by decide +kernel
theorem dXD_draw_56 : decode cXD_draw 56 = .ok (.iand, 1) := by decide +kernel
theorem dXD_draw_57 : decode cXD_draw 57 = .ok (.istore_n 3, 1) := by decide +kernel
theorem dXD_draw_58 : decode cXD_draw 58 = .ok (.iconst 0, 1) := by decide +kernel
theorem dXD_draw_59 : decode cXD_draw 59 = .ok (.istore 4, 2) := by decide +kernel
theorem dXD_draw_61 : decode cXD_draw 61 = .ok (.iload 4, 2) := by decide +kernel
theorem dXD_draw_63 : decode cXD_draw 63 = .ok (.bipush 16, 2) := by decide +kernel
theorem dXD_draw_65 : decode cXD_draw 65 = .ok (.if_icmp .ge 69, 3) := by decide +kernel
theorem dXD_draw_68 : decode cXD_draw 68 = .ok (.iload_n 2, 1) := by decide +kernel
theorem dXD_draw_69 : decode cXD_draw 69 = .ok (.ifCond .eq 30, 3) := by decide +kernel
theorem dXD_draw_72 : decode cXD_draw 72 = .ok (.aload_n 0, 1) := by decide +kernel
theorem dXD_draw_73 : decode cXD_draw 73 = .ok (.getfield 29, 3) := by decide +kernel
theorem dXD_draw_76 : decode cXD_draw 76 = .ok (.iload 4, 2) := by decide +kernel
theorem dXD_draw_78 : decode cXD_draw 78 = .ok (.iaload, 1) := by decide +kernel
theorem dXD_draw_79 : decode cXD_draw 79 = .ok (.aload_n 0, 1) := by decide +kernel
theorem dXD_draw_80 : decode cXD_draw 80 = .ok (.getfield 23, 3) := by decide +kernel
theorem dXD_draw_83 : decode cXD_draw 83 = .ok (.iload 4, 2) := by decide +kernel
theorem dXD_draw_85 : decode cXD_draw 85 = .ok (.iaload, 1) := by decide +kernel
theorem dXD_draw_86 : decode cXD_draw 86 = .ok (.aload_n 0, 1) := by decide +kernel
theorem dXD_draw_87 : decode cXD_draw 87 = .ok (.getfield 26, 3) := by decide +kernel
theorem dXD_draw_90 : decode cXD_draw 90 = .ok (.iload 4, 2) := by decide +kernel
theorem dXD_draw_92 : decode cXD_draw 92 = .ok (.iaload, 1) := by decide +kernel
theorem dXD_draw_93 : decode cXD_draw 93 = .ok (.invokestatic 43, 3) := by decide +kernel
theorem dXD_draw_96 : decode cXD_draw 96 = .ok (.goto 4, 3) := by decide +kernel
theorem dXD_draw_99 : decode cXD_draw 99 = .ok (.iconst 0, 1) := by decide +kernel
theorem dXD_draw_100 : decode cXD_draw 100 = .ok (.istore 5, 2) := by decide +kernel
theorem dXD_draw_102 : decode cXD_draw 102 = .ok (.aload_n 0, 1) := by decide +kernel
theorem dXD_draw_103 : decode cXD_draw 103 = .ok (.getfield 20, 3) := by decide +kernel
theorem dXD_draw_106 : decode cXD_draw 106 = .ok (.iload_n 1, 1) := by decide +kernel
theorem dXD_draw_107 : decode cXD_draw 107 = .ok (.bipush 16, 2) := by decide +kernel
theorem dXD_draw_109 : decode cXD_draw 109 = .ok (.imul, 1) := by decide +kernel
theorem dXD_draw_110 : decode cXD_draw 110 = .ok (.iload 4, 2) := by decide +kernel
theorem dXD_draw_112 : decode cXD_draw 112 = .ok (.iadd, 1) := by decide +kernel
theorem dXD_draw_113 : decode cXD_draw 113 = .ok (.iload 5, 2) := by decide +kernel
theorem dXD_draw_115 : decode cXD_draw 115 = .ok (.ifCond .ne 7, 3) := by decide +kernel
theorem dXD_draw_118 : decode cXD_draw 118 = .ok (.iload_n 3, 1) := by decide +kernel
theorem dXD_draw_119 : decode cXD_draw 119 = .ok (.goto 8, 3) := by decide +kernel
theorem dXD_draw_122 : decode cXD_draw 122 = .ok (.iload 5, 2) := by decide +kernel
theorem dXD_draw_124 : decode cXD_draw 124 = .ok (.bipush 15, 2) := by decide +kernel
theorem dXD_draw_126 : decode cXD_draw 126 = .ok (.iand, 1) := by decide +kernel
theorem dXD_draw_127 : decode cXD_draw 127 = .ok (.iastore, 1) := by decide +kernel
theorem dXD_draw_128 : decode cXD_draw 128 = .ok (.iinc 4 1, 3) := by decide +kernel
theorem dXD_draw_131 : decode cXD_draw 131 = .ok (.goto (-70), 3) := by decide +kernel
theorem dXD_draw_134 : decode cXD_draw 134 = .ok (.return_, 1) := by decide +kernel
theorem dXD_foremost_0 : decode cXD_foremost 0 = .ok (.iload_n 0, 1) := by decide +kernel
theorem dXD_foremost_1 : decode cXD_foremost 1 = .ok (.bipush 16, 2) := by decide +kernel
theorem dXD_foremost_3 : decode cXD_foremost 3 = .ok (.if_icmp .le 5, 3) := by decide +kernel
theorem dXD_foremost_6 : decode cXD_foremost 6 = .ok (.iload_n 0, 1) := by decide +kernel
theorem dXD_foremost_7 : decode cXD_foremost 7 = .ok (.ireturn, 1) := by decide +kernel
theorem dXD_foremost_8 : decode cXD_foremost 8 = .ok (.iload_n 1, 1) := by decide +kernel
theorem dXD_foremost_9 : decode cXD_foremost 9 = .ok (.bipush 16, 2) := by decide +kernel
theorem dXD_foremost_11 : decode cXD_foremost 11 = .ok (.if_icmp .le 5, 3) := by decide +kernel
theorem dXD_foremost_14 : decode cXD_foremost 14 = .ok (.iload_n 1, 1) := by decide +kernel
theorem dXD_foremost_15 : decode cXD_foremost 15 = .ok (.ireturn, 1) := by decide +kernel
theorem dXD_foremost_16 : decode cXD_foremost 16 = .ok (.iload_n 2, 1) := by decide +kernel
theorem dXD_foremost_17 : decode cXD_foremost 17 = .ok (.bipush 16, 2) := by decide +kernel
theorem dXD_foremost_19 : decode cXD_foremost 19 = .ok (.if_icmp .le 5, 3) := by decide +kernel
theorem dXD_foremost_22 : decode cXD_foremost 22 = .ok (.iload_n 2, 1) := by decide +kernel
theorem dXD_foremost_23 : decode cXD_foremost 23 = .ok (.ireturn, 1) := by decide +kernel
theorem dXD_foremost_24 : decode cXD_foremost 24 = .ok (.iload_n 0, 1) := by decide +kernel
theorem dXD_foremost_25 : decode cXD_foremost 25 = .ok (.ifCond .eq 5, 3) := by decide +kernel
theorem dXD_foremost_28 : decode cXD_foremost 28 = .ok (.iload_n 0, 1) := by decide +kernel
theorem dXD_foremost_29 : decode cXD_foremost 29 = .ok (.ireturn, 1) := by decide +kernel
theorem dXD_foremost_30 : decode cXD_foremost 30 = .ok (.iload_n 1, 1) := by decide +kernel
theorem dXD_foremost_31 : decode cXD_foremost 31 = .ok (.ifCond .eq 7, 3) := by decide +kernel
theorem dXD_foremost_34 : decode cXD_foremost 34 = .ok (.iload_n 1, 1) := by decide +kernel
theorem dXD_foremost_35 : decode cXD_foremost 35 = .ok (.goto 4, 3) := by decide +kernel
theorem dXD_foremost_38 : decode cXD_foremost 38 = .ok (.iload_n 2, 1) := by decide +kernel
theorem dXD_foremost_39 : decode cXD_foremost 39 = .ok (.ireturn, 1) := by decide +kernel
theorem dXD_drawPlane_0 : decode cXD_drawPlane 0 = .ok (.aload_n 0, 1) := by decide +kernel
theorem dXD_drawPlane_1 : decode cXD_drawPlane 1 = .ok (.getfield 19, 3) := by decide +kernel
theorem dXD_drawPlane_4 : decode cXD_drawPlane 4 = .ok (.iconst 2, 1) := by decide +kernel
theorem dXD_drawPlane_5 : decode cXD_drawPlane 5 = .ok (.iconst 2, 1) := by decide +kernel
theorem dXD_drawPlane_6 : decode cXD_drawPlane 6 = .ok (.iload_n 2, 1) := by decide +kernel
theorem dXD_drawPlane_7 : decode cXD_drawPlane 7 = .ok (.imul, 1) := by decide +kernel
theorem dXD_drawPlane_8 : decode cXD_drawPlane 8 = .ok (.iadd, 1) := by decide +kernel
theorem dXD_drawPlane_9 : decode cXD_drawPlane 9 = .ok (.iaload, 1) := by decide +kernel
theorem dXD_drawPlane_10 : decode cXD_drawPlane 10 = .ok (.bipush 15, 2) := by decide +kernel
theorem dXD_drawPlane_12 : decode cXD_drawPlane 12 = .ok (.iand, 1) := by decide +kernel
theorem dXD_drawPlane_13 : decode cXD_drawPlane 13 = .ok (.bipush 32, 2) := by decide +kernel
theorem dXD_drawPlane_15 : decode cXD_drawPlane 15 = .ok (.imul, 1) := by decide +kernel
theorem dXD_drawPlane_16 : decode cXD_drawPlane 16 = .ok (.istore 4, 2) := by decide +kernel
theorem dXD_drawPlane_18 : decode cXD_drawPlane 18 = .ok (.aload_n 0, 1) := by decide +kernel
theorem dXD_drawPlane_19 : decode cXD_drawPlane 19 = .ok (.getfield 7, 3) := by decide +kernel
theorem dXD_drawPlane_22 : decode cXD_drawPlane 22 = .ok (.aload_n 0, 1) := by decide +kernel
theorem dXD_drawPlane_23 : decode cXD_drawPlane 23 = .ok (.getfield 19, 3) := by decide +kernel
theorem dXD_drawPlane_26 : decode cXD_drawPlane 26 = .ok (.bipush 13, 2) := by decide +kernel
theorem dXD_drawPlane_28 : decode cXD_drawPlane 28 = .ok (.iaload, 1) := by decide +kernel
theorem dXD_drawPlane_29 : decode cXD_drawPlane 29 = .ok (.bipush 31, 2) := by decide +kernel
theorem dXD_drawPlane_31 : decode cXD_drawPlane 31 = .ok (.iand, 1) := by decide +kernel
theorem dXD_drawPlane_32 : decode cXD_drawPlane 32 = .ok (.bipush 16, 2) := by decide +kernel
theorem dXD_drawPlane_34 : decode cXD_drawPlane 34 = .ok (.imul, 1) := by decide +kernel
theorem dXD_drawPlane_35 : decode cXD_drawPlane 35 = .ok (.iload_n 2, 1) := by decide +kernel
theorem dXD_drawPlane_36 : decode cXD_drawPlane 36 = .ok (.iadd, 1) := by decide +kernel
theorem dXD_drawPlane_37 : decode cXD_drawPlane 37 = .ok (.invokevirtual 47, 3) := by decide +kernel
theorem dXD_drawPlane_40 : decode cXD_drawPlane 40 = .ok (.istore 5, 2) := by decide +kernel
theorem dXD_drawPlane_42 : decode cXD_drawPlane 42 = .ok (.aload_n 0, 1) := by decide +kernel
theorem dXD_drawPlane_43 : decode cXD_drawPlane 43 = .ok (.getfield 7, 3) := by decide +kernel
theorem dXD_drawPlane_46 : decode cXD_drawPlane 46 = .ok (.getfield 51, 3) := by decide +kernel
theorem dXD_drawPlane_49 : decode cXD_drawPlane 49 = .ok (.iload_n 2, 1) := by decide +kernel
theorem dXD_drawPlane_50 : decode cXD_drawPlane 50 = .ok (.iaload, 1) := by decide +kernel
theorem dXD_drawPlane_51 : decode cXD_drawPlane 51 = .ok (.istore 6, 2) := by decide +kernel
theorem dXD_drawPlane_53 : decode cXD_drawPlane 53 = .ok (.iload_n 2, 1) := by decide +kernel
theorem dXD_drawPlane_54 : decode cXD_drawPlane 54 = .ok (.ifCond .ne 15, 3) := by decide +kernel
theorem dXD_drawPlane_57 : decode cXD_drawPlane 57 = .ok (.aload_n 0, 1) := by decide +kernel
theorem dXD_drawPlane_58 : decode cXD_drawPlane 58 = .ok (.getfield 19, 3) := by decide +kernel
theorem dXD_drawPlane_61 : decode cXD_drawPlane 61 = .ok (.iconst 3, 1) := by decide +kernel
theorem dXD_drawPlane_62 : decode cXD_drawPlane 62 = .ok (.iaload, 1) := by decide +kernel
theorem dXD_drawPlane_63 : decode cXD_drawPlane 63 = .ok (.bipush 7, 2) := by decide +kernel
theorem dXD_drawPlane_65 : decode cXD_drawPlane 65 = .ok (.iand, 1) := by decide +kernel
theorem dXD_drawPlane_66 : decode cXD_drawPlane 66 = .ok (.goto 4, 3) := by decide +kernel
theorem dXD_drawPlane_69 : decode cXD_drawPlane 69 = .ok (.iconst 0, 1) := by decide +kernel
theorem dXD_drawPlane_70 : decode cXD_drawPlane 70 = .ok (.istore 7, 2) := by decide +kernel
theorem dXD_drawPlane_72 : decode cXD_drawPlane 72 = .ok (.iconst 0, 1) := by decide +kernel
theorem dXD_drawPlane_73 : decode cXD_drawPlane 73 = .ok (.istore 8, 2) := by decide +kernel
theorem dXD_drawPlane_75 : decode cXD_drawPlane 75 = .ok (.iload 8, 2) := by decide +kernel
theorem dXD_drawPlane_77 : decode cXD_drawPlane 77 = .ok (.bipush 16, 2) := by decide +kernel
theorem dXD_drawPlane_79 : decode cXD_drawPlane 79 = .ok (.if_icmp .ge 105, 3) := by decide +kernel
theorem dXD_drawPlane_82 : decode cXD_drawPlane 82 = .ok (.iload 8, 2) := by decide +kernel
theorem dXD_drawPlane_84 : decode cXD_drawPlane 84 = .ok (.iconst 4, 1) := by decide +kernel
theorem dXD_drawPlane_85 : decode cXD_drawPlane 85 = .ok (.idiv, 1) := by decide +kernel
theorem dXD_drawPlane_86 : decode cXD_drawPlane 86 = .ok (.iload 7, 2) := by decide +kernel
theorem dXD_drawPlane_88 : decode cXD_drawPlane 88 = .ok (.if_icmp .lt 7, 3) := by decide +kernel
theorem dXD_drawPlane_91 : decode cXD_drawPlane 91 = .ok (.iconst 1, 1) := by decide +kernel
theorem dXD_drawPlane_92 : decode cXD_drawPlane 92 = .ok (.goto 4, 3) := by decide +kernel
theorem dXD_drawPlane_95 : decode cXD_drawPlane 95 = .ok (.iconst 0, 1) := by decide +kernel
theorem dXD_drawPlane_96 : decode cXD_drawPlane 96 = .ok (.istore 9, 2) := by decide +kernel
theorem dXD_drawPlane_98 : decode cXD_drawPlane 98 = .ok (.iload 9, 2) := by decide +kernel
theorem dXD_drawPlane_100 : decode cXD_drawPlane 100 = .ok (.ifCond .eq 14, 3) := by decide +kernel
theorem dXD_drawPlane_103 : decode cXD_drawPlane 103 = .ok (.iload 8, 2) := by decide +kernel
theorem dXD_drawPlane_105 : decode cXD_drawPlane 105 = .ok (.iload 5, 2) := by decide +kernel
theorem dXD_drawPlane_107 : decode cXD_drawPlane 107 = .ok (.isub, 1) := by decide +kernel
theorem dXD_drawPlane_108 : decode cXD_drawPlane 108 = .ok (.bipush 31, 2) := by decide +kernel
theorem dXD_drawPlane_110 : decode cXD_drawPlane 110 = .ok (.iand, 1) := by decide +kernel
theorem dXD_drawPlane_111 : decode cXD_drawPlane 111 = .ok (.goto 5, 3) := by decide +kernel
theorem dXD_drawPlane_114 : decode cXD_drawPlane 114 = .ok (.iload 8, 2) := by decide +kernel
theorem dXD_drawPlane_116 : decode cXD_drawPlane 116 = .ok (.istore 10, 2) := by decide +kernel
theorem dXD_drawPlane_118 : decode cXD_drawPlane 118 = .ok (.iload 9, 2) := by decide +kernel
theorem dXD_drawPlane_120 : decode cXD_drawPlane 120 = .ok (.ifCond .eq 13, 3) := by decide +kernel
theorem dXD_drawPlane_123 : decode cXD_drawPlane 123 = .ok (.iload_n 3, 1) := by decide +kernel
theorem dXD_drawPlane_124 : decode cXD_drawPlane 124 = .ok (.iload 6, 2) := by decide +kernel
theorem dXD_drawPlane_126 : decode cXD_drawPlane 126 = .ok (.iadd, 1) := by decide +kernel
theorem dXD_drawPlane_127 : decode cXD_drawPlane 127 = .ok (.bipush 15, 2) := by decide +kernel
theorem dXD_drawPlane_129 : decode cXD_drawPlane 129 = .ok (.iand, 1) := by decide +kernel
theorem dXD_drawPlane_130 : decode cXD_drawPlane 130 = .ok (.goto 4, 3) := by decide +kernel
theorem dXD_drawPlane_133 : decode cXD_drawPlane 133 = .ok (.iload_n 3, 1) := by decide +kernel
theorem dXD_drawPlane_134 : decode cXD_drawPlane 134 = .ok (.istore 11, 2) := by decide +kernel
theorem dXD_drawPlane_136 : decode cXD_drawPlane 136 = .ok (.aload_n 0, 1) := by decide +kernel
theorem dXD_drawPlane_137 : decode cXD_drawPlane 137 = .ok (.getfield 7, 3) := by decide +kernel
theorem dXD_drawPlane_140 : decode cXD_drawPlane 140 = .ok (.iload 4, 2) := by decide +kernel
theorem dXD_drawPlane_142 : decode cXD_drawPlane 142 = .ok (.iload 11, 2) := by decide +kernel
theorem dXD_drawPlane_144 : decode cXD_drawPlane 144 = .ok (.iconst 4, 1) := by decide +kernel
theorem dXD_drawPlane_145 : decode cXD_drawPlane 145 = .ok (.idiv, 1) := by decide +kernel
theorem dXD_drawPlane_146 : decode cXD_drawPlane 146 = .ok (.bipush 8, 2) := by decide +kernel
theorem dXD_drawPlane_148 : decode cXD_drawPlane 148 = .ok (.imul, 1) := by decide +kernel
theorem dXD_drawPlane_149 : decode cXD_drawPlane 149 = .ok (.iadd, 1) := by decide +kernel
theorem dXD_drawPlane_150 : decode cXD_drawPlane 150 = .ok (.iload 10, 2) := by decide +kernel
theorem dXD_drawPlane_152 : decode cXD_drawPlane 152 = .ok (.iconst 4, 1) := by decide +kernel
theorem dXD_drawPlane_153 : decode cXD_drawPlane 153 = .ok (.idiv, 1) := by decide +kernel
theorem dXD_drawPlane_154 : decode cXD_drawPlane 154 = .ok (.iadd, 1) := by decide +kernel
theorem dXD_drawPlane_155 : decode cXD_drawPlane 155 = .ok (.invokevirtual 47, 3) := by decide +kernel
theorem dXD_drawPlane_158 : decode cXD_drawPlane 158 = .ok (.istore 12, 2) := by decide +kernel
theorem dXD_drawPlane_160 : decode cXD_drawPlane 160 = .ok (.aload_n 1, 1) := by decide +kernel
theorem dXD_drawPlane_161 : decode cXD_drawPlane 161 = .ok (.iload 8, 2) := by decide +kernel
theorem dXD_drawPlane_163 : decode cXD_drawPlane 163 = .ok (.aload_n 0, 1) := by decide +kernel
theorem dXD_drawPlane_164 : decode cXD_drawPlane 164 = .ok (.iload 12, 2) := by decide +kernel
theorem dXD_drawPlane_166 : decode cXD_drawPlane 166 = .ok (.iload 10, 2) := by decide +kernel
theorem dXD_drawPlane_168 : decode cXD_drawPlane 168 = .ok (.iconst 3, 1) := by decide +kernel
theorem dXD_drawPlane_169 : decode cXD_drawPlane 169 = .ok (.iand, 1) := by decide +kernel
theorem dXD_drawPlane_170 : decode cXD_drawPlane 170 = .ok (.iload 11, 2) := by decide +kernel
theorem dXD_drawPlane_172 : decode cXD_drawPlane 172 = .ok (.iconst 3, 1) := by decide +kernel
theorem dXD_drawPlane_173 : decode cXD_drawPlane 173 = .ok (.iand, 1) := by decide +kernel
theorem dXD_drawPlane_174 : decode cXD_drawPlane 174 = .ok (.invokevirtual 54, 3) := by decide +kernel
theorem dXD_drawPlane_177 : decode cXD_drawPlane 177 = .ok (.iastore, 1) := by decide +kernel
theorem dXD_drawPlane_178 : decode cXD_drawPlane 178 = .ok (.iinc 8 1, 3) := by decide +kernel
theorem dXD_drawPlane_181 : decode cXD_drawPlane 181 = .ok (.goto (-106), 3) := by decide +kernel
theorem dXD_drawPlane_184 : decode cXD_drawPlane 184 = .ok (.return_, 1) := by decide +kernel
theorem dXD_patternDot_0 : decode cXD_patternDot 0 = .ok (.iload_n 1, 1) := by decide +kernel
theorem dXD_patternDot_1 : decode cXD_patternDot 1 = .ok (.sipush 2048, 3) := by decide +kernel
theorem dXD_patternDot_4 : decode cXD_patternDot 4 = .ok (.iand, 1) := by decide +kernel
theorem dXD_patternDot_5 : decode cXD_patternDot 5 = .ok (.ifCond .eq 9, 3) := by decide +kernel
theorem dXD_patternDot_8 : decode cXD_patternDot 8 = .ok (.iconst 3, 1) := by decide +kernel
theorem dXD_patternDot_9 : decode cXD_patternDot 9 = .ok (.iload_n 2, 1) := by decide +kernel
theorem dXD_patternDot_10 : decode cXD_patternDot 10 = .ok (.isub, 1) := by decide +kernel
theorem dXD_patternDot_11 : decode cXD_patternDot 11 = .ok (.goto 4, 3) := by decide +kernel
theorem dXD_patternDot_14 : decode cXD_patternDot 14 = .ok (.iload_n 2, 1) := by decide +kernel
theorem dXD_patternDot_15 : decode cXD_patternDot 15 = .ok (.istore 4, 2) := by decide +kernel
theorem dXD_patternDot_17 : decode cXD_patternDot 17 = .ok (.iload_n 1, 1) := by decide +kernel
theorem dXD_patternDot_18 : decode cXD_patternDot 18 = .ok (.sipush 4096, 3) := by decide +kernel
theorem dXD_patternDot_21 : decode cXD_patternDot 21 = .ok (.iand, 1) := by decide +kernel
theorem dXD_patternDot_22 : decode cXD_patternDot 22 = .ok (.ifCond .eq 9, 3) := by decide +kernel
theorem dXD_patternDot_25 : decode cXD_patternDot 25 = .ok (.iconst 3, 1) := by decide +kernel
theorem dXD_patternDot_26 : decode cXD_patternDot 26 = .ok (.iload_n 3, 1) := by decide +kernel
theorem dXD_patternDot_27 : decode cXD_patternDot 27 = .ok (.isub, 1) := by decide +kernel
theorem dXD_patternDot_28 : decode cXD_patternDot 28 = .ok (.goto 4, 3) := by decide +kernel
theorem dXD_patternDot_31 : decode cXD_patternDot 31 = .ok (.iload_n 3, 1) := by decide +kernel
theorem dXD_patternDot_32 : decode cXD_patternDot 32 = .ok (.istore 5, 2) := by decide +kernel
theorem dXD_patternDot_34 : decode cXD_patternDot 34 = .ok (.aload_n 0, 1) := by decide +kernel
theorem dXD_patternDot_35 : decode cXD_patternDot 35 = .ok (.getfield 7, 3) := by decide +kernel
theorem dXD_patternDot_38 : decode cXD_patternDot 38 = .ok (.iload_n 1, 1) := by decide +kernel
theorem dXD_patternDot_39 : decode cXD_patternDot 39 = .ok (.bipush 127, 2) := by decide +kernel
theorem dXD_patternDot_41 : decode cXD_patternDot 41 = .ok (.iand, 1) := by decide +kernel
theorem dXD_patternDot_42 : decode cXD_patternDot 42 = .ok (.iconst 4, 1) := by decide +kernel
theorem dXD_patternDot_43 : decode cXD_patternDot 43 = .ok (.imul, 1) := by decide +kernel
theorem dXD_patternDot_44 : decode cXD_patternDot 44 = .ok (.iload 5, 2) := by decide +kernel
theorem dXD_patternDot_46 : decode cXD_patternDot 46 = .ok (.iadd, 1) := by decide +kernel
theorem dXD_patternDot_47 : decode cXD_patternDot 47 = .ok (.invokevirtual 47, 3) := by decide +kernel
theorem dXD_patternDot_50 : decode cXD_patternDot 50 = .ok (.bipush 12, 2) := by decide +kernel
theorem dXD_patternDot_52 : decode cXD_patternDot 52 = .ok (.iconst 4, 1) := by decide +kernel
theorem dXD_patternDot_53 : decode cXD_patternDot 53 = .ok (.iload 4, 2) := by decide +kernel
theorem dXD_patternDot_55 : decode cXD_patternDot 55 = .ok (.imul, 1) := by decide +kernel
theorem dXD_patternDot_56 : decode cXD_patternDot 56 = .ok (.isub, 1) := by decide +kernel
theorem dXD_patternDot_57 : decode cXD_patternDot 57 = .ok (.ishr, 1) := by decide +kernel
theorem dXD_patternDot_58 : decode cXD_patternDot 58 = .ok (.bipush 15, 2) := by decide +kernel
theorem dXD_patternDot_60 : decode cXD_patternDot 60 = .ok (.iand, 1) := by decide +kernel
theorem dXD_patternDot_61 : decode cXD_patternDot 61 = .ok (.istore 6, 2) := by decide +kernel
theorem dXD_patternDot_63 : decode cXD_patternDot 63 = .ok (.iload 6, 2) := by decide +kernel
theorem dXD_patternDot_65 : decode cXD_patternDot 65 = .ok (.ifCond .eq 18, 3) := by decide +kernel
theorem dXD_patternDot_68 : decode cXD_patternDot 68 = .ok (.iload_n 1, 1) := by decide +kernel
theorem dXD_patternDot_69 : decode cXD_patternDot 69 = .ok (.ldc 57, 2) := by decide +kernel
theorem dXD_patternDot_71 : decode cXD_patternDot 71 = .ok (.iand, 1) := by decide +kernel
theorem dXD_patternDot_72 : decode cXD_patternDot 72 = .ok (.ifCond .eq 11, 3) := by decide +kernel
theorem dXD_patternDot_75 : decode cXD_patternDot 75 = .ok (.iload 6, 2) := by decide +kernel
theorem dXD_patternDot_77 : decode cXD_patternDot 77 = .ok (.bipush 16, 2) := by decide +kernel
theorem dXD_patternDot_79 : decode cXD_patternDot 79 = .ok (.iadd, 1) := by decide +kernel
theorem dXD_patternDot_80 : decode cXD_patternDot 80 = .ok (.goto 5, 3) := by decide +kernel
theorem dXD_patternDot_83 : decode cXD_patternDot 83 = .ok (.iload 6, 2) := by decide +kernel
theorem dXD_patternDot_85 : decode cXD_patternDot 85 = .ok (.ireturn, 1) := by decide +kernel
theorem dXD_drawSprites_0 : decode cXD_drawSprites 0 = .ok (.iconst 0, 1) := by decide +kernel
theorem dXD_drawSprites_1 : decode cXD_drawSprites 1 = .ok (.istore_n 2, 1) := by decide +kernel
theorem dXD_drawSprites_2 : decode cXD_drawSprites 2 = .ok (.iload_n 2, 1) := by decide +kernel
theorem dXD_drawSprites_3 : decode cXD_drawSprites 3 = .ok (.bipush 16, 2) := by decide +kernel
theorem dXD_drawSprites_5 : decode cXD_drawSprites 5 = .ok (.if_icmp .ge 16, 3) := by decide +kernel
theorem dXD_drawSprites_8 : decode cXD_drawSprites 8 = .ok (.aload_n 0, 1) := by decide +kernel
theorem dXD_drawSprites_9 : decode cXD_drawSprites 9 = .ok (.getfield 29, 3) := by decide +kernel
theorem dXD_drawSprites_12 : decode cXD_drawSprites 12 = .ok (.iload_n 2, 1) := by decide +kernel
theorem dXD_drawSprites_13 : decode cXD_drawSprites 13 = .ok (.iconst 0, 1) := by decide +kernel
theorem dXD_drawSprites_14 : decode cXD_drawSprites 14 = .ok (.iastore, 1) := by decide +kernel
theorem dXD_drawSprites_15 : decode cXD_drawSprites 15 = .ok (.iinc 2 1, 3) := by decide +kernel
theorem dXD_drawSprites_18 : decode cXD_drawSprites 18 = .ok (.goto (-16), 3) := by decide +kernel
theorem dXD_drawSprites_21 : decode cXD_drawSprites 21 = .ok (.aload_n 0, 1) := by decide +kernel
theorem dXD_drawSprites_22 : decode cXD_drawSprites 22 = .ok (.iload_n 1, 1) := by decide +kernel
theorem dXD_drawSprites_23 : decode cXD_drawSprites 23 = .ok (.invokevirtual 58, 3) := by decide +kernel
theorem dXD_drawSprites_26 : decode cXD_drawSprites 26 = .ok (.istore_n 2, 1) := by decide +kernel
theorem dXD_drawSprites_27 : decode cXD_drawSprites 27 = .ok (.iconst 0, 1) := by decide +kernel
theorem dXD_drawSprites_28 : decode cXD_drawSprites 28 = .ok (.istore_n 3, 1) := by decide +kernel
theorem dXD_drawSprites_29 : decode cXD_drawSprites 29 = .ok (.iload_n 3, 1) := by decide +kernel
theorem dXD_drawSprites_30 : decode cXD_drawSprites 30 = .ok (.iload_n 2, 1) := by decide +kernel
theorem dXD_drawSprites_31 : decode cXD_drawSprites 31 = .ok (.if_icmp .ge 20, 3) := by decide +kernel
theorem dXD_drawSprites_34 : decode cXD_drawSprites 34 = .ok (.aload_n 0, 1) := by decide +kernel
theorem dXD_drawSprites_35 : decode cXD_drawSprites 35 = .ok (.aload_n 0, 1) := by decide +kernel
theorem dXD_drawSprites_36 : decode cXD_drawSprites 36 = .ok (.getfield 32, 3) := by decide +kernel
theorem dXD_drawSprites_39 : decode cXD_drawSprites 39 = .ok (.iload_n 3, 1) := by decide +kernel
theorem dXD_drawSprites_40 : decode cXD_drawSprites 40 = .ok (.iaload, 1) := by decide +kernel
theorem dXD_drawSprites_41 : decode cXD_drawSprites 41 = .ok (.iload_n 1, 1) := by decide +kernel
theorem dXD_drawSprites_42 : decode cXD_drawSprites 42 = .ok (.invokevirtual 61, 3) := by decide +kernel
theorem dXD_drawSprites_45 : decode cXD_drawSprites 45 = .ok (.iinc 3 1, 3) := by decide +kernel
theorem dXD_drawSprites_48 : decode cXD_drawSprites 48 = .ok (.goto (-19), 3) := by decide +kernel
theorem dXD_drawSprites_51 : decode cXD_drawSprites 51 = .ok (.return_, 1) := by decide +kernel
theorem dXD_takeSprites_0 : decode cXD_takeSprites 0 = .ok (.aload_n 0, 1) := by decide +kernel
theorem dXD_takeSprites_1 : decode cXD_takeSprites 1 = .ok (.getfield 19, 3) := by decide +kernel
theorem dXD_takeSprites_4 : decode cXD_takeSprites 4 = .ok (.iconst 5, 1) := by decide +kernel
theorem dXD_takeSprites_5 : decode cXD_takeSprites 5 = .ok (.iaload, 1) := by decide +kernel
theorem dXD_takeSprites_6 : decode cXD_takeSprites 6 = .ok (.bipush 15, 2) := by decide +kernel
theorem dXD_takeSprites_8 : decode cXD_takeSprites 8 = .ok (.iand, 1) := by decide +kernel
theorem dXD_takeSprites_9 : decode cXD_takeSprites 9 = .ok (.bipush 32, 2) := by decide +kernel
theorem dXD_takeSprites_11 : decode cXD_takeSprites 11 = .ok (.imul, 1) := by decide +kernel
theorem dXD_takeSprites_12 : decode cXD_takeSprites 12 = .ok (.istore_n 2, 1) := by decide +kernel
theorem dXD_takeSprites_13 : decode cXD_takeSprites 13 = .ok (.iconst 0, 1) := by decide +kernel
theorem dXD_takeSprites_14 : decode cXD_takeSprites 14 = .ok (.istore_n 3, 1) := by decide +kernel
theorem dXD_takeSprites_15 : decode cXD_takeSprites 15 = .ok (.iconst 0, 1) := by decide +kernel
theorem dXD_takeSprites_16 : decode cXD_takeSprites 16 = .ok (.istore 4, 2) := by decide +kernel
theorem dXD_takeSprites_18 : decode cXD_takeSprites 18 = .ok (.iconst 0, 1) := by decide +kernel
theorem dXD_takeSprites_19 : decode cXD_takeSprites 19 = .ok (.istore 5, 2) := by decide +kernel
theorem dXD_takeSprites_21 : decode cXD_takeSprites 21 = .ok (.iload 5, 2) := by decide +kernel
theorem dXD_takeSprites_23 : decode cXD_takeSprites 23 = .ok (.bipush 8, 2) := by decide +kernel
theorem dXD_takeSprites_25 : decode cXD_takeSprites 25 = .ok (.if_icmp .ge 96, 3) := by decide +kernel
theorem dXD_takeSprites_28 : decode cXD_takeSprites 28 = .ok (.iload_n 2, 1) := by decide +kernel
theorem dXD_takeSprites_29 : decode cXD_takeSprites 29 = .ok (.iconst 4, 1) := by decide +kernel
theorem dXD_takeSprites_30 : decode cXD_takeSprites 30 = .ok (.iload 4, 2) := by decide +kernel
theorem dXD_takeSprites_32 : decode cXD_takeSprites 32 = .ok (.imul, 1) := by decide +kernel
theorem dXD_takeSprites_33 : decode cXD_takeSprites 33 = .ok (.iadd, 1) := by decide +kernel
theorem dXD_takeSprites_34 : decode cXD_takeSprites 34 = .ok (.istore 6, 2) := by decide +kernel
theorem dXD_takeSprites_36 : decode cXD_takeSprites 36 = .ok (.aload_n 0, 1) := by decide +kernel
theorem dXD_takeSprites_37 : decode cXD_takeSprites 37 = .ok (.iload 6, 2) := by decide +kernel
theorem dXD_takeSprites_39 : decode cXD_takeSprites 39 = .ok (.iload_n 1, 1) := by decide +kernel
theorem dXD_takeSprites_40 : decode cXD_takeSprites 40 = .ok (.invokevirtual 65, 3) := by decide +kernel
theorem dXD_takeSprites_43 : decode cXD_takeSprites 43 = .ok (.ifCond .eq 49, 3) := by decide +kernel
theorem dXD_takeSprites_46 : decode cXD_takeSprites 46 = .ok (.iload_n 3, 1) := by decide +kernel
theorem dXD_takeSprites_47 : decode cXD_takeSprites 47 = .ok (.iconst 3, 1) := by decide +kernel
theorem dXD_takeSprites_48 : decode cXD_takeSprites 48 = .ok (.if_icmp .ne 10, 3) := by decide +kernel
theorem dXD_takeSprites_51 : decode cXD_takeSprites 51 = .ok (.aload_n 0, 1) := by decide +kernel
theorem dXD_takeSprites_52 : decode cXD_takeSprites 52 = .ok (.iconst 1, 1) := by decide +kernel
theorem dXD_takeSprites_53 : decode cXD_takeSprites 53 = .ok (.putfield 69, 3) := by decide +kernel
theorem dXD_takeSprites_56 : decode cXD_takeSprites 56 = .ok (.iload_n 3, 1) := by decide +kernel
theorem dXD_takeSprites_57 : decode cXD_takeSprites 57 = .ok (.ireturn, 1) := by decide +kernel
theorem dXD_takeSprites_58 : decode cXD_takeSprites 58 = .ok (.iload_n 3, 1) := by decide +kernel
theorem dXD_takeSprites_59 : decode cXD_takeSprites 59 = .ok (.ifCond .le 22, 3) := by decide +kernel
theorem dXD_takeSprites_62 : decode cXD_takeSprites 62 = .ok (.aload_n 0, 1) := by decide +kernel
theorem dXD_takeSprites_63 : decode cXD_takeSprites 63 = .ok (.getfield 7, 3) := by decide +kernel
theorem dXD_takeSprites_66 : decode cXD_takeSprites 66 = .ok (.iload 6, 2) := by decide +kernel
theorem dXD_takeSprites_68 : decode cXD_takeSprites 68 = .ok (.iconst 3, 1) := by decide +kernel
theorem dXD_takeSprites_69 : decode cXD_takeSprites 69 = .ok (.iadd, 1) := by decide +kernel
theorem dXD_takeSprites_70 : decode cXD_takeSprites 70 = .ok (.invokevirtual 47, 3) := by decide +kernel
theorem dXD_takeSprites_73 : decode cXD_takeSprites 73 = .ok (.bipush 63, 2) := by decide +kernel
theorem dXD_takeSprites_75 : decode cXD_takeSprites 75 = .ok (.iand, 1) := by decide +kernel
theorem dXD_takeSprites_76 : decode cXD_takeSprites 76 = .ok (.ifCond .ne 5, 3) := by decide +kernel
theorem dXD_takeSprites_79 : decode cXD_takeSprites 79 = .ok (.iload_n 3, 1) := by decide +kernel
theorem dXD_takeSprites_80 : decode cXD_takeSprites 80 = .ok (.ireturn, 1) := by decide +kernel
theorem dXD_takeSprites_81 : decode cXD_takeSprites 81 = .ok (.aload_n 0, 1) := by decide +kernel
theorem dXD_takeSprites_82 : decode cXD_takeSprites 82 = .ok (.getfield 32, 3) := by decide +kernel
theorem dXD_takeSprites_85 : decode cXD_takeSprites 85 = .ok (.iload_n 3, 1) := by decide +kernel
theorem dXD_takeSprites_86 : decode cXD_takeSprites 86 = .ok (.iload 6, 2) := by decide +kernel
theorem dXD_takeSprites_88 : decode cXD_takeSprites 88 = .ok (.iastore, 1) := by decide +kernel
theorem dXD_takeSprites_89 : decode cXD_takeSprites 89 = .ok (.iinc 3 1, 3) := by decide +kernel
theorem dXD_takeSprites_92 : decode cXD_takeSprites 92 = .ok (.aload_n 0, 1) := by decide +kernel
theorem dXD_takeSprites_93 : decode cXD_takeSprites 93 = .ok (.getfield 7, 3) := by decide +kernel
theorem dXD_takeSprites_96 : decode cXD_takeSprites 96 = .ok (.iload 6, 2) := by decide +kernel
theorem dXD_takeSprites_98 : decode cXD_takeSprites 98 = .ok (.iconst 1, 1) := by decide +kernel
theorem dXD_takeSprites_99 : decode cXD_takeSprites 99 = .ok (.iadd, 1) := by decide +kernel
theorem dXD_takeSprites_100 : decode cXD_takeSprites 100 = .ok (.invokevirtual 47, 3) := by decide +kernel
theorem dXD_takeSprites_103 : decode cXD_takeSprites 103 = .ok (.bipush 7, 2) := by decide +kernel
theorem dXD_takeSprites_105 : decode cXD_takeSprites 105 = .ok (.iand, 1) := by decide +kernel
theorem dXD_takeSprites_106 : decode cXD_takeSprites 106 = .ok (.istore 4, 2) := by decide +kernel
theorem dXD_takeSprites_108 : decode cXD_takeSprites 108 = .ok (.iload 4, 2) := by decide +kernel
theorem dXD_takeSprites_110 : decode cXD_takeSprites 110 = .ok (.ifCond .ne 5, 3) := by decide +kernel
theorem dXD_takeSprites_113 : decode cXD_takeSprites 113 = .ok (.iload_n 3, 1) := by decide +kernel
theorem dXD_takeSprites_114 : decode cXD_takeSprites 114 = .ok (.ireturn, 1) := by decide +kernel
theorem dXD_takeSprites_115 : decode cXD_takeSprites 115 = .ok (.iinc 5 1, 3) := by decide +kernel
theorem dXD_takeSprites_118 : decode cXD_takeSprites 118 = .ok (.goto (-97), 3) := by decide +kernel
theorem dXD_takeSprites_121 : decode cXD_takeSprites 121 = .ok (.iload_n 3, 1) := by decide +kernel
theorem dXD_takeSprites_122 : decode cXD_takeSprites 122 = .ok (.ireturn, 1) := by decide +kernel
theorem dXD_isOnLine_0 : decode cXD_isOnLine 0 = .ok (.iload_n 2, 1) := by decide +kernel
theorem dXD_isOnLine_1 : decode cXD_isOnLine 1 = .ok (.bipush 16, 2) := by decide +kernel
theorem dXD_isOnLine_3 : decode cXD_isOnLine 3 = .ok (.iadd, 1) := by decide +kernel
theorem dXD_isOnLine_4 : decode cXD_isOnLine 4 = .ok (.aload_n 0, 1) := by decide +kernel
theorem dXD_isOnLine_5 : decode cXD_isOnLine 5 = .ok (.getfield 7, 3) := by decide +kernel
theorem dXD_isOnLine_8 : decode cXD_isOnLine 8 = .ok (.iload_n 1, 1) := by decide +kernel
theorem dXD_isOnLine_9 : decode cXD_isOnLine 9 = .ok (.invokevirtual 47, 3) := by decide +kernel
theorem dXD_isOnLine_12 : decode cXD_isOnLine 12 = .ok (.bipush 63, 2) := by decide +kernel
theorem dXD_isOnLine_14 : decode cXD_isOnLine 14 = .ok (.iand, 1) := by decide +kernel
theorem dXD_isOnLine_15 : decode cXD_isOnLine 15 = .ok (.isub, 1) := by decide +kernel
theorem dXD_isOnLine_16 : decode cXD_isOnLine 16 = .ok (.istore_n 3, 1) := by decide +kernel
theorem dXD_isOnLine_17 : decode cXD_isOnLine 17 = .ok (.iload_n 3, 1) := by decide +kernel
theorem dXD_isOnLine_18 : decode cXD_isOnLine 18 = .ok (.ifCond .lt 12, 3) := by decide +kernel
theorem dXD_isOnLine_21 : decode cXD_isOnLine 21 = .ok (.iload_n 3, 1) := by decide +kernel
theorem dXD_isOnLine_22 : decode cXD_isOnLine 22 = .ok (.iconst 4, 1) := by decide +kernel
theorem dXD_isOnLine_23 : decode cXD_isOnLine 23 = .ok (.if_icmp .ge 7, 3) := by decide +kernel
theorem dXD_isOnLine_26 : decode cXD_isOnLine 26 = .ok (.iconst 1, 1) := by decide +kernel
theorem dXD_isOnLine_27 : decode cXD_isOnLine 27 = .ok (.goto 4, 3) := by decide +kernel
theorem dXD_isOnLine_30 : decode cXD_isOnLine 30 = .ok (.iconst 0, 1) := by decide +kernel
theorem dXD_isOnLine_31 : decode cXD_isOnLine 31 = .ok (.ireturn, 1) := by decide +kernel
theorem dXD_drawSprite_0 : decode cXD_drawSprite 0 = .ok (.iload_n 2, 1) := by decide +kernel
theorem dXD_drawSprite_1 : decode cXD_drawSprite 1 = .ok (.bipush 16, 2) := by decide +kernel
theorem dXD_drawSprite_3 : decode cXD_drawSprite 3 = .ok (.iadd, 1) := by decide +kernel
theorem dXD_drawSprite_4 : decode cXD_drawSprite 4 = .ok (.aload_n 0, 1) := by decide +kernel
theorem dXD_drawSprite_5 : decode cXD_drawSprite 5 = .ok (.getfield 7, 3) := by decide +kernel
theorem dXD_drawSprite_8 : decode cXD_drawSprite 8 = .ok (.iload_n 1, 1) := by decide +kernel
theorem dXD_drawSprite_9 : decode cXD_drawSprite 9 = .ok (.invokevirtual 47, 3) := by decide +kernel
theorem dXD_drawSprite_12 : decode cXD_drawSprite 12 = .ok (.bipush 63, 2) := by decide +kernel
theorem dXD_drawSprite_14 : decode cXD_drawSprite 14 = .ok (.iand, 1) := by decide +kernel
theorem dXD_drawSprite_15 : decode cXD_drawSprite 15 = .ok (.isub, 1) := by decide +kernel
theorem dXD_drawSprite_16 : decode cXD_drawSprite 16 = .ok (.istore_n 3, 1) := by decide +kernel
theorem dXD_drawSprite_17 : decode cXD_drawSprite 17 = .ok (.aload_n 0, 1) := by decide +kernel
theorem dXD_drawSprite_18 : decode cXD_drawSprite 18 = .ok (.getfield 7, 3) := by decide +kernel
theorem dXD_drawSprite_21 : decode cXD_drawSprite 21 = .ok (.iload_n 1, 1) := by decide +kernel
theorem dXD_drawSprite_22 : decode cXD_drawSprite 22 = .ok (.iconst 2, 1) := by decide +kernel
theorem dXD_drawSprite_23 : decode cXD_drawSprite 23 = .ok (.iadd, 1) := by decide +kernel
theorem dXD_drawSprite_24 : decode cXD_drawSprite 24 = .ok (.invokevirtual 47, 3) := by decide +kernel
theorem dXD_drawSprite_27 : decode cXD_drawSprite 27 = .ok (.istore 4, 2) := by decide +kernel
theorem dXD_drawSprite_29 : decode cXD_drawSprite 29 = .ok (.aload_n 0, 1) := by decide +kernel
theorem dXD_drawSprite_30 : decode cXD_drawSprite 30 = .ok (.getfield 7, 3) := by decide +kernel
theorem dXD_drawSprite_33 : decode cXD_drawSprite 33 = .ok (.iload_n 1, 1) := by decide +kernel
theorem dXD_drawSprite_34 : decode cXD_drawSprite 34 = .ok (.iconst 3, 1) := by decide +kernel
theorem dXD_drawSprite_35 : decode cXD_drawSprite 35 = .ok (.iadd, 1) := by decide +kernel
theorem dXD_drawSprite_36 : decode cXD_drawSprite 36 = .ok (.invokevirtual 47, 3) := by decide +kernel
theorem dXD_drawSprite_39 : decode cXD_drawSprite 39 = .ok (.bipush 63, 2) := by decide +kernel
theorem dXD_drawSprite_41 : decode cXD_drawSprite 41 = .ok (.iand, 1) := by decide +kernel
theorem dXD_drawSprite_42 : decode cXD_drawSprite 42 = .ok (.bipush 16, 2) := by decide +kernel
theorem dXD_drawSprite_44 : decode cXD_drawSprite 44 = .ok (.isub, 1) := by decide +kernel
theorem dXD_drawSprite_45 : decode cXD_drawSprite 45 = .ok (.istore 5, 2) := by decide +kernel
theorem dXD_drawSprite_47 : decode cXD_drawSprite 47 = .ok (.iconst 0, 1) := by decide +kernel
theorem dXD_drawSprite_48 : decode cXD_drawSprite 48 = .ok (.istore 6, 2) := by decide +kernel
theorem dXD_drawSprite_50 : decode cXD_drawSprite 50 = .ok (.iload 6, 2) := by decide +kernel
theorem dXD_drawSprite_52 : decode cXD_drawSprite 52 = .ok (.iconst 4, 1) := by decide +kernel
theorem dXD_drawSprite_53 : decode cXD_drawSprite 53 = .ok (.if_icmp .ge 74, 3) := by decide +kernel
theorem dXD_drawSprite_56 : decode cXD_drawSprite 56 = .ok (.iload 5, 2) := by decide +kernel
theorem dXD_drawSprite_58 : decode cXD_drawSprite 58 = .ok (.iload 6, 2) := by decide +kernel
theorem dXD_drawSprite_60 : decode cXD_drawSprite 60 = .ok (.iadd, 1) := by decide +kernel
theorem dXD_drawSprite_61 : decode cXD_drawSprite 61 = .ok (.istore 7, 2) := by decide +kernel
theorem dXD_drawSprite_63 : decode cXD_drawSprite 63 = .ok (.aload_n 0, 1) := by decide +kernel
theorem dXD_drawSprite_64 : decode cXD_drawSprite 64 = .ok (.iload 4, 2) := by decide +kernel
theorem dXD_drawSprite_66 : decode cXD_drawSprite 66 = .ok (.iload 6, 2) := by decide +kernel
theorem dXD_drawSprite_68 : decode cXD_drawSprite 68 = .ok (.iload_n 3, 1) := by decide +kernel
theorem dXD_drawSprite_69 : decode cXD_drawSprite 69 = .ok (.invokevirtual 54, 3) := by decide +kernel
theorem dXD_drawSprite_72 : decode cXD_drawSprite 72 = .ok (.istore 8, 2) := by decide +kernel
theorem dXD_drawSprite_74 : decode cXD_drawSprite 74 = .ok (.iload 7, 2) := by decide +kernel
theorem dXD_drawSprite_76 : decode cXD_drawSprite 76 = .ok (.ifCond .lt 45, 3) := by decide +kernel
theorem dXD_drawSprite_79 : decode cXD_drawSprite 79 = .ok (.iload 7, 2) := by decide +kernel
theorem dXD_drawSprite_81 : decode cXD_drawSprite 81 = .ok (.bipush 16, 2) := by decide +kernel
theorem dXD_drawSprite_83 : decode cXD_drawSprite 83 = .ok (.if_icmp .ge 38, 3) := by decide +kernel
theorem dXD_drawSprite_86 : decode cXD_drawSprite 86 = .ok (.iload 8, 2) := by decide +kernel
theorem dXD_drawSprite_88 : decode cXD_drawSprite 88 = .ok (.ifCond .ne 6, 3) := by decide +kernel
theorem dXD_drawSprite_91 : decode cXD_drawSprite 91 = .ok (.goto 30, 3) := by decide +kernel
theorem dXD_drawSprite_94 : decode cXD_drawSprite 94 = .ok (.aload_n 0, 1) := by decide +kernel
theorem dXD_drawSprite_95 : decode cXD_drawSprite 95 = .ok (.getfield 29, 3) := by decide +kernel
theorem dXD_drawSprite_98 : decode cXD_drawSprite 98 = .ok (.iload 7, 2) := by decide +kernel
theorem dXD_drawSprite_100 : decode cXD_drawSprite 100 = .ok (.iaload, 1) := by decide +kernel
theorem dXD_drawSprite_101 : decode cXD_drawSprite 101 = .ok (.ifCond .ne 15, 3) := by decide +kernel
theorem dXD_drawSprite_104 : decode cXD_drawSprite 104 = .ok (.aload_n 0, 1) := by decide +kernel
theorem dXD_drawSprite_105 : decode cXD_drawSprite 105 = .ok (.getfield 29, 3) := by decide +kernel
theorem dXD_drawSprite_108 : decode cXD_drawSprite 108 = .ok (.iload 7, 2) := by decide +kernel
theorem dXD_drawSprite_110 : decode cXD_drawSprite 110 = .ok (.iload 8, 2) := by decide +kernel
theorem dXD_drawSprite_112 : decode cXD_drawSprite 112 = .ok (.iastore, 1) := by decide +kernel
theorem dXD_drawSprite_113 : decode cXD_drawSprite 113 = .ok (.goto 8, 3) := by decide +kernel
theorem dXD_drawSprite_116 : decode cXD_drawSprite 116 = .ok (.aload_n 0, 1) := by decide +kernel
theorem dXD_drawSprite_117 : decode cXD_drawSprite 117 = .ok (.iconst 1, 1) := by decide +kernel
theorem dXD_drawSprite_118 : decode cXD_drawSprite 118 = .ok (.putfield 73, 3) := by decide +kernel
theorem dXD_drawSprite_121 : decode cXD_drawSprite 121 = .ok (.iinc 6 1, 3) := by decide +kernel
theorem dXD_drawSprite_124 : decode cXD_drawSprite 124 = .ok (.goto (-74), 3) := by decide +kernel
theorem dXD_drawSprite_127 : decode cXD_drawSprite 127 = .ok (.return_, 1) := by decide +kernel
