theorem dXB_init_0 : decode cXB_init 0 = .ok (.aload_n 0, 1) := by decide +kernel
theorem dXB_init_1 : decode cXB_init 1 = .ok (.invokespecial 1, 3) := by decide +kernel
theorem dXB_init_4 : decode cXB_init 4 = .ok (.aload_n 0, 1) := by decide +kernel
theorem dXB_init_5 : decode cXB_init 5 = .ok (.aload_n 1, 1) := by decide +kernel
theorem dXB_init_6 : decode cXB_init 6 = .ok (.putfield 7, 3) := by decide +kernel
theorem dXB_init_9 : decode cXB_init 9 = .ok (.aload_n 0, 1) := by decide +kernel
theorem dXB_init_10 : decode cXB_init 10 = .ok (.aload_n 2, 1) := by decide +kernel
theorem dXB_init_11 : decode cXB_init 11 = .ok (.putfield 13, 3) := by decide +kernel
theorem dXB_init_14 : decode cXB_init 14 = .ok (.aload_n 0, 1) := by decide +kernel
theorem dXB_init_15 : decode cXB_init 15 = .ok (.aload_n 3, 1) := by decide +kernel
theorem dXB_init_16 : decode cXB_init 16 = .ok (.putfield 17, 3) := by decide +kernel
theorem dXB_init_19 : decode cXB_init 19 = .ok (.return_, 1) := by decide +kernel
theorem dXB_highestPending_0 : decode cXB_highestPending 0 = .ok (.aload_n 0, 1) := by decide +kernel
theorem dXB_highestPending_1 : decode cXB_highestPending 1 = .ok (.getfield 21, 3) := by decide +kernel
theorem dXB_highestPending_4 : decode cXB_highestPending 4 = .ok (.ifCond .eq 12, 3) := by decide +kernel
theorem dXB_highestPending_7 : decode cXB_highestPending 7 = .ok (.iload_n 1, 1) := by decide +kernel
theorem dXB_highestPending_8 : decode cXB_highestPending 8 = .ok (.bipush 6, 2) := by decide +kernel
theorem dXB_highestPending_10 : decode cXB_highestPending 10 = .ok (.if_icmp .ge 6, 3) := by decide +kernel
theorem dXB_highestPending_13 : decode cXB_highestPending 13 = .ok (.bipush 6, 2) := by decide +kernel
theorem dXB_highestPending_15 : decode cXB_highestPending 15 = .ok (.ireturn, 1) := by decide +kernel
theorem dXB_highestPending_16 : decode cXB_highestPending 16 = .ok (.aload_n 0, 1) := by decide +kernel
theorem dXB_highestPending_17 : decode cXB_highestPending 17 = .ok (.getfield 25, 3) := by decide +kernel
theorem dXB_highestPending_20 : decode cXB_highestPending 20 = .ok (.ifCond .eq 12, 3) := by decide +kernel
theorem dXB_highestPending_23 : decode cXB_highestPending 23 = .ok (.iload_n 1, 1) := by decide +kernel
theorem dXB_highestPending_24 : decode cXB_highestPending 24 = .ok (.iconst 4, 1) := by decide +kernel
theorem dXB_highestPending_25 : decode cXB_highestPending 25 = .ok (.if_icmp .ge 7, 3) := by decide +kernel
theorem dXB_highestPending_28 : decode cXB_highestPending 28 = .ok (.iconst 4, 1) := by decide +kernel
theorem dXB_highestPending_29 : decode cXB_highestPending 29 = .ok (.goto 4, 3) := by decide +kernel
theorem dXB_highestPending_32 : decode cXB_highestPending 32 = .ok (.iconst 0, 1) := by decide +kernel
theorem dXB_highestPending_33 : decode cXB_highestPending 33 = .ok (.ireturn, 1) := by decide +kernel
theorem dXB_takePending_0 : decode cXB_takePending 0 = .ok (.iload_n 1, 1) := by decide +kernel
theorem dXB_takePending_1 : decode cXB_takePending 1 = .ok (.bipush 6, 2) := by decide +kernel
theorem dXB_takePending_3 : decode cXB_takePending 3 = .ok (.if_icmp .ne 11, 3) := by decide +kernel
theorem dXB_takePending_6 : decode cXB_takePending 6 = .ok (.aload_n 0, 1) := by decide +kernel
theorem dXB_takePending_7 : decode cXB_takePending 7 = .ok (.iconst 0, 1) := by decide +kernel
theorem dXB_takePending_8 : decode cXB_takePending 8 = .ok (.putfield 21, 3) := by decide +kernel
theorem dXB_takePending_11 : decode cXB_takePending 11 = .ok (.goto 8, 3) := by decide +kernel
theorem dXB_takePending_14 : decode cXB_takePending 14 = .ok (.aload_n 0, 1) := by decide +kernel
theorem dXB_takePending_15 : decode cXB_takePending 15 = .ok (.iconst 0, 1) := by decide +kernel
theorem dXB_takePending_16 : decode cXB_takePending 16 = .ok (.putfield 25, 3) := by decide +kernel
theorem dXB_takePending_19 : decode cXB_takePending 19 = .ok (.return_, 1) := by decide +kernel
theorem dXB_goOn_0 : decode cXB_goOn 0 = .ok (.aload_n 0, 1) := by decide +kernel
theorem dXB_goOn_1 : decode cXB_goOn 1 = .ok (.getfield 28, 3) := by decide +kernel
theorem dXB_goOn_4 : decode cXB_goOn 4 = .ok (.iload_n 1, 1) := by decide +kernel
theorem dXB_goOn_5 : decode cXB_goOn 5 = .ok (.iadd, 1) := by decide +kernel
theorem dXB_goOn_6 : decode cXB_goOn 6 = .ok (.bipush 64, 2) := by decide +kernel
theorem dXB_goOn_8 : decode cXB_goOn 8 = .ok (.idiv, 1) := by decide +kernel
theorem dXB_goOn_9 : decode cXB_goOn 9 = .ok (.istore_n 2, 1) := by decide +kernel
theorem dXB_goOn_10 : decode cXB_goOn 10 = .ok (.aload_n 0, 1) := by decide +kernel
theorem dXB_goOn_11 : decode cXB_goOn 11 = .ok (.aload_n 0, 1) := by decide +kernel
theorem dXB_goOn_12 : decode cXB_goOn 12 = .ok (.getfield 28, 3) := by decide +kernel
theorem dXB_goOn_15 : decode cXB_goOn 15 = .ok (.iload_n 1, 1) := by decide +kernel
theorem dXB_goOn_16 : decode cXB_goOn 16 = .ok (.iadd, 1) := by decide +kernel
theorem dXB_goOn_17 : decode cXB_goOn 17 = .ok (.bipush 64, 2) := by decide +kernel
theorem dXB_goOn_19 : decode cXB_goOn 19 = .ok (.irem, 1) := by decide +kernel
theorem dXB_goOn_20 : decode cXB_goOn 20 = .ok (.putfield 28, 3) := by decide +kernel
theorem dXB_goOn_23 : decode cXB_goOn 23 = .ok (.iconst 0, 1) := by decide +kernel
theorem dXB_goOn_24 : decode cXB_goOn 24 = .ok (.istore_n 3, 1) := by decide +kernel
theorem dXB_goOn_25 : decode cXB_goOn 25 = .ok (.iload_n 3, 1) := by decide +kernel
theorem dXB_goOn_26 : decode cXB_goOn 26 = .ok (.iload_n 2, 1) := by decide +kernel
theorem dXB_goOn_27 : decode cXB_goOn 27 = .ok (.if_icmp .ge 53, 3) := by decide +kernel
theorem dXB_goOn_30 : decode cXB_goOn 30 = .ok (.aload_n 0, 1) := by decide +kernel
theorem dXB_goOn_31 : decode cXB_goOn 31 = .ok (.aload_n 0, 1) := by decide +kernel
theorem dXB_goOn_32 : decode cXB_goOn 32 = .ok (.getfield 32, 3) := by decide +kernel
theorem dXB_goOn_35 : decode cXB_goOn 35 = .ok (.iconst 1, 1) := by decide +kernel
theorem dXB_goOn_36 : decode cXB_goOn 36 = .ok (.iadd, 1) := by decide +kernel
theorem dXB_goOn_37 : decode cXB_goOn 37 = .ok (.bipush 12, 2) := by decide +kernel
theorem dXB_goOn_39 : decode cXB_goOn 39 = .ok (.irem, 1) := by decide +kernel
theorem dXB_goOn_40 : decode cXB_goOn 40 = .ok (.putfield 32, 3) := by decide +kernel
theorem dXB_goOn_43 : decode cXB_goOn 43 = .ok (.aload_n 0, 1) := by decide +kernel
theorem dXB_goOn_44 : decode cXB_goOn 44 = .ok (.getfield 32, 3) := by decide +kernel
theorem dXB_goOn_47 : decode cXB_goOn 47 = .ok (.bipush 8, 2) := by decide +kernel
theorem dXB_goOn_49 : decode cXB_goOn 49 = .ok (.if_icmp .ge 21, 3) := by decide +kernel
theorem dXB_goOn_52 : decode cXB_goOn 52 = .ok (.aload_n 0, 1) := by decide +kernel
theorem dXB_goOn_53 : decode cXB_goOn 53 = .ok (.getfield 13, 3) := by decide +kernel
theorem dXB_goOn_56 : decode cXB_goOn 56 = .ok (.aload_n 0, 1) := by decide +kernel
theorem dXB_goOn_57 : decode cXB_goOn 57 = .ok (.getfield 32, 3) := by decide +kernel
theorem dXB_goOn_60 : decode cXB_goOn 60 = .ok (.invokevirtual 37, 3) := by decide +kernel
theorem dXB_goOn_63 : decode cXB_goOn 63 = .ok (.aload_n 0, 1) := by decide +kernel
theorem dXB_goOn_64 : decode cXB_goOn 64 = .ok (.invokevirtual 41, 3) := by decide +kernel
theorem dXB_goOn_67 : decode cXB_goOn 67 = .ok (.goto 7, 3) := by decide +kernel
theorem dXB_goOn_70 : decode cXB_goOn 70 = .ok (.aload_n 0, 1) := by decide +kernel
theorem dXB_goOn_71 : decode cXB_goOn 71 = .ok (.invokevirtual 44, 3) := by decide +kernel
theorem dXB_goOn_74 : decode cXB_goOn 74 = .ok (.iinc 3 1, 3) := by decide +kernel
theorem dXB_goOn_77 : decode cXB_goOn 77 = .ok (.goto (-52), 3) := by decide +kernel
theorem dXB_goOn_80 : decode cXB_goOn 80 = .ok (.return_, 1) := by decide +kernel
theorem dXB_beginHiddenLine_0 : decode cXB_beginHiddenLine 0 = .ok (.aload_n 0, 1) := by decide +kernel
theorem dXB_beginHiddenLine_1 : decode cXB_beginHiddenLine 1 = .ok (.aload_n 0, 1) := by decide +kernel
theorem dXB_beginHiddenLine_2 : decode cXB_beginHiddenLine 2 = .ok (.getfield 7, 3) := by decide +kernel
theorem dXB_beginHiddenLine_5 : decode cXB_beginHiddenLine 5 = .ok (.getfield 47, 3) := by decide +kernel
theorem dXB_beginHiddenLine_8 : decode cXB_beginHiddenLine 8 = .ok (.bipush 8, 2) := by decide +kernel
theorem dXB_beginHiddenLine_10 : decode cXB_beginHiddenLine 10 = .ok (.iaload, 1) := by decide +kernel
theorem dXB_beginHiddenLine_11 : decode cXB_beginHiddenLine 11 = .ok (.putfield 53, 3) := by decide +kernel
theorem dXB_beginHiddenLine_14 : decode cXB_beginHiddenLine 14 = .ok (.aload_n 0, 1) := by decide +kernel
theorem dXB_beginHiddenLine_15 : decode cXB_beginHiddenLine 15 = .ok (.getfield 32, 3) := by decide +kernel
theorem dXB_beginHiddenLine_18 : decode cXB_beginHiddenLine 18 = .ok (.bipush 8, 2) := by decide +kernel
theorem dXB_beginHiddenLine_20 : decode cXB_beginHiddenLine 20 = .ok (.if_icmp .ne 41, 3) := by decide +kernel
theorem dXB_beginHiddenLine_23 : decode cXB_beginHiddenLine 23 = .ok (.aload_n 0, 1) := by decide +kernel
theorem dXB_beginHiddenLine_24 : decode cXB_beginHiddenLine 24 = .ok (.aload_n 0, 1) := by decide +kernel
theorem dXB_beginHiddenLine_25 : decode cXB_beginHiddenLine 25 = .ok (.getfield 21, 3) := by decide +kernel
theorem dXB_beginHiddenLine_28 : decode cXB_beginHiddenLine 28 = .ok (.ifCond .ne 18, 3) := by decide +kernel
theorem dXB_beginHiddenLine_31 : decode cXB_beginHiddenLine 31 = .ok (.aload_n 0, 1) := by decide +kernel
theorem dXB_beginHiddenLine_32 : decode cXB_beginHiddenLine 32 = .ok (.getfield 7, 3) := by decide +kernel
theorem dXB_beginHiddenLine_35 : decode cXB_beginHiddenLine 35 = .ok (.getfield 47, 3) := by decide +kernel
theorem dXB_beginHiddenLine_38 : decode cXB_beginHiddenLine 38 = .ok (.iconst 1, 1) := by decide +kernel
theorem dXB_beginHiddenLine_39 : decode cXB_beginHiddenLine 39 = .ok (.iaload, 1) := by decide +kernel
theorem dXB_beginHiddenLine_40 : decode cXB_beginHiddenLine 40 = .ok (.bipush 32, 2) := by decide +kernel
theorem dXB_beginHiddenLine_42 : decode cXB_beginHiddenLine 42 = .ok (.iand, 1) := by decide +kernel
theorem dXB_beginHiddenLine_43 : decode cXB_beginHiddenLine 43 = .ok (.ifCond .eq 7, 3) := by decide +kernel
theorem dXB_beginHiddenLine_46 : decode cXB_beginHiddenLine 46 = .ok (.iconst 1, 1) := by decide +kernel
theorem dXB_beginHiddenLine_47 : decode cXB_beginHiddenLine 47 = .ok (.goto 4, 3) := by decide +kernel
theorem dXB_beginHiddenLine_50 : decode cXB_beginHiddenLine 50 = .ok (.iconst 0, 1) := by decide +kernel
theorem dXB_beginHiddenLine_51 : decode cXB_beginHiddenLine 51 = .ok (.putfield 21, 3) := by decide +kernel
theorem dXB_beginHiddenLine_54 : decode cXB_beginHiddenLine 54 = .ok (.aload_n 0, 1) := by decide +kernel
theorem dXB_beginHiddenLine_55 : decode cXB_beginHiddenLine 55 = .ok (.getfield 17, 3) := by decide +kernel
theorem dXB_beginHiddenLine_58 : decode cXB_beginHiddenLine 58 = .ok (.invokevirtual 56, 3) := by decide +kernel
theorem dXB_beginHiddenLine_61 : decode cXB_beginHiddenLine 61 = .ok (.return_, 1) := by decide +kernel
theorem dXB_countDown_0 : decode cXB_countDown 0 = .ok (.aload_n 0, 1) := by decide +kernel
theorem dXB_countDown_1 : decode cXB_countDown 1 = .ok (.getfield 53, 3) := by decide +kernel
theorem dXB_countDown_4 : decode cXB_countDown 4 = .ok (.ifCond .le 14, 3) := by decide +kernel
theorem dXB_countDown_7 : decode cXB_countDown 7 = .ok (.aload_n 0, 1) := by decide +kernel
theorem dXB_countDown_8 : decode cXB_countDown 8 = .ok (.dup, 1) := by decide +kernel
theorem dXB_countDown_9 : decode cXB_countDown 9 = .ok (.getfield 53, 3) := by decide +kernel
theorem dXB_countDown_12 : decode cXB_countDown 12 = .ok (.iconst 1, 1) := by decide +kernel
theorem dXB_countDown_13 : decode cXB_countDown 13 = .ok (.isub, 1) := by decide +kernel
theorem dXB_countDown_14 : decode cXB_countDown 14 = .ok (.putfield 53, 3) := by decide +kernel
theorem dXB_countDown_17 : decode cXB_countDown 17 = .ok (.return_, 1) := by decide +kernel
theorem dXB_countDown_18 : decode cXB_countDown 18 = .ok (.aload_n 0, 1) := by decide +kernel
theorem dXB_countDown_19 : decode cXB_countDown 19 = .ok (.aload_n 0, 1) := by decide +kernel
theorem dXB_countDown_20 : decode cXB_countDown 20 = .ok (.getfield 7, 3) := by decide +kernel
theorem dXB_countDown_23 : decode cXB_countDown 23 = .ok (.getfield 47, 3) := by decide +kernel
theorem dXB_countDown_26 : decode cXB_countDown 26 = .ok (.bipush 8, 2) := by decide +kernel
theorem dXB_countDown_28 : decode cXB_countDown 28 = .ok (.iaload, 1) := by decide +kernel
theorem dXB_countDown_29 : decode cXB_countDown 29 = .ok (.putfield 53, 3) := by decide +kernel
theorem dXB_countDown_32 : decode cXB_countDown 32 = .ok (.aload_n 0, 1) := by decide +kernel
theorem dXB_countDown_33 : decode cXB_countDown 33 = .ok (.aload_n 0, 1) := by decide +kernel
theorem dXB_countDown_34 : decode cXB_countDown 34 = .ok (.getfield 25, 3) := by decide +kernel
theorem dXB_countDown_37 : decode cXB_countDown 37 = .ok (.ifCond .ne 18, 3) := by decide +kernel
theorem dXB_countDown_40 : decode cXB_countDown 40 = .ok (.aload_n 0, 1) := by decide +kernel
theorem dXB_countDown_41 : decode cXB_countDown 41 = .ok (.getfield 7, 3) := by decide +kernel
theorem dXB_countDown_44 : decode cXB_countDown 44 = .ok (.getfield 47, 3) := by decide +kernel
theorem dXB_countDown_47 : decode cXB_countDown 47 = .ok (.iconst 0, 1) := by decide +kernel
theorem dXB_countDown_48 : decode cXB_countDown 48 = .ok (.iaload, 1) := by decide +kernel
theorem dXB_countDown_49 : decode cXB_countDown 49 = .ok (.bipush 16, 2) := by decide +kernel
theorem dXB_countDown_51 : decode cXB_countDown 51 = .ok (.iand, 1) := by decide +kernel
theorem dXB_countDown_52 : decode cXB_countDown 52 = .ok (.ifCond .eq 7, 3) := by decide +kernel
theorem dXB_countDown_55 : decode cXB_countDown 55 = .ok (.iconst 1, 1) := by decide +kernel
theorem dXB_countDown_56 : decode cXB_countDown 56 = .ok (.goto 4, 3) := by decide +kernel
theorem dXB_countDown_59 : decode cXB_countDown 59 = .ok (.iconst 0, 1) := by decide +kernel
theorem dXB_countDown_60 : decode cXB_countDown 60 = .ok (.putfield 25, 3) := by decide +kernel
theorem dXB_countDown_63 : decode cXB_countDown 63 = .ok (.return_, 1) := by decide +kernel
