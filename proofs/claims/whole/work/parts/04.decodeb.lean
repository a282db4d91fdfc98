theorem d_Runner_reset_16 : decode b_Runner_reset 16 = .ok (.iload_n 1, 1) := by decide +kernel
theorem d_Runner_reset_17 : decode b_Runner_reset 17 = .ok (.putfield 51, 3) := by decide +kernel
theorem d_Runner_reset_20 : decode b_Runner_reset 20 = .ok (.return_, 1) := by decide +kernel
theorem d_Runner_doNode_0 : decode b_Runner_doNode 0 = .ok (.iload_n 2, 1) := by decide +kernel
theorem d_Runner_doNode_1 : decode b_Runner_doNode 1 = .ok (.iconst 0, 1) := by decide +kernel
theorem d_Runner_doNode_2 : decode b_Runner_doNode 2 = .ok (.iconst 4, 1) := by decide +kernel
theorem d_Runner_doNode_3 : decode b_Runner_doNode 3 = .ok (.invokestatic 54, 3) := by decide +kernel
theorem d_Runner_doNode_6 : decode b_Runner_doNode 6 = .ok (.ifCond .eq 14, 3) := by decide +kernel
theorem d_Runner_doNode_9 : decode b_Runner_doNode 9 = .ok (.aload_n 0, 1) := by decide +kernel
theorem d_Runner_doNode_10 : decode b_Runner_doNode 10 = .ok (.getfield 19, 3) := by decide +kernel
theorem d_Runner_doNode_13 : decode b_Runner_doNode 13 = .ok (.iload_n 1, 1) := by decide +kernel
theorem d_Runner_doNode_14 : decode b_Runner_doNode 14 = .ok (.invokevirtual 58, 3) := by decide +kernel
theorem d_Runner_doNode_17 : decode b_Runner_doNode 17 = .ok (.ifCond .ne 4, 3) := by decide +kernel
theorem d_Runner_doNode_20 : decode b_Runner_doNode 20 = .ok (.return_, 1) := by decide +kernel
theorem d_Runner_doNode_21 : decode b_Runner_doNode 21 = .ok (.aload_n 0, 1) := by decide +kernel
theorem d_Runner_doNode_22 : decode b_Runner_doNode 22 = .ok (.getfield 9, 3) := by decide +kernel
theorem d_Runner_doNode_25 : decode b_Runner_doNode 25 = .ok (.iload_n 1, 1) := by decide +kernel
theorem d_Runner_doNode_26 : decode b_Runner_doNode 26 = .ok (.invokevirtual 64, 3) := by decide +kernel
theorem d_Runner_doNode_29 : decode b_Runner_doNode 29 = .ok (.ifCond .ne 10, 3) := by decide +kernel
theorem d_Runner_doNode_32 : decode b_Runner_doNode 32 = .ok (.aload_n 0, 1) := by decide +kernel
theorem d_Runner_doNode_33 : decode b_Runner_doNode 33 = .ok (.invokevirtual 69, 3) := by decide +kernel
theorem d_Runner_doNode_36 : decode b_Runner_doNode 36 = .ok (.ifCond .eq 19, 3) := by decide +kernel
theorem d_Runner_doNode_39 : decode b_Runner_doNode 39 = .ok (.aload_n 0, 1) := by decide +kernel
theorem d_Runner_doNode_40 : decode b_Runner_doNode 40 = .ok (.getfield 23, 3) := by decide +kernel
theorem d_Runner_doNode_43 : decode b_Runner_doNode 43 = .ok (.iload_n 1, 1) := by decide +kernel
theorem d_Runner_doNode_44 : decode b_Runner_doNode 44 = .ok (.iconst 0, 1) := by decide +kernel
theorem d_Runner_doNode_45 : decode b_Runner_doNode 45 = .ok (.aload_n 0, 1) := by decide +kernel
theorem d_Runner_doNode_46 : decode b_Runner_doNode 46 = .ok (.getfield 45, 3) := by decide +kernel
theorem d_Runner_doNode_49 : decode b_Runner_doNode 49 = .ok (.invokevirtual 73, 3) := by decide +kernel
theorem d_Runner_doNode_52 : decode b_Runner_doNode 52 = .ok (.goto 29, 3) := by decide +kernel
theorem d_Runner_doNode_55 : decode b_Runner_doNode 55 = .ok (.aload_n 0, 1) := by decide +kernel
theorem d_Runner_doNode_56 : decode b_Runner_doNode 56 = .ok (.getfield 9, 3) := by decide +kernel
theorem d_Runner_doNode_59 : decode b_Runner_doNode 59 = .ok (.iload_n 1, 1) := by decide +kernel
theorem d_Runner_doNode_60 : decode b_Runner_doNode 60 = .ok (.invokevirtual 79, 3) := by decide +kernel
theorem d_Runner_doNode_63 : decode b_Runner_doNode 63 = .ok (.ifCond .eq 12, 3) := by decide +kernel
theorem d_Runner_doNode_66 : decode b_Runner_doNode 66 = .ok (.aload_n 0, 1) := by decide +kernel
theorem d_Runner_doNode_67 : decode b_Runner_doNode 67 = .ok (.iload_n 1, 1) := by decide +kernel
theorem d_Runner_doNode_68 : decode b_Runner_doNode 68 = .ok (.iload_n 2, 1) := by decide +kernel
theorem d_Runner_doNode_69 : decode b_Runner_doNode 69 = .ok (.invokevirtual 82, 3) := by decide +kernel
theorem d_Runner_doNode_72 : decode b_Runner_doNode 72 = .ok (.goto 9, 3) := by decide +kernel
theorem d_Runner_doNode_75 : decode b_Runner_doNode 75 = .ok (.aload_n 0, 1) := by decide +kernel
theorem d_Runner_doNode_76 : decode b_Runner_doNode 76 = .ok (.iload_n 1, 1) := by decide +kernel
theorem d_Runner_doNode_77 : decode b_Runner_doNode 77 = .ok (.iload_n 2, 1) := by decide +kernel
theorem d_Runner_doNode_78 : decode b_Runner_doNode 78 = .ok (.invokevirtual 86, 3) := by decide +kernel
theorem d_Runner_doNode_81 : decode b_Runner_doNode 81 = .ok (.return_, 1) := by decide +kernel
theorem d_Runner_isBroken_0 : decode b_Runner_isBroken 0 = .ok (.aload_n 0, 1) := by decide +kernel
theorem d_Runner_isBroken_1 : decode b_Runner_isBroken 1 = .ok (.getfield 51, 3) := by decide +kernel
theorem d_Runner_isBroken_4 : decode b_Runner_isBroken 4 = .ok (.ifCond .le 22, 3) := by decide +kernel
theorem d_Runner_isBroken_7 : decode b_Runner_isBroken 7 = .ok (.aload_n 0, 1) := by decide +kernel
theorem d_Runner_isBroken_8 : decode b_Runner_isBroken 8 = .ok (.getfield 23, 3) := by decide +kernel
theorem d_Runner_isBroken_11 : decode b_Runner_isBroken 11 = .ok (.iconst 1, 1) := by decide +kernel
theorem d_Runner_isBroken_12 : decode b_Runner_isBroken 12 = .ok (.invokevirtual 89, 3) := by decide +kernel
theorem d_Runner_isBroken_15 : decode b_Runner_isBroken 15 = .ok (.aload_n 0, 1) := by decide +kernel
theorem d_Runner_isBroken_16 : decode b_Runner_isBroken 16 = .ok (.getfield 51, 3) := by decide +kernel
theorem d_Runner_isBroken_19 : decode b_Runner_isBroken 19 = .ok (.if_icmp .lt 7, 3) := by decide +kernel
theorem d_Runner_isBroken_22 : decode b_Runner_isBroken 22 = .ok (.iconst 1, 1) := by decide +kernel
theorem d_Runner_isBroken_23 : decode b_Runner_isBroken 23 = .ok (.goto 4, 3) := by decide +kernel
theorem d_Runner_isBroken_26 : decode b_Runner_isBroken 26 = .ok (.iconst 0, 1) := by decide +kernel
theorem d_Runner_isBroken_27 : decode b_Runner_isBroken 27 = .ok (.ireturn, 1) := by decide +kernel
theorem d_Runner_doContainer_0 : decode b_Runner_doContainer 0 = .ok (.aload_n 0, 1) := by decide +kernel
theorem d_Runner_doContainer_1 : decode b_Runner_doContainer 1 = .ok (.getfield 23, 3) := by decide +kernel
theorem d_Runner_doContainer_4 : decode b_Runner_doContainer 4 = .ok (.iload_n 1, 1) := by decide +kernel
theorem d_Runner_doContainer_5 : decode b_Runner_doContainer 5 = .ok (.iconst 0, 1) := by decide +kernel
theorem d_Runner_doContainer_6 : decode b_Runner_doContainer 6 = .ok (.aload_n 0, 1) := by decide +kernel
theorem d_Runner_doContainer_7 : decode b_Runner_doContainer 7 = .ok (.getfield 45, 3) := by decide +kernel
theorem d_Runner_doContainer_10 : decode b_Runner_doContainer 10 = .ok (.invokevirtual 93, 3) := by decide +kernel
theorem d_Runner_doContainer_13 : decode b_Runner_doContainer 13 = .ok (.aload_n 0, 1) := by decide +kernel
theorem d_Runner_doContainer_14 : decode b_Runner_doContainer 14 = .ok (.getfield 9, 3) := by decide +kernel
theorem d_Runner_doContainer_17 : decode b_Runner_doContainer 17 = .ok (.iload_n 1, 1) := by decide +kernel
theorem d_Runner_doContainer_18 : decode b_Runner_doContainer 18 = .ok (.invokevirtual 96, 3) := by decide +kernel
theorem d_Runner_doContainer_21 : decode b_Runner_doContainer 21 = .ok (.ifCond .eq 8, 3) := by decide +kernel
theorem d_Runner_doContainer_24 : decode b_Runner_doContainer 24 = .ok (.aload_n 0, 1) := by decide +kernel
theorem d_Runner_doContainer_25 : decode b_Runner_doContainer 25 = .ok (.iload_n 1, 1) := by decide +kernel
theorem d_Runner_doContainer_26 : decode b_Runner_doContainer 26 = .ok (.invokevirtual 99, 3) := by decide +kernel
theorem d_Runner_doContainer_29 : decode b_Runner_doContainer 29 = .ok (.aload_n 0, 1) := by decide +kernel
theorem d_Runner_doContainer_30 : decode b_Runner_doContainer 30 = .ok (.getfield 29, 3) := by decide +kernel
theorem d_Runner_doContainer_33 : decode b_Runner_doContainer 33 = .ok (.iload_n 2, 1) := by decide +kernel
theorem d_Runner_doContainer_34 : decode b_Runner_doContainer 34 = .ok (.aaload, 1) := by decide +kernel
theorem d_Runner_doContainer_35 : decode b_Runner_doContainer 35 = .ok (.astore_n 3, 1) := by decide +kernel
theorem d_Runner_doContainer_36 : decode b_Runner_doContainer 36 = .ok (.aload_n 3, 1) := by decide +kernel
theorem d_Runner_doContainer_37 : decode b_Runner_doContainer 37 = .ok (.invokevirtual 103, 3) := by decide +kernel
theorem d_Runner_doContainer_40 : decode b_Runner_doContainer 40 = .ok (.aload_n 0, 1) := by decide +kernel
theorem d_Runner_doContainer_41 : decode b_Runner_doContainer 41 = .ok (.iload_n 1, 1) := by decide +kernel
theorem d_Runner_doContainer_42 : decode b_Runner_doContainer 42 = .ok (.iconst 0, 1) := by decide +kernel
theorem d_Runner_doContainer_43 : decode b_Runner_doContainer 43 = .ok (.aload_n 3, 1) := by decide +kernel
theorem d_Runner_doContainer_44 : decode b_Runner_doContainer 44 = .ok (.invokevirtual 106, 3) := by decide +kernel
theorem d_Runner_doContainer_47 : decode b_Runner_doContainer 47 = .ok (.aload_n 3, 1) := by decide +kernel
theorem d_Runner_doContainer_48 : decode b_Runner_doContainer 48 = .ok (.invokevirtual 110, 3) := by decide +kernel
theorem d_Runner_doContainer_51 : decode b_Runner_doContainer 51 = .ok (.ifCond .eq 11, 3) := by decide +kernel
theorem d_Runner_doContainer_54 : decode b_Runner_doContainer 54 = .ok (.aload_n 0, 1) := by decide +kernel
theorem d_Runner_doContainer_55 : decode b_Runner_doContainer 55 = .ok (.iload_n 1, 1) := by decide +kernel
theorem d_Runner_doContainer_56 : decode b_Runner_doContainer 56 = .ok (.iload_n 2, 1) := by decide +kernel
theorem d_Runner_doContainer_57 : decode b_Runner_doContainer 57 = .ok (.iconst 1, 1) := by decide +kernel
theorem d_Runner_doContainer_58 : decode b_Runner_doContainer 58 = .ok (.iadd, 1) := by decide +kernel
theorem d_Runner_doContainer_59 : decode b_Runner_doContainer 59 = .ok (.invokevirtual 113, 3) := by decide +kernel
theorem d_Runner_doContainer_62 : decode b_Runner_doContainer 62 = .ok (.aload_n 0, 1) := by decide +kernel
theorem d_Runner_doContainer_63 : decode b_Runner_doContainer 63 = .ok (.iload_n 1, 1) := by decide +kernel
theorem d_Runner_doContainer_64 : decode b_Runner_doContainer 64 = .ok (.iconst 3, 1) := by decide +kernel
theorem d_Runner_doContainer_65 : decode b_Runner_doContainer 65 = .ok (.aload_n 3, 1) := by decide +kernel
theorem d_Runner_doContainer_66 : decode b_Runner_doContainer 66 = .ok (.invokevirtual 106, 3) := by decide +kernel
theorem d_Runner_doContainer_69 : decode b_Runner_doContainer 69 = .ok (.aload_n 0, 1) := by decide +kernel
theorem d_Runner_doContainer_70 : decode b_Runner_doContainer 70 = .ok (.getfield 23, 3) := by decide +kernel
theorem d_Runner_doContainer_73 : decode b_Runner_doContainer 73 = .ok (.iload_n 1, 1) := by decide +kernel
theorem d_Runner_doContainer_74 : decode b_Runner_doContainer 74 = .ok (.aload_n 0, 1) := by decide +kernel
theorem d_Runner_doContainer_75 : decode b_Runner_doContainer 75 = .ok (.getfield 45, 3) := by decide +kernel
theorem d_Runner_doContainer_78 : decode b_Runner_doContainer 78 = .ok (.aload_n 3, 1) := by decide +kernel
theorem d_Runner_doContainer_79 : decode b_Runner_doContainer 79 = .ok (.aload_n 0, 1) := by decide +kernel
theorem d_Runner_doContainer_80 : decode b_Runner_doContainer 80 = .ok (.getfield 9, 3) := by decide +kernel
theorem d_Runner_doContainer_83 : decode b_Runner_doContainer 83 = .ok (.iload_n 1, 1) := by decide +kernel
theorem d_Runner_doContainer_84 : decode b_Runner_doContainer 84 = .ok (.invokevirtual 96, 3) := by decide +kernel
theorem d_Runner_doContainer_87 : decode b_Runner_doContainer 87 = .ok (.ifCond .eq 12, 3) := by decide +kernel
theorem d_Runner_doContainer_90 : decode b_Runner_doContainer 90 = .ok (.aload_n 0, 1) := by decide +kernel
theorem d_Runner_doContainer_91 : decode b_Runner_doContainer 91 = .ok (.getfield 38, 3) := by decide +kernel
theorem d_Runner_doContainer_94 : decode b_Runner_doContainer 94 = .ok (.iload_n 1, 1) := by decide +kernel
theorem d_Runner_doContainer_95 : decode b_Runner_doContainer 95 = .ok (.iaload, 1) := by decide +kernel
theorem d_Runner_doContainer_96 : decode b_Runner_doContainer 96 = .ok (.goto 4, 3) := by decide +kernel
theorem d_Runner_doContainer_99 : decode b_Runner_doContainer 99 = .ok (.iconst 0, 1) := by decide +kernel
theorem d_Runner_doContainer_100 : decode b_Runner_doContainer 100 = .ok (.invokevirtual 116, 3) := by decide +kernel
theorem d_Runner_doContainer_103 : decode b_Runner_doContainer 103 = .ok (.return_, 1) := by decide +kernel
theorem d_Runner_doChildren_0 : decode b_Runner_doChildren 0 = .ok (.aload_n 0, 1) := by decide +kernel
theorem d_Runner_doChildren_1 : decode b_Runner_doChildren 1 = .ok (.getfield 9, 3) := by decide +kernel
theorem d_Runner_doChildren_4 : decode b_Runner_doChildren 4 = .ok (.iload_n 1, 1) := by decide +kernel
theorem d_Runner_doChildren_5 : decode b_Runner_doChildren 5 = .ok (.iconst (-1), 1) := by decide +kernel
theorem d_Runner_doChildren_6 : decode b_Runner_doChildren 6 = .ok (.invokevirtual 120, 3) := by decide +kernel
theorem d_Runner_doChildren_9 : decode b_Runner_doChildren 9 = .ok (.istore_n 3, 1) := by decide +kernel
theorem d_Runner_doChildren_10 : decode b_Runner_doChildren 10 = .ok (.iconst 0, 1) := by decide +kernel
theorem d_Runner_doChildren_11 : decode b_Runner_doChildren 11 = .ok (.istore 4, 2) := by decide +kernel
theorem d_Runner_doChildren_13 : decode b_Runner_doChildren 13 = .ok (.iload 4, 2) := by decide +kernel
theorem d_Runner_doChildren_15 : decode b_Runner_doChildren 15 = .ok (.bipush 24, 2) := by decide +kernel
theorem d_Runner_doChildren_17 : decode b_Runner_doChildren 17 = .ok (.if_icmp .ge 30, 3) := by decide +kernel
theorem d_Runner_doChildren_20 : decode b_Runner_doChildren 20 = .ok (.iload_n 3, 1) := by decide +kernel
theorem d_Runner_doChildren_21 : decode b_Runner_doChildren 21 = .ok (.iconst (-1), 1) := by decide +kernel
theorem d_Runner_doChildren_22 : decode b_Runner_doChildren 22 = .ok (.if_icmp .eq 25, 3) := by decide +kernel
theorem d_Runner_doChildren_25 : decode b_Runner_doChildren 25 = .ok (.aload_n 0, 1) := by decide +kernel
theorem d_Runner_doChildren_26 : decode b_Runner_doChildren 26 = .ok (.iload_n 3, 1) := by decide +kernel
theorem d_Runner_doChildren_27 : decode b_Runner_doChildren 27 = .ok (.iload_n 2, 1) := by decide +kernel
theorem d_Runner_doChildren_28 : decode b_Runner_doChildren 28 = .ok (.invokevirtual 124, 3) := by decide +kernel
theorem d_Runner_doChildren_31 : decode b_Runner_doChildren 31 = .ok (.aload_n 0, 1) := by decide +kernel
theorem d_Runner_doChildren_32 : decode b_Runner_doChildren 32 = .ok (.getfield 9, 3) := by decide +kernel
theorem d_Runner_doChildren_35 : decode b_Runner_doChildren 35 = .ok (.iload_n 1, 1) := by decide +kernel
theorem d_Runner_doChildren_36 : decode b_Runner_doChildren 36 = .ok (.iload_n 3, 1) := by decide +kernel
theorem d_Runner_doChildren_37 : decode b_Runner_doChildren 37 = .ok (.invokevirtual 120, 3) := by decide +kernel
theorem d_Runner_doChildren_40 : decode b_Runner_doChildren 40 = .ok (.istore_n 3, 1) := by decide +kernel
theorem d_Runner_doChildren_41 : decode b_Runner_doChildren 41 = .ok (.iinc 4 1, 3) := by decide +kernel
theorem d_Runner_doChildren_44 : decode b_Runner_doChildren 44 = .ok (.goto (-31), 3) := by decide +kernel
theorem d_Runner_doChildren_47 : decode b_Runner_doChildren 47 = .ok (.return_, 1) := by decide +kernel
theorem d_Runner_doTest_0 : decode b_Runner_doTest 0 = .ok (.iconst 0, 1) := by decide +kernel
theorem d_Runner_doTest_1 : decode b_Runner_doTest 1 = .ok (.istore_n 3, 1) := by decide +kernel
theorem d_Runner_doTest_2 : decode b_Runner_doTest 2 = .ok (.iload_n 3, 1) := by decide +kernel
theorem d_Runner_doTest_3 : decode b_Runner_doTest 3 = .ok (.aload_n 0, 1) := by decide +kernel
theorem d_Runner_doTest_4 : decode b_Runner_doTest 4 = .ok (.getfield 9, 3) := by decide +kernel
theorem d_Runner_doTest_7 : decode b_Runner_doTest 7 = .ok (.iload_n 1, 1) := by decide +kernel
theorem d_Runner_doTest_8 : decode b_Runner_doTest 8 = .ok (.invokevirtual 127, 3) := by decide +kernel
theorem d_Runner_doTest_11 : decode b_Runner_doTest 11 = .ok (.if_icmp .ge 46, 3) := by decide +kernel
theorem d_Runner_doTest_14 : decode b_Runner_doTest 14 = .ok (.iload_n 3, 1) := by decide +kernel
theorem d_Runner_doTest_15 : decode b_Runner_doTest 15 = .ok (.ifCond .le 24, 3) := by decide +kernel
theorem d_Runner_doTest_18 : decode b_Runner_doTest 18 = .ok (.aload_n 0, 1) := by decide +kernel
theorem d_Runner_doTest_19 : decode b_Runner_doTest 19 = .ok (.invokevirtual 69, 3) := by decide +kernel
theorem d_Runner_doTest_22 : decode b_Runner_doTest 22 = .ok (.ifCond .eq 17, 3) := by decide +kernel
theorem d_Runner_doTest_25 : decode b_Runner_doTest 25 = .ok (.aload_n 0, 1) := by decide +kernel
theorem d_Runner_doTest_26 : decode b_Runner_doTest 26 = .ok (.getfield 23, 3) := by decide +kernel
theorem d_Runner_doTest_29 : decode b_Runner_doTest 29 = .ok (.iload_n 1, 1) := by decide +kernel
theorem d_Runner_doTest_30 : decode b_Runner_doTest 30 = .ok (.iload_n 3, 1) := by decide +kernel
theorem d_Runner_doTest_31 : decode b_Runner_doTest 31 = .ok (.aload_n 0, 1) := by decide +kernel
theorem d_Runner_doTest_32 : decode b_Runner_doTest 32 = .ok (.getfield 45, 3) := by decide +kernel
theorem d_Runner_doTest_35 : decode b_Runner_doTest 35 = .ok (.invokevirtual 73, 3) := by decide +kernel
theorem d_Runner_doTest_38 : decode b_Runner_doTest 38 = .ok (.return_, 1) := by decide +kernel
theorem d_Runner_doTest_39 : decode b_Runner_doTest 39 = .ok (.aload_n 0, 1) := by decide +kernel
theorem d_Runner_doTest_40 : decode b_Runner_doTest 40 = .ok (.iload_n 1, 1) := by decide +kernel
theorem d_Runner_doTest_41 : decode b_Runner_doTest 41 = .ok (.iload_n 3, 1) := by decide +kernel
theorem d_Runner_doTest_42 : decode b_Runner_doTest 42 = .ok (.aload_n 0, 1) := by decide +kernel
theorem d_Runner_doTest_43 : decode b_Runner_doTest 43 = .ok (.getfield 29, 3) := by decide +kernel
theorem d_Runner_doTest_46 : decode b_Runner_doTest 46 = .ok (.iload_n 2, 1) := by decide +kernel
theorem d_Runner_doTest_47 : decode b_Runner_doTest 47 = .ok (.aaload, 1) := by decide +kernel
theorem d_Runner_doTest_48 : decode b_Runner_doTest 48 = .ok (.invokevirtual 130, 3) := by decide +kernel
theorem d_Runner_doTest_51 : decode b_Runner_doTest 51 = .ok (.iinc 3 1, 3) := by decide +kernel
theorem d_Runner_doTest_54 : decode b_Runner_doTest 54 = .ok (.goto (-52), 3) := by decide +kernel
theorem d_Runner_doTest_57 : decode b_Runner_doTest 57 = .ok (.return_, 1) := by decide +kernel
theorem d_Runner_doRound_0 : decode b_Runner_doRound 0 = .ok (.aload_n 0, 1) := by decide +kernel
theorem d_Runner_doRound_1 : decode b_Runner_doRound 1 = .ok (.getfield 9, 3) := by decide +kernel
theorem d_Runner_doRound_4 : decode b_Runner_doRound 4 = .ok (.iload_n 1, 1) := by decide +kernel
theorem d_Runner_doRound_5 : decode b_Runner_doRound 5 = .ok (.invokevirtual 133, 3) := by decide +kernel
theorem d_Runner_doRound_8 : decode b_Runner_doRound 8 = .ok (.istore 4, 2) := by decide +kernel
theorem d_Runner_doRound_10 : decode b_Runner_doRound 10 = .ok (.aload_n 0, 1) := by decide +kernel
theorem d_Runner_doRound_11 : decode b_Runner_doRound 11 = .ok (.getfield 9, 3) := by decide +kernel
theorem d_Runner_doRound_14 : decode b_Runner_doRound 14 = .ok (.iload_n 1, 1) := by decide +kernel
theorem d_Runner_doRound_15 : decode b_Runner_doRound 15 = .ok (.invokevirtual 136, 3) := by decide +kernel
theorem d_Runner_doRound_18 : decode b_Runner_doRound 18 = .ok (.istore 5, 2) := by decide +kernel
theorem d_Runner_doRound_20 : decode b_Runner_doRound 20 = .ok (.aload_n 0, 1) := by decide +kernel
theorem d_Runner_doRound_21 : decode b_Runner_doRound 21 = .ok (.getfield 9, 3) := by decide +kernel
theorem d_Runner_doRound_24 : decode b_Runner_doRound 24 = .ok (.iload 4, 2) := by decide +kernel
theorem d_Runner_doRound_26 : decode b_Runner_doRound 26 = .ok (.aload_n 0, 1) := by decide +kernel
theorem d_Runner_doRound_27 : decode b_Runner_doRound 27 = .ok (.getfield 34, 3) := by decide +kernel
theorem d_Runner_doRound_30 : decode b_Runner_doRound 30 = .ok (.invokevirtual 139, 3) := by decide +kernel
theorem d_Runner_doRound_33 : decode b_Runner_doRound 33 = .ok (.aload_n 0, 1) := by decide +kernel
theorem d_Runner_doRound_34 : decode b_Runner_doRound 34 = .ok (.getfield 23, 3) := by decide +kernel
theorem d_Runner_doRound_37 : decode b_Runner_doRound 37 = .ok (.iload_n 1, 1) := by decide +kernel
theorem d_Runner_doRound_38 : decode b_Runner_doRound 38 = .ok (.iload_n 2, 1) := by decide +kernel
theorem d_Runner_doRound_39 : decode b_Runner_doRound 39 = .ok (.aload_n 0, 1) := by decide +kernel
theorem d_Runner_doRound_40 : decode b_Runner_doRound 40 = .ok (.getfield 45, 3) := by decide +kernel
theorem d_Runner_doRound_43 : decode b_Runner_doRound 43 = .ok (.invokevirtual 93, 3) := by decide +kernel
theorem d_Runner_doRound_46 : decode b_Runner_doRound 46 = .ok (.aload_n 0, 1) := by decide +kernel
theorem d_Runner_doRound_47 : decode b_Runner_doRound 47 = .ok (.iload 5, 2) := by decide +kernel
theorem d_Runner_doRound_49 : decode b_Runner_doRound 49 = .ok (.invokevirtual 143, 3) := by decide +kernel
theorem d_Runner_doRound_52 : decode b_Runner_doRound 52 = .ok (.aload_n 3, 1) := by decide +kernel
theorem d_Runner_doRound_53 : decode b_Runner_doRound 53 = .ok (.invokevirtual 103, 3) := by decide +kernel
theorem d_Runner_doRound_56 : decode b_Runner_doRound 56 = .ok (.aload_n 0, 1) := by decide +kernel
theorem d_Runner_doRound_57 : decode b_Runner_doRound 57 = .ok (.iload 5, 2) := by decide +kernel
theorem d_Runner_doRound_59 : decode b_Runner_doRound 59 = .ok (.aload_n 3, 1) := by decide +kernel
theorem d_Runner_doRound_60 : decode b_Runner_doRound 60 = .ok (.invokevirtual 146, 3) := by decide +kernel
theorem d_Runner_doRound_63 : decode b_Runner_doRound 63 = .ok (.istore 6, 2) := by decide +kernel
theorem d_Runner_doRound_65 : decode b_Runner_doRound 65 = .ok (.aload_n 3, 1) := by decide +kernel
theorem d_Runner_doRound_66 : decode b_Runner_doRound 66 = .ok (.invokevirtual 110, 3) := by decide +kernel
theorem d_Runner_doRound_69 : decode b_Runner_doRound 69 = .ok (.ifCond .eq 12, 3) := by decide +kernel
theorem d_Runner_doRound_72 : decode b_Runner_doRound 72 = .ok (.aload_n 0, 1) := by decide +kernel
theorem d_Runner_doRound_73 : decode b_Runner_doRound 73 = .ok (.iload_n 1, 1) := by decide +kernel
theorem d_Runner_doRound_74 : decode b_Runner_doRound 74 = .ok (.iconst 4, 1) := by decide +kernel
theorem d_Runner_doRound_75 : decode b_Runner_doRound 75 = .ok (.iload_n 2, 1) := by decide +kernel
theorem d_Runner_doRound_76 : decode b_Runner_doRound 76 = .ok (.iadd, 1) := by decide +kernel
theorem d_Runner_doRound_77 : decode b_Runner_doRound 77 = .ok (.aload_n 3, 1) := by decide +kernel
theorem d_Runner_doRound_78 : decode b_Runner_doRound 78 = .ok (.invokevirtual 106, 3) := by decide +kernel
theorem d_Runner_doRound_81 : decode b_Runner_doRound 81 = .ok (.aload_n 0, 1) := by decide +kernel
theorem d_Runner_doRound_82 : decode b_Runner_doRound 82 = .ok (.iload 6, 2) := by decide +kernel
theorem d_Runner_doRound_84 : decode b_Runner_doRound 84 = .ok (.aload_n 3, 1) := by decide +kernel
theorem d_Runner_doRound_85 : decode b_Runner_doRound 85 = .ok (.invokevirtual 150, 3) := by decide +kernel
theorem d_Runner_doRound_88 : decode b_Runner_doRound 88 = .ok (.aload_n 0, 1) := by decide +kernel
theorem d_Runner_doRound_89 : decode b_Runner_doRound 89 = .ok (.getfield 23, 3) := by decide +kernel
theorem d_Runner_doRound_92 : decode b_Runner_doRound 92 = .ok (.iload_n 1, 1) := by decide +kernel
theorem d_Runner_doRound_93 : decode b_Runner_doRound 93 = .ok (.iload_n 2, 1) := by decide +kernel
theorem d_Runner_doRound_94 : decode b_Runner_doRound 94 = .ok (.aload_n 0, 1) := by decide +kernel
theorem d_Runner_doRound_95 : decode b_Runner_doRound 95 = .ok (.getfield 45, 3) := by decide +kernel
theorem d_Runner_doRound_98 : decode b_Runner_doRound 98 = .ok (.aload_n 3, 1) := by decide +kernel
theorem d_Runner_doRound_99 : decode b_Runner_doRound 99 = .ok (.aload_n 0, 1) := by decide +kernel
theorem d_Runner_doRound_100 : decode b_Runner_doRound 100 = .ok (.getfield 38, 3) := by decide +kernel
theorem d_Runner_doRound_103 : decode b_Runner_doRound 103 = .ok (.iload 4, 2) := by decide +kernel
theorem d_Runner_doRound_105 : decode b_Runner_doRound 105 = .ok (.iaload, 1) := by decide +kernel
theorem d_Runner_doRound_106 : decode b_Runner_doRound 106 = .ok (.invokevirtual 154, 3) := by decide +kernel
theorem d_Runner_doRound_109 : decode b_Runner_doRound 109 = .ok (.return_, 1) := by decide +kernel
theorem d_Runner_makeRoundInstances_0 : decode b_Runner_makeRoundInstances 0 = .ok (.iconst 0, 1) := by decide +kernel
theorem d_Runner_makeRoundInstances_1 : decode b_Runner_makeRoundInstances 1 = .ok (.istore_n 2, 1) := by decide +kernel
theorem d_Runner_makeRoundInstances_2 : decode b_Runner_makeRoundInstances 2 = .ok (.iload_n 2, 1) := by decide +kernel
theorem d_Runner_makeRoundInstances_3 : decode b_Runner_makeRoundInstances 3 = .ok (.iload_n 1, 1) := by decide +kernel
theorem d_Runner_makeRoundInstances_4 : decode b_Runner_makeRoundInstances 4 = .ok (.if_icmp .ge 35, 3) := by decide +kernel
theorem d_Runner_makeRoundInstances_7 : decode b_Runner_makeRoundInstances 7 = .ok (.aload_n 0, 1) := by decide +kernel
theorem d_Runner_makeRoundInstances_8 : decode b_Runner_makeRoundInstances 8 = .ok (.getfield 9, 3) := by decide +kernel
theorem d_Runner_makeRoundInstances_11 : decode b_Runner_makeRoundInstances 11 = .ok (.aload_n 0, 1) := by decide +kernel
theorem d_Runner_makeRoundInstances_12 : decode b_Runner_makeRoundInstances 12 = .ok (.getfield 34, 3) := by decide +kernel
theorem d_Runner_makeRoundInstances_15 : decode b_Runner_makeRoundInstances 15 = .ok (.iload_n 2, 1) := by decide +kernel
theorem d_Runner_makeRoundInstances_16 : decode b_Runner_makeRoundInstances 16 = .ok (.iaload, 1) := by decide +kernel
theorem d_Runner_makeRoundInstances_17 : decode b_Runner_makeRoundInstances 17 = .ok (.invokevirtual 96, 3) := by decide +kernel
theorem d_Runner_makeRoundInstances_20 : decode b_Runner_makeRoundInstances 20 = .ok (.ifCond .ne 13, 3) := by decide +kernel
theorem d_Runner_makeRoundInstances_23 : decode b_Runner_makeRoundInstances 23 = .ok (.aload_n 0, 1) := by decide +kernel
theorem d_Runner_makeRoundInstances_24 : decode b_Runner_makeRoundInstances 24 = .ok (.aload_n 0, 1) := by decide +kernel
theorem d_Runner_makeRoundInstances_25 : decode b_Runner_makeRoundInstances 25 = .ok (.getfield 34, 3) := by decide +kernel
theorem d_Runner_makeRoundInstances_28 : decode b_Runner_makeRoundInstances 28 = .ok (.iload_n 2, 1) := by decide +kernel
theorem d_Runner_makeRoundInstances_29 : decode b_Runner_makeRoundInstances 29 = .ok (.iaload, 1) := by decide +kernel
theorem d_Runner_makeRoundInstances_30 : decode b_Runner_makeRoundInstances 30 = .ok (.invokevirtual 99, 3) := by decide +kernel
theorem d_Runner_makeRoundInstances_33 : decode b_Runner_makeRoundInstances 33 = .ok (.iinc 2 1, 3) := by decide +kernel
theorem d_Runner_makeRoundInstances_36 : decode b_Runner_makeRoundInstances 36 = .ok (.goto (-34), 3) := by decide +kernel
theorem d_Runner_makeRoundInstances_39 : decode b_Runner_makeRoundInstances 39 = .ok (.return_, 1) := by decide +kernel
theorem d_Runner_openEach_0 : decode b_Runner_openEach 0 = .ok (.iconst 0, 1) := by decide +kernel
theorem d_Runner_openEach_1 : decode b_Runner_openEach 1 = .ok (.istore_n 3, 1) := by decide +kernel
theorem d_Runner_openEach_2 : decode b_Runner_openEach 2 = .ok (.iload_n 3, 1) := by decide +kernel
theorem d_Runner_openEach_3 : decode b_Runner_openEach 3 = .ok (.iload_n 1, 1) := by decide +kernel
theorem d_Runner_openEach_4 : decode b_Runner_openEach 4 = .ok (.if_icmp .ge 28, 3) := by decide +kernel
theorem d_Runner_openEach_7 : decode b_Runner_openEach 7 = .ok (.aload_n 2, 1) := by decide +kernel
theorem d_Runner_openEach_8 : decode b_Runner_openEach 8 = .ok (.invokevirtual 110, 3) := by decide +kernel
theorem d_Runner_openEach_11 : decode b_Runner_openEach 11 = .ok (.ifCond .eq 21, 3) := by decide +kernel
theorem d_Runner_openEach_14 : decode b_Runner_openEach 14 = .ok (.aload_n 0, 1) := by decide +kernel
theorem d_Runner_openEach_15 : decode b_Runner_openEach 15 = .ok (.aload_n 0, 1) := by decide +kernel
theorem d_Runner_openEach_16 : decode b_Runner_openEach 16 = .ok (.getfield 34, 3) := by decide +kernel
theorem d_Runner_openEach_19 : decode b_Runner_openEach 19 = .ok (.iload_n 3, 1) := by decide +kernel
theorem d_Runner_openEach_20 : decode b_Runner_openEach 20 = .ok (.iaload, 1) := by decide +kernel
theorem d_Runner_openEach_21 : decode b_Runner_openEach 21 = .ok (.iconst 1, 1) := by decide +kernel
theorem d_Runner_openEach_22 : decode b_Runner_openEach 22 = .ok (.aload_n 2, 1) := by decide +kernel
theorem d_Runner_openEach_23 : decode b_Runner_openEach 23 = .ok (.invokevirtual 106, 3) := by decide +kernel
theorem d_Runner_openEach_26 : decode b_Runner_openEach 26 = .ok (.iinc 3 1, 3) := by decide +kernel
theorem d_Runner_openEach_29 : decode b_Runner_openEach 29 = .ok (.goto (-27), 3) := by decide +kernel
theorem d_Runner_openEach_32 : decode b_Runner_openEach 32 = .ok (.iload_n 3, 1) := by decide +kernel
theorem d_Runner_openEach_33 : decode b_Runner_openEach 33 = .ok (.ireturn, 1) := by decide +kernel
theorem d_Runner_closeEach_0 : decode b_Runner_closeEach 0 = .ok (.iload_n 1, 1) := by decide +kernel
theorem d_Runner_closeEach_1 : decode b_Runner_closeEach 1 = .ok (.iconst 1, 1) := by decide +kernel
theorem d_Runner_closeEach_2 : decode b_Runner_closeEach 2 = .ok (.isub, 1) := by decide +kernel
theorem d_Runner_closeEach_3 : decode b_Runner_closeEach 3 = .ok (.istore_n 3, 1) := by decide +kernel
theorem d_Runner_closeEach_4 : decode b_Runner_closeEach 4 = .ok (.iload_n 3, 1) := by decide +kernel
theorem d_Runner_closeEach_5 : decode b_Runner_closeEach 5 = .ok (.ifCond .lt 21, 3) := by decide +kernel
theorem d_Runner_closeEach_8 : decode b_Runner_closeEach 8 = .ok (.aload_n 0, 1) := by decide +kernel
theorem d_Runner_closeEach_9 : decode b_Runner_closeEach 9 = .ok (.aload_n 0, 1) := by decide +kernel
theorem d_Runner_closeEach_10 : decode b_Runner_closeEach 10 = .ok (.getfield 34, 3) := by decide +kernel
theorem d_Runner_closeEach_13 : decode b_Runner_closeEach 13 = .ok (.iload_n 3, 1) := by decide +kernel
theorem d_Runner_closeEach_14 : decode b_Runner_closeEach 14 = .ok (.iaload, 1) := by decide +kernel
theorem d_Runner_closeEach_15 : decode b_Runner_closeEach 15 = .ok (.iconst 2, 1) := by decide +kernel
theorem d_Runner_closeEach_16 : decode b_Runner_closeEach 16 = .ok (.aload_n 2, 1) := by decide +kernel
theorem d_Runner_closeEach_17 : decode b_Runner_closeEach 17 = .ok (.invokevirtual 106, 3) := by decide +kernel
theorem d_Runner_closeEach_20 : decode b_Runner_closeEach 20 = .ok (.iinc 3 (-1), 3) := by decide +kernel
theorem d_Runner_closeEach_23 : decode b_Runner_closeEach 23 = .ok (.goto (-19), 3) := by decide +kernel
theorem d_Runner_closeEach_26 : decode b_Runner_closeEach 26 = .ok (.return_, 1) := by decide +kernel
theorem d_Runner_makeInstance_0 : decode b_Runner_makeInstance 0 = .ok (.aload_n 0, 1) := by decide +kernel
theorem d_Runner_makeInstance_1 : decode b_Runner_makeInstance 1 = .ok (.dup, 1) := by decide +kernel
theorem d_Runner_makeInstance_2 : decode b_Runner_makeInstance 2 = .ok (.getfield 41, 3) := by decide +kernel
theorem d_Runner_makeInstance_5 : decode b_Runner_makeInstance 5 = .ok (.iconst 1, 1) := by decide +kernel
theorem d_Runner_makeInstance_6 : decode b_Runner_makeInstance 6 = .ok (.iadd, 1) := by decide +kernel
theorem d_Runner_makeInstance_7 : decode b_Runner_makeInstance 7 = .ok (.putfield 41, 3) := by decide +kernel
theorem d_Runner_makeInstance_10 : decode b_Runner_makeInstance 10 = .ok (.aload_n 0, 1) := by decide +kernel
theorem d_Runner_makeInstance_11 : decode b_Runner_makeInstance 11 = .ok (.getfield 38, 3) := by decide +kernel
theorem d_Runner_makeInstance_14 : decode b_Runner_makeInstance 14 = .ok (.iload_n 1, 1) := by decide +kernel
theorem d_Runner_makeInstance_15 : decode b_Runner_makeInstance 15 = .ok (.aload_n 0, 1) := by decide +kernel
theorem d_Runner_makeInstance_16 : decode b_Runner_makeInstance 16 = .ok (.getfield 41, 3) := by decide +kernel
theorem d_Runner_makeInstance_19 : decode b_Runner_makeInstance 19 = .ok (.iastore, 1) := by decide +kernel
theorem d_Runner_makeInstance_20 : decode b_Runner_makeInstance 20 = .ok (.return_, 1) := by decide +kernel
theorem d_Runner_callIfThere_0 : decode b_Runner_callIfThere 0 = .ok (.iload_n 1, 1) := by decide +kernel
theorem d_Runner_callIfThere_1 : decode b_Runner_callIfThere 1 = .ok (.iload_n 2, 1) := by decide +kernel
theorem d_Runner_callIfThere_2 : decode b_Runner_callIfThere 2 = .ok (.invokestatic 158, 3) := by decide +kernel
theorem d_Runner_callIfThere_5 : decode b_Runner_callIfThere 5 = .ok (.istore 4, 2) := by decide +kernel
theorem d_Runner_callIfThere_7 : decode b_Runner_callIfThere 7 = .ok (.aload_n 0, 1) := by decide +kernel
theorem d_Runner_callIfThere_8 : decode b_Runner_callIfThere 8 = .ok (.getfield 15, 3) := by decide +kernel
theorem d_Runner_callIfThere_11 : decode b_Runner_callIfThere 11 = .ok (.iload 4, 2) := by decide +kernel
theorem d_Runner_callIfThere_13 : decode b_Runner_callIfThere 13 = .ok (.invokevirtual 163, 3) := by decide +kernel
theorem d_Runner_callIfThere_16 : decode b_Runner_callIfThere 16 = .ok (.ifCond .ne 4, 3) := by decide +kernel
theorem d_Runner_callIfThere_19 : decode b_Runner_callIfThere 19 = .ok (.return_, 1) := by decide +kernel
theorem d_Runner_callIfThere_20 : decode b_Runner_callIfThere 20 = .ok (.aload_n 0, 1) := by decide +kernel
theorem d_Runner_callIfThere_21 : decode b_Runner_callIfThere 21 = .ok (.dup, 1) := by decide +kernel
theorem d_Runner_callIfThere_22 : decode b_Runner_callIfThere 22 = .ok (.getfield 48, 3) := by decide +kernel
theorem d_Runner_callIfThere_25 : decode b_Runner_callIfThere 25 = .ok (.iconst 1, 1) := by decide +kernel
theorem d_Runner_callIfThere_26 : decode b_Runner_callIfThere 26 = .ok (.iadd, 1) := by decide +kernel
theorem d_Runner_callIfThere_27 : decode b_Runner_callIfThere 27 = .ok (.putfield 48, 3) := by decide +kernel
theorem d_Runner_callIfThere_30 : decode b_Runner_callIfThere 30 = .ok (.aload_n 0, 1) := by decide +kernel
theorem d_Runner_callIfThere_31 : decode b_Runner_callIfThere 31 = .ok (.getfield 15, 3) := by decide +kernel
theorem d_Runner_callIfThere_34 : decode b_Runner_callIfThere 34 = .ok (.iload 4, 2) := by decide +kernel
theorem d_Runner_callIfThere_36 : decode b_Runner_callIfThere 36 = .ok (.invokevirtual 166, 3) := by decide +kernel
theorem d_Runner_callIfThere_39 : decode b_Runner_callIfThere 39 = .ok (.istore 5, 2) := by decide +kernel
theorem d_Runner_callIfThere_41 : decode b_Runner_callIfThere 41 = .ok (.iload_n 2, 1) := by decide +kernel
theorem d_Runner_callIfThere_42 : decode b_Runner_callIfThere 42 = .ok (.iconst 4, 1) := by decide +kernel
theorem d_Runner_callIfThere_43 : decode b_Runner_callIfThere 43 = .ok (.if_icmp .lt 41, 3) := by decide +kernel
theorem d_Runner_callIfThere_46 : decode b_Runner_callIfThere 46 = .ok (.iload 5, 2) := by decide +kernel
theorem d_Runner_callIfThere_48 : decode b_Runner_callIfThere 48 = .ok (.aload_n 0, 1) := by decide +kernel
theorem d_Runner_callIfThere_49 : decode b_Runner_callIfThere 49 = .ok (.getfield 9, 3) := by decide +kernel
theorem d_Runner_callIfThere_52 : decode b_Runner_callIfThere 52 = .ok (.iload_n 1, 1) := by decide +kernel
theorem d_Runner_callIfThere_53 : decode b_Runner_callIfThere 53 = .ok (.invokevirtual 169, 3) := by decide +kernel
theorem d_Runner_callIfThere_56 : decode b_Runner_callIfThere 56 = .ok (.if_icmp .le 28, 3) := by decide +kernel
theorem d_Runner_callIfThere_59 : decode b_Runner_callIfThere 59 = .ok (.aload_n 0, 1) := by decide +kernel
theorem d_Runner_callIfThere_60 : decode b_Runner_callIfThere 60 = .ok (.dup, 1) := by decide +kernel
theorem d_Runner_callIfThere_61 : decode b_Runner_callIfThere 61 = .ok (.getfield 45, 3) := by decide +kernel
theorem d_Runner_callIfThere_64 : decode b_Runner_callIfThere 64 = .ok (.aload_n 0, 1) := by decide +kernel
theorem d_Runner_callIfThere_65 : decode b_Runner_callIfThere 65 = .ok (.getfield 9, 3) := by decide +kernel
theorem d_Runner_callIfThere_68 : decode b_Runner_callIfThere 68 = .ok (.iload_n 1, 1) := by decide +kernel
theorem d_Runner_callIfThere_69 : decode b_Runner_callIfThere 69 = .ok (.invokevirtual 169, 3) := by decide +kernel
theorem d_Runner_callIfThere_72 : decode b_Runner_callIfThere 72 = .ok (.iadd, 1) := by decide +kernel
theorem d_Runner_callIfThere_73 : decode b_Runner_callIfThere 73 = .ok (.putfield 45, 3) := by decide +kernel
theorem d_Runner_callIfThere_76 : decode b_Runner_callIfThere 76 = .ok (.aload_n 3, 1) := by decide +kernel
theorem d_Runner_callIfThere_77 : decode b_Runner_callIfThere 77 = .ok (.bipush 100, 2) := by decide +kernel
theorem d_Runner_callIfThere_79 : decode b_Runner_callIfThere 79 = .ok (.iconst 0, 1) := by decide +kernel
theorem d_Runner_callIfThere_80 : decode b_Runner_callIfThere 80 = .ok (.invokevirtual 172, 3) := by decide +kernel
theorem d_Runner_callIfThere_83 : decode b_Runner_callIfThere 83 = .ok (.return_, 1) := by decide +kernel
theorem d_Runner_callIfThere_84 : decode b_Runner_callIfThere 84 = .ok (.aload_n 0, 1) := by decide +kernel
theorem d_Runner_callIfThere_85 : decode b_Runner_callIfThere 85 = .ok (.dup, 1) := by decide +kernel
theorem d_Runner_callIfThere_86 : decode b_Runner_callIfThere 86 = .ok (.getfield 45, 3) := by decide +kernel
theorem d_Runner_callIfThere_89 : decode b_Runner_callIfThere 89 = .ok (.iload 5, 2) := by decide +kernel
theorem d_Runner_callIfThere_91 : decode b_Runner_callIfThere 91 = .ok (.iadd, 1) := by decide +kernel
theorem d_Runner_callIfThere_92 : decode b_Runner_callIfThere 92 = .ok (.putfield 45, 3) := by decide +kernel
theorem d_Runner_callIfThere_95 : decode b_Runner_callIfThere 95 = .ok (.aload_n 0, 1) := by decide +kernel
theorem d_Runner_callIfThere_96 : decode b_Runner_callIfThere 96 = .ok (.getfield 15, 3) := by decide +kernel
theorem d_Runner_callIfThere_99 : decode b_Runner_callIfThere 99 = .ok (.iload 4, 2) := by decide +kernel
theorem d_Runner_callIfThere_101 : decode b_Runner_callIfThere 101 = .ok (.invokevirtual 176, 3) := by decide +kernel
theorem d_Runner_callIfThere_104 : decode b_Runner_callIfThere 104 = .ok (.istore 6, 2) := by decide +kernel
theorem d_Runner_callIfThere_106 : decode b_Runner_callIfThere 106 = .ok (.iload 6, 2) := by decide +kernel
theorem d_Runner_callIfThere_108 : decode b_Runner_callIfThere 108 = .ok (.ifCond .eq 27, 3) := by decide +kernel
theorem d_Runner_callIfThere_111 : decode b_Runner_callIfThere 111 = .ok (.aload_n 3, 1) := by decide +kernel
theorem d_Runner_callIfThere_112 : decode b_Runner_callIfThere 112 = .ok (.aload_n 0, 1) := by decide +kernel
theorem d_Runner_callIfThere_113 : decode b_Runner_callIfThere 113 = .ok (.getfield 15, 3) := by decide +kernel
theorem d_Runner_callIfThere_116 : decode b_Runner_callIfThere 116 = .ok (.iload 4, 2) := by decide +kernel
theorem d_Runner_callIfThere_118 : decode b_Runner_callIfThere 118 = .ok (.invokevirtual 179, 3) := by decide +kernel
theorem d_Runner_callIfThere_121 : decode b_Runner_callIfThere 121 = .ok (.iload 6, 2) := by decide +kernel
theorem d_Runner_callIfThere_123 : decode b_Runner_callIfThere 123 = .ok (.iconst 2, 1) := by decide +kernel
theorem d_Runner_callIfThere_124 : decode b_Runner_callIfThere 124 = .ok (.if_icmp .ne 7, 3) := by decide +kernel
theorem d_Runner_callIfThere_127 : decode b_Runner_callIfThere 127 = .ok (.iconst 1, 1) := by decide +kernel
theorem d_Runner_callIfThere_128 : decode b_Runner_callIfThere 128 = .ok (.goto 4, 3) := by decide +kernel
theorem d_Runner_callIfThere_131 : decode b_Runner_callIfThere 131 = .ok (.iconst 0, 1) := by decide +kernel
theorem d_Runner_callIfThere_132 : decode b_Runner_callIfThere 132 = .ok (.invokevirtual 172, 3) := by decide +kernel
theorem d_Runner_callIfThere_135 : decode b_Runner_callIfThere 135 = .ok (.return_, 1) := by decide +kernel
theorem d_Runner_instancesMade_0 : decode b_Runner_instancesMade 0 = .ok (.aload_n 0, 1) := by decide +kernel
theorem d_Runner_instancesMade_1 : decode b_Runner_instancesMade 1 = .ok (.getfield 41, 3) := by decide +kernel
theorem d_Runner_instancesMade_4 : decode b_Runner_instancesMade 4 = .ok (.ireturn, 1) := by decide +kernel
theorem d_Runner_time_0 : decode b_Runner_time 0 = .ok (.aload_n 0, 1) := by decide +kernel
theorem d_Runner_time_1 : decode b_Runner_time 1 = .ok (.getfield 45, 3) := by decide +kernel
theorem d_Runner_time_4 : decode b_Runner_time 4 = .ok (.ireturn, 1) := by decide +kernel
theorem d_Runner_calls_0 : decode b_Runner_calls 0 = .ok (.aload_n 0, 1) := by decide +kernel
theorem d_Runner_calls_1 : decode b_Runner_calls 1 = .ok (.getfield 48, 3) := by decide +kernel
theorem d_Runner_calls_4 : decode b_Runner_calls 4 = .ok (.ireturn, 1) := by decide +kernel
theorem d_Tree_init_0 : decode b_Tree_init 0 = .ok (.aload_n 0, 1) := by decide +kernel
theorem d_Tree_init_1 : decode b_Tree_init 1 = .ok (.invokespecial 3, 3) := by decide +kernel
theorem d_Tree_init_4 : decode b_Tree_init 4 = .ok (.aload_n 0, 1) := by decide +kernel
theorem d_Tree_init_5 : decode b_Tree_init 5 = .ok (.bipush 24, 2) := by decide +kernel
theorem d_Tree_init_7 : decode b_Tree_init 7 = .ok (.newarray .int, 2) := by decide +kernel
theorem d_Tree_init_9 : decode b_Tree_init 9 = .ok (.putfield 9, 3) := by decide +kernel
theorem d_Tree_init_12 : decode b_Tree_init 12 = .ok (.aload_n 0, 1) := by decide +kernel
theorem d_Tree_init_13 : decode b_Tree_init 13 = .ok (.bipush 24, 2) := by decide +kernel
theorem d_Tree_init_15 : decode b_Tree_init 15 = .ok (.newarray .int, 2) := by decide +kernel
theorem d_Tree_init_17 : decode b_Tree_init 17 = .ok (.putfield 15, 3) := by decide +kernel
theorem d_Tree_init_20 : decode b_Tree_init 20 = .ok (.aload_n 0, 1) := by decide +kernel
theorem d_Tree_init_21 : decode b_Tree_init 21 = .ok (.bipush 24, 2) := by decide +kernel
theorem d_Tree_init_23 : decode b_Tree_init 23 = .ok (.newarray .int, 2) := by decide +kernel
theorem d_Tree_init_25 : decode b_Tree_init 25 = .ok (.putfield 18, 3) := by decide +kernel
theorem d_Tree_init_28 : decode b_Tree_init 28 = .ok (.aload_n 0, 1) := by decide +kernel
theorem d_Tree_init_29 : decode b_Tree_init 29 = .ok (.bipush 24, 2) := by decide +kernel
theorem d_Tree_init_31 : decode b_Tree_init 31 = .ok (.newarray .int, 2) := by decide +kernel
theorem d_Tree_init_33 : decode b_Tree_init 33 = .ok (.putfield 21, 3) := by decide +kernel
theorem d_Tree_init_36 : decode b_Tree_init 36 = .ok (.aload_n 0, 1) := by decide +kernel
theorem d_Tree_init_37 : decode b_Tree_init 37 = .ok (.bipush 24, 2) := by decide +kernel
theorem d_Tree_init_39 : decode b_Tree_init 39 = .ok (.newarray .boolean, 2) := by decide +kernel
theorem d_Tree_init_41 : decode b_Tree_init 41 = .ok (.putfield 24, 3) := by decide +kernel
theorem d_Tree_init_44 : decode b_Tree_init 44 = .ok (.aload_n 0, 1) := by decide +kernel
theorem d_Tree_init_45 : decode b_Tree_init 45 = .ok (.bipush 24, 2) := by decide +kernel
theorem d_Tree_init_47 : decode b_Tree_init 47 = .ok (.newarray .boolean, 2) := by decide +kernel
theorem d_Tree_init_49 : decode b_Tree_init 49 = .ok (.putfield 28, 3) := by decide +kernel
theorem d_Tree_init_52 : decode b_Tree_init 52 = .ok (.aload_n 0, 1) := by decide +kernel
theorem d_Tree_init_53 : decode b_Tree_init 53 = .ok (.bipush 24, 2) := by decide +kernel
theorem d_Tree_init_55 : decode b_Tree_init 55 = .ok (.newarray .int, 2) := by decide +kernel
theorem d_Tree_init_57 : decode b_Tree_init 57 = .ok (.putfield 31, 3) := by decide +kernel
theorem d_Tree_init_60 : decode b_Tree_init 60 = .ok (.aload_n 0, 1) := by decide +kernel
theorem d_Tree_init_61 : decode b_Tree_init 61 = .ok (.bipush 24, 2) := by decide +kernel
theorem d_Tree_init_63 : decode b_Tree_init 63 = .ok (.newarray .int, 2) := by decide +kernel
theorem d_Tree_init_65 : decode b_Tree_init 65 = .ok (.putfield 34, 3) := by decide +kernel
theorem d_Tree_init_68 : decode b_Tree_init 68 = .ok (.aload_n 0, 1) := by decide +kernel
theorem d_Tree_init_69 : decode b_Tree_init 69 = .ok (.getfield 9, 3) := by decide +kernel
theorem d_Tree_init_72 : decode b_Tree_init 72 = .ok (.iconst 0, 1) := by decide +kernel
theorem d_Tree_init_73 : decode b_Tree_init 73 = .ok (.iconst (-1), 1) := by decide +kernel
theorem d_Tree_init_74 : decode b_Tree_init 74 = .ok (.iastore, 1) := by decide +kernel
theorem d_Tree_init_75 : decode b_Tree_init 75 = .ok (.aload_n 0, 1) := by decide +kernel
theorem d_Tree_init_76 : decode b_Tree_init 76 = .ok (.iconst 1, 1) := by decide +kernel
theorem d_Tree_init_77 : decode b_Tree_init 77 = .ok (.putfield 37, 3) := by decide +kernel
theorem d_Tree_init_80 : decode b_Tree_init 80 = .ok (.return_, 1) := by decide +kernel
theorem d_Tree_size_0 : decode b_Tree_size 0 = .ok (.aload_n 0, 1) := by decide +kernel
theorem d_Tree_size_1 : decode b_Tree_size 1 = .ok (.getfield 37, 3) := by decide +kernel
theorem d_Tree_size_4 : decode b_Tree_size 4 = .ok (.ireturn, 1) := by decide +kernel
theorem d_Tree_isFull_0 : decode b_Tree_isFull 0 = .ok (.aload_n 0, 1) := by decide +kernel
theorem d_Tree_isFull_1 : decode b_Tree_isFull 1 = .ok (.getfield 37, 3) := by decide +kernel
theorem d_Tree_isFull_4 : decode b_Tree_isFull 4 = .ok (.bipush 24, 2) := by decide +kernel
theorem d_Tree_isFull_6 : decode b_Tree_isFull 6 = .ok (.if_icmp .lt 7, 3) := by decide +kernel
theorem d_Tree_isFull_9 : decode b_Tree_isFull 9 = .ok (.iconst 1, 1) := by decide +kernel
theorem d_Tree_isFull_10 : decode b_Tree_isFull 10 = .ok (.goto 4, 3) := by decide +kernel
theorem d_Tree_isFull_13 : decode b_Tree_isFull 13 = .ok (.iconst 0, 1) := by decide +kernel
theorem d_Tree_isFull_14 : decode b_Tree_isFull 14 = .ok (.ireturn, 1) := by decide +kernel
theorem d_Tree_isNode_0 : decode b_Tree_isNode 0 = .ok (.iload_n 1, 1) := by decide +kernel
theorem d_Tree_isNode_1 : decode b_Tree_isNode 1 = .ok (.iconst 0, 1) := by decide +kernel
theorem d_Tree_isNode_2 : decode b_Tree_isNode 2 = .ok (.aload_n 0, 1) := by decide +kernel
theorem d_Tree_isNode_3 : decode b_Tree_isNode 3 = .ok (.getfield 37, 3) := by decide +kernel
theorem d_Tree_isNode_6 : decode b_Tree_isNode 6 = .ok (.iconst 1, 1) := by decide +kernel
theorem d_Tree_isNode_7 : decode b_Tree_isNode 7 = .ok (.isub, 1) := by decide +kernel
theorem d_Tree_isNode_8 : decode b_Tree_isNode 8 = .ok (.invokestatic 41, 3) := by decide +kernel
theorem d_Tree_isNode_11 : decode b_Tree_isNode 11 = .ok (.ireturn, 1) := by decide +kernel
theorem d_Tree_isContainer_0 : decode b_Tree_isContainer 0 = .ok (.aload_n 0, 1) := by decide +kernel
theorem d_Tree_isContainer_1 : decode b_Tree_isContainer 1 = .ok (.iload_n 1, 1) := by decide +kernel
theorem d_Tree_isContainer_2 : decode b_Tree_isContainer 2 = .ok (.invokevirtual 45, 3) := by decide +kernel
theorem d_Tree_isContainer_5 : decode b_Tree_isContainer 5 = .ok (.ifCond .eq 16, 3) := by decide +kernel
theorem d_Tree_isContainer_8 : decode b_Tree_isContainer 8 = .ok (.aload_n 0, 1) := by decide +kernel
theorem d_Tree_isContainer_9 : decode b_Tree_isContainer 9 = .ok (.getfield 31, 3) := by decide +kernel
theorem d_Tree_isContainer_12 : decode b_Tree_isContainer 12 = .ok (.iload_n 1, 1) := by decide +kernel
theorem d_Tree_isContainer_13 : decode b_Tree_isContainer 13 = .ok (.iaload, 1) := by decide +kernel
theorem d_Tree_isContainer_14 : decode b_Tree_isContainer 14 = .ok (.ifCond .ne 7, 3) := by decide +kernel
theorem d_Tree_isContainer_17 : decode b_Tree_isContainer 17 = .ok (.iconst 1, 1) := by decide +kernel
theorem d_Tree_isContainer_18 : decode b_Tree_isContainer 18 = .ok (.goto 4, 3) := by decide +kernel
theorem d_Tree_isContainer_21 : decode b_Tree_isContainer 21 = .ok (.iconst 0, 1) := by decide +kernel
theorem d_Tree_isContainer_22 : decode b_Tree_isContainer 22 = .ok (.ireturn, 1) := by decide +kernel
theorem d_Tree_mayHave_0 : decode b_Tree_mayHave 0 = .ok (.aload_n 0, 1) := by decide +kernel
theorem d_Tree_mayHave_1 : decode b_Tree_mayHave 1 = .ok (.iload_n 1, 1) := by decide +kernel
theorem d_Tree_mayHave_2 : decode b_Tree_mayHave 2 = .ok (.invokevirtual 45, 3) := by decide +kernel
theorem d_Tree_mayHave_5 : decode b_Tree_mayHave 5 = .ok (.ifCond .ne 5, 3) := by decide +kernel
theorem d_Tree_mayHave_8 : decode b_Tree_mayHave 8 = .ok (.iconst 0, 1) := by decide +kernel
theorem d_Tree_mayHave_9 : decode b_Tree_mayHave 9 = .ok (.ireturn, 1) := by decide +kernel
theorem d_Tree_mayHave_10 : decode b_Tree_mayHave 10 = .ok (.aload_n 0, 1) := by decide +kernel
theorem d_Tree_mayHave_11 : decode b_Tree_mayHave 11 = .ok (.getfield 31, 3) := by decide +kernel
theorem d_Tree_mayHave_14 : decode b_Tree_mayHave 14 = .ok (.iload_n 1, 1) := by decide +kernel
theorem d_Tree_mayHave_15 : decode b_Tree_mayHave 15 = .ok (.iaload, 1) := by decide +kernel
theorem d_Tree_mayHave_16 : decode b_Tree_mayHave 16 = .ok (.ifCond .ne 10, 3) := by decide +kernel
theorem d_Tree_mayHave_19 : decode b_Tree_mayHave 19 = .ok (.iload_n 2, 1) := by decide +kernel
theorem d_Tree_mayHave_20 : decode b_Tree_mayHave 20 = .ok (.iconst 0, 1) := by decide +kernel
theorem d_Tree_mayHave_21 : decode b_Tree_mayHave 21 = .ok (.iconst 3, 1) := by decide +kernel
theorem d_Tree_mayHave_22 : decode b_Tree_mayHave 22 = .ok (.invokestatic 41, 3) := by decide +kernel
theorem d_Tree_mayHave_25 : decode b_Tree_mayHave 25 = .ok (.ireturn, 1) := by decide +kernel
theorem d_Tree_mayHave_26 : decode b_Tree_mayHave 26 = .ok (.iload_n 2, 1) := by decide +kernel
theorem d_Tree_mayHave_27 : decode b_Tree_mayHave 27 = .ok (.iconst 4, 1) := by decide +kernel
theorem d_Tree_mayHave_28 : decode b_Tree_mayHave 28 = .ok (.iconst 4, 1) := by decide +kernel
theorem d_Tree_mayHave_29 : decode b_Tree_mayHave 29 = .ok (.aload_n 0, 1) := by decide +kernel
theorem d_Tree_mayHave_30 : decode b_Tree_mayHave 30 = .ok (.getfield 31, 3) := by decide +kernel
theorem d_Tree_mayHave_33 : decode b_Tree_mayHave 33 = .ok (.iload_n 1, 1) := by decide +kernel
theorem d_Tree_mayHave_34 : decode b_Tree_mayHave 34 = .ok (.iaload, 1) := by decide +kernel
theorem d_Tree_mayHave_35 : decode b_Tree_mayHave 35 = .ok (.iadd, 1) := by decide +kernel
theorem d_Tree_mayHave_36 : decode b_Tree_mayHave 36 = .ok (.iconst 1, 1) := by decide +kernel
theorem d_Tree_mayHave_37 : decode b_Tree_mayHave 37 = .ok (.isub, 1) := by decide +kernel
theorem d_Tree_mayHave_38 : decode b_Tree_mayHave 38 = .ok (.invokestatic 41, 3) := by decide +kernel
theorem d_Tree_mayHave_41 : decode b_Tree_mayHave 41 = .ok (.ireturn, 1) := by decide +kernel
theorem d_Tree_addContainer_0 : decode b_Tree_addContainer 0 = .ok (.aload_n 0, 1) := by decide +kernel
theorem d_Tree_addContainer_1 : decode b_Tree_addContainer 1 = .ok (.iload_n 1, 1) := by decide +kernel
theorem d_Tree_addContainer_2 : decode b_Tree_addContainer 2 = .ok (.iload_n 2, 1) := by decide +kernel
theorem d_Tree_addContainer_3 : decode b_Tree_addContainer 3 = .ok (.invokevirtual 49, 3) := by decide +kernel
theorem d_Tree_addContainer_6 : decode b_Tree_addContainer 6 = .ok (.istore 4, 2) := by decide +kernel
theorem d_Tree_addContainer_8 : decode b_Tree_addContainer 8 = .ok (.aload_n 0, 1) := by decide +kernel
theorem d_Tree_addContainer_9 : decode b_Tree_addContainer 9 = .ok (.getfield 28, 3) := by decide +kernel
theorem d_Tree_addContainer_12 : decode b_Tree_addContainer 12 = .ok (.iload 4, 2) := by decide +kernel
theorem d_Tree_addContainer_14 : decode b_Tree_addContainer 14 = .ok (.iload_n 3, 1) := by decide +kernel
theorem d_Tree_addContainer_15 : decode b_Tree_addContainer 15 = .ok (.bastore, 1) := by decide +kernel
theorem d_Tree_addContainer_16 : decode b_Tree_addContainer 16 = .ok (.iload 4, 2) := by decide +kernel
theorem d_Tree_addContainer_18 : decode b_Tree_addContainer 18 = .ok (.ireturn, 1) := by decide +kernel
theorem d_Tree_addTest_0 : decode b_Tree_addTest 0 = .ok (.aload_n 0, 1) := by decide +kernel
theorem d_Tree_addTest_1 : decode b_Tree_addTest 1 = .ok (.iload_n 1, 1) := by decide +kernel
theorem d_Tree_addTest_2 : decode b_Tree_addTest 2 = .ok (.iload_n 2, 1) := by decide +kernel
theorem d_Tree_addTest_3 : decode b_Tree_addTest 3 = .ok (.invokevirtual 49, 3) := by decide +kernel
theorem d_Tree_addTest_6 : decode b_Tree_addTest 6 = .ok (.istore 5, 2) := by decide +kernel
theorem d_Tree_addTest_8 : decode b_Tree_addTest 8 = .ok (.aload_n 0, 1) := by decide +kernel
theorem d_Tree_addTest_9 : decode b_Tree_addTest 9 = .ok (.getfield 31, 3) := by decide +kernel
theorem d_Tree_addTest_12 : decode b_Tree_addTest 12 = .ok (.iload 5, 2) := by decide +kernel
theorem d_Tree_addTest_14 : decode b_Tree_addTest 14 = .ok (.iload_n 3, 1) := by decide +kernel
theorem d_Tree_addTest_15 : decode b_Tree_addTest 15 = .ok (.iastore, 1) := by decide +kernel
theorem d_Tree_addTest_16 : decode b_Tree_addTest 16 = .ok (.aload_n 0, 1) := by decide +kernel
theorem d_Tree_addTest_17 : decode b_Tree_addTest 17 = .ok (.getfield 34, 3) := by decide +kernel
theorem d_Tree_addTest_20 : decode b_Tree_addTest 20 = .ok (.iload 5, 2) := by decide +kernel
theorem d_Tree_addTest_22 : decode b_Tree_addTest 22 = .ok (.iload 4, 2) := by decide +kernel
theorem d_Tree_addTest_24 : decode b_Tree_addTest 24 = .ok (.iastore, 1) := by decide +kernel
theorem d_Tree_addTest_25 : decode b_Tree_addTest 25 = .ok (.iload 5, 2) := by decide +kernel
theorem d_Tree_addTest_27 : decode b_Tree_addTest 27 = .ok (.ireturn, 1) := by decide +kernel
theorem d_Tree_addNode_0 : decode b_Tree_addNode 0 = .ok (.aload_n 0, 1) := by decide +kernel
theorem d_Tree_addNode_1 : decode b_Tree_addNode 1 = .ok (.getfield 37, 3) := by decide +kernel
theorem d_Tree_addNode_4 : decode b_Tree_addNode 4 = .ok (.istore_n 3, 1) := by decide +kernel
theorem d_Tree_addNode_5 : decode b_Tree_addNode 5 = .ok (.aload_n 0, 1) := by decide +kernel
theorem d_Tree_addNode_6 : decode b_Tree_addNode 6 = .ok (.getfield 9, 3) := by decide +kernel
theorem d_Tree_addNode_9 : decode b_Tree_addNode 9 = .ok (.iload_n 3, 1) := by decide +kernel
theorem d_Tree_addNode_10 : decode b_Tree_addNode 10 = .ok (.iload_n 1, 1) := by decide +kernel
theorem d_Tree_addNode_11 : decode b_Tree_addNode 11 = .ok (.iastore, 1) := by decide +kernel
theorem d_Tree_addNode_12 : decode b_Tree_addNode 12 = .ok (.aload_n 0, 1) := by decide +kernel
theorem d_Tree_addNode_13 : decode b_Tree_addNode 13 = .ok (.getfield 15, 3) := by decide +kernel
theorem d_Tree_addNode_16 : decode b_Tree_addNode 16 = .ok (.iload_n 3, 1) := by decide +kernel
theorem d_Tree_addNode_17 : decode b_Tree_addNode 17 = .ok (.aload_n 0, 1) := by decide +kernel
theorem d_Tree_addNode_18 : decode b_Tree_addNode 18 = .ok (.getfield 15, 3) := by decide +kernel
theorem d_Tree_addNode_21 : decode b_Tree_addNode 21 = .ok (.iload_n 1, 1) := by decide +kernel
theorem d_Tree_addNode_22 : decode b_Tree_addNode 22 = .ok (.iaload, 1) := by decide +kernel
theorem d_Tree_addNode_23 : decode b_Tree_addNode 23 = .ok (.iconst 1, 1) := by decide +kernel
theorem d_Tree_addNode_24 : decode b_Tree_addNode 24 = .ok (.iadd, 1) := by decide +kernel
theorem d_Tree_addNode_25 : decode b_Tree_addNode 25 = .ok (.iastore, 1) := by decide +kernel
theorem d_Tree_addNode_26 : decode b_Tree_addNode 26 = .ok (.aload_n 0, 1) := by decide +kernel
theorem d_Tree_addNode_27 : decode b_Tree_addNode 27 = .ok (.getfield 18, 3) := by decide +kernel
theorem d_Tree_addNode_30 : decode b_Tree_addNode 30 = .ok (.iload_n 3, 1) := by decide +kernel
theorem d_Tree_addNode_31 : decode b_Tree_addNode 31 = .ok (.iload_n 2, 1) := by decide +kernel
theorem d_Tree_addNode_32 : decode b_Tree_addNode 32 = .ok (.iastore, 1) := by decide +kernel
theorem d_Tree_addNode_33 : decode b_Tree_addNode 33 = .ok (.aload_n 0, 1) := by decide +kernel
theorem d_Tree_addNode_34 : decode b_Tree_addNode 34 = .ok (.dup, 1) := by decide +kernel
theorem d_Tree_addNode_35 : decode b_Tree_addNode 35 = .ok (.getfield 37, 3) := by decide +kernel
theorem d_Tree_addNode_38 : decode b_Tree_addNode 38 = .ok (.iconst 1, 1) := by decide +kernel
theorem d_Tree_addNode_39 : decode b_Tree_addNode 39 = .ok (.iadd, 1) := by decide +kernel
theorem d_Tree_addNode_40 : decode b_Tree_addNode 40 = .ok (.putfield 37, 3) := by decide +kernel
theorem d_Tree_addNode_43 : decode b_Tree_addNode 43 = .ok (.iload_n 3, 1) := by decide +kernel
theorem d_Tree_addNode_44 : decode b_Tree_addNode 44 = .ok (.ireturn, 1) := by decide +kernel
theorem d_Tree_setMarks_0 : decode b_Tree_setMarks 0 = .ok (.aload_n 0, 1) := by decide +kernel
theorem d_Tree_setMarks_1 : decode b_Tree_setMarks 1 = .ok (.getfield 21, 3) := by decide +kernel
theorem d_Tree_setMarks_4 : decode b_Tree_setMarks 4 = .ok (.iload_n 1, 1) := by decide +kernel
theorem d_Tree_setMarks_5 : decode b_Tree_setMarks 5 = .ok (.iload_n 2, 1) := by decide +kernel
theorem d_Tree_setMarks_6 : decode b_Tree_setMarks 6 = .ok (.iastore, 1) := by decide +kernel
theorem d_Tree_setMarks_7 : decode b_Tree_setMarks 7 = .ok (.aload_n 0, 1) := by decide +kernel
theorem d_Tree_setMarks_8 : decode b_Tree_setMarks 8 = .ok (.getfield 24, 3) := by decide +kernel
theorem d_Tree_setMarks_11 : decode b_Tree_setMarks 11 = .ok (.iload_n 1, 1) := by decide +kernel
theorem d_Tree_setMarks_12 : decode b_Tree_setMarks 12 = .ok (.iload_n 3, 1) := by decide +kernel
theorem d_Tree_setMarks_13 : decode b_Tree_setMarks 13 = .ok (.bastore, 1) := by decide +kernel
theorem d_Tree_setMarks_14 : decode b_Tree_setMarks 14 = .ok (.return_, 1) := by decide +kernel
theorem d_Tree_parentOf_0 : decode b_Tree_parentOf 0 = .ok (.aload_n 0, 1) := by decide +kernel
theorem d_Tree_parentOf_1 : decode b_Tree_parentOf 1 = .ok (.getfield 9, 3) := by decide +kernel
theorem d_Tree_parentOf_4 : decode b_Tree_parentOf 4 = .ok (.iload_n 1, 1) := by decide +kernel
theorem d_Tree_parentOf_5 : decode b_Tree_parentOf 5 = .ok (.iaload, 1) := by decide +kernel
theorem d_Tree_parentOf_6 : decode b_Tree_parentOf 6 = .ok (.ireturn, 1) := by decide +kernel
theorem d_Tree_depthOf_0 : decode b_Tree_depthOf 0 = .ok (.aload_n 0, 1) := by decide +kernel
theorem d_Tree_depthOf_1 : decode b_Tree_depthOf 1 = .ok (.getfield 15, 3) := by decide +kernel
theorem d_Tree_depthOf_4 : decode b_Tree_depthOf 4 = .ok (.iload_n 1, 1) := by decide +kernel
theorem d_Tree_depthOf_5 : decode b_Tree_depthOf 5 = .ok (.iaload, 1) := by decide +kernel
theorem d_Tree_depthOf_6 : decode b_Tree_depthOf 6 = .ok (.ireturn, 1) := by decide +kernel
theorem d_Tree_tagsOf_0 : decode b_Tree_tagsOf 0 = .ok (.aload_n 0, 1) := by decide +kernel
theorem d_Tree_tagsOf_1 : decode b_Tree_tagsOf 1 = .ok (.getfield 21, 3) := by decide +kernel
theorem d_Tree_tagsOf_4 : decode b_Tree_tagsOf 4 = .ok (.iload_n 1, 1) := by decide +kernel
theorem d_Tree_tagsOf_5 : decode b_Tree_tagsOf 5 = .ok (.iaload, 1) := by decide +kernel
theorem d_Tree_tagsOf_6 : decode b_Tree_tagsOf 6 = .ok (.ireturn, 1) := by decide +kernel
theorem d_Tree_isDisabled_0 : decode b_Tree_isDisabled 0 = .ok (.aload_n 0, 1) := by decide +kernel
theorem d_Tree_isDisabled_1 : decode b_Tree_isDisabled 1 = .ok (.getfield 24, 3) := by decide +kernel
theorem d_Tree_isDisabled_4 : decode b_Tree_isDisabled 4 = .ok (.iload_n 1, 1) := by decide +kernel
theorem d_Tree_isDisabled_5 : decode b_Tree_isDisabled 5 = .ok (.baload, 1) := by decide +kernel
theorem d_Tree_isDisabled_6 : decode b_Tree_isDisabled 6 = .ok (.ireturn, 1) := by decide +kernel
theorem d_Tree_isShared_0 : decode b_Tree_isShared 0 = .ok (.aload_n 0, 1) := by decide +kernel
theorem d_Tree_isShared_1 : decode b_Tree_isShared 1 = .ok (.getfield 28, 3) := by decide +kernel
theorem d_Tree_isShared_4 : decode b_Tree_isShared 4 = .ok (.iload_n 1, 1) := by decide +kernel
theorem d_Tree_isShared_5 : decode b_Tree_isShared 5 = .ok (.baload, 1) := by decide +kernel
theorem d_Tree_isShared_6 : decode b_Tree_isShared 6 = .ok (.ireturn, 1) := by decide +kernel
theorem d_Tree_roundsOf_0 : decode b_Tree_roundsOf 0 = .ok (.aload_n 0, 1) := by decide +kernel
theorem d_Tree_roundsOf_1 : decode b_Tree_roundsOf 1 = .ok (.getfield 31, 3) := by decide +kernel
theorem d_Tree_roundsOf_4 : decode b_Tree_roundsOf 4 = .ok (.iload_n 1, 1) := by decide +kernel
theorem d_Tree_roundsOf_5 : decode b_Tree_roundsOf 5 = .ok (.iaload, 1) := by decide +kernel
theorem d_Tree_roundsOf_6 : decode b_Tree_roundsOf 6 = .ok (.ireturn, 1) := by decide +kernel
theorem d_Tree_deadlineOf_0 : decode b_Tree_deadlineOf 0 = .ok (.aload_n 0, 1) := by decide +kernel
theorem d_Tree_deadlineOf_1 : decode b_Tree_deadlineOf 1 = .ok (.getfield 34, 3) := by decide +kernel
theorem d_Tree_deadlineOf_4 : decode b_Tree_deadlineOf 4 = .ok (.iload_n 1, 1) := by decide +kernel
theorem d_Tree_deadlineOf_5 : decode b_Tree_deadlineOf 5 = .ok (.iaload, 1) := by decide +kernel
theorem d_Tree_deadlineOf_6 : decode b_Tree_deadlineOf 6 = .ok (.ireturn, 1) := by decide +kernel
theorem d_Tree_childAfter_0 : decode b_Tree_childAfter 0 = .ok (.iload_n 2, 1) := by decide +kernel
theorem d_Tree_childAfter_1 : decode b_Tree_childAfter 1 = .ok (.iconst (-1), 1) := by decide +kernel
