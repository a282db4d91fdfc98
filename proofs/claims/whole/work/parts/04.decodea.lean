theorem d_Choice_init_0 : decode b_Choice_init 0 = .ok (.aload_n 0, 1) := by decide +kernel
theorem d_Choice_init_1 : decode b_Choice_init 1 = .ok (.invokespecial 3, 3) := by decide +kernel
theorem d_Choice_init_4 : decode b_Choice_init 4 = .ok (.aload_n 0, 1) := by decide +kernel
theorem d_Choice_init_5 : decode b_Choice_init 5 = .ok (.aload_n 1, 1) := by decide +kernel
theorem d_Choice_init_6 : decode b_Choice_init 6 = .ok (.putfield 9, 3) := by decide +kernel
theorem d_Choice_init_9 : decode b_Choice_init 9 = .ok (.aload_n 0, 1) := by decide +kernel
theorem d_Choice_init_10 : decode b_Choice_init 10 = .ok (.bipush 24, 2) := by decide +kernel
theorem d_Choice_init_12 : decode b_Choice_init 12 = .ok (.newarray .int, 2) := by decide +kernel
theorem d_Choice_init_14 : decode b_Choice_init 14 = .ok (.putfield 15, 3) := by decide +kernel
theorem d_Choice_init_17 : decode b_Choice_init 17 = .ok (.aload_n 0, 1) := by decide +kernel
theorem d_Choice_init_18 : decode b_Choice_init 18 = .ok (.bipush 24, 2) := by decide +kernel
theorem d_Choice_init_20 : decode b_Choice_init 20 = .ok (.newarray .boolean, 2) := by decide +kernel
theorem d_Choice_init_22 : decode b_Choice_init 22 = .ok (.putfield 19, 3) := by decide +kernel
theorem d_Choice_init_25 : decode b_Choice_init 25 = .ok (.return_, 1) := by decide +kernel
theorem d_Choice_choose_0 : decode b_Choice_choose 0 = .ok (.aload_n 0, 1) := by decide +kernel
theorem d_Choice_choose_1 : decode b_Choice_choose 1 = .ok (.invokevirtual 23, 3) := by decide +kernel
theorem d_Choice_choose_4 : decode b_Choice_choose 4 = .ok (.aload_n 0, 1) := by decide +kernel
theorem d_Choice_choose_5 : decode b_Choice_choose 5 = .ok (.iconst 0, 1) := by decide +kernel
theorem d_Choice_choose_6 : decode b_Choice_choose 6 = .ok (.putfield 26, 3) := by decide +kernel
theorem d_Choice_choose_9 : decode b_Choice_choose 9 = .ok (.iconst 0, 1) := by decide +kernel
theorem d_Choice_choose_10 : decode b_Choice_choose 10 = .ok (.istore_n 3, 1) := by decide +kernel
theorem d_Choice_choose_11 : decode b_Choice_choose 11 = .ok (.iload_n 3, 1) := by decide +kernel
theorem d_Choice_choose_12 : decode b_Choice_choose 12 = .ok (.aload_n 0, 1) := by decide +kernel
theorem d_Choice_choose_13 : decode b_Choice_choose 13 = .ok (.getfield 9, 3) := by decide +kernel
theorem d_Choice_choose_16 : decode b_Choice_choose 16 = .ok (.invokevirtual 30, 3) := by decide +kernel
theorem d_Choice_choose_19 : decode b_Choice_choose 19 = .ok (.if_icmp .ge 64, 3) := by decide +kernel
theorem d_Choice_choose_22 : decode b_Choice_choose 22 = .ok (.aload_n 0, 1) := by decide +kernel
theorem d_Choice_choose_23 : decode b_Choice_choose 23 = .ok (.getfield 19, 3) := by decide +kernel
theorem d_Choice_choose_26 : decode b_Choice_choose 26 = .ok (.iload_n 3, 1) := by decide +kernel
theorem d_Choice_choose_27 : decode b_Choice_choose 27 = .ok (.aload_n 0, 1) := by decide +kernel
theorem d_Choice_choose_28 : decode b_Choice_choose 28 = .ok (.getfield 9, 3) := by decide +kernel
theorem d_Choice_choose_31 : decode b_Choice_choose 31 = .ok (.iload_n 3, 1) := by decide +kernel
theorem d_Choice_choose_32 : decode b_Choice_choose 32 = .ok (.invokevirtual 36, 3) := by decide +kernel
theorem d_Choice_choose_35 : decode b_Choice_choose 35 = .ok (.ifCond .ne 21, 3) := by decide +kernel
theorem d_Choice_choose_38 : decode b_Choice_choose 38 = .ok (.aload_n 0, 1) := by decide +kernel
theorem d_Choice_choose_39 : decode b_Choice_choose 39 = .ok (.getfield 15, 3) := by decide +kernel
theorem d_Choice_choose_42 : decode b_Choice_choose 42 = .ok (.iload_n 3, 1) := by decide +kernel
theorem d_Choice_choose_43 : decode b_Choice_choose 43 = .ok (.iaload, 1) := by decide +kernel
theorem d_Choice_choose_44 : decode b_Choice_choose 44 = .ok (.iload_n 1, 1) := by decide +kernel
theorem d_Choice_choose_45 : decode b_Choice_choose 45 = .ok (.iload_n 2, 1) := by decide +kernel
theorem d_Choice_choose_46 : decode b_Choice_choose 46 = .ok (.invokestatic 40, 3) := by decide +kernel
theorem d_Choice_choose_49 : decode b_Choice_choose 49 = .ok (.ifCond .eq 7, 3) := by decide +kernel
theorem d_Choice_choose_52 : decode b_Choice_choose 52 = .ok (.iconst 1, 1) := by decide +kernel
theorem d_Choice_choose_53 : decode b_Choice_choose 53 = .ok (.goto 4, 3) := by decide +kernel
theorem d_Choice_choose_56 : decode b_Choice_choose 56 = .ok (.iconst 0, 1) := by decide +kernel
theorem d_Choice_choose_57 : decode b_Choice_choose 57 = .ok (.bastore, 1) := by decide +kernel
theorem d_Choice_choose_58 : decode b_Choice_choose 58 = .ok (.aload_n 0, 1) := by decide +kernel
theorem d_Choice_choose_59 : decode b_Choice_choose 59 = .ok (.getfield 19, 3) := by decide +kernel
theorem d_Choice_choose_62 : decode b_Choice_choose 62 = .ok (.iload_n 3, 1) := by decide +kernel
theorem d_Choice_choose_63 : decode b_Choice_choose 63 = .ok (.baload, 1) := by decide +kernel
theorem d_Choice_choose_64 : decode b_Choice_choose 64 = .ok (.ifCond .eq 13, 3) := by decide +kernel
theorem d_Choice_choose_67 : decode b_Choice_choose 67 = .ok (.aload_n 0, 1) := by decide +kernel
theorem d_Choice_choose_68 : decode b_Choice_choose 68 = .ok (.dup, 1) := by decide +kernel
theorem d_Choice_choose_69 : decode b_Choice_choose 69 = .ok (.getfield 26, 3) := by decide +kernel
theorem d_Choice_choose_72 : decode b_Choice_choose 72 = .ok (.iconst 1, 1) := by decide +kernel
theorem d_Choice_choose_73 : decode b_Choice_choose 73 = .ok (.iadd, 1) := by decide +kernel
theorem d_Choice_choose_74 : decode b_Choice_choose 74 = .ok (.putfield 26, 3) := by decide +kernel
theorem d_Choice_choose_77 : decode b_Choice_choose 77 = .ok (.iinc 3 1, 3) := by decide +kernel
theorem d_Choice_choose_80 : decode b_Choice_choose 80 = .ok (.goto (-69), 3) := by decide +kernel
theorem d_Choice_choose_83 : decode b_Choice_choose 83 = .ok (.aload_n 0, 1) := by decide +kernel
theorem d_Choice_choose_84 : decode b_Choice_choose 84 = .ok (.invokevirtual 44, 3) := by decide +kernel
theorem d_Choice_choose_87 : decode b_Choice_choose 87 = .ok (.return_, 1) := by decide +kernel
theorem d_Choice_gatherTags_0 : decode b_Choice_gatherTags 0 = .ok (.aload_n 0, 1) := by decide +kernel
theorem d_Choice_gatherTags_1 : decode b_Choice_gatherTags 1 = .ok (.getfield 15, 3) := by decide +kernel
theorem d_Choice_gatherTags_4 : decode b_Choice_gatherTags 4 = .ok (.iconst 0, 1) := by decide +kernel
theorem d_Choice_gatherTags_5 : decode b_Choice_gatherTags 5 = .ok (.aload_n 0, 1) := by decide +kernel
theorem d_Choice_gatherTags_6 : decode b_Choice_gatherTags 6 = .ok (.getfield 9, 3) := by decide +kernel
theorem d_Choice_gatherTags_9 : decode b_Choice_gatherTags 9 = .ok (.iconst 0, 1) := by decide +kernel
theorem d_Choice_gatherTags_10 : decode b_Choice_gatherTags 10 = .ok (.invokevirtual 47, 3) := by decide +kernel
theorem d_Choice_gatherTags_13 : decode b_Choice_gatherTags 13 = .ok (.iastore, 1) := by decide +kernel
theorem d_Choice_gatherTags_14 : decode b_Choice_gatherTags 14 = .ok (.iconst 1, 1) := by decide +kernel
theorem d_Choice_gatherTags_15 : decode b_Choice_gatherTags 15 = .ok (.istore_n 1, 1) := by decide +kernel
theorem d_Choice_gatherTags_16 : decode b_Choice_gatherTags 16 = .ok (.iload_n 1, 1) := by decide +kernel
theorem d_Choice_gatherTags_17 : decode b_Choice_gatherTags 17 = .ok (.aload_n 0, 1) := by decide +kernel
theorem d_Choice_gatherTags_18 : decode b_Choice_gatherTags 18 = .ok (.getfield 9, 3) := by decide +kernel
theorem d_Choice_gatherTags_21 : decode b_Choice_gatherTags 21 = .ok (.invokevirtual 30, 3) := by decide +kernel
theorem d_Choice_gatherTags_24 : decode b_Choice_gatherTags 24 = .ok (.if_icmp .ge 37, 3) := by decide +kernel
theorem d_Choice_gatherTags_27 : decode b_Choice_gatherTags 27 = .ok (.aload_n 0, 1) := by decide +kernel
theorem d_Choice_gatherTags_28 : decode b_Choice_gatherTags 28 = .ok (.getfield 15, 3) := by decide +kernel
theorem d_Choice_gatherTags_31 : decode b_Choice_gatherTags 31 = .ok (.iload_n 1, 1) := by decide +kernel
theorem d_Choice_gatherTags_32 : decode b_Choice_gatherTags 32 = .ok (.aload_n 0, 1) := by decide +kernel
theorem d_Choice_gatherTags_33 : decode b_Choice_gatherTags 33 = .ok (.getfield 9, 3) := by decide +kernel
theorem d_Choice_gatherTags_36 : decode b_Choice_gatherTags 36 = .ok (.iload_n 1, 1) := by decide +kernel
theorem d_Choice_gatherTags_37 : decode b_Choice_gatherTags 37 = .ok (.invokevirtual 47, 3) := by decide +kernel
theorem d_Choice_gatherTags_40 : decode b_Choice_gatherTags 40 = .ok (.aload_n 0, 1) := by decide +kernel
theorem d_Choice_gatherTags_41 : decode b_Choice_gatherTags 41 = .ok (.getfield 15, 3) := by decide +kernel
theorem d_Choice_gatherTags_44 : decode b_Choice_gatherTags 44 = .ok (.aload_n 0, 1) := by decide +kernel
theorem d_Choice_gatherTags_45 : decode b_Choice_gatherTags 45 = .ok (.getfield 9, 3) := by decide +kernel
theorem d_Choice_gatherTags_48 : decode b_Choice_gatherTags 48 = .ok (.iload_n 1, 1) := by decide +kernel
theorem d_Choice_gatherTags_49 : decode b_Choice_gatherTags 49 = .ok (.invokevirtual 51, 3) := by decide +kernel
theorem d_Choice_gatherTags_52 : decode b_Choice_gatherTags 52 = .ok (.iaload, 1) := by decide +kernel
theorem d_Choice_gatherTags_53 : decode b_Choice_gatherTags 53 = .ok (.ior, 1) := by decide +kernel
theorem d_Choice_gatherTags_54 : decode b_Choice_gatherTags 54 = .ok (.iastore, 1) := by decide +kernel
theorem d_Choice_gatherTags_55 : decode b_Choice_gatherTags 55 = .ok (.iinc 1 1, 3) := by decide +kernel
theorem d_Choice_gatherTags_58 : decode b_Choice_gatherTags 58 = .ok (.goto (-42), 3) := by decide +kernel
theorem d_Choice_gatherTags_61 : decode b_Choice_gatherTags 61 = .ok (.return_, 1) := by decide +kernel
theorem d_Choice_chooseContainers_0 : decode b_Choice_chooseContainers 0 = .ok (.aload_n 0, 1) := by decide +kernel
theorem d_Choice_chooseContainers_1 : decode b_Choice_chooseContainers 1 = .ok (.getfield 9, 3) := by decide +kernel
theorem d_Choice_chooseContainers_4 : decode b_Choice_chooseContainers 4 = .ok (.invokevirtual 30, 3) := by decide +kernel
theorem d_Choice_chooseContainers_7 : decode b_Choice_chooseContainers 7 = .ok (.iconst 1, 1) := by decide +kernel
theorem d_Choice_chooseContainers_8 : decode b_Choice_chooseContainers 8 = .ok (.isub, 1) := by decide +kernel
theorem d_Choice_chooseContainers_9 : decode b_Choice_chooseContainers 9 = .ok (.istore_n 1, 1) := by decide +kernel
theorem d_Choice_chooseContainers_10 : decode b_Choice_chooseContainers 10 = .ok (.iload_n 1, 1) := by decide +kernel
theorem d_Choice_chooseContainers_11 : decode b_Choice_chooseContainers 11 = .ok (.ifCond .le 32, 3) := by decide +kernel
theorem d_Choice_chooseContainers_14 : decode b_Choice_chooseContainers 14 = .ok (.aload_n 0, 1) := by decide +kernel
theorem d_Choice_chooseContainers_15 : decode b_Choice_chooseContainers 15 = .ok (.getfield 19, 3) := by decide +kernel
theorem d_Choice_chooseContainers_18 : decode b_Choice_chooseContainers 18 = .ok (.iload_n 1, 1) := by decide +kernel
theorem d_Choice_chooseContainers_19 : decode b_Choice_chooseContainers 19 = .ok (.baload, 1) := by decide +kernel
theorem d_Choice_chooseContainers_20 : decode b_Choice_chooseContainers 20 = .ok (.ifCond .eq 17, 3) := by decide +kernel
theorem d_Choice_chooseContainers_23 : decode b_Choice_chooseContainers 23 = .ok (.aload_n 0, 1) := by decide +kernel
theorem d_Choice_chooseContainers_24 : decode b_Choice_chooseContainers 24 = .ok (.getfield 19, 3) := by decide +kernel
theorem d_Choice_chooseContainers_27 : decode b_Choice_chooseContainers 27 = .ok (.aload_n 0, 1) := by decide +kernel
theorem d_Choice_chooseContainers_28 : decode b_Choice_chooseContainers 28 = .ok (.getfield 9, 3) := by decide +kernel
theorem d_Choice_chooseContainers_31 : decode b_Choice_chooseContainers 31 = .ok (.iload_n 1, 1) := by decide +kernel
theorem d_Choice_chooseContainers_32 : decode b_Choice_chooseContainers 32 = .ok (.invokevirtual 51, 3) := by decide +kernel
theorem d_Choice_chooseContainers_35 : decode b_Choice_chooseContainers 35 = .ok (.iconst 1, 1) := by decide +kernel
theorem d_Choice_chooseContainers_36 : decode b_Choice_chooseContainers 36 = .ok (.bastore, 1) := by decide +kernel
theorem d_Choice_chooseContainers_37 : decode b_Choice_chooseContainers 37 = .ok (.iinc 1 (-1), 3) := by decide +kernel
theorem d_Choice_chooseContainers_40 : decode b_Choice_chooseContainers 40 = .ok (.goto (-30), 3) := by decide +kernel
theorem d_Choice_chooseContainers_43 : decode b_Choice_chooseContainers 43 = .ok (.return_, 1) := by decide +kernel
theorem d_Choice_suits_0 : decode b_Choice_suits 0 = .ok (.iload_n 1, 1) := by decide +kernel
theorem d_Choice_suits_1 : decode b_Choice_suits 1 = .ok (.ifCond .eq 9, 3) := by decide +kernel
theorem d_Choice_suits_4 : decode b_Choice_suits 4 = .ok (.iload_n 0, 1) := by decide +kernel
theorem d_Choice_suits_5 : decode b_Choice_suits 5 = .ok (.iload_n 1, 1) := by decide +kernel
theorem d_Choice_suits_6 : decode b_Choice_suits 6 = .ok (.iand, 1) := by decide +kernel
theorem d_Choice_suits_7 : decode b_Choice_suits 7 = .ok (.ifCond .eq 13, 3) := by decide +kernel
theorem d_Choice_suits_10 : decode b_Choice_suits 10 = .ok (.iload_n 0, 1) := by decide +kernel
theorem d_Choice_suits_11 : decode b_Choice_suits 11 = .ok (.iload_n 2, 1) := by decide +kernel
theorem d_Choice_suits_12 : decode b_Choice_suits 12 = .ok (.iand, 1) := by decide +kernel
theorem d_Choice_suits_13 : decode b_Choice_suits 13 = .ok (.ifCond .ne 7, 3) := by decide +kernel
theorem d_Choice_suits_16 : decode b_Choice_suits 16 = .ok (.iconst 1, 1) := by decide +kernel
theorem d_Choice_suits_17 : decode b_Choice_suits 17 = .ok (.goto 4, 3) := by decide +kernel
theorem d_Choice_suits_20 : decode b_Choice_suits 20 = .ok (.iconst 0, 1) := by decide +kernel
theorem d_Choice_suits_21 : decode b_Choice_suits 21 = .ok (.ireturn, 1) := by decide +kernel
theorem d_Choice_isChosen_0 : decode b_Choice_isChosen 0 = .ok (.aload_n 0, 1) := by decide +kernel
theorem d_Choice_isChosen_1 : decode b_Choice_isChosen 1 = .ok (.getfield 19, 3) := by decide +kernel
theorem d_Choice_isChosen_4 : decode b_Choice_isChosen 4 = .ok (.iload_n 1, 1) := by decide +kernel
theorem d_Choice_isChosen_5 : decode b_Choice_isChosen 5 = .ok (.baload, 1) := by decide +kernel
theorem d_Choice_isChosen_6 : decode b_Choice_isChosen 6 = .ok (.ireturn, 1) := by decide +kernel
theorem d_Choice_chosenTests_0 : decode b_Choice_chosenTests 0 = .ok (.aload_n 0, 1) := by decide +kernel
theorem d_Choice_chosenTests_1 : decode b_Choice_chosenTests 1 = .ok (.getfield 26, 3) := by decide +kernel
theorem d_Choice_chosenTests_4 : decode b_Choice_chosenTests 4 = .ok (.ireturn, 1) := by decide +kernel
theorem d_Journal_init_0 : decode b_Journal_init 0 = .ok (.aload_n 0, 1) := by decide +kernel
theorem d_Journal_init_1 : decode b_Journal_init 1 = .ok (.invokespecial 3, 3) := by decide +kernel
theorem d_Journal_init_4 : decode b_Journal_init 4 = .ok (.aload_n 0, 1) := by decide +kernel
theorem d_Journal_init_5 : decode b_Journal_init 5 = .ok (.sipush 1200, 3) := by decide +kernel
theorem d_Journal_init_8 : decode b_Journal_init 8 = .ok (.newarray .int, 2) := by decide +kernel
theorem d_Journal_init_10 : decode b_Journal_init 10 = .ok (.putfield 9, 3) := by decide +kernel
theorem d_Journal_init_13 : decode b_Journal_init 13 = .ok (.aload_n 0, 1) := by decide +kernel
theorem d_Journal_init_14 : decode b_Journal_init 14 = .ok (.sipush 600, 3) := by decide +kernel
theorem d_Journal_init_17 : decode b_Journal_init 17 = .ok (.newarray .int, 2) := by decide +kernel
theorem d_Journal_init_19 : decode b_Journal_init 19 = .ok (.putfield 15, 3) := by decide +kernel
theorem d_Journal_init_22 : decode b_Journal_init 22 = .ok (.aload_n 0, 1) := by decide +kernel
theorem d_Journal_init_23 : decode b_Journal_init 23 = .ok (.iconst 3, 1) := by decide +kernel
theorem d_Journal_init_24 : decode b_Journal_init 24 = .ok (.newarray .int, 2) := by decide +kernel
theorem d_Journal_init_26 : decode b_Journal_init 26 = .ok (.putfield 18, 3) := by decide +kernel
theorem d_Journal_init_29 : decode b_Journal_init 29 = .ok (.return_, 1) := by decide +kernel
theorem d_Journal_clear_0 : decode b_Journal_clear 0 = .ok (.aload_n 0, 1) := by decide +kernel
theorem d_Journal_clear_1 : decode b_Journal_clear 1 = .ok (.iconst 0, 1) := by decide +kernel
theorem d_Journal_clear_2 : decode b_Journal_clear 2 = .ok (.putfield 21, 3) := by decide +kernel
theorem d_Journal_clear_5 : decode b_Journal_clear 5 = .ok (.aload_n 0, 1) := by decide +kernel
theorem d_Journal_clear_6 : decode b_Journal_clear 6 = .ok (.iconst 0, 1) := by decide +kernel
theorem d_Journal_clear_7 : decode b_Journal_clear 7 = .ok (.putfield 25, 3) := by decide +kernel
theorem d_Journal_clear_10 : decode b_Journal_clear 10 = .ok (.aload_n 0, 1) := by decide +kernel
theorem d_Journal_clear_11 : decode b_Journal_clear 11 = .ok (.iconst 0, 1) := by decide +kernel
theorem d_Journal_clear_12 : decode b_Journal_clear 12 = .ok (.putfield 28, 3) := by decide +kernel
theorem d_Journal_clear_15 : decode b_Journal_clear 15 = .ok (.aload_n 0, 1) := by decide +kernel
theorem d_Journal_clear_16 : decode b_Journal_clear 16 = .ok (.iconst 0, 1) := by decide +kernel
theorem d_Journal_clear_17 : decode b_Journal_clear 17 = .ok (.putfield 31, 3) := by decide +kernel
theorem d_Journal_clear_20 : decode b_Journal_clear 20 = .ok (.iconst 0, 1) := by decide +kernel
theorem d_Journal_clear_21 : decode b_Journal_clear 21 = .ok (.istore_n 1, 1) := by decide +kernel
theorem d_Journal_clear_22 : decode b_Journal_clear 22 = .ok (.iload_n 1, 1) := by decide +kernel
theorem d_Journal_clear_23 : decode b_Journal_clear 23 = .ok (.iconst 3, 1) := by decide +kernel
theorem d_Journal_clear_24 : decode b_Journal_clear 24 = .ok (.if_icmp .ge 16, 3) := by decide +kernel
theorem d_Journal_clear_27 : decode b_Journal_clear 27 = .ok (.aload_n 0, 1) := by decide +kernel
theorem d_Journal_clear_28 : decode b_Journal_clear 28 = .ok (.getfield 18, 3) := by decide +kernel
theorem d_Journal_clear_31 : decode b_Journal_clear 31 = .ok (.iload_n 1, 1) := by decide +kernel
theorem d_Journal_clear_32 : decode b_Journal_clear 32 = .ok (.iconst 0, 1) := by decide +kernel
theorem d_Journal_clear_33 : decode b_Journal_clear 33 = .ok (.iastore, 1) := by decide +kernel
theorem d_Journal_clear_34 : decode b_Journal_clear 34 = .ok (.iinc 1 1, 3) := by decide +kernel
theorem d_Journal_clear_37 : decode b_Journal_clear 37 = .ok (.goto (-15), 3) := by decide +kernel
theorem d_Journal_clear_40 : decode b_Journal_clear 40 = .ok (.return_, 1) := by decide +kernel
theorem d_Journal_writeStarted_0 : decode b_Journal_writeStarted 0 = .ok (.aload_n 0, 1) := by decide +kernel
theorem d_Journal_writeStarted_1 : decode b_Journal_writeStarted 1 = .ok (.iconst 1, 1) := by decide +kernel
theorem d_Journal_writeStarted_2 : decode b_Journal_writeStarted 2 = .ok (.iload_n 1, 1) := by decide +kernel
theorem d_Journal_writeStarted_3 : decode b_Journal_writeStarted 3 = .ok (.iload_n 2, 1) := by decide +kernel
theorem d_Journal_writeStarted_4 : decode b_Journal_writeStarted 4 = .ok (.iload_n 3, 1) := by decide +kernel
theorem d_Journal_writeStarted_5 : decode b_Journal_writeStarted 5 = .ok (.invokevirtual 35, 3) := by decide +kernel
theorem d_Journal_writeStarted_8 : decode b_Journal_writeStarted 8 = .ok (.return_, 1) := by decide +kernel
theorem d_Journal_writeSkipped_0 : decode b_Journal_writeSkipped 0 = .ok (.aload_n 0, 1) := by decide +kernel
theorem d_Journal_writeSkipped_1 : decode b_Journal_writeSkipped 1 = .ok (.dup, 1) := by decide +kernel
theorem d_Journal_writeSkipped_2 : decode b_Journal_writeSkipped 2 = .ok (.getfield 25, 3) := by decide +kernel
theorem d_Journal_writeSkipped_5 : decode b_Journal_writeSkipped 5 = .ok (.iconst 1, 1) := by decide +kernel
theorem d_Journal_writeSkipped_6 : decode b_Journal_writeSkipped 6 = .ok (.iadd, 1) := by decide +kernel
theorem d_Journal_writeSkipped_7 : decode b_Journal_writeSkipped 7 = .ok (.putfield 25, 3) := by decide +kernel
theorem d_Journal_writeSkipped_10 : decode b_Journal_writeSkipped 10 = .ok (.aload_n 0, 1) := by decide +kernel
theorem d_Journal_writeSkipped_11 : decode b_Journal_writeSkipped 11 = .ok (.iconst 3, 1) := by decide +kernel
theorem d_Journal_writeSkipped_12 : decode b_Journal_writeSkipped 12 = .ok (.iload_n 1, 1) := by decide +kernel
theorem d_Journal_writeSkipped_13 : decode b_Journal_writeSkipped 13 = .ok (.iload_n 2, 1) := by decide +kernel
theorem d_Journal_writeSkipped_14 : decode b_Journal_writeSkipped 14 = .ok (.iload_n 3, 1) := by decide +kernel
theorem d_Journal_writeSkipped_15 : decode b_Journal_writeSkipped 15 = .ok (.invokevirtual 35, 3) := by decide +kernel
theorem d_Journal_writeSkipped_18 : decode b_Journal_writeSkipped 18 = .ok (.return_, 1) := by decide +kernel
theorem d_Journal_writeContainerFinished_0 : decode b_Journal_writeContainerFinished 0 = .ok (.aload_n 3, 1) := by decide +kernel
theorem d_Journal_writeContainerFinished_1 : decode b_Journal_writeContainerFinished 1 = .ok (.invokevirtual 39, 3) := by decide +kernel
theorem d_Journal_writeContainerFinished_4 : decode b_Journal_writeContainerFinished 4 = .ok (.ifCond .ne 13, 3) := by decide +kernel
theorem d_Journal_writeContainerFinished_7 : decode b_Journal_writeContainerFinished 7 = .ok (.aload_n 0, 1) := by decide +kernel
theorem d_Journal_writeContainerFinished_8 : decode b_Journal_writeContainerFinished 8 = .ok (.dup, 1) := by decide +kernel
theorem d_Journal_writeContainerFinished_9 : decode b_Journal_writeContainerFinished 9 = .ok (.getfield 28, 3) := by decide +kernel
theorem d_Journal_writeContainerFinished_12 : decode b_Journal_writeContainerFinished 12 = .ok (.iconst 1, 1) := by decide +kernel
theorem d_Journal_writeContainerFinished_13 : decode b_Journal_writeContainerFinished 13 = .ok (.iadd, 1) := by decide +kernel
theorem d_Journal_writeContainerFinished_14 : decode b_Journal_writeContainerFinished 14 = .ok (.putfield 28, 3) := by decide +kernel
theorem d_Journal_writeContainerFinished_17 : decode b_Journal_writeContainerFinished 17 = .ok (.aload_n 0, 1) := by decide +kernel
theorem d_Journal_writeContainerFinished_18 : decode b_Journal_writeContainerFinished 18 = .ok (.iconst 2, 1) := by decide +kernel
theorem d_Journal_writeContainerFinished_19 : decode b_Journal_writeContainerFinished 19 = .ok (.iload_n 1, 1) := by decide +kernel
theorem d_Journal_writeContainerFinished_20 : decode b_Journal_writeContainerFinished 20 = .ok (.iconst 0, 1) := by decide +kernel
theorem d_Journal_writeContainerFinished_21 : decode b_Journal_writeContainerFinished 21 = .ok (.iload_n 2, 1) := by decide +kernel
theorem d_Journal_writeContainerFinished_22 : decode b_Journal_writeContainerFinished 22 = .ok (.invokevirtual 35, 3) := by decide +kernel
theorem d_Journal_writeContainerFinished_25 : decode b_Journal_writeContainerFinished 25 = .ok (.aload_n 0, 1) := by decide +kernel
theorem d_Journal_writeContainerFinished_26 : decode b_Journal_writeContainerFinished 26 = .ok (.aload_n 3, 1) := by decide +kernel
theorem d_Journal_writeContainerFinished_27 : decode b_Journal_writeContainerFinished 27 = .ok (.iload 4, 2) := by decide +kernel
theorem d_Journal_writeContainerFinished_29 : decode b_Journal_writeContainerFinished 29 = .ok (.invokevirtual 45, 3) := by decide +kernel
theorem d_Journal_writeContainerFinished_32 : decode b_Journal_writeContainerFinished 32 = .ok (.return_, 1) := by decide +kernel
theorem d_Journal_writeRoundFinished_0 : decode b_Journal_writeRoundFinished 0 = .ok (.aload_n 0, 1) := by decide +kernel
theorem d_Journal_writeRoundFinished_1 : decode b_Journal_writeRoundFinished 1 = .ok (.getfield 18, 3) := by decide +kernel
theorem d_Journal_writeRoundFinished_4 : decode b_Journal_writeRoundFinished 4 = .ok (.aload 4, 2) := by decide +kernel
theorem d_Journal_writeRoundFinished_6 : decode b_Journal_writeRoundFinished 6 = .ok (.invokevirtual 49, 3) := by decide +kernel
theorem d_Journal_writeRoundFinished_9 : decode b_Journal_writeRoundFinished 9 = .ok (.dup2, 1) := by decide +kernel
theorem d_Journal_writeRoundFinished_10 : decode b_Journal_writeRoundFinished 10 = .ok (.iaload, 1) := by decide +kernel
theorem d_Journal_writeRoundFinished_11 : decode b_Journal_writeRoundFinished 11 = .ok (.iconst 1, 1) := by decide +kernel
theorem d_Journal_writeRoundFinished_12 : decode b_Journal_writeRoundFinished 12 = .ok (.iadd, 1) := by decide +kernel
theorem d_Journal_writeRoundFinished_13 : decode b_Journal_writeRoundFinished 13 = .ok (.iastore, 1) := by decide +kernel
theorem d_Journal_writeRoundFinished_14 : decode b_Journal_writeRoundFinished 14 = .ok (.aload_n 0, 1) := by decide +kernel
theorem d_Journal_writeRoundFinished_15 : decode b_Journal_writeRoundFinished 15 = .ok (.iconst 2, 1) := by decide +kernel
theorem d_Journal_writeRoundFinished_16 : decode b_Journal_writeRoundFinished 16 = .ok (.iload_n 1, 1) := by decide +kernel
theorem d_Journal_writeRoundFinished_17 : decode b_Journal_writeRoundFinished 17 = .ok (.iload_n 2, 1) := by decide +kernel
theorem d_Journal_writeRoundFinished_18 : decode b_Journal_writeRoundFinished 18 = .ok (.iload_n 3, 1) := by decide +kernel
theorem d_Journal_writeRoundFinished_19 : decode b_Journal_writeRoundFinished 19 = .ok (.invokevirtual 35, 3) := by decide +kernel
theorem d_Journal_writeRoundFinished_22 : decode b_Journal_writeRoundFinished 22 = .ok (.aload_n 0, 1) := by decide +kernel
theorem d_Journal_writeRoundFinished_23 : decode b_Journal_writeRoundFinished 23 = .ok (.aload 4, 2) := by decide +kernel
theorem d_Journal_writeRoundFinished_25 : decode b_Journal_writeRoundFinished 25 = .ok (.iload 5, 2) := by decide +kernel
theorem d_Journal_writeRoundFinished_27 : decode b_Journal_writeRoundFinished 27 = .ok (.invokevirtual 45, 3) := by decide +kernel
theorem d_Journal_writeRoundFinished_30 : decode b_Journal_writeRoundFinished 30 = .ok (.return_, 1) := by decide +kernel
theorem d_Journal_writeEvent_0 : decode b_Journal_writeEvent 0 = .ok (.aload_n 0, 1) := by decide +kernel
theorem d_Journal_writeEvent_1 : decode b_Journal_writeEvent 1 = .ok (.getfield 21, 3) := by decide +kernel
theorem d_Journal_writeEvent_4 : decode b_Journal_writeEvent 4 = .ok (.sipush 150, 3) := by decide +kernel
theorem d_Journal_writeEvent_7 : decode b_Journal_writeEvent 7 = .ok (.if_icmp .ge 112, 3) := by decide +kernel
theorem d_Journal_writeEvent_10 : decode b_Journal_writeEvent 10 = .ok (.aload_n 0, 1) := by decide +kernel
theorem d_Journal_writeEvent_11 : decode b_Journal_writeEvent 11 = .ok (.getfield 21, 3) := by decide +kernel
theorem d_Journal_writeEvent_14 : decode b_Journal_writeEvent 14 = .ok (.bipush 8, 2) := by decide +kernel
theorem d_Journal_writeEvent_16 : decode b_Journal_writeEvent 16 = .ok (.imul, 1) := by decide +kernel
theorem d_Journal_writeEvent_17 : decode b_Journal_writeEvent 17 = .ok (.istore 5, 2) := by decide +kernel
theorem d_Journal_writeEvent_19 : decode b_Journal_writeEvent 19 = .ok (.aload_n 0, 1) := by decide +kernel
theorem d_Journal_writeEvent_20 : decode b_Journal_writeEvent 20 = .ok (.getfield 9, 3) := by decide +kernel
theorem d_Journal_writeEvent_23 : decode b_Journal_writeEvent 23 = .ok (.iload 5, 2) := by decide +kernel
theorem d_Journal_writeEvent_25 : decode b_Journal_writeEvent 25 = .ok (.iconst 0, 1) := by decide +kernel
theorem d_Journal_writeEvent_26 : decode b_Journal_writeEvent 26 = .ok (.iadd, 1) := by decide +kernel
theorem d_Journal_writeEvent_27 : decode b_Journal_writeEvent 27 = .ok (.iload_n 1, 1) := by decide +kernel
theorem d_Journal_writeEvent_28 : decode b_Journal_writeEvent 28 = .ok (.iastore, 1) := by decide +kernel
theorem d_Journal_writeEvent_29 : decode b_Journal_writeEvent 29 = .ok (.aload_n 0, 1) := by decide +kernel
theorem d_Journal_writeEvent_30 : decode b_Journal_writeEvent 30 = .ok (.getfield 9, 3) := by decide +kernel
theorem d_Journal_writeEvent_33 : decode b_Journal_writeEvent 33 = .ok (.iload 5, 2) := by decide +kernel
theorem d_Journal_writeEvent_35 : decode b_Journal_writeEvent 35 = .ok (.iconst 1, 1) := by decide +kernel
theorem d_Journal_writeEvent_36 : decode b_Journal_writeEvent 36 = .ok (.iadd, 1) := by decide +kernel
theorem d_Journal_writeEvent_37 : decode b_Journal_writeEvent 37 = .ok (.iload_n 2, 1) := by decide +kernel
theorem d_Journal_writeEvent_38 : decode b_Journal_writeEvent 38 = .ok (.iastore, 1) := by decide +kernel
theorem d_Journal_writeEvent_39 : decode b_Journal_writeEvent 39 = .ok (.aload_n 0, 1) := by decide +kernel
theorem d_Journal_writeEvent_40 : decode b_Journal_writeEvent 40 = .ok (.getfield 9, 3) := by decide +kernel
theorem d_Journal_writeEvent_43 : decode b_Journal_writeEvent 43 = .ok (.iload 5, 2) := by decide +kernel
theorem d_Journal_writeEvent_45 : decode b_Journal_writeEvent 45 = .ok (.iconst 2, 1) := by decide +kernel
theorem d_Journal_writeEvent_46 : decode b_Journal_writeEvent 46 = .ok (.iadd, 1) := by decide +kernel
theorem d_Journal_writeEvent_47 : decode b_Journal_writeEvent 47 = .ok (.iload_n 3, 1) := by decide +kernel
theorem d_Journal_writeEvent_48 : decode b_Journal_writeEvent 48 = .ok (.iastore, 1) := by decide +kernel
theorem d_Journal_writeEvent_49 : decode b_Journal_writeEvent 49 = .ok (.aload_n 0, 1) := by decide +kernel
theorem d_Journal_writeEvent_50 : decode b_Journal_writeEvent 50 = .ok (.getfield 9, 3) := by decide +kernel
theorem d_Journal_writeEvent_53 : decode b_Journal_writeEvent 53 = .ok (.iload 5, 2) := by decide +kernel
theorem d_Journal_writeEvent_55 : decode b_Journal_writeEvent 55 = .ok (.iconst 3, 1) := by decide +kernel
theorem d_Journal_writeEvent_56 : decode b_Journal_writeEvent 56 = .ok (.iadd, 1) := by decide +kernel
theorem d_Journal_writeEvent_57 : decode b_Journal_writeEvent 57 = .ok (.iload 4, 2) := by decide +kernel
theorem d_Journal_writeEvent_59 : decode b_Journal_writeEvent 59 = .ok (.iastore, 1) := by decide +kernel
theorem d_Journal_writeEvent_60 : decode b_Journal_writeEvent 60 = .ok (.iconst 4, 1) := by decide +kernel
theorem d_Journal_writeEvent_61 : decode b_Journal_writeEvent 61 = .ok (.istore 6, 2) := by decide +kernel
theorem d_Journal_writeEvent_63 : decode b_Journal_writeEvent 63 = .ok (.iload 6, 2) := by decide +kernel
theorem d_Journal_writeEvent_65 : decode b_Journal_writeEvent 65 = .ok (.bipush 8, 2) := by decide +kernel
theorem d_Journal_writeEvent_67 : decode b_Journal_writeEvent 67 = .ok (.if_icmp .ge 20, 3) := by decide +kernel
theorem d_Journal_writeEvent_70 : decode b_Journal_writeEvent 70 = .ok (.aload_n 0, 1) := by decide +kernel
theorem d_Journal_writeEvent_71 : decode b_Journal_writeEvent 71 = .ok (.getfield 9, 3) := by decide +kernel
theorem d_Journal_writeEvent_74 : decode b_Journal_writeEvent 74 = .ok (.iload 5, 2) := by decide +kernel
theorem d_Journal_writeEvent_76 : decode b_Journal_writeEvent 76 = .ok (.iload 6, 2) := by decide +kernel
theorem d_Journal_writeEvent_78 : decode b_Journal_writeEvent 78 = .ok (.iadd, 1) := by decide +kernel
theorem d_Journal_writeEvent_79 : decode b_Journal_writeEvent 79 = .ok (.iconst 0, 1) := by decide +kernel
theorem d_Journal_writeEvent_80 : decode b_Journal_writeEvent 80 = .ok (.iastore, 1) := by decide +kernel
theorem d_Journal_writeEvent_81 : decode b_Journal_writeEvent 81 = .ok (.iinc 6 1, 3) := by decide +kernel
theorem d_Journal_writeEvent_84 : decode b_Journal_writeEvent 84 = .ok (.goto (-21), 3) := by decide +kernel
theorem d_Journal_writeEvent_87 : decode b_Journal_writeEvent 87 = .ok (.iconst 0, 1) := by decide +kernel
theorem d_Journal_writeEvent_88 : decode b_Journal_writeEvent 88 = .ok (.istore 6, 2) := by decide +kernel
theorem d_Journal_writeEvent_90 : decode b_Journal_writeEvent 90 = .ok (.iload 6, 2) := by decide +kernel
theorem d_Journal_writeEvent_92 : decode b_Journal_writeEvent 92 = .ok (.iconst 4, 1) := by decide +kernel
theorem d_Journal_writeEvent_93 : decode b_Journal_writeEvent 93 = .ok (.if_icmp .ge 26, 3) := by decide +kernel
theorem d_Journal_writeEvent_96 : decode b_Journal_writeEvent 96 = .ok (.aload_n 0, 1) := by decide +kernel
theorem d_Journal_writeEvent_97 : decode b_Journal_writeEvent 97 = .ok (.getfield 15, 3) := by decide +kernel
theorem d_Journal_writeEvent_100 : decode b_Journal_writeEvent 100 = .ok (.aload_n 0, 1) := by decide +kernel
theorem d_Journal_writeEvent_101 : decode b_Journal_writeEvent 101 = .ok (.getfield 21, 3) := by decide +kernel
theorem d_Journal_writeEvent_104 : decode b_Journal_writeEvent 104 = .ok (.iconst 4, 1) := by decide +kernel
theorem d_Journal_writeEvent_105 : decode b_Journal_writeEvent 105 = .ok (.imul, 1) := by decide +kernel
theorem d_Journal_writeEvent_106 : decode b_Journal_writeEvent 106 = .ok (.iload 6, 2) := by decide +kernel
theorem d_Journal_writeEvent_108 : decode b_Journal_writeEvent 108 = .ok (.iadd, 1) := by decide +kernel
theorem d_Journal_writeEvent_109 : decode b_Journal_writeEvent 109 = .ok (.sipush (-1000), 3) := by decide +kernel
theorem d_Journal_writeEvent_112 : decode b_Journal_writeEvent 112 = .ok (.iastore, 1) := by decide +kernel
theorem d_Journal_writeEvent_113 : decode b_Journal_writeEvent 113 = .ok (.iinc 6 1, 3) := by decide +kernel
theorem d_Journal_writeEvent_116 : decode b_Journal_writeEvent 116 = .ok (.goto (-26), 3) := by decide +kernel
theorem d_Journal_writeEvent_119 : decode b_Journal_writeEvent 119 = .ok (.aload_n 0, 1) := by decide +kernel
theorem d_Journal_writeEvent_120 : decode b_Journal_writeEvent 120 = .ok (.dup, 1) := by decide +kernel
theorem d_Journal_writeEvent_121 : decode b_Journal_writeEvent 121 = .ok (.getfield 21, 3) := by decide +kernel
theorem d_Journal_writeEvent_124 : decode b_Journal_writeEvent 124 = .ok (.iconst 1, 1) := by decide +kernel
theorem d_Journal_writeEvent_125 : decode b_Journal_writeEvent 125 = .ok (.iadd, 1) := by decide +kernel
theorem d_Journal_writeEvent_126 : decode b_Journal_writeEvent 126 = .ok (.putfield 21, 3) := by decide +kernel
theorem d_Journal_writeEvent_129 : decode b_Journal_writeEvent 129 = .ok (.return_, 1) := by decide +kernel
theorem d_Journal_writeOutcome_0 : decode b_Journal_writeOutcome 0 = .ok (.aload_n 1, 1) := by decide +kernel
theorem d_Journal_writeOutcome_1 : decode b_Journal_writeOutcome 1 = .ok (.invokevirtual 49, 3) := by decide +kernel
theorem d_Journal_writeOutcome_4 : decode b_Journal_writeOutcome 4 = .ok (.iconst 1, 1) := by decide +kernel
theorem d_Journal_writeOutcome_5 : decode b_Journal_writeOutcome 5 = .ok (.if_icmp .ne 8, 3) := by decide +kernel
theorem d_Journal_writeOutcome_8 : decode b_Journal_writeOutcome 8 = .ok (.aload_n 0, 1) := by decide +kernel
theorem d_Journal_writeOutcome_9 : decode b_Journal_writeOutcome 9 = .ok (.iconst 1, 1) := by decide +kernel
theorem d_Journal_writeOutcome_10 : decode b_Journal_writeOutcome 10 = .ok (.putfield 31, 3) := by decide +kernel
theorem d_Journal_writeOutcome_13 : decode b_Journal_writeOutcome 13 = .ok (.aload_n 0, 1) := by decide +kernel
theorem d_Journal_writeOutcome_14 : decode b_Journal_writeOutcome 14 = .ok (.getfield 21, 3) := by decide +kernel
theorem d_Journal_writeOutcome_17 : decode b_Journal_writeOutcome 17 = .ok (.iconst 1, 1) := by decide +kernel
theorem d_Journal_writeOutcome_18 : decode b_Journal_writeOutcome 18 = .ok (.isub, 1) := by decide +kernel
theorem d_Journal_writeOutcome_19 : decode b_Journal_writeOutcome 19 = .ok (.istore_n 3, 1) := by decide +kernel
theorem d_Journal_writeOutcome_20 : decode b_Journal_writeOutcome 20 = .ok (.iload_n 3, 1) := by decide +kernel
theorem d_Journal_writeOutcome_21 : decode b_Journal_writeOutcome 21 = .ok (.iconst 0, 1) := by decide +kernel
theorem d_Journal_writeOutcome_22 : decode b_Journal_writeOutcome 22 = .ok (.sipush 149, 3) := by decide +kernel
theorem d_Journal_writeOutcome_25 : decode b_Journal_writeOutcome 25 = .ok (.invokestatic 53, 3) := by decide +kernel
theorem d_Journal_writeOutcome_28 : decode b_Journal_writeOutcome 28 = .ok (.ifCond .ne 4, 3) := by decide +kernel
theorem d_Journal_writeOutcome_31 : decode b_Journal_writeOutcome 31 = .ok (.return_, 1) := by decide +kernel
theorem d_Journal_writeOutcome_32 : decode b_Journal_writeOutcome 32 = .ok (.iload_n 3, 1) := by decide +kernel
theorem d_Journal_writeOutcome_33 : decode b_Journal_writeOutcome 33 = .ok (.bipush 8, 2) := by decide +kernel
theorem d_Journal_writeOutcome_35 : decode b_Journal_writeOutcome 35 = .ok (.imul, 1) := by decide +kernel
theorem d_Journal_writeOutcome_36 : decode b_Journal_writeOutcome 36 = .ok (.istore 4, 2) := by decide +kernel
theorem d_Journal_writeOutcome_38 : decode b_Journal_writeOutcome 38 = .ok (.aload_n 0, 1) := by decide +kernel
theorem d_Journal_writeOutcome_39 : decode b_Journal_writeOutcome 39 = .ok (.getfield 9, 3) := by decide +kernel
theorem d_Journal_writeOutcome_42 : decode b_Journal_writeOutcome 42 = .ok (.iload 4, 2) := by decide +kernel
theorem d_Journal_writeOutcome_44 : decode b_Journal_writeOutcome 44 = .ok (.iconst 4, 1) := by decide +kernel
theorem d_Journal_writeOutcome_45 : decode b_Journal_writeOutcome 45 = .ok (.iadd, 1) := by decide +kernel
theorem d_Journal_writeOutcome_46 : decode b_Journal_writeOutcome 46 = .ok (.aload_n 1, 1) := by decide +kernel
theorem d_Journal_writeOutcome_47 : decode b_Journal_writeOutcome 47 = .ok (.invokevirtual 49, 3) := by decide +kernel
theorem d_Journal_writeOutcome_50 : decode b_Journal_writeOutcome 50 = .ok (.iastore, 1) := by decide +kernel
theorem d_Journal_writeOutcome_51 : decode b_Journal_writeOutcome 51 = .ok (.aload_n 0, 1) := by decide +kernel
theorem d_Journal_writeOutcome_52 : decode b_Journal_writeOutcome 52 = .ok (.getfield 9, 3) := by decide +kernel
theorem d_Journal_writeOutcome_55 : decode b_Journal_writeOutcome 55 = .ok (.iload 4, 2) := by decide +kernel
theorem d_Journal_writeOutcome_57 : decode b_Journal_writeOutcome 57 = .ok (.iconst 5, 1) := by decide +kernel
theorem d_Journal_writeOutcome_58 : decode b_Journal_writeOutcome 58 = .ok (.iadd, 1) := by decide +kernel
theorem d_Journal_writeOutcome_59 : decode b_Journal_writeOutcome 59 = .ok (.aload_n 1, 1) := by decide +kernel
theorem d_Journal_writeOutcome_60 : decode b_Journal_writeOutcome 60 = .ok (.invokevirtual 57, 3) := by decide +kernel
theorem d_Journal_writeOutcome_63 : decode b_Journal_writeOutcome 63 = .ok (.iastore, 1) := by decide +kernel
theorem d_Journal_writeOutcome_64 : decode b_Journal_writeOutcome 64 = .ok (.aload_n 0, 1) := by decide +kernel
theorem d_Journal_writeOutcome_65 : decode b_Journal_writeOutcome 65 = .ok (.getfield 9, 3) := by decide +kernel
theorem d_Journal_writeOutcome_68 : decode b_Journal_writeOutcome 68 = .ok (.iload 4, 2) := by decide +kernel
theorem d_Journal_writeOutcome_70 : decode b_Journal_writeOutcome 70 = .ok (.bipush 6, 2) := by decide +kernel
theorem d_Journal_writeOutcome_72 : decode b_Journal_writeOutcome 72 = .ok (.iadd, 1) := by decide +kernel
theorem d_Journal_writeOutcome_73 : decode b_Journal_writeOutcome 73 = .ok (.aload_n 1, 1) := by decide +kernel
theorem d_Journal_writeOutcome_74 : decode b_Journal_writeOutcome 74 = .ok (.invokevirtual 60, 3) := by decide +kernel
theorem d_Journal_writeOutcome_77 : decode b_Journal_writeOutcome 77 = .ok (.iastore, 1) := by decide +kernel
theorem d_Journal_writeOutcome_78 : decode b_Journal_writeOutcome 78 = .ok (.aload_n 0, 1) := by decide +kernel
theorem d_Journal_writeOutcome_79 : decode b_Journal_writeOutcome 79 = .ok (.getfield 9, 3) := by decide +kernel
theorem d_Journal_writeOutcome_82 : decode b_Journal_writeOutcome 82 = .ok (.iload 4, 2) := by decide +kernel
theorem d_Journal_writeOutcome_84 : decode b_Journal_writeOutcome 84 = .ok (.bipush 7, 2) := by decide +kernel
theorem d_Journal_writeOutcome_86 : decode b_Journal_writeOutcome 86 = .ok (.iadd, 1) := by decide +kernel
theorem d_Journal_writeOutcome_87 : decode b_Journal_writeOutcome 87 = .ok (.iload_n 2, 1) := by decide +kernel
theorem d_Journal_writeOutcome_88 : decode b_Journal_writeOutcome 88 = .ok (.iastore, 1) := by decide +kernel
theorem d_Journal_writeOutcome_89 : decode b_Journal_writeOutcome 89 = .ok (.iconst 0, 1) := by decide +kernel
theorem d_Journal_writeOutcome_90 : decode b_Journal_writeOutcome 90 = .ok (.istore 5, 2) := by decide +kernel
theorem d_Journal_writeOutcome_92 : decode b_Journal_writeOutcome 92 = .ok (.iload 5, 2) := by decide +kernel
theorem d_Journal_writeOutcome_94 : decode b_Journal_writeOutcome 94 = .ok (.iconst 4, 1) := by decide +kernel
theorem d_Journal_writeOutcome_95 : decode b_Journal_writeOutcome 95 = .ok (.if_icmp .ge 26, 3) := by decide +kernel
theorem d_Journal_writeOutcome_98 : decode b_Journal_writeOutcome 98 = .ok (.aload_n 0, 1) := by decide +kernel
theorem d_Journal_writeOutcome_99 : decode b_Journal_writeOutcome 99 = .ok (.getfield 15, 3) := by decide +kernel
theorem d_Journal_writeOutcome_102 : decode b_Journal_writeOutcome 102 = .ok (.iload_n 3, 1) := by decide +kernel
theorem d_Journal_writeOutcome_103 : decode b_Journal_writeOutcome 103 = .ok (.iconst 4, 1) := by decide +kernel
theorem d_Journal_writeOutcome_104 : decode b_Journal_writeOutcome 104 = .ok (.imul, 1) := by decide +kernel
theorem d_Journal_writeOutcome_105 : decode b_Journal_writeOutcome 105 = .ok (.iload 5, 2) := by decide +kernel
theorem d_Journal_writeOutcome_107 : decode b_Journal_writeOutcome 107 = .ok (.iadd, 1) := by decide +kernel
theorem d_Journal_writeOutcome_108 : decode b_Journal_writeOutcome 108 = .ok (.aload_n 1, 1) := by decide +kernel
theorem d_Journal_writeOutcome_109 : decode b_Journal_writeOutcome 109 = .ok (.iload 5, 2) := by decide +kernel
theorem d_Journal_writeOutcome_111 : decode b_Journal_writeOutcome 111 = .ok (.invokevirtual 63, 3) := by decide +kernel
theorem d_Journal_writeOutcome_114 : decode b_Journal_writeOutcome 114 = .ok (.iastore, 1) := by decide +kernel
theorem d_Journal_writeOutcome_115 : decode b_Journal_writeOutcome 115 = .ok (.iinc 5 1, 3) := by decide +kernel
theorem d_Journal_writeOutcome_118 : decode b_Journal_writeOutcome 118 = .ok (.goto (-26), 3) := by decide +kernel
theorem d_Journal_writeOutcome_121 : decode b_Journal_writeOutcome 121 = .ok (.return_, 1) := by decide +kernel
theorem d_Journal_isKept_0 : decode b_Journal_isKept 0 = .ok (.iload_n 1, 1) := by decide +kernel
theorem d_Journal_isKept_1 : decode b_Journal_isKept 1 = .ok (.iconst 0, 1) := by decide +kernel
theorem d_Journal_isKept_2 : decode b_Journal_isKept 2 = .ok (.aload_n 0, 1) := by decide +kernel
theorem d_Journal_isKept_3 : decode b_Journal_isKept 3 = .ok (.getfield 21, 3) := by decide +kernel
theorem d_Journal_isKept_6 : decode b_Journal_isKept 6 = .ok (.sipush 150, 3) := by decide +kernel
theorem d_Journal_isKept_9 : decode b_Journal_isKept 9 = .ok (.invokestatic 67, 3) := by decide +kernel
theorem d_Journal_isKept_12 : decode b_Journal_isKept 12 = .ok (.iconst 1, 1) := by decide +kernel
theorem d_Journal_isKept_13 : decode b_Journal_isKept 13 = .ok (.isub, 1) := by decide +kernel
theorem d_Journal_isKept_14 : decode b_Journal_isKept 14 = .ok (.invokestatic 53, 3) := by decide +kernel
theorem d_Journal_isKept_17 : decode b_Journal_isKept 17 = .ok (.ireturn, 1) := by decide +kernel
theorem d_Journal_fieldOf_0 : decode b_Journal_fieldOf 0 = .ok (.aload_n 0, 1) := by decide +kernel
theorem d_Journal_fieldOf_1 : decode b_Journal_fieldOf 1 = .ok (.iload_n 1, 1) := by decide +kernel
theorem d_Journal_fieldOf_2 : decode b_Journal_fieldOf 2 = .ok (.invokevirtual 73, 3) := by decide +kernel
theorem d_Journal_fieldOf_5 : decode b_Journal_fieldOf 5 = .ok (.ifCond .eq 13, 3) := by decide +kernel
theorem d_Journal_fieldOf_8 : decode b_Journal_fieldOf 8 = .ok (.iload_n 2, 1) := by decide +kernel
theorem d_Journal_fieldOf_9 : decode b_Journal_fieldOf 9 = .ok (.iconst 0, 1) := by decide +kernel
theorem d_Journal_fieldOf_10 : decode b_Journal_fieldOf 10 = .ok (.bipush 7, 2) := by decide +kernel
theorem d_Journal_fieldOf_12 : decode b_Journal_fieldOf 12 = .ok (.invokestatic 53, 3) := by decide +kernel
theorem d_Journal_fieldOf_15 : decode b_Journal_fieldOf 15 = .ok (.ifCond .ne 7, 3) := by decide +kernel
theorem d_Journal_fieldOf_18 : decode b_Journal_fieldOf 18 = .ok (.sipush (-1000), 3) := by decide +kernel
theorem d_Journal_fieldOf_21 : decode b_Journal_fieldOf 21 = .ok (.ireturn, 1) := by decide +kernel
theorem d_Journal_fieldOf_22 : decode b_Journal_fieldOf 22 = .ok (.aload_n 0, 1) := by decide +kernel
theorem d_Journal_fieldOf_23 : decode b_Journal_fieldOf 23 = .ok (.getfield 9, 3) := by decide +kernel
theorem d_Journal_fieldOf_26 : decode b_Journal_fieldOf 26 = .ok (.iload_n 1, 1) := by decide +kernel
theorem d_Journal_fieldOf_27 : decode b_Journal_fieldOf 27 = .ok (.bipush 8, 2) := by decide +kernel
theorem d_Journal_fieldOf_29 : decode b_Journal_fieldOf 29 = .ok (.imul, 1) := by decide +kernel
theorem d_Journal_fieldOf_30 : decode b_Journal_fieldOf 30 = .ok (.iload_n 2, 1) := by decide +kernel
theorem d_Journal_fieldOf_31 : decode b_Journal_fieldOf 31 = .ok (.iadd, 1) := by decide +kernel
theorem d_Journal_fieldOf_32 : decode b_Journal_fieldOf 32 = .ok (.iaload, 1) := by decide +kernel
theorem d_Journal_fieldOf_33 : decode b_Journal_fieldOf 33 = .ok (.ireturn, 1) := by decide +kernel
theorem d_Journal_codeOf_0 : decode b_Journal_codeOf 0 = .ok (.aload_n 0, 1) := by decide +kernel
theorem d_Journal_codeOf_1 : decode b_Journal_codeOf 1 = .ok (.iload_n 1, 1) := by decide +kernel
theorem d_Journal_codeOf_2 : decode b_Journal_codeOf 2 = .ok (.invokevirtual 73, 3) := by decide +kernel
theorem d_Journal_codeOf_5 : decode b_Journal_codeOf 5 = .ok (.ifCond .eq 12, 3) := by decide +kernel
theorem d_Journal_codeOf_8 : decode b_Journal_codeOf 8 = .ok (.iload_n 2, 1) := by decide +kernel
theorem d_Journal_codeOf_9 : decode b_Journal_codeOf 9 = .ok (.iconst 0, 1) := by decide +kernel
theorem d_Journal_codeOf_10 : decode b_Journal_codeOf 10 = .ok (.iconst 3, 1) := by decide +kernel
theorem d_Journal_codeOf_11 : decode b_Journal_codeOf 11 = .ok (.invokestatic 53, 3) := by decide +kernel
theorem d_Journal_codeOf_14 : decode b_Journal_codeOf 14 = .ok (.ifCond .ne 7, 3) := by decide +kernel
theorem d_Journal_codeOf_17 : decode b_Journal_codeOf 17 = .ok (.sipush (-1000), 3) := by decide +kernel
theorem d_Journal_codeOf_20 : decode b_Journal_codeOf 20 = .ok (.ireturn, 1) := by decide +kernel
theorem d_Journal_codeOf_21 : decode b_Journal_codeOf 21 = .ok (.aload_n 0, 1) := by decide +kernel
theorem d_Journal_codeOf_22 : decode b_Journal_codeOf 22 = .ok (.getfield 15, 3) := by decide +kernel
theorem d_Journal_codeOf_25 : decode b_Journal_codeOf 25 = .ok (.iload_n 1, 1) := by decide +kernel
theorem d_Journal_codeOf_26 : decode b_Journal_codeOf 26 = .ok (.iconst 4, 1) := by decide +kernel
theorem d_Journal_codeOf_27 : decode b_Journal_codeOf 27 = .ok (.imul, 1) := by decide +kernel
theorem d_Journal_codeOf_28 : decode b_Journal_codeOf 28 = .ok (.iload_n 2, 1) := by decide +kernel
theorem d_Journal_codeOf_29 : decode b_Journal_codeOf 29 = .ok (.iadd, 1) := by decide +kernel
theorem d_Journal_codeOf_30 : decode b_Journal_codeOf 30 = .ok (.iaload, 1) := by decide +kernel
theorem d_Journal_codeOf_31 : decode b_Journal_codeOf 31 = .ok (.ireturn, 1) := by decide +kernel
theorem d_Journal_events_0 : decode b_Journal_events 0 = .ok (.aload_n 0, 1) := by decide +kernel
theorem d_Journal_events_1 : decode b_Journal_events 1 = .ok (.getfield 21, 3) := by decide +kernel
theorem d_Journal_events_4 : decode b_Journal_events 4 = .ok (.ireturn, 1) := by decide +kernel
theorem d_Journal_skips_0 : decode b_Journal_skips 0 = .ok (.aload_n 0, 1) := by decide +kernel
theorem d_Journal_skips_1 : decode b_Journal_skips 1 = .ok (.getfield 25, 3) := by decide +kernel
theorem d_Journal_skips_4 : decode b_Journal_skips 4 = .ok (.ireturn, 1) := by decide +kernel
theorem d_Journal_troubledContainers_0 : decode b_Journal_troubledContainers 0 = .ok (.aload_n 0, 1) := by decide +kernel
theorem d_Journal_troubledContainers_1 : decode b_Journal_troubledContainers 1 = .ok (.getfield 28, 3) := by decide +kernel
theorem d_Journal_troubledContainers_4 : decode b_Journal_troubledContainers 4 = .ok (.ireturn, 1) := by decide +kernel
theorem d_Journal_roundsWith_0 : decode b_Journal_roundsWith 0 = .ok (.aload_n 0, 1) := by decide +kernel
theorem d_Journal_roundsWith_1 : decode b_Journal_roundsWith 1 = .ok (.getfield 18, 3) := by decide +kernel
theorem d_Journal_roundsWith_4 : decode b_Journal_roundsWith 4 = .ok (.iload_n 1, 1) := by decide +kernel
theorem d_Journal_roundsWith_5 : decode b_Journal_roundsWith 5 = .ok (.iaload, 1) := by decide +kernel
theorem d_Journal_roundsWith_6 : decode b_Journal_roundsWith 6 = .ok (.ireturn, 1) := by decide +kernel
theorem d_Journal_hasFailure_0 : decode b_Journal_hasFailure 0 = .ok (.aload_n 0, 1) := by decide +kernel
theorem d_Journal_hasFailure_1 : decode b_Journal_hasFailure 1 = .ok (.getfield 31, 3) := by decide +kernel
theorem d_Journal_hasFailure_4 : decode b_Journal_hasFailure 4 = .ok (.ireturn, 1) := by decide +kernel
theorem d_Methods_init_0 : decode b_Methods_init 0 = .ok (.aload_n 0, 1) := by decide +kernel
theorem d_Methods_init_1 : decode b_Methods_init 1 = .ok (.invokespecial 3, 3) := by decide +kernel
theorem d_Methods_init_4 : decode b_Methods_init 4 = .ok (.aload_n 0, 1) := by decide +kernel
theorem d_Methods_init_5 : decode b_Methods_init 5 = .ok (.sipush 168, 3) := by decide +kernel
theorem d_Methods_init_8 : decode b_Methods_init 8 = .ok (.newarray .boolean, 2) := by decide +kernel
theorem d_Methods_init_10 : decode b_Methods_init 10 = .ok (.putfield 9, 3) := by decide +kernel
theorem d_Methods_init_13 : decode b_Methods_init 13 = .ok (.aload_n 0, 1) := by decide +kernel
theorem d_Methods_init_14 : decode b_Methods_init 14 = .ok (.sipush 168, 3) := by decide +kernel
theorem d_Methods_init_17 : decode b_Methods_init 17 = .ok (.newarray .int, 2) := by decide +kernel
theorem d_Methods_init_19 : decode b_Methods_init 19 = .ok (.putfield 15, 3) := by decide +kernel
theorem d_Methods_init_22 : decode b_Methods_init 22 = .ok (.aload_n 0, 1) := by decide +kernel
theorem d_Methods_init_23 : decode b_Methods_init 23 = .ok (.sipush 168, 3) := by decide +kernel
theorem d_Methods_init_26 : decode b_Methods_init 26 = .ok (.newarray .int, 2) := by decide +kernel
theorem d_Methods_init_28 : decode b_Methods_init 28 = .ok (.putfield 19, 3) := by decide +kernel
theorem d_Methods_init_31 : decode b_Methods_init 31 = .ok (.aload_n 0, 1) := by decide +kernel
theorem d_Methods_init_32 : decode b_Methods_init 32 = .ok (.sipush 168, 3) := by decide +kernel
theorem d_Methods_init_35 : decode b_Methods_init 35 = .ok (.newarray .int, 2) := by decide +kernel
theorem d_Methods_init_37 : decode b_Methods_init 37 = .ok (.putfield 22, 3) := by decide +kernel
theorem d_Methods_init_40 : decode b_Methods_init 40 = .ok (.return_, 1) := by decide +kernel
theorem d_Methods_placeOf_0 : decode b_Methods_placeOf 0 = .ok (.iload_n 0, 1) := by decide +kernel
theorem d_Methods_placeOf_1 : decode b_Methods_placeOf 1 = .ok (.bipush 7, 2) := by decide +kernel
theorem d_Methods_placeOf_3 : decode b_Methods_placeOf 3 = .ok (.imul, 1) := by decide +kernel
theorem d_Methods_placeOf_4 : decode b_Methods_placeOf 4 = .ok (.iload_n 1, 1) := by decide +kernel
theorem d_Methods_placeOf_5 : decode b_Methods_placeOf 5 = .ok (.iadd, 1) := by decide +kernel
theorem d_Methods_placeOf_6 : decode b_Methods_placeOf 6 = .ok (.ireturn, 1) := by decide +kernel
theorem d_Methods_giveBodies_0 : decode b_Methods_giveBodies 0 = .ok (.iconst 0, 1) := by decide +kernel
theorem d_Methods_giveBodies_1 : decode b_Methods_giveBodies 1 = .ok (.istore_n 3, 1) := by decide +kernel
theorem d_Methods_giveBodies_2 : decode b_Methods_giveBodies 2 = .ok (.iload_n 3, 1) := by decide +kernel
theorem d_Methods_giveBodies_3 : decode b_Methods_giveBodies 3 = .ok (.iload_n 2, 1) := by decide +kernel
theorem d_Methods_giveBodies_4 : decode b_Methods_giveBodies 4 = .ok (.if_icmp .ge 20, 3) := by decide +kernel
theorem d_Methods_giveBodies_7 : decode b_Methods_giveBodies 7 = .ok (.aload_n 0, 1) := by decide +kernel
theorem d_Methods_giveBodies_8 : decode b_Methods_giveBodies 8 = .ok (.iload_n 1, 1) := by decide +kernel
theorem d_Methods_giveBodies_9 : decode b_Methods_giveBodies 9 = .ok (.iconst 4, 1) := by decide +kernel
theorem d_Methods_giveBodies_10 : decode b_Methods_giveBodies 10 = .ok (.iload_n 3, 1) := by decide +kernel
theorem d_Methods_giveBodies_11 : decode b_Methods_giveBodies 11 = .ok (.iadd, 1) := by decide +kernel
theorem d_Methods_giveBodies_12 : decode b_Methods_giveBodies 12 = .ok (.iconst 0, 1) := by decide +kernel
theorem d_Methods_giveBodies_13 : decode b_Methods_giveBodies 13 = .ok (.iconst 0, 1) := by decide +kernel
theorem d_Methods_giveBodies_14 : decode b_Methods_giveBodies 14 = .ok (.iconst 0, 1) := by decide +kernel
theorem d_Methods_giveBodies_15 : decode b_Methods_giveBodies 15 = .ok (.invokevirtual 25, 3) := by decide +kernel
theorem d_Methods_giveBodies_18 : decode b_Methods_giveBodies 18 = .ok (.iinc 3 1, 3) := by decide +kernel
theorem d_Methods_giveBodies_21 : decode b_Methods_giveBodies 21 = .ok (.goto (-19), 3) := by decide +kernel
theorem d_Methods_giveBodies_24 : decode b_Methods_giveBodies 24 = .ok (.return_, 1) := by decide +kernel
theorem d_Methods_give_0 : decode b_Methods_give 0 = .ok (.iload_n 1, 1) := by decide +kernel
theorem d_Methods_give_1 : decode b_Methods_give 1 = .ok (.iload_n 2, 1) := by decide +kernel
theorem d_Methods_give_2 : decode b_Methods_give 2 = .ok (.invokestatic 29, 3) := by decide +kernel
theorem d_Methods_give_5 : decode b_Methods_give 5 = .ok (.istore 6, 2) := by decide +kernel
theorem d_Methods_give_7 : decode b_Methods_give 7 = .ok (.aload_n 0, 1) := by decide +kernel
theorem d_Methods_give_8 : decode b_Methods_give 8 = .ok (.getfield 9, 3) := by decide +kernel
theorem d_Methods_give_11 : decode b_Methods_give 11 = .ok (.iload 6, 2) := by decide +kernel
theorem d_Methods_give_13 : decode b_Methods_give 13 = .ok (.iconst 1, 1) := by decide +kernel
theorem d_Methods_give_14 : decode b_Methods_give 14 = .ok (.bastore, 1) := by decide +kernel
theorem d_Methods_give_15 : decode b_Methods_give 15 = .ok (.aload_n 0, 1) := by decide +kernel
theorem d_Methods_give_16 : decode b_Methods_give 16 = .ok (.getfield 15, 3) := by decide +kernel
theorem d_Methods_give_19 : decode b_Methods_give 19 = .ok (.iload 6, 2) := by decide +kernel
theorem d_Methods_give_21 : decode b_Methods_give 21 = .ok (.iload_n 3, 1) := by decide +kernel
theorem d_Methods_give_22 : decode b_Methods_give 22 = .ok (.iastore, 1) := by decide +kernel
theorem d_Methods_give_23 : decode b_Methods_give 23 = .ok (.aload_n 0, 1) := by decide +kernel
theorem d_Methods_give_24 : decode b_Methods_give 24 = .ok (.getfield 19, 3) := by decide +kernel
theorem d_Methods_give_27 : decode b_Methods_give 27 = .ok (.iload 6, 2) := by decide +kernel
theorem d_Methods_give_29 : decode b_Methods_give 29 = .ok (.iload 4, 2) := by decide +kernel
theorem d_Methods_give_31 : decode b_Methods_give 31 = .ok (.iastore, 1) := by decide +kernel
theorem d_Methods_give_32 : decode b_Methods_give 32 = .ok (.aload_n 0, 1) := by decide +kernel
theorem d_Methods_give_33 : decode b_Methods_give 33 = .ok (.getfield 22, 3) := by decide +kernel
theorem d_Methods_give_36 : decode b_Methods_give 36 = .ok (.iload 6, 2) := by decide +kernel
theorem d_Methods_give_38 : decode b_Methods_give 38 = .ok (.iload 5, 2) := by decide +kernel
theorem d_Methods_give_40 : decode b_Methods_give 40 = .ok (.iastore, 1) := by decide +kernel
theorem d_Methods_give_41 : decode b_Methods_give 41 = .ok (.return_, 1) := by decide +kernel
theorem d_Methods_takeAt_0 : decode b_Methods_takeAt 0 = .ok (.aload_n 0, 1) := by decide +kernel
theorem d_Methods_takeAt_1 : decode b_Methods_takeAt 1 = .ok (.getfield 9, 3) := by decide +kernel
theorem d_Methods_takeAt_4 : decode b_Methods_takeAt 4 = .ok (.iload_n 1, 1) := by decide +kernel
theorem d_Methods_takeAt_5 : decode b_Methods_takeAt 5 = .ok (.iconst 0, 1) := by decide +kernel
theorem d_Methods_takeAt_6 : decode b_Methods_takeAt 6 = .ok (.bastore, 1) := by decide +kernel
theorem d_Methods_takeAt_7 : decode b_Methods_takeAt 7 = .ok (.return_, 1) := by decide +kernel
theorem d_Methods_isThere_0 : decode b_Methods_isThere 0 = .ok (.aload_n 0, 1) := by decide +kernel
theorem d_Methods_isThere_1 : decode b_Methods_isThere 1 = .ok (.getfield 9, 3) := by decide +kernel
theorem d_Methods_isThere_4 : decode b_Methods_isThere 4 = .ok (.iload_n 1, 1) := by decide +kernel
theorem d_Methods_isThere_5 : decode b_Methods_isThere 5 = .ok (.baload, 1) := by decide +kernel
theorem d_Methods_isThere_6 : decode b_Methods_isThere 6 = .ok (.ireturn, 1) := by decide +kernel
theorem d_Methods_resultAt_0 : decode b_Methods_resultAt 0 = .ok (.aload_n 0, 1) := by decide +kernel
theorem d_Methods_resultAt_1 : decode b_Methods_resultAt 1 = .ok (.getfield 15, 3) := by decide +kernel
theorem d_Methods_resultAt_4 : decode b_Methods_resultAt 4 = .ok (.iload_n 1, 1) := by decide +kernel
theorem d_Methods_resultAt_5 : decode b_Methods_resultAt 5 = .ok (.iaload, 1) := by decide +kernel
theorem d_Methods_resultAt_6 : decode b_Methods_resultAt 6 = .ok (.ireturn, 1) := by decide +kernel
theorem d_Methods_codeAt_0 : decode b_Methods_codeAt 0 = .ok (.aload_n 0, 1) := by decide +kernel
theorem d_Methods_codeAt_1 : decode b_Methods_codeAt 1 = .ok (.getfield 19, 3) := by decide +kernel
theorem d_Methods_codeAt_4 : decode b_Methods_codeAt 4 = .ok (.iload_n 1, 1) := by decide +kernel
theorem d_Methods_codeAt_5 : decode b_Methods_codeAt 5 = .ok (.iaload, 1) := by decide +kernel
theorem d_Methods_codeAt_6 : decode b_Methods_codeAt 6 = .ok (.ireturn, 1) := by decide +kernel
theorem d_Methods_lengthAt_0 : decode b_Methods_lengthAt 0 = .ok (.aload_n 0, 1) := by decide +kernel
theorem d_Methods_lengthAt_1 : decode b_Methods_lengthAt 1 = .ok (.getfield 22, 3) := by decide +kernel
theorem d_Methods_lengthAt_4 : decode b_Methods_lengthAt 4 = .ok (.iload_n 1, 1) := by decide +kernel
theorem d_Methods_lengthAt_5 : decode b_Methods_lengthAt 5 = .ok (.iaload, 1) := by decide +kernel
theorem d_Methods_lengthAt_6 : decode b_Methods_lengthAt 6 = .ok (.ireturn, 1) := by decide +kernel
theorem d_Runner_init_0 : decode b_Runner_init 0 = .ok (.aload_n 0, 1) := by decide +kernel
theorem d_Runner_init_1 : decode b_Runner_init 1 = .ok (.invokespecial 3, 3) := by decide +kernel
theorem d_Runner_init_4 : decode b_Runner_init 4 = .ok (.aload_n 0, 1) := by decide +kernel
theorem d_Runner_init_5 : decode b_Runner_init 5 = .ok (.aload_n 1, 1) := by decide +kernel
theorem d_Runner_init_6 : decode b_Runner_init 6 = .ok (.putfield 9, 3) := by decide +kernel
theorem d_Runner_init_9 : decode b_Runner_init 9 = .ok (.aload_n 0, 1) := by decide +kernel
theorem d_Runner_init_10 : decode b_Runner_init 10 = .ok (.aload_n 2, 1) := by decide +kernel
theorem d_Runner_init_11 : decode b_Runner_init 11 = .ok (.putfield 15, 3) := by decide +kernel
theorem d_Runner_init_14 : decode b_Runner_init 14 = .ok (.aload_n 0, 1) := by decide +kernel
theorem d_Runner_init_15 : decode b_Runner_init 15 = .ok (.aload_n 3, 1) := by decide +kernel
theorem d_Runner_init_16 : decode b_Runner_init 16 = .ok (.putfield 19, 3) := by decide +kernel
theorem d_Runner_init_19 : decode b_Runner_init 19 = .ok (.aload_n 0, 1) := by decide +kernel
theorem d_Runner_init_20 : decode b_Runner_init 20 = .ok (.aload 4, 2) := by decide +kernel
theorem d_Runner_init_22 : decode b_Runner_init 22 = .ok (.putfield 23, 3) := by decide +kernel
theorem d_Runner_init_25 : decode b_Runner_init 25 = .ok (.aload_n 0, 1) := by decide +kernel
theorem d_Runner_init_26 : decode b_Runner_init 26 = .ok (.iconst 5, 1) := by decide +kernel
theorem d_Runner_init_27 : decode b_Runner_init 27 = .ok (.anewarray 27, 3) := by decide +kernel
theorem d_Runner_init_30 : decode b_Runner_init 30 = .ok (.putfield 29, 3) := by decide +kernel
theorem d_Runner_init_33 : decode b_Runner_init 33 = .ok (.iconst 0, 1) := by decide +kernel
theorem d_Runner_init_34 : decode b_Runner_init 34 = .ok (.istore 5, 2) := by decide +kernel
theorem d_Runner_init_36 : decode b_Runner_init 36 = .ok (.iload 5, 2) := by decide +kernel
theorem d_Runner_init_38 : decode b_Runner_init 38 = .ok (.iconst 5, 1) := by decide +kernel
theorem d_Runner_init_39 : decode b_Runner_init 39 = .ok (.if_icmp .ge 23, 3) := by decide +kernel
theorem d_Runner_init_42 : decode b_Runner_init 42 = .ok (.aload_n 0, 1) := by decide +kernel
theorem d_Runner_init_43 : decode b_Runner_init 43 = .ok (.getfield 29, 3) := by decide +kernel
theorem d_Runner_init_46 : decode b_Runner_init 46 = .ok (.iload 5, 2) := by decide +kernel
theorem d_Runner_init_48 : decode b_Runner_init 48 = .ok (.new 27, 3) := by decide +kernel
theorem d_Runner_init_51 : decode b_Runner_init 51 = .ok (.dup, 1) := by decide +kernel
theorem d_Runner_init_52 : decode b_Runner_init 52 = .ok (.invokespecial 33, 3) := by decide +kernel
theorem d_Runner_init_55 : decode b_Runner_init 55 = .ok (.aastore, 1) := by decide +kernel
theorem d_Runner_init_56 : decode b_Runner_init 56 = .ok (.iinc 5 1, 3) := by decide +kernel
theorem d_Runner_init_59 : decode b_Runner_init 59 = .ok (.goto (-23), 3) := by decide +kernel
theorem d_Runner_init_62 : decode b_Runner_init 62 = .ok (.aload_n 0, 1) := by decide +kernel
theorem d_Runner_init_63 : decode b_Runner_init 63 = .ok (.iconst 4, 1) := by decide +kernel
theorem d_Runner_init_64 : decode b_Runner_init 64 = .ok (.newarray .int, 2) := by decide +kernel
theorem d_Runner_init_66 : decode b_Runner_init 66 = .ok (.putfield 34, 3) := by decide +kernel
theorem d_Runner_init_69 : decode b_Runner_init 69 = .ok (.aload_n 0, 1) := by decide +kernel
theorem d_Runner_init_70 : decode b_Runner_init 70 = .ok (.bipush 24, 2) := by decide +kernel
theorem d_Runner_init_72 : decode b_Runner_init 72 = .ok (.newarray .int, 2) := by decide +kernel
theorem d_Runner_init_74 : decode b_Runner_init 74 = .ok (.putfield 38, 3) := by decide +kernel
theorem d_Runner_init_77 : decode b_Runner_init 77 = .ok (.return_, 1) := by decide +kernel
theorem d_Runner_reset_0 : decode b_Runner_reset 0 = .ok (.aload_n 0, 1) := by decide +kernel
theorem d_Runner_reset_1 : decode b_Runner_reset 1 = .ok (.iconst 0, 1) := by decide +kernel
theorem d_Runner_reset_2 : decode b_Runner_reset 2 = .ok (.putfield 41, 3) := by decide +kernel
theorem d_Runner_reset_5 : decode b_Runner_reset 5 = .ok (.aload_n 0, 1) := by decide +kernel
theorem d_Runner_reset_6 : decode b_Runner_reset 6 = .ok (.iconst 0, 1) := by decide +kernel
theorem d_Runner_reset_7 : decode b_Runner_reset 7 = .ok (.putfield 45, 3) := by decide +kernel
theorem d_Runner_reset_10 : decode b_Runner_reset 10 = .ok (.aload_n 0, 1) := by decide +kernel
theorem d_Runner_reset_11 : decode b_Runner_reset 11 = .ok (.iconst 0, 1) := by decide +kernel
theorem d_Runner_reset_12 : decode b_Runner_reset 12 = .ok (.putfield 48, 3) := by decide +kernel
theorem d_Runner_reset_15 : decode b_Runner_reset 15 = .ok (.aload_n 0, 1) := by decide +kernel
