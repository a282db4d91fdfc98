theorem d_Tree_childAfter_2 : decode b_Tree_childAfter 2 = .ok (.if_icmp .ne 7, 3) := by decide +kernel
theorem d_Tree_childAfter_5 : decode b_Tree_childAfter 5 = .ok (.iconst (-1), 1) := by decide +kernel
theorem d_Tree_childAfter_6 : decode b_Tree_childAfter 6 = .ok (.goto 8, 3) := by decide +kernel
theorem d_Tree_childAfter_9 : decode b_Tree_childAfter 9 = .ok (.aload_n 0, 1) := by decide +kernel
theorem d_Tree_childAfter_10 : decode b_Tree_childAfter 10 = .ok (.iload_n 2, 1) := by decide +kernel
theorem d_Tree_childAfter_11 : decode b_Tree_childAfter 11 = .ok (.invokevirtual 53, 3) := by decide +kernel
theorem d_Tree_childAfter_14 : decode b_Tree_childAfter 14 = .ok (.istore_n 3, 1) := by decide +kernel
theorem d_Tree_childAfter_15 : decode b_Tree_childAfter 15 = .ok (.iconst (-1), 1) := by decide +kernel
theorem d_Tree_childAfter_16 : decode b_Tree_childAfter 16 = .ok (.istore 4, 2) := by decide +kernel
theorem d_Tree_childAfter_18 : decode b_Tree_childAfter 18 = .ok (.iload_n 1, 1) := by decide +kernel
theorem d_Tree_childAfter_19 : decode b_Tree_childAfter 19 = .ok (.iconst 1, 1) := by decide +kernel
theorem d_Tree_childAfter_20 : decode b_Tree_childAfter 20 = .ok (.iadd, 1) := by decide +kernel
theorem d_Tree_childAfter_21 : decode b_Tree_childAfter 21 = .ok (.istore 5, 2) := by decide +kernel
theorem d_Tree_childAfter_23 : decode b_Tree_childAfter 23 = .ok (.iload 5, 2) := by decide +kernel
theorem d_Tree_childAfter_25 : decode b_Tree_childAfter 25 = .ok (.aload_n 0, 1) := by decide +kernel
theorem d_Tree_childAfter_26 : decode b_Tree_childAfter 26 = .ok (.getfield 37, 3) := by decide +kernel
theorem d_Tree_childAfter_29 : decode b_Tree_childAfter 29 = .ok (.if_icmp .ge 55, 3) := by decide +kernel
theorem d_Tree_childAfter_32 : decode b_Tree_childAfter 32 = .ok (.aload_n 0, 1) := by decide +kernel
theorem d_Tree_childAfter_33 : decode b_Tree_childAfter 33 = .ok (.getfield 9, 3) := by decide +kernel
theorem d_Tree_childAfter_36 : decode b_Tree_childAfter 36 = .ok (.iload 5, 2) := by decide +kernel
theorem d_Tree_childAfter_38 : decode b_Tree_childAfter 38 = .ok (.iaload, 1) := by decide +kernel
theorem d_Tree_childAfter_39 : decode b_Tree_childAfter 39 = .ok (.iload_n 1, 1) := by decide +kernel
theorem d_Tree_childAfter_40 : decode b_Tree_childAfter 40 = .ok (.if_icmp .ne 38, 3) := by decide +kernel
theorem d_Tree_childAfter_43 : decode b_Tree_childAfter 43 = .ok (.aload_n 0, 1) := by decide +kernel
theorem d_Tree_childAfter_44 : decode b_Tree_childAfter 44 = .ok (.iload 5, 2) := by decide +kernel
theorem d_Tree_childAfter_46 : decode b_Tree_childAfter 46 = .ok (.invokevirtual 53, 3) := by decide +kernel
theorem d_Tree_childAfter_49 : decode b_Tree_childAfter 49 = .ok (.iload_n 3, 1) := by decide +kernel
theorem d_Tree_childAfter_50 : decode b_Tree_childAfter 50 = .ok (.if_icmp .le 28, 3) := by decide +kernel
theorem d_Tree_childAfter_53 : decode b_Tree_childAfter 53 = .ok (.iload 4, 2) := by decide +kernel
theorem d_Tree_childAfter_55 : decode b_Tree_childAfter 55 = .ok (.iconst (-1), 1) := by decide +kernel
theorem d_Tree_childAfter_56 : decode b_Tree_childAfter 56 = .ok (.if_icmp .eq 18, 3) := by decide +kernel
theorem d_Tree_childAfter_59 : decode b_Tree_childAfter 59 = .ok (.aload_n 0, 1) := by decide +kernel
theorem d_Tree_childAfter_60 : decode b_Tree_childAfter 60 = .ok (.iload 5, 2) := by decide +kernel
theorem d_Tree_childAfter_62 : decode b_Tree_childAfter 62 = .ok (.invokevirtual 53, 3) := by decide +kernel
theorem d_Tree_childAfter_65 : decode b_Tree_childAfter 65 = .ok (.aload_n 0, 1) := by decide +kernel
theorem d_Tree_childAfter_66 : decode b_Tree_childAfter 66 = .ok (.iload 4, 2) := by decide +kernel
theorem d_Tree_childAfter_68 : decode b_Tree_childAfter 68 = .ok (.invokevirtual 53, 3) := by decide +kernel
theorem d_Tree_childAfter_71 : decode b_Tree_childAfter 71 = .ok (.if_icmp .ge 7, 3) := by decide +kernel
theorem d_Tree_childAfter_74 : decode b_Tree_childAfter 74 = .ok (.iload 5, 2) := by decide +kernel
theorem d_Tree_childAfter_76 : decode b_Tree_childAfter 76 = .ok (.istore 4, 2) := by decide +kernel
theorem d_Tree_childAfter_78 : decode b_Tree_childAfter 78 = .ok (.iinc 5 1, 3) := by decide +kernel
theorem d_Tree_childAfter_81 : decode b_Tree_childAfter 81 = .ok (.goto (-58), 3) := by decide +kernel
theorem d_Tree_childAfter_84 : decode b_Tree_childAfter 84 = .ok (.iload 4, 2) := by decide +kernel
theorem d_Tree_childAfter_86 : decode b_Tree_childAfter 86 = .ok (.ireturn, 1) := by decide +kernel
theorem d_Tree_rankOf_0 : decode b_Tree_rankOf 0 = .ok (.aload_n 0, 1) := by decide +kernel
theorem d_Tree_rankOf_1 : decode b_Tree_rankOf 1 = .ok (.getfield 18, 3) := by decide +kernel
theorem d_Tree_rankOf_4 : decode b_Tree_rankOf 4 = .ok (.iload_n 1, 1) := by decide +kernel
theorem d_Tree_rankOf_5 : decode b_Tree_rankOf 5 = .ok (.iaload, 1) := by decide +kernel
theorem d_Tree_rankOf_6 : decode b_Tree_rankOf 6 = .ok (.bipush 24, 2) := by decide +kernel
theorem d_Tree_rankOf_8 : decode b_Tree_rankOf 8 = .ok (.imul, 1) := by decide +kernel
theorem d_Tree_rankOf_9 : decode b_Tree_rankOf 9 = .ok (.iload_n 1, 1) := by decide +kernel
theorem d_Tree_rankOf_10 : decode b_Tree_rankOf 10 = .ok (.iadd, 1) := by decide +kernel
theorem d_Tree_rankOf_11 : decode b_Tree_rankOf 11 = .ok (.ireturn, 1) := by decide +kernel
theorem d_Tree_writePath_0 : decode b_Tree_writePath 0 = .ok (.iload_n 1, 1) := by decide +kernel
theorem d_Tree_writePath_1 : decode b_Tree_writePath 1 = .ok (.istore_n 3, 1) := by decide +kernel
theorem d_Tree_writePath_2 : decode b_Tree_writePath 2 = .ok (.aload_n 0, 1) := by decide +kernel
theorem d_Tree_writePath_3 : decode b_Tree_writePath 3 = .ok (.getfield 15, 3) := by decide +kernel
theorem d_Tree_writePath_6 : decode b_Tree_writePath 6 = .ok (.iload_n 1, 1) := by decide +kernel
theorem d_Tree_writePath_7 : decode b_Tree_writePath 7 = .ok (.iaload, 1) := by decide +kernel
theorem d_Tree_writePath_8 : decode b_Tree_writePath 8 = .ok (.istore 4, 2) := by decide +kernel
theorem d_Tree_writePath_10 : decode b_Tree_writePath 10 = .ok (.iload 4, 2) := by decide +kernel
theorem d_Tree_writePath_12 : decode b_Tree_writePath 12 = .ok (.ifCond .lt 21, 3) := by decide +kernel
theorem d_Tree_writePath_15 : decode b_Tree_writePath 15 = .ok (.aload_n 2, 1) := by decide +kernel
theorem d_Tree_writePath_16 : decode b_Tree_writePath 16 = .ok (.iload 4, 2) := by decide +kernel
theorem d_Tree_writePath_18 : decode b_Tree_writePath 18 = .ok (.iload_n 3, 1) := by decide +kernel
theorem d_Tree_writePath_19 : decode b_Tree_writePath 19 = .ok (.iastore, 1) := by decide +kernel
theorem d_Tree_writePath_20 : decode b_Tree_writePath 20 = .ok (.aload_n 0, 1) := by decide +kernel
theorem d_Tree_writePath_21 : decode b_Tree_writePath 21 = .ok (.getfield 9, 3) := by decide +kernel
theorem d_Tree_writePath_24 : decode b_Tree_writePath 24 = .ok (.iload_n 3, 1) := by decide +kernel
theorem d_Tree_writePath_25 : decode b_Tree_writePath 25 = .ok (.iaload, 1) := by decide +kernel
theorem d_Tree_writePath_26 : decode b_Tree_writePath 26 = .ok (.istore_n 3, 1) := by decide +kernel
theorem d_Tree_writePath_27 : decode b_Tree_writePath 27 = .ok (.iinc 4 (-1), 3) := by decide +kernel
theorem d_Tree_writePath_30 : decode b_Tree_writePath 30 = .ok (.goto (-20), 3) := by decide +kernel
theorem d_Tree_writePath_33 : decode b_Tree_writePath 33 = .ok (.return_, 1) := by decide +kernel
theorem d_Troubles_init_0 : decode b_Troubles_init 0 = .ok (.aload_n 0, 1) := by decide +kernel
theorem d_Troubles_init_1 : decode b_Troubles_init 1 = .ok (.invokespecial 3, 3) := by decide +kernel
theorem d_Troubles_init_4 : decode b_Troubles_init 4 = .ok (.aload_n 0, 1) := by decide +kernel
theorem d_Troubles_init_5 : decode b_Troubles_init 5 = .ok (.iconst 4, 1) := by decide +kernel
theorem d_Troubles_init_6 : decode b_Troubles_init 6 = .ok (.newarray .int, 2) := by decide +kernel
theorem d_Troubles_init_8 : decode b_Troubles_init 8 = .ok (.putfield 9, 3) := by decide +kernel
theorem d_Troubles_init_11 : decode b_Troubles_init 11 = .ok (.return_, 1) := by decide +kernel
theorem d_Troubles_clear_0 : decode b_Troubles_clear 0 = .ok (.aload_n 0, 1) := by decide +kernel
theorem d_Troubles_clear_1 : decode b_Troubles_clear 1 = .ok (.iconst 0, 1) := by decide +kernel
theorem d_Troubles_clear_2 : decode b_Troubles_clear 2 = .ok (.putfield 15, 3) := by decide +kernel
theorem d_Troubles_clear_5 : decode b_Troubles_clear 5 = .ok (.aload_n 0, 1) := by decide +kernel
theorem d_Troubles_clear_6 : decode b_Troubles_clear 6 = .ok (.iconst 0, 1) := by decide +kernel
theorem d_Troubles_clear_7 : decode b_Troubles_clear 7 = .ok (.putfield 19, 3) := by decide +kernel
theorem d_Troubles_clear_10 : decode b_Troubles_clear 10 = .ok (.return_, 1) := by decide +kernel
theorem d_Troubles_join_0 : decode b_Troubles_join 0 = .ok (.aload_n 0, 1) := by decide +kernel
theorem d_Troubles_join_1 : decode b_Troubles_join 1 = .ok (.getfield 15, 3) := by decide +kernel
theorem d_Troubles_join_4 : decode b_Troubles_join 4 = .ok (.ifCond .ne 8, 3) := by decide +kernel
theorem d_Troubles_join_7 : decode b_Troubles_join 7 = .ok (.aload_n 0, 1) := by decide +kernel
theorem d_Troubles_join_8 : decode b_Troubles_join 8 = .ok (.iload_n 2, 1) := by decide +kernel
theorem d_Troubles_join_9 : decode b_Troubles_join 9 = .ok (.putfield 19, 3) := by decide +kernel
theorem d_Troubles_join_12 : decode b_Troubles_join 12 = .ok (.aload_n 0, 1) := by decide +kernel
theorem d_Troubles_join_13 : decode b_Troubles_join 13 = .ok (.getfield 15, 3) := by decide +kernel
theorem d_Troubles_join_16 : decode b_Troubles_join 16 = .ok (.iconst 4, 1) := by decide +kernel
theorem d_Troubles_join_17 : decode b_Troubles_join 17 = .ok (.if_icmp .ge 13, 3) := by decide +kernel
theorem d_Troubles_join_20 : decode b_Troubles_join 20 = .ok (.aload_n 0, 1) := by decide +kernel
theorem d_Troubles_join_21 : decode b_Troubles_join 21 = .ok (.getfield 9, 3) := by decide +kernel
theorem d_Troubles_join_24 : decode b_Troubles_join 24 = .ok (.aload_n 0, 1) := by decide +kernel
theorem d_Troubles_join_25 : decode b_Troubles_join 25 = .ok (.getfield 15, 3) := by decide +kernel
theorem d_Troubles_join_28 : decode b_Troubles_join 28 = .ok (.iload_n 1, 1) := by decide +kernel
theorem d_Troubles_join_29 : decode b_Troubles_join 29 = .ok (.iastore, 1) := by decide +kernel
theorem d_Troubles_join_30 : decode b_Troubles_join 30 = .ok (.aload_n 0, 1) := by decide +kernel
theorem d_Troubles_join_31 : decode b_Troubles_join 31 = .ok (.dup, 1) := by decide +kernel
theorem d_Troubles_join_32 : decode b_Troubles_join 32 = .ok (.getfield 15, 3) := by decide +kernel
theorem d_Troubles_join_35 : decode b_Troubles_join 35 = .ok (.iconst 1, 1) := by decide +kernel
theorem d_Troubles_join_36 : decode b_Troubles_join 36 = .ok (.iadd, 1) := by decide +kernel
theorem d_Troubles_join_37 : decode b_Troubles_join 37 = .ok (.putfield 15, 3) := by decide +kernel
theorem d_Troubles_join_40 : decode b_Troubles_join 40 = .ok (.return_, 1) := by decide +kernel
theorem d_Troubles_isEmpty_0 : decode b_Troubles_isEmpty 0 = .ok (.aload_n 0, 1) := by decide +kernel
theorem d_Troubles_isEmpty_1 : decode b_Troubles_isEmpty 1 = .ok (.getfield 15, 3) := by decide +kernel
theorem d_Troubles_isEmpty_4 : decode b_Troubles_isEmpty 4 = .ok (.ifCond .ne 7, 3) := by decide +kernel
theorem d_Troubles_isEmpty_7 : decode b_Troubles_isEmpty 7 = .ok (.iconst 1, 1) := by decide +kernel
theorem d_Troubles_isEmpty_8 : decode b_Troubles_isEmpty 8 = .ok (.goto 4, 3) := by decide +kernel
theorem d_Troubles_isEmpty_11 : decode b_Troubles_isEmpty 11 = .ok (.iconst 0, 1) := by decide +kernel
theorem d_Troubles_isEmpty_12 : decode b_Troubles_isEmpty 12 = .ok (.ireturn, 1) := by decide +kernel
theorem d_Troubles_status_0 : decode b_Troubles_status 0 = .ok (.aload_n 0, 1) := by decide +kernel
theorem d_Troubles_status_1 : decode b_Troubles_status 1 = .ok (.getfield 15, 3) := by decide +kernel
theorem d_Troubles_status_4 : decode b_Troubles_status 4 = .ok (.ifCond .ne 5, 3) := by decide +kernel
theorem d_Troubles_status_7 : decode b_Troubles_status 7 = .ok (.iconst 0, 1) := by decide +kernel
theorem d_Troubles_status_8 : decode b_Troubles_status 8 = .ok (.ireturn, 1) := by decide +kernel
theorem d_Troubles_status_9 : decode b_Troubles_status 9 = .ok (.aload_n 0, 1) := by decide +kernel
theorem d_Troubles_status_10 : decode b_Troubles_status 10 = .ok (.getfield 19, 3) := by decide +kernel
theorem d_Troubles_status_13 : decode b_Troubles_status 13 = .ok (.ifCond .eq 7, 3) := by decide +kernel
theorem d_Troubles_status_16 : decode b_Troubles_status 16 = .ok (.iconst 2, 1) := by decide +kernel
theorem d_Troubles_status_17 : decode b_Troubles_status 17 = .ok (.goto 4, 3) := by decide +kernel
theorem d_Troubles_status_20 : decode b_Troubles_status 20 = .ok (.iconst 1, 1) := by decide +kernel
theorem d_Troubles_status_21 : decode b_Troubles_status 21 = .ok (.ireturn, 1) := by decide +kernel
theorem d_Troubles_firstCode_0 : decode b_Troubles_firstCode 0 = .ok (.aload_n 0, 1) := by decide +kernel
theorem d_Troubles_firstCode_1 : decode b_Troubles_firstCode 1 = .ok (.getfield 15, 3) := by decide +kernel
theorem d_Troubles_firstCode_4 : decode b_Troubles_firstCode 4 = .ok (.ifCond .ne 7, 3) := by decide +kernel
theorem d_Troubles_firstCode_7 : decode b_Troubles_firstCode 7 = .ok (.iconst (-1), 1) := by decide +kernel
theorem d_Troubles_firstCode_8 : decode b_Troubles_firstCode 8 = .ok (.goto 9, 3) := by decide +kernel
theorem d_Troubles_firstCode_11 : decode b_Troubles_firstCode 11 = .ok (.aload_n 0, 1) := by decide +kernel
theorem d_Troubles_firstCode_12 : decode b_Troubles_firstCode 12 = .ok (.getfield 9, 3) := by decide +kernel
theorem d_Troubles_firstCode_15 : decode b_Troubles_firstCode 15 = .ok (.iconst 0, 1) := by decide +kernel
theorem d_Troubles_firstCode_16 : decode b_Troubles_firstCode 16 = .ok (.iaload, 1) := by decide +kernel
theorem d_Troubles_firstCode_17 : decode b_Troubles_firstCode 17 = .ok (.ireturn, 1) := by decide +kernel
theorem d_Troubles_sizeBehindFirst_0 : decode b_Troubles_sizeBehindFirst 0 = .ok (.aload_n 0, 1) := by decide +kernel
theorem d_Troubles_sizeBehindFirst_1 : decode b_Troubles_sizeBehindFirst 1 = .ok (.getfield 15, 3) := by decide +kernel
theorem d_Troubles_sizeBehindFirst_4 : decode b_Troubles_sizeBehindFirst 4 = .ok (.ifCond .ne 7, 3) := by decide +kernel
theorem d_Troubles_sizeBehindFirst_7 : decode b_Troubles_sizeBehindFirst 7 = .ok (.iconst 0, 1) := by decide +kernel
theorem d_Troubles_sizeBehindFirst_8 : decode b_Troubles_sizeBehindFirst 8 = .ok (.goto 9, 3) := by decide +kernel
theorem d_Troubles_sizeBehindFirst_11 : decode b_Troubles_sizeBehindFirst 11 = .ok (.aload_n 0, 1) := by decide +kernel
theorem d_Troubles_sizeBehindFirst_12 : decode b_Troubles_sizeBehindFirst 12 = .ok (.getfield 15, 3) := by decide +kernel
theorem d_Troubles_sizeBehindFirst_15 : decode b_Troubles_sizeBehindFirst 15 = .ok (.iconst 1, 1) := by decide +kernel
theorem d_Troubles_sizeBehindFirst_16 : decode b_Troubles_sizeBehindFirst 16 = .ok (.isub, 1) := by decide +kernel
theorem d_Troubles_sizeBehindFirst_17 : decode b_Troubles_sizeBehindFirst 17 = .ok (.ireturn, 1) := by decide +kernel
theorem d_Troubles_codeOrNone_0 : decode b_Troubles_codeOrNone 0 = .ok (.iload_n 1, 1) := by decide +kernel
theorem d_Troubles_codeOrNone_1 : decode b_Troubles_codeOrNone 1 = .ok (.aload_n 0, 1) := by decide +kernel
theorem d_Troubles_codeOrNone_2 : decode b_Troubles_codeOrNone 2 = .ok (.getfield 15, 3) := by decide +kernel
theorem d_Troubles_codeOrNone_5 : decode b_Troubles_codeOrNone 5 = .ok (.if_icmp .ge 12, 3) := by decide +kernel
theorem d_Troubles_codeOrNone_8 : decode b_Troubles_codeOrNone 8 = .ok (.aload_n 0, 1) := by decide +kernel
theorem d_Troubles_codeOrNone_9 : decode b_Troubles_codeOrNone 9 = .ok (.getfield 9, 3) := by decide +kernel
theorem d_Troubles_codeOrNone_12 : decode b_Troubles_codeOrNone 12 = .ok (.iload_n 1, 1) := by decide +kernel
theorem d_Troubles_codeOrNone_13 : decode b_Troubles_codeOrNone 13 = .ok (.iaload, 1) := by decide +kernel
theorem d_Troubles_codeOrNone_14 : decode b_Troubles_codeOrNone 14 = .ok (.goto 6, 3) := by decide +kernel
theorem d_Troubles_codeOrNone_17 : decode b_Troubles_codeOrNone 17 = .ok (.sipush (-1000), 3) := by decide +kernel
theorem d_Troubles_codeOrNone_20 : decode b_Troubles_codeOrNone 20 = .ok (.ireturn, 1) := by decide +kernel
theorem d_Engine_init_0 : decode b_Engine_init 0 = .ok (.aload_n 0, 1) := by decide +kernel
theorem d_Engine_init_1 : decode b_Engine_init 1 = .ok (.invokespecial 3, 3) := by decide +kernel
theorem d_Engine_init_4 : decode b_Engine_init 4 = .ok (.aload_n 0, 1) := by decide +kernel
theorem d_Engine_init_5 : decode b_Engine_init 5 = .ok (.new 9, 3) := by decide +kernel
theorem d_Engine_init_8 : decode b_Engine_init 8 = .ok (.dup, 1) := by decide +kernel
theorem d_Engine_init_9 : decode b_Engine_init 9 = .ok (.invokespecial 11, 3) := by decide +kernel
theorem d_Engine_init_12 : decode b_Engine_init 12 = .ok (.putfield 12, 3) := by decide +kernel
theorem d_Engine_init_15 : decode b_Engine_init 15 = .ok (.aload_n 0, 1) := by decide +kernel
theorem d_Engine_init_16 : decode b_Engine_init 16 = .ok (.new 16, 3) := by decide +kernel
theorem d_Engine_init_19 : decode b_Engine_init 19 = .ok (.dup, 1) := by decide +kernel
theorem d_Engine_init_20 : decode b_Engine_init 20 = .ok (.invokespecial 18, 3) := by decide +kernel
theorem d_Engine_init_23 : decode b_Engine_init 23 = .ok (.putfield 19, 3) := by decide +kernel
theorem d_Engine_init_26 : decode b_Engine_init 26 = .ok (.aload_n 0, 1) := by decide +kernel
theorem d_Engine_init_27 : decode b_Engine_init 27 = .ok (.new 23, 3) := by decide +kernel
theorem d_Engine_init_30 : decode b_Engine_init 30 = .ok (.dup, 1) := by decide +kernel
theorem d_Engine_init_31 : decode b_Engine_init 31 = .ok (.aload_n 0, 1) := by decide +kernel
theorem d_Engine_init_32 : decode b_Engine_init 32 = .ok (.getfield 12, 3) := by decide +kernel
theorem d_Engine_init_35 : decode b_Engine_init 35 = .ok (.invokespecial 25, 3) := by decide +kernel
theorem d_Engine_init_38 : decode b_Engine_init 38 = .ok (.putfield 28, 3) := by decide +kernel
theorem d_Engine_init_41 : decode b_Engine_init 41 = .ok (.aload_n 0, 1) := by decide +kernel
theorem d_Engine_init_42 : decode b_Engine_init 42 = .ok (.new 32, 3) := by decide +kernel
theorem d_Engine_init_45 : decode b_Engine_init 45 = .ok (.dup, 1) := by decide +kernel
theorem d_Engine_init_46 : decode b_Engine_init 46 = .ok (.invokespecial 34, 3) := by decide +kernel
theorem d_Engine_init_49 : decode b_Engine_init 49 = .ok (.putfield 35, 3) := by decide +kernel
theorem d_Engine_init_52 : decode b_Engine_init 52 = .ok (.aload_n 0, 1) := by decide +kernel
theorem d_Engine_init_53 : decode b_Engine_init 53 = .ok (.new 39, 3) := by decide +kernel
theorem d_Engine_init_56 : decode b_Engine_init 56 = .ok (.dup, 1) := by decide +kernel
theorem d_Engine_init_57 : decode b_Engine_init 57 = .ok (.aload_n 0, 1) := by decide +kernel
theorem d_Engine_init_58 : decode b_Engine_init 58 = .ok (.getfield 12, 3) := by decide +kernel
theorem d_Engine_init_61 : decode b_Engine_init 61 = .ok (.aload_n 0, 1) := by decide +kernel
theorem d_Engine_init_62 : decode b_Engine_init 62 = .ok (.getfield 19, 3) := by decide +kernel
theorem d_Engine_init_65 : decode b_Engine_init 65 = .ok (.aload_n 0, 1) := by decide +kernel
theorem d_Engine_init_66 : decode b_Engine_init 66 = .ok (.getfield 28, 3) := by decide +kernel
theorem d_Engine_init_69 : decode b_Engine_init 69 = .ok (.aload_n 0, 1) := by decide +kernel
theorem d_Engine_init_70 : decode b_Engine_init 70 = .ok (.getfield 35, 3) := by decide +kernel
theorem d_Engine_init_73 : decode b_Engine_init 73 = .ok (.invokespecial 41, 3) := by decide +kernel
theorem d_Engine_init_76 : decode b_Engine_init 76 = .ok (.putfield 44, 3) := by decide +kernel
theorem d_Engine_init_79 : decode b_Engine_init 79 = .ok (.return_, 1) := by decide +kernel
theorem d_Engine_container_0 : decode b_Engine_container 0 = .ok (.aload_n 0, 1) := by decide +kernel
theorem d_Engine_container_1 : decode b_Engine_container 1 = .ok (.getfield 12, 3) := by decide +kernel
theorem d_Engine_container_4 : decode b_Engine_container 4 = .ok (.iload_n 1, 1) := by decide +kernel
theorem d_Engine_container_5 : decode b_Engine_container 5 = .ok (.invokevirtual 48, 3) := by decide +kernel
theorem d_Engine_container_8 : decode b_Engine_container 8 = .ok (.ifCond .eq 25, 3) := by decide +kernel
theorem d_Engine_container_11 : decode b_Engine_container 11 = .ok (.aload_n 0, 1) := by decide +kernel
theorem d_Engine_container_12 : decode b_Engine_container 12 = .ok (.getfield 12, 3) := by decide +kernel
theorem d_Engine_container_15 : decode b_Engine_container 15 = .ok (.iload_n 1, 1) := by decide +kernel
theorem d_Engine_container_16 : decode b_Engine_container 16 = .ok (.invokevirtual 52, 3) := by decide +kernel
theorem d_Engine_container_19 : decode b_Engine_container 19 = .ok (.iconst 3, 1) := by decide +kernel
theorem d_Engine_container_20 : decode b_Engine_container 20 = .ok (.if_icmp .ge 13, 3) := by decide +kernel
theorem d_Engine_container_23 : decode b_Engine_container 23 = .ok (.iload_n 2, 1) := by decide +kernel
theorem d_Engine_container_24 : decode b_Engine_container 24 = .ok (.iconst 0, 1) := by decide +kernel
theorem d_Engine_container_25 : decode b_Engine_container 25 = .ok (.bipush 99, 2) := by decide +kernel
theorem d_Engine_container_27 : decode b_Engine_container 27 = .ok (.invokestatic 56, 3) := by decide +kernel
theorem d_Engine_container_30 : decode b_Engine_container 30 = .ok (.ifCond .ne 5, 3) := by decide +kernel
theorem d_Engine_container_33 : decode b_Engine_container 33 = .ok (.iconst (-1), 1) := by decide +kernel
theorem d_Engine_container_34 : decode b_Engine_container 34 = .ok (.ireturn, 1) := by decide +kernel
theorem d_Engine_container_35 : decode b_Engine_container 35 = .ok (.aload_n 0, 1) := by decide +kernel
theorem d_Engine_container_36 : decode b_Engine_container 36 = .ok (.getfield 12, 3) := by decide +kernel
theorem d_Engine_container_39 : decode b_Engine_container 39 = .ok (.invokevirtual 60, 3) := by decide +kernel
theorem d_Engine_container_42 : decode b_Engine_container 42 = .ok (.ifCond .eq 6, 3) := by decide +kernel
theorem d_Engine_container_45 : decode b_Engine_container 45 = .ok (.bipush (-2), 2) := by decide +kernel
theorem d_Engine_container_47 : decode b_Engine_container 47 = .ok (.ireturn, 1) := by decide +kernel
theorem d_Engine_container_48 : decode b_Engine_container 48 = .ok (.aload_n 0, 1) := by decide +kernel
theorem d_Engine_container_49 : decode b_Engine_container 49 = .ok (.getfield 12, 3) := by decide +kernel
theorem d_Engine_container_52 : decode b_Engine_container 52 = .ok (.iload_n 1, 1) := by decide +kernel
theorem d_Engine_container_53 : decode b_Engine_container 53 = .ok (.iload_n 2, 1) := by decide +kernel
theorem d_Engine_container_54 : decode b_Engine_container 54 = .ok (.iload_n 3, 1) := by decide +kernel
theorem d_Engine_container_55 : decode b_Engine_container 55 = .ok (.invokevirtual 64, 3) := by decide +kernel
theorem d_Engine_container_58 : decode b_Engine_container 58 = .ok (.ireturn, 1) := by decide +kernel
theorem d_Engine_test_0 : decode b_Engine_test 0 = .ok (.aload_n 0, 1) := by decide +kernel
theorem d_Engine_test_1 : decode b_Engine_test 1 = .ok (.getfield 12, 3) := by decide +kernel
theorem d_Engine_test_4 : decode b_Engine_test 4 = .ok (.iload_n 1, 1) := by decide +kernel
theorem d_Engine_test_5 : decode b_Engine_test 5 = .ok (.invokevirtual 48, 3) := by decide +kernel
theorem d_Engine_test_8 : decode b_Engine_test 8 = .ok (.ifCond .eq 33, 3) := by decide +kernel
theorem d_Engine_test_11 : decode b_Engine_test 11 = .ok (.iload_n 2, 1) := by decide +kernel
theorem d_Engine_test_12 : decode b_Engine_test 12 = .ok (.iconst 0, 1) := by decide +kernel
theorem d_Engine_test_13 : decode b_Engine_test 13 = .ok (.bipush 99, 2) := by decide +kernel
theorem d_Engine_test_15 : decode b_Engine_test 15 = .ok (.invokestatic 56, 3) := by decide +kernel
theorem d_Engine_test_18 : decode b_Engine_test 18 = .ok (.ifCond .eq 23, 3) := by decide +kernel
theorem d_Engine_test_21 : decode b_Engine_test 21 = .ok (.iload_n 3, 1) := by decide +kernel
theorem d_Engine_test_22 : decode b_Engine_test 22 = .ok (.iconst 1, 1) := by decide +kernel
theorem d_Engine_test_23 : decode b_Engine_test 23 = .ok (.iconst 3, 1) := by decide +kernel
theorem d_Engine_test_24 : decode b_Engine_test 24 = .ok (.invokestatic 56, 3) := by decide +kernel
theorem d_Engine_test_27 : decode b_Engine_test 27 = .ok (.ifCond .eq 14, 3) := by decide +kernel
theorem d_Engine_test_30 : decode b_Engine_test 30 = .ok (.iload 4, 2) := by decide +kernel
theorem d_Engine_test_32 : decode b_Engine_test 32 = .ok (.iconst 1, 1) := by decide +kernel
theorem d_Engine_test_33 : decode b_Engine_test 33 = .ok (.bipush 50, 2) := by decide +kernel
theorem d_Engine_test_35 : decode b_Engine_test 35 = .ok (.invokestatic 56, 3) := by decide +kernel
theorem d_Engine_test_38 : decode b_Engine_test 38 = .ok (.ifCond .ne 5, 3) := by decide +kernel
theorem d_Engine_test_41 : decode b_Engine_test 41 = .ok (.iconst (-1), 1) := by decide +kernel
theorem d_Engine_test_42 : decode b_Engine_test 42 = .ok (.ireturn, 1) := by decide +kernel
theorem d_Engine_test_43 : decode b_Engine_test 43 = .ok (.aload_n 0, 1) := by decide +kernel
theorem d_Engine_test_44 : decode b_Engine_test 44 = .ok (.getfield 12, 3) := by decide +kernel
theorem d_Engine_test_47 : decode b_Engine_test 47 = .ok (.invokevirtual 60, 3) := by decide +kernel
theorem d_Engine_test_50 : decode b_Engine_test 50 = .ok (.ifCond .eq 6, 3) := by decide +kernel
theorem d_Engine_test_53 : decode b_Engine_test 53 = .ok (.bipush (-2), 2) := by decide +kernel
theorem d_Engine_test_55 : decode b_Engine_test 55 = .ok (.ireturn, 1) := by decide +kernel
theorem d_Engine_test_56 : decode b_Engine_test 56 = .ok (.aload_n 0, 1) := by decide +kernel
theorem d_Engine_test_57 : decode b_Engine_test 57 = .ok (.getfield 12, 3) := by decide +kernel
theorem d_Engine_test_60 : decode b_Engine_test 60 = .ok (.iload_n 1, 1) := by decide +kernel
theorem d_Engine_test_61 : decode b_Engine_test 61 = .ok (.iload_n 2, 1) := by decide +kernel
theorem d_Engine_test_62 : decode b_Engine_test 62 = .ok (.iload_n 3, 1) := by decide +kernel
theorem d_Engine_test_63 : decode b_Engine_test 63 = .ok (.iload 4, 2) := by decide +kernel
theorem d_Engine_test_65 : decode b_Engine_test 65 = .ok (.invokevirtual 68, 3) := by decide +kernel
theorem d_Engine_test_68 : decode b_Engine_test 68 = .ok (.istore 5, 2) := by decide +kernel
theorem d_Engine_test_70 : decode b_Engine_test 70 = .ok (.aload_n 0, 1) := by decide +kernel
theorem d_Engine_test_71 : decode b_Engine_test 71 = .ok (.getfield 19, 3) := by decide +kernel
theorem d_Engine_test_74 : decode b_Engine_test 74 = .ok (.iload 5, 2) := by decide +kernel
theorem d_Engine_test_76 : decode b_Engine_test 76 = .ok (.iload_n 3, 1) := by decide +kernel
theorem d_Engine_test_77 : decode b_Engine_test 77 = .ok (.invokevirtual 72, 3) := by decide +kernel
theorem d_Engine_test_80 : decode b_Engine_test 80 = .ok (.iload 5, 2) := by decide +kernel
theorem d_Engine_test_82 : decode b_Engine_test 82 = .ok (.ireturn, 1) := by decide +kernel
theorem d_Engine_mark_0 : decode b_Engine_mark 0 = .ok (.aload_n 0, 1) := by decide +kernel
theorem d_Engine_mark_1 : decode b_Engine_mark 1 = .ok (.getfield 12, 3) := by decide +kernel
theorem d_Engine_mark_4 : decode b_Engine_mark 4 = .ok (.iload_n 1, 1) := by decide +kernel
theorem d_Engine_mark_5 : decode b_Engine_mark 5 = .ok (.invokevirtual 76, 3) := by decide +kernel
theorem d_Engine_mark_8 : decode b_Engine_mark 8 = .ok (.ifCond .eq 14, 3) := by decide +kernel
theorem d_Engine_mark_11 : decode b_Engine_mark 11 = .ok (.iload_n 2, 1) := by decide +kernel
theorem d_Engine_mark_12 : decode b_Engine_mark 12 = .ok (.iconst 0, 1) := by decide +kernel
theorem d_Engine_mark_13 : decode b_Engine_mark 13 = .ok (.sipush 255, 3) := by decide +kernel
theorem d_Engine_mark_16 : decode b_Engine_mark 16 = .ok (.invokestatic 56, 3) := by decide +kernel
theorem d_Engine_mark_19 : decode b_Engine_mark 19 = .ok (.ifCond .ne 5, 3) := by decide +kernel
theorem d_Engine_mark_22 : decode b_Engine_mark 22 = .ok (.iconst (-1), 1) := by decide +kernel
theorem d_Engine_mark_23 : decode b_Engine_mark 23 = .ok (.ireturn, 1) := by decide +kernel
theorem d_Engine_mark_24 : decode b_Engine_mark 24 = .ok (.aload_n 0, 1) := by decide +kernel
theorem d_Engine_mark_25 : decode b_Engine_mark 25 = .ok (.getfield 12, 3) := by decide +kernel
theorem d_Engine_mark_28 : decode b_Engine_mark 28 = .ok (.iload_n 1, 1) := by decide +kernel
theorem d_Engine_mark_29 : decode b_Engine_mark 29 = .ok (.iload_n 2, 1) := by decide +kernel
theorem d_Engine_mark_30 : decode b_Engine_mark 30 = .ok (.iload_n 3, 1) := by decide +kernel
theorem d_Engine_mark_31 : decode b_Engine_mark 31 = .ok (.invokevirtual 79, 3) := by decide +kernel
theorem d_Engine_mark_34 : decode b_Engine_mark 34 = .ok (.iconst 0, 1) := by decide +kernel
theorem d_Engine_mark_35 : decode b_Engine_mark 35 = .ok (.ireturn, 1) := by decide +kernel
theorem d_Engine_method_0 : decode b_Engine_method 0 = .ok (.aload_n 0, 1) := by decide +kernel
theorem d_Engine_method_1 : decode b_Engine_method 1 = .ok (.getfield 12, 3) := by decide +kernel
theorem d_Engine_method_4 : decode b_Engine_method 4 = .ok (.iload_n 1, 1) := by decide +kernel
theorem d_Engine_method_5 : decode b_Engine_method 5 = .ok (.iload_n 2, 1) := by decide +kernel
theorem d_Engine_method_6 : decode b_Engine_method 6 = .ok (.invokevirtual 83, 3) := by decide +kernel
theorem d_Engine_method_9 : decode b_Engine_method 9 = .ok (.ifCond .eq 34, 3) := by decide +kernel
theorem d_Engine_method_12 : decode b_Engine_method 12 = .ok (.iload_n 3, 1) := by decide +kernel
theorem d_Engine_method_13 : decode b_Engine_method 13 = .ok (.iconst 0, 1) := by decide +kernel
theorem d_Engine_method_14 : decode b_Engine_method 14 = .ok (.iconst 2, 1) := by decide +kernel
theorem d_Engine_method_15 : decode b_Engine_method 15 = .ok (.invokestatic 56, 3) := by decide +kernel
theorem d_Engine_method_18 : decode b_Engine_method 18 = .ok (.ifCond .eq 25, 3) := by decide +kernel
theorem d_Engine_method_21 : decode b_Engine_method 21 = .ok (.iload 4, 2) := by decide +kernel
theorem d_Engine_method_23 : decode b_Engine_method 23 = .ok (.iconst 0, 1) := by decide +kernel
theorem d_Engine_method_24 : decode b_Engine_method 24 = .ok (.bipush 99, 2) := by decide +kernel
theorem d_Engine_method_26 : decode b_Engine_method 26 = .ok (.invokestatic 56, 3) := by decide +kernel
theorem d_Engine_method_29 : decode b_Engine_method 29 = .ok (.ifCond .eq 14, 3) := by decide +kernel
theorem d_Engine_method_32 : decode b_Engine_method 32 = .ok (.iload 5, 2) := by decide +kernel
theorem d_Engine_method_34 : decode b_Engine_method 34 = .ok (.iconst 0, 1) := by decide +kernel
theorem d_Engine_method_35 : decode b_Engine_method 35 = .ok (.bipush 50, 2) := by decide +kernel
theorem d_Engine_method_37 : decode b_Engine_method 37 = .ok (.invokestatic 56, 3) := by decide +kernel
theorem d_Engine_method_40 : decode b_Engine_method 40 = .ok (.ifCond .ne 5, 3) := by decide +kernel
theorem d_Engine_method_43 : decode b_Engine_method 43 = .ok (.iconst (-1), 1) := by decide +kernel
theorem d_Engine_method_44 : decode b_Engine_method 44 = .ok (.ireturn, 1) := by decide +kernel
theorem d_Engine_method_45 : decode b_Engine_method 45 = .ok (.aload_n 0, 1) := by decide +kernel
theorem d_Engine_method_46 : decode b_Engine_method 46 = .ok (.getfield 19, 3) := by decide +kernel
theorem d_Engine_method_49 : decode b_Engine_method 49 = .ok (.iload_n 1, 1) := by decide +kernel
theorem d_Engine_method_50 : decode b_Engine_method 50 = .ok (.iload_n 2, 1) := by decide +kernel
theorem d_Engine_method_51 : decode b_Engine_method 51 = .ok (.iload_n 3, 1) := by decide +kernel
theorem d_Engine_method_52 : decode b_Engine_method 52 = .ok (.iload 4, 2) := by decide +kernel
theorem d_Engine_method_54 : decode b_Engine_method 54 = .ok (.iload 5, 2) := by decide +kernel
theorem d_Engine_method_56 : decode b_Engine_method 56 = .ok (.invokevirtual 87, 3) := by decide +kernel
theorem d_Engine_method_59 : decode b_Engine_method 59 = .ok (.iconst 0, 1) := by decide +kernel
theorem d_Engine_method_60 : decode b_Engine_method 60 = .ok (.ireturn, 1) := by decide +kernel
theorem d_Engine_without_0 : decode b_Engine_without 0 = .ok (.aload_n 0, 1) := by decide +kernel
theorem d_Engine_without_1 : decode b_Engine_without 1 = .ok (.getfield 12, 3) := by decide +kernel
theorem d_Engine_without_4 : decode b_Engine_without 4 = .ok (.iload_n 1, 1) := by decide +kernel
theorem d_Engine_without_5 : decode b_Engine_without 5 = .ok (.invokevirtual 48, 3) := by decide +kernel
theorem d_Engine_without_8 : decode b_Engine_without 8 = .ok (.ifCond .eq 15, 3) := by decide +kernel
theorem d_Engine_without_11 : decode b_Engine_without 11 = .ok (.aload_n 0, 1) := by decide +kernel
theorem d_Engine_without_12 : decode b_Engine_without 12 = .ok (.getfield 12, 3) := by decide +kernel
theorem d_Engine_without_15 : decode b_Engine_without 15 = .ok (.iload_n 1, 1) := by decide +kernel
theorem d_Engine_without_16 : decode b_Engine_without 16 = .ok (.iload_n 2, 1) := by decide +kernel
theorem d_Engine_without_17 : decode b_Engine_without 17 = .ok (.invokevirtual 83, 3) := by decide +kernel
theorem d_Engine_without_20 : decode b_Engine_without 20 = .ok (.ifCond .ne 5, 3) := by decide +kernel
theorem d_Engine_without_23 : decode b_Engine_without 23 = .ok (.iconst (-1), 1) := by decide +kernel
theorem d_Engine_without_24 : decode b_Engine_without 24 = .ok (.ireturn, 1) := by decide +kernel
theorem d_Engine_without_25 : decode b_Engine_without 25 = .ok (.iload_n 1, 1) := by decide +kernel
theorem d_Engine_without_26 : decode b_Engine_without 26 = .ok (.iload_n 2, 1) := by decide +kernel
theorem d_Engine_without_27 : decode b_Engine_without 27 = .ok (.invokestatic 91, 3) := by decide +kernel
theorem d_Engine_without_30 : decode b_Engine_without 30 = .ok (.istore_n 3, 1) := by decide +kernel
theorem d_Engine_without_31 : decode b_Engine_without 31 = .ok (.aload_n 0, 1) := by decide +kernel
theorem d_Engine_without_32 : decode b_Engine_without 32 = .ok (.getfield 19, 3) := by decide +kernel
theorem d_Engine_without_35 : decode b_Engine_without 35 = .ok (.iload_n 3, 1) := by decide +kernel
theorem d_Engine_without_36 : decode b_Engine_without 36 = .ok (.invokevirtual 95, 3) := by decide +kernel
theorem d_Engine_without_39 : decode b_Engine_without 39 = .ok (.ifCond .ne 5, 3) := by decide +kernel
theorem d_Engine_without_42 : decode b_Engine_without 42 = .ok (.iconst (-1), 1) := by decide +kernel
theorem d_Engine_without_43 : decode b_Engine_without 43 = .ok (.ireturn, 1) := by decide +kernel
theorem d_Engine_without_44 : decode b_Engine_without 44 = .ok (.aload_n 0, 1) := by decide +kernel
theorem d_Engine_without_45 : decode b_Engine_without 45 = .ok (.getfield 19, 3) := by decide +kernel
theorem d_Engine_without_48 : decode b_Engine_without 48 = .ok (.iload_n 3, 1) := by decide +kernel
theorem d_Engine_without_49 : decode b_Engine_without 49 = .ok (.invokevirtual 98, 3) := by decide +kernel
theorem d_Engine_without_52 : decode b_Engine_without 52 = .ok (.iconst 0, 1) := by decide +kernel
theorem d_Engine_without_53 : decode b_Engine_without 53 = .ok (.ireturn, 1) := by decide +kernel
theorem d_Engine_run_0 : decode b_Engine_run 0 = .ok (.iload_n 1, 1) := by decide +kernel
theorem d_Engine_run_1 : decode b_Engine_run 1 = .ok (.iconst 0, 1) := by decide +kernel
theorem d_Engine_run_2 : decode b_Engine_run 2 = .ok (.sipush 255, 3) := by decide +kernel
theorem d_Engine_run_5 : decode b_Engine_run 5 = .ok (.invokestatic 56, 3) := by decide +kernel
theorem d_Engine_run_8 : decode b_Engine_run 8 = .ok (.ifCond .eq 24, 3) := by decide +kernel
theorem d_Engine_run_11 : decode b_Engine_run 11 = .ok (.iload_n 2, 1) := by decide +kernel
theorem d_Engine_run_12 : decode b_Engine_run 12 = .ok (.iconst 0, 1) := by decide +kernel
theorem d_Engine_run_13 : decode b_Engine_run 13 = .ok (.sipush 255, 3) := by decide +kernel
theorem d_Engine_run_16 : decode b_Engine_run 16 = .ok (.invokestatic 56, 3) := by decide +kernel
theorem d_Engine_run_19 : decode b_Engine_run 19 = .ok (.ifCond .eq 13, 3) := by decide +kernel
theorem d_Engine_run_22 : decode b_Engine_run 22 = .ok (.iload_n 3, 1) := by decide +kernel
theorem d_Engine_run_23 : decode b_Engine_run 23 = .ok (.iconst 0, 1) := by decide +kernel
theorem d_Engine_run_24 : decode b_Engine_run 24 = .ok (.bipush 9, 2) := by decide +kernel
theorem d_Engine_run_26 : decode b_Engine_run 26 = .ok (.invokestatic 56, 3) := by decide +kernel
theorem d_Engine_run_29 : decode b_Engine_run 29 = .ok (.ifCond .ne 5, 3) := by decide +kernel
theorem d_Engine_run_32 : decode b_Engine_run 32 = .ok (.iconst (-1), 1) := by decide +kernel
theorem d_Engine_run_33 : decode b_Engine_run 33 = .ok (.ireturn, 1) := by decide +kernel
theorem d_Engine_run_34 : decode b_Engine_run 34 = .ok (.aload_n 0, 1) := by decide +kernel
theorem d_Engine_run_35 : decode b_Engine_run 35 = .ok (.getfield 28, 3) := by decide +kernel
theorem d_Engine_run_38 : decode b_Engine_run 38 = .ok (.iload_n 1, 1) := by decide +kernel
theorem d_Engine_run_39 : decode b_Engine_run 39 = .ok (.iload_n 2, 1) := by decide +kernel
theorem d_Engine_run_40 : decode b_Engine_run 40 = .ok (.invokevirtual 102, 3) := by decide +kernel
theorem d_Engine_run_43 : decode b_Engine_run 43 = .ok (.aload_n 0, 1) := by decide +kernel
theorem d_Engine_run_44 : decode b_Engine_run 44 = .ok (.getfield 35, 3) := by decide +kernel
theorem d_Engine_run_47 : decode b_Engine_run 47 = .ok (.invokevirtual 105, 3) := by decide +kernel
theorem d_Engine_run_50 : decode b_Engine_run 50 = .ok (.aload_n 0, 1) := by decide +kernel
theorem d_Engine_run_51 : decode b_Engine_run 51 = .ok (.getfield 44, 3) := by decide +kernel
theorem d_Engine_run_54 : decode b_Engine_run 54 = .ok (.iload_n 3, 1) := by decide +kernel
theorem d_Engine_run_55 : decode b_Engine_run 55 = .ok (.invokevirtual 108, 3) := by decide +kernel
theorem d_Engine_run_58 : decode b_Engine_run 58 = .ok (.aload_n 0, 1) := by decide +kernel
theorem d_Engine_run_59 : decode b_Engine_run 59 = .ok (.getfield 44, 3) := by decide +kernel
theorem d_Engine_run_62 : decode b_Engine_run 62 = .ok (.iconst 0, 1) := by decide +kernel
theorem d_Engine_run_63 : decode b_Engine_run 63 = .ok (.iconst 0, 1) := by decide +kernel
theorem d_Engine_run_64 : decode b_Engine_run 64 = .ok (.invokevirtual 111, 3) := by decide +kernel
theorem d_Engine_run_67 : decode b_Engine_run 67 = .ok (.aload_n 0, 1) := by decide +kernel
theorem d_Engine_run_68 : decode b_Engine_run 68 = .ok (.getfield 35, 3) := by decide +kernel
theorem d_Engine_run_71 : decode b_Engine_run 71 = .ok (.invokevirtual 114, 3) := by decide +kernel
theorem d_Engine_run_74 : decode b_Engine_run 74 = .ok (.ifCond .eq 7, 3) := by decide +kernel
theorem d_Engine_run_77 : decode b_Engine_run 77 = .ok (.iconst 1, 1) := by decide +kernel
theorem d_Engine_run_78 : decode b_Engine_run 78 = .ok (.goto 4, 3) := by decide +kernel
theorem d_Engine_run_81 : decode b_Engine_run 81 = .ok (.iconst 0, 1) := by decide +kernel
theorem d_Engine_run_82 : decode b_Engine_run 82 = .ok (.ireturn, 1) := by decide +kernel
theorem d_Engine_event_0 : decode b_Engine_event 0 = .ok (.aload_n 0, 1) := by decide +kernel
theorem d_Engine_event_1 : decode b_Engine_event 1 = .ok (.getfield 35, 3) := by decide +kernel
theorem d_Engine_event_4 : decode b_Engine_event 4 = .ok (.iload_n 1, 1) := by decide +kernel
theorem d_Engine_event_5 : decode b_Engine_event 5 = .ok (.iload_n 2, 1) := by decide +kernel
theorem d_Engine_event_6 : decode b_Engine_event 6 = .ok (.invokevirtual 117, 3) := by decide +kernel
theorem d_Engine_event_9 : decode b_Engine_event 9 = .ok (.ireturn, 1) := by decide +kernel
theorem d_Engine_trouble_0 : decode b_Engine_trouble 0 = .ok (.aload_n 0, 1) := by decide +kernel
theorem d_Engine_trouble_1 : decode b_Engine_trouble 1 = .ok (.getfield 35, 3) := by decide +kernel
theorem d_Engine_trouble_4 : decode b_Engine_trouble 4 = .ok (.iload_n 1, 1) := by decide +kernel
theorem d_Engine_trouble_5 : decode b_Engine_trouble 5 = .ok (.iload_n 2, 1) := by decide +kernel
theorem d_Engine_trouble_6 : decode b_Engine_trouble 6 = .ok (.invokevirtual 120, 3) := by decide +kernel
theorem d_Engine_trouble_9 : decode b_Engine_trouble 9 = .ok (.ireturn, 1) := by decide +kernel
theorem d_Engine_count_0 : decode b_Engine_count 0 = .ok (.iload_n 1, 1) := by decide +kernel
theorem d_Engine_count_1 : decode b_Engine_count 1 = .ok (.tableswitch 150 0 10 #[59, 67, 75, 84, 93, 102, 110, 118, 126, 134, 142], 59) := by decide +kernel
theorem d_Engine_count_60 : decode b_Engine_count 60 = .ok (.aload_n 0, 1) := by decide +kernel
theorem d_Engine_count_61 : decode b_Engine_count 61 = .ok (.getfield 12, 3) := by decide +kernel
theorem d_Engine_count_64 : decode b_Engine_count 64 = .ok (.invokevirtual 123, 3) := by decide +kernel
theorem d_Engine_count_67 : decode b_Engine_count 67 = .ok (.ireturn, 1) := by decide +kernel
theorem d_Engine_count_68 : decode b_Engine_count 68 = .ok (.aload_n 0, 1) := by decide +kernel
theorem d_Engine_count_69 : decode b_Engine_count 69 = .ok (.getfield 35, 3) := by decide +kernel
theorem d_Engine_count_72 : decode b_Engine_count 72 = .ok (.invokevirtual 127, 3) := by decide +kernel
theorem d_Engine_count_75 : decode b_Engine_count 75 = .ok (.ireturn, 1) := by decide +kernel
theorem d_Engine_count_76 : decode b_Engine_count 76 = .ok (.aload_n 0, 1) := by decide +kernel
theorem d_Engine_count_77 : decode b_Engine_count 77 = .ok (.getfield 35, 3) := by decide +kernel
theorem d_Engine_count_80 : decode b_Engine_count 80 = .ok (.iconst 0, 1) := by decide +kernel
theorem d_Engine_count_81 : decode b_Engine_count 81 = .ok (.invokevirtual 130, 3) := by decide +kernel
theorem d_Engine_count_84 : decode b_Engine_count 84 = .ok (.ireturn, 1) := by decide +kernel
theorem d_Engine_count_85 : decode b_Engine_count 85 = .ok (.aload_n 0, 1) := by decide +kernel
theorem d_Engine_count_86 : decode b_Engine_count 86 = .ok (.getfield 35, 3) := by decide +kernel
theorem d_Engine_count_89 : decode b_Engine_count 89 = .ok (.iconst 1, 1) := by decide +kernel
theorem d_Engine_count_90 : decode b_Engine_count 90 = .ok (.invokevirtual 130, 3) := by decide +kernel
theorem d_Engine_count_93 : decode b_Engine_count 93 = .ok (.ireturn, 1) := by decide +kernel
theorem d_Engine_count_94 : decode b_Engine_count 94 = .ok (.aload_n 0, 1) := by decide +kernel
theorem d_Engine_count_95 : decode b_Engine_count 95 = .ok (.getfield 35, 3) := by decide +kernel
theorem d_Engine_count_98 : decode b_Engine_count 98 = .ok (.iconst 2, 1) := by decide +kernel
theorem d_Engine_count_99 : decode b_Engine_count 99 = .ok (.invokevirtual 130, 3) := by decide +kernel
theorem d_Engine_count_102 : decode b_Engine_count 102 = .ok (.ireturn, 1) := by decide +kernel
theorem d_Engine_count_103 : decode b_Engine_count 103 = .ok (.aload_n 0, 1) := by decide +kernel
theorem d_Engine_count_104 : decode b_Engine_count 104 = .ok (.getfield 35, 3) := by decide +kernel
theorem d_Engine_count_107 : decode b_Engine_count 107 = .ok (.invokevirtual 133, 3) := by decide +kernel
theorem d_Engine_count_110 : decode b_Engine_count 110 = .ok (.ireturn, 1) := by decide +kernel
theorem d_Engine_count_111 : decode b_Engine_count 111 = .ok (.aload_n 0, 1) := by decide +kernel
theorem d_Engine_count_112 : decode b_Engine_count 112 = .ok (.getfield 35, 3) := by decide +kernel
theorem d_Engine_count_115 : decode b_Engine_count 115 = .ok (.invokevirtual 136, 3) := by decide +kernel
theorem d_Engine_count_118 : decode b_Engine_count 118 = .ok (.ireturn, 1) := by decide +kernel
theorem d_Engine_count_119 : decode b_Engine_count 119 = .ok (.aload_n 0, 1) := by decide +kernel
theorem d_Engine_count_120 : decode b_Engine_count 120 = .ok (.getfield 44, 3) := by decide +kernel
theorem d_Engine_count_123 : decode b_Engine_count 123 = .ok (.invokevirtual 139, 3) := by decide +kernel
theorem d_Engine_count_126 : decode b_Engine_count 126 = .ok (.ireturn, 1) := by decide +kernel
theorem d_Engine_count_127 : decode b_Engine_count 127 = .ok (.aload_n 0, 1) := by decide +kernel
theorem d_Engine_count_128 : decode b_Engine_count 128 = .ok (.getfield 44, 3) := by decide +kernel
theorem d_Engine_count_131 : decode b_Engine_count 131 = .ok (.invokevirtual 142, 3) := by decide +kernel
theorem d_Engine_count_134 : decode b_Engine_count 134 = .ok (.ireturn, 1) := by decide +kernel
theorem d_Engine_count_135 : decode b_Engine_count 135 = .ok (.aload_n 0, 1) := by decide +kernel
theorem d_Engine_count_136 : decode b_Engine_count 136 = .ok (.getfield 44, 3) := by decide +kernel
theorem d_Engine_count_139 : decode b_Engine_count 139 = .ok (.invokevirtual 145, 3) := by decide +kernel
theorem d_Engine_count_142 : decode b_Engine_count 142 = .ok (.ireturn, 1) := by decide +kernel
theorem d_Engine_count_143 : decode b_Engine_count 143 = .ok (.aload_n 0, 1) := by decide +kernel
theorem d_Engine_count_144 : decode b_Engine_count 144 = .ok (.getfield 28, 3) := by decide +kernel
theorem d_Engine_count_147 : decode b_Engine_count 147 = .ok (.invokevirtual 148, 3) := by decide +kernel
theorem d_Engine_count_150 : decode b_Engine_count 150 = .ok (.ireturn, 1) := by decide +kernel
theorem d_Engine_count_151 : decode b_Engine_count 151 = .ok (.sipush (-1000), 3) := by decide +kernel
theorem d_Engine_count_154 : decode b_Engine_count 154 = .ok (.ireturn, 1) := by decide +kernel
theorem d_Engine_isWithin_0 : decode b_Engine_isWithin 0 = .ok (.iload_n 1, 1) := by decide +kernel
theorem d_Engine_isWithin_1 : decode b_Engine_isWithin 1 = .ok (.iload_n 0, 1) := by decide +kernel
theorem d_Engine_isWithin_2 : decode b_Engine_isWithin 2 = .ok (.if_icmp .gt 12, 3) := by decide +kernel
theorem d_Engine_isWithin_5 : decode b_Engine_isWithin 5 = .ok (.iload_n 0, 1) := by decide +kernel
theorem d_Engine_isWithin_6 : decode b_Engine_isWithin 6 = .ok (.iload_n 2, 1) := by decide +kernel
theorem d_Engine_isWithin_7 : decode b_Engine_isWithin 7 = .ok (.if_icmp .gt 7, 3) := by decide +kernel
theorem d_Engine_isWithin_10 : decode b_Engine_isWithin 10 = .ok (.iconst 1, 1) := by decide +kernel
theorem d_Engine_isWithin_11 : decode b_Engine_isWithin 11 = .ok (.goto 4, 3) := by decide +kernel
theorem d_Engine_isWithin_14 : decode b_Engine_isWithin 14 = .ok (.iconst 0, 1) := by decide +kernel
theorem d_Engine_isWithin_15 : decode b_Engine_isWithin 15 = .ok (.ireturn, 1) := by decide +kernel
theorem d_Model_init_0 : decode b_Model_init 0 = .ok (.aload_n 0, 1) := by decide +kernel
theorem d_Model_init_1 : decode b_Model_init 1 = .ok (.invokespecial 1, 3) := by decide +kernel
theorem d_Model_init_4 : decode b_Model_init 4 = .ok (.aload_n 0, 1) := by decide +kernel
theorem d_Model_init_5 : decode b_Model_init 5 = .ok (.bipush 24, 2) := by decide +kernel
theorem d_Model_init_7 : decode b_Model_init 7 = .ok (.newarray .int, 2) := by decide +kernel
theorem d_Model_init_9 : decode b_Model_init 9 = .ok (.putfield 7, 3) := by decide +kernel
theorem d_Model_init_12 : decode b_Model_init 12 = .ok (.aload_n 0, 1) := by decide +kernel
theorem d_Model_init_13 : decode b_Model_init 13 = .ok (.bipush 24, 2) := by decide +kernel
theorem d_Model_init_15 : decode b_Model_init 15 = .ok (.newarray .int, 2) := by decide +kernel
theorem d_Model_init_17 : decode b_Model_init 17 = .ok (.putfield 13, 3) := by decide +kernel
theorem d_Model_init_20 : decode b_Model_init 20 = .ok (.aload_n 0, 1) := by decide +kernel
theorem d_Model_init_21 : decode b_Model_init 21 = .ok (.bipush 24, 2) := by decide +kernel
theorem d_Model_init_23 : decode b_Model_init 23 = .ok (.newarray .int, 2) := by decide +kernel
theorem d_Model_init_25 : decode b_Model_init 25 = .ok (.putfield 16, 3) := by decide +kernel
theorem d_Model_init_28 : decode b_Model_init 28 = .ok (.aload_n 0, 1) := by decide +kernel
theorem d_Model_init_29 : decode b_Model_init 29 = .ok (.bipush 24, 2) := by decide +kernel
theorem d_Model_init_31 : decode b_Model_init 31 = .ok (.newarray .int, 2) := by decide +kernel
theorem d_Model_init_33 : decode b_Model_init 33 = .ok (.putfield 19, 3) := by decide +kernel
theorem d_Model_init_36 : decode b_Model_init 36 = .ok (.aload_n 0, 1) := by decide +kernel
theorem d_Model_init_37 : decode b_Model_init 37 = .ok (.bipush 24, 2) := by decide +kernel
theorem d_Model_init_39 : decode b_Model_init 39 = .ok (.newarray .int, 2) := by decide +kernel
theorem d_Model_init_41 : decode b_Model_init 41 = .ok (.putfield 22, 3) := by decide +kernel
theorem d_Model_init_44 : decode b_Model_init 44 = .ok (.aload_n 0, 1) := by decide +kernel
theorem d_Model_init_45 : decode b_Model_init 45 = .ok (.bipush 24, 2) := by decide +kernel
theorem d_Model_init_47 : decode b_Model_init 47 = .ok (.newarray .boolean, 2) := by decide +kernel
theorem d_Model_init_49 : decode b_Model_init 49 = .ok (.putfield 25, 3) := by decide +kernel
theorem d_Model_init_52 : decode b_Model_init 52 = .ok (.aload_n 0, 1) := by decide +kernel
theorem d_Model_init_53 : decode b_Model_init 53 = .ok (.bipush 24, 2) := by decide +kernel
theorem d_Model_init_55 : decode b_Model_init 55 = .ok (.newarray .boolean, 2) := by decide +kernel
theorem d_Model_init_57 : decode b_Model_init 57 = .ok (.putfield 29, 3) := by decide +kernel
theorem d_Model_init_60 : decode b_Model_init 60 = .ok (.aload_n 0, 1) := by decide +kernel
theorem d_Model_init_61 : decode b_Model_init 61 = .ok (.bipush 24, 2) := by decide +kernel
theorem d_Model_init_63 : decode b_Model_init 63 = .ok (.newarray .boolean, 2) := by decide +kernel
theorem d_Model_init_65 : decode b_Model_init 65 = .ok (.putfield 32, 3) := by decide +kernel
theorem d_Model_init_68 : decode b_Model_init 68 = .ok (.aload_n 0, 1) := by decide +kernel
theorem d_Model_init_69 : decode b_Model_init 69 = .ok (.sipush 168, 3) := by decide +kernel
theorem d_Model_init_72 : decode b_Model_init 72 = .ok (.newarray .boolean, 2) := by decide +kernel
theorem d_Model_init_74 : decode b_Model_init 74 = .ok (.putfield 35, 3) := by decide +kernel
theorem d_Model_init_77 : decode b_Model_init 77 = .ok (.aload_n 0, 1) := by decide +kernel
theorem d_Model_init_78 : decode b_Model_init 78 = .ok (.sipush 168, 3) := by decide +kernel
theorem d_Model_init_81 : decode b_Model_init 81 = .ok (.newarray .int, 2) := by decide +kernel
theorem d_Model_init_83 : decode b_Model_init 83 = .ok (.putfield 38, 3) := by decide +kernel
theorem d_Model_init_86 : decode b_Model_init 86 = .ok (.aload_n 0, 1) := by decide +kernel
theorem d_Model_init_87 : decode b_Model_init 87 = .ok (.sipush 168, 3) := by decide +kernel
theorem d_Model_init_90 : decode b_Model_init 90 = .ok (.newarray .int, 2) := by decide +kernel
theorem d_Model_init_92 : decode b_Model_init 92 = .ok (.putfield 41, 3) := by decide +kernel
theorem d_Model_init_95 : decode b_Model_init 95 = .ok (.aload_n 0, 1) := by decide +kernel
theorem d_Model_init_96 : decode b_Model_init 96 = .ok (.sipush 168, 3) := by decide +kernel
theorem d_Model_init_99 : decode b_Model_init 99 = .ok (.newarray .int, 2) := by decide +kernel
theorem d_Model_init_101 : decode b_Model_init 101 = .ok (.putfield 44, 3) := by decide +kernel
theorem d_Model_init_104 : decode b_Model_init 104 = .ok (.aload_n 0, 1) := by decide +kernel
theorem d_Model_init_105 : decode b_Model_init 105 = .ok (.iconst 1, 1) := by decide +kernel
theorem d_Model_init_106 : decode b_Model_init 106 = .ok (.putfield 47, 3) := by decide +kernel
theorem d_Model_init_109 : decode b_Model_init 109 = .ok (.aload_n 0, 1) := by decide +kernel
theorem d_Model_init_110 : decode b_Model_init 110 = .ok (.iconst 5, 1) := by decide +kernel
theorem d_Model_init_111 : decode b_Model_init 111 = .ok (.newarray .int, 2) := by decide +kernel
theorem d_Model_init_113 : decode b_Model_init 113 = .ok (.putfield 51, 3) := by decide +kernel
theorem d_Model_init_116 : decode b_Model_init 116 = .ok (.aload_n 0, 1) := by decide +kernel
theorem d_Model_init_117 : decode b_Model_init 117 = .ok (.iconst 5, 1) := by decide +kernel
theorem d_Model_init_118 : decode b_Model_init 118 = .ok (.newarray .int, 2) := by decide +kernel
theorem d_Model_init_120 : decode b_Model_init 120 = .ok (.putfield 54, 3) := by decide +kernel
theorem d_Model_init_123 : decode b_Model_init 123 = .ok (.aload_n 0, 1) := by decide +kernel
theorem d_Model_init_124 : decode b_Model_init 124 = .ok (.bipush 24, 2) := by decide +kernel
theorem d_Model_init_126 : decode b_Model_init 126 = .ok (.newarray .int, 2) := by decide +kernel
theorem d_Model_init_128 : decode b_Model_init 128 = .ok (.putfield 57, 3) := by decide +kernel
theorem d_Model_init_131 : decode b_Model_init 131 = .ok (.aload_n 0, 1) := by decide +kernel
theorem d_Model_init_132 : decode b_Model_init 132 = .ok (.bipush 20, 2) := by decide +kernel
theorem d_Model_init_134 : decode b_Model_init 134 = .ok (.newarray .int, 2) := by decide +kernel
theorem d_Model_init_136 : decode b_Model_init 136 = .ok (.putfield 60, 3) := by decide +kernel
theorem d_Model_init_139 : decode b_Model_init 139 = .ok (.aload_n 0, 1) := by decide +kernel
theorem d_Model_init_140 : decode b_Model_init 140 = .ok (.bipush 20, 2) := by decide +kernel
theorem d_Model_init_142 : decode b_Model_init 142 = .ok (.newarray .int, 2) := by decide +kernel
theorem d_Model_init_144 : decode b_Model_init 144 = .ok (.putfield 63, 3) := by decide +kernel
theorem d_Model_init_147 : decode b_Model_init 147 = .ok (.aload_n 0, 1) := by decide +kernel
theorem d_Model_init_148 : decode b_Model_init 148 = .ok (.iconst 5, 1) := by decide +kernel
theorem d_Model_init_149 : decode b_Model_init 149 = .ok (.newarray .int, 2) := by decide +kernel
theorem d_Model_init_151 : decode b_Model_init 151 = .ok (.putfield 66, 3) := by decide +kernel
theorem d_Model_init_154 : decode b_Model_init 154 = .ok (.aload_n 0, 1) := by decide +kernel
theorem d_Model_init_155 : decode b_Model_init 155 = .ok (.sipush 1200, 3) := by decide +kernel
theorem d_Model_init_158 : decode b_Model_init 158 = .ok (.newarray .int, 2) := by decide +kernel
theorem d_Model_init_160 : decode b_Model_init 160 = .ok (.putfield 69, 3) := by decide +kernel
theorem d_Model_init_163 : decode b_Model_init 163 = .ok (.aload_n 0, 1) := by decide +kernel
theorem d_Model_init_164 : decode b_Model_init 164 = .ok (.sipush 600, 3) := by decide +kernel
theorem d_Model_init_167 : decode b_Model_init 167 = .ok (.newarray .int, 2) := by decide +kernel
theorem d_Model_init_169 : decode b_Model_init 169 = .ok (.putfield 72, 3) := by decide +kernel
theorem d_Model_init_172 : decode b_Model_init 172 = .ok (.aload_n 0, 1) := by decide +kernel
theorem d_Model_init_173 : decode b_Model_init 173 = .ok (.getfield 7, 3) := by decide +kernel
theorem d_Model_init_176 : decode b_Model_init 176 = .ok (.iconst 0, 1) := by decide +kernel
theorem d_Model_init_177 : decode b_Model_init 177 = .ok (.iconst (-1), 1) := by decide +kernel
theorem d_Model_init_178 : decode b_Model_init 178 = .ok (.iastore, 1) := by decide +kernel
theorem d_Model_init_179 : decode b_Model_init 179 = .ok (.return_, 1) := by decide +kernel
theorem d_Model_isNode_0 : decode b_Model_isNode 0 = .ok (.iload_n 1, 1) := by decide +kernel
theorem d_Model_isNode_1 : decode b_Model_isNode 1 = .ok (.ifCond .lt 15, 3) := by decide +kernel
theorem d_Model_isNode_4 : decode b_Model_isNode 4 = .ok (.iload_n 1, 1) := by decide +kernel
theorem d_Model_isNode_5 : decode b_Model_isNode 5 = .ok (.aload_n 0, 1) := by decide +kernel
theorem d_Model_isNode_6 : decode b_Model_isNode 6 = .ok (.getfield 47, 3) := by decide +kernel
theorem d_Model_isNode_9 : decode b_Model_isNode 9 = .ok (.if_icmp .ge 7, 3) := by decide +kernel
theorem d_Model_isNode_12 : decode b_Model_isNode 12 = .ok (.iconst 1, 1) := by decide +kernel
theorem d_Model_isNode_13 : decode b_Model_isNode 13 = .ok (.goto 4, 3) := by decide +kernel
theorem d_Model_isNode_16 : decode b_Model_isNode 16 = .ok (.iconst 0, 1) := by decide +kernel
theorem d_Model_isNode_17 : decode b_Model_isNode 17 = .ok (.ireturn, 1) := by decide +kernel
theorem d_Model_isContainer_0 : decode b_Model_isContainer 0 = .ok (.aload_n 0, 1) := by decide +kernel
theorem d_Model_isContainer_1 : decode b_Model_isContainer 1 = .ok (.iload_n 1, 1) := by decide +kernel
theorem d_Model_isContainer_2 : decode b_Model_isContainer 2 = .ok (.invokevirtual 75, 3) := by decide +kernel
theorem d_Model_isContainer_5 : decode b_Model_isContainer 5 = .ok (.ifCond .eq 16, 3) := by decide +kernel
theorem d_Model_isContainer_8 : decode b_Model_isContainer 8 = .ok (.aload_n 0, 1) := by decide +kernel
theorem d_Model_isContainer_9 : decode b_Model_isContainer 9 = .ok (.getfield 16, 3) := by decide +kernel
theorem d_Model_isContainer_12 : decode b_Model_isContainer 12 = .ok (.iload_n 1, 1) := by decide +kernel
theorem d_Model_isContainer_13 : decode b_Model_isContainer 13 = .ok (.iaload, 1) := by decide +kernel
theorem d_Model_isContainer_14 : decode b_Model_isContainer 14 = .ok (.ifCond .ne 7, 3) := by decide +kernel
theorem d_Model_isContainer_17 : decode b_Model_isContainer 17 = .ok (.iconst 1, 1) := by decide +kernel
theorem d_Model_isContainer_18 : decode b_Model_isContainer 18 = .ok (.goto 4, 3) := by decide +kernel
theorem d_Model_isContainer_21 : decode b_Model_isContainer 21 = .ok (.iconst 0, 1) := by decide +kernel
theorem d_Model_isContainer_22 : decode b_Model_isContainer 22 = .ok (.ireturn, 1) := by decide +kernel
theorem d_Model_depth_0 : decode b_Model_depth 0 = .ok (.iconst 0, 1) := by decide +kernel
theorem d_Model_depth_1 : decode b_Model_depth 1 = .ok (.istore_n 2, 1) := by decide +kernel
theorem d_Model_depth_2 : decode b_Model_depth 2 = .ok (.iload_n 1, 1) := by decide +kernel
theorem d_Model_depth_3 : decode b_Model_depth 3 = .ok (.istore_n 3, 1) := by decide +kernel
theorem d_Model_depth_4 : decode b_Model_depth 4 = .ok (.aload_n 0, 1) := by decide +kernel
theorem d_Model_depth_5 : decode b_Model_depth 5 = .ok (.getfield 7, 3) := by decide +kernel
theorem d_Model_depth_8 : decode b_Model_depth 8 = .ok (.iload_n 3, 1) := by decide +kernel
theorem d_Model_depth_9 : decode b_Model_depth 9 = .ok (.iaload, 1) := by decide +kernel
theorem d_Model_depth_10 : decode b_Model_depth 10 = .ok (.ifCond .lt 16, 3) := by decide +kernel
theorem d_Model_depth_13 : decode b_Model_depth 13 = .ok (.iinc 2 1, 3) := by decide +kernel
theorem d_Model_depth_16 : decode b_Model_depth 16 = .ok (.aload_n 0, 1) := by decide +kernel
theorem d_Model_depth_17 : decode b_Model_depth 17 = .ok (.getfield 7, 3) := by decide +kernel
theorem d_Model_depth_20 : decode b_Model_depth 20 = .ok (.iload_n 3, 1) := by decide +kernel
theorem d_Model_depth_21 : decode b_Model_depth 21 = .ok (.iaload, 1) := by decide +kernel
theorem d_Model_depth_22 : decode b_Model_depth 22 = .ok (.istore_n 3, 1) := by decide +kernel
