theorem d_Model_depth_23 : decode b_Model_depth 23 = .ok (.goto (-19), 3) := by decide +kernel
theorem d_Model_depth_26 : decode b_Model_depth 26 = .ok (.iload_n 2, 1) := by decide +kernel
theorem d_Model_depth_27 : decode b_Model_depth 27 = .ok (.ireturn, 1) := by decide +kernel
theorem d_Model_add_0 : decode b_Model_add 0 = .ok (.aload_n 0, 1) := by decide +kernel
theorem d_Model_add_1 : decode b_Model_add 1 = .ok (.getfield 47, 3) := by decide +kernel
theorem d_Model_add_4 : decode b_Model_add 4 = .ok (.bipush 24, 2) := by decide +kernel
theorem d_Model_add_6 : decode b_Model_add 6 = .ok (.if_icmp .ne 6, 3) := by decide +kernel
theorem d_Model_add_9 : decode b_Model_add 9 = .ok (.bipush (-2), 2) := by decide +kernel
theorem d_Model_add_11 : decode b_Model_add 11 = .ok (.ireturn, 1) := by decide +kernel
theorem d_Model_add_12 : decode b_Model_add 12 = .ok (.aload_n 0, 1) := by decide +kernel
theorem d_Model_add_13 : decode b_Model_add 13 = .ok (.getfield 7, 3) := by decide +kernel
theorem d_Model_add_16 : decode b_Model_add 16 = .ok (.aload_n 0, 1) := by decide +kernel
theorem d_Model_add_17 : decode b_Model_add 17 = .ok (.getfield 47, 3) := by decide +kernel
theorem d_Model_add_20 : decode b_Model_add 20 = .ok (.iload_n 1, 1) := by decide +kernel
theorem d_Model_add_21 : decode b_Model_add 21 = .ok (.iastore, 1) := by decide +kernel
theorem d_Model_add_22 : decode b_Model_add 22 = .ok (.aload_n 0, 1) := by decide +kernel
theorem d_Model_add_23 : decode b_Model_add 23 = .ok (.getfield 13, 3) := by decide +kernel
theorem d_Model_add_26 : decode b_Model_add 26 = .ok (.aload_n 0, 1) := by decide +kernel
theorem d_Model_add_27 : decode b_Model_add 27 = .ok (.getfield 47, 3) := by decide +kernel
theorem d_Model_add_30 : decode b_Model_add 30 = .ok (.iload_n 2, 1) := by decide +kernel
theorem d_Model_add_31 : decode b_Model_add 31 = .ok (.iastore, 1) := by decide +kernel
theorem d_Model_add_32 : decode b_Model_add 32 = .ok (.aload_n 0, 1) := by decide +kernel
theorem d_Model_add_33 : decode b_Model_add 33 = .ok (.getfield 16, 3) := by decide +kernel
theorem d_Model_add_36 : decode b_Model_add 36 = .ok (.aload_n 0, 1) := by decide +kernel
theorem d_Model_add_37 : decode b_Model_add 37 = .ok (.getfield 47, 3) := by decide +kernel
theorem d_Model_add_40 : decode b_Model_add 40 = .ok (.iload_n 3, 1) := by decide +kernel
theorem d_Model_add_41 : decode b_Model_add 41 = .ok (.iastore, 1) := by decide +kernel
theorem d_Model_add_42 : decode b_Model_add 42 = .ok (.aload_n 0, 1) := by decide +kernel
theorem d_Model_add_43 : decode b_Model_add 43 = .ok (.getfield 19, 3) := by decide +kernel
theorem d_Model_add_46 : decode b_Model_add 46 = .ok (.aload_n 0, 1) := by decide +kernel
theorem d_Model_add_47 : decode b_Model_add 47 = .ok (.getfield 47, 3) := by decide +kernel
theorem d_Model_add_50 : decode b_Model_add 50 = .ok (.iload 4, 2) := by decide +kernel
theorem d_Model_add_52 : decode b_Model_add 52 = .ok (.iastore, 1) := by decide +kernel
theorem d_Model_add_53 : decode b_Model_add 53 = .ok (.aload_n 0, 1) := by decide +kernel
theorem d_Model_add_54 : decode b_Model_add 54 = .ok (.getfield 25, 3) := by decide +kernel
theorem d_Model_add_57 : decode b_Model_add 57 = .ok (.aload_n 0, 1) := by decide +kernel
theorem d_Model_add_58 : decode b_Model_add 58 = .ok (.getfield 47, 3) := by decide +kernel
theorem d_Model_add_61 : decode b_Model_add 61 = .ok (.iload 5, 2) := by decide +kernel
theorem d_Model_add_63 : decode b_Model_add 63 = .ok (.bastore, 1) := by decide +kernel
theorem d_Model_add_64 : decode b_Model_add 64 = .ok (.iconst 0, 1) := by decide +kernel
theorem d_Model_add_65 : decode b_Model_add 65 = .ok (.istore 6, 2) := by decide +kernel
theorem d_Model_add_67 : decode b_Model_add 67 = .ok (.iload 6, 2) := by decide +kernel
theorem d_Model_add_69 : decode b_Model_add 69 = .ok (.iload_n 3, 1) := by decide +kernel
theorem d_Model_add_70 : decode b_Model_add 70 = .ok (.if_icmp .ge 27, 3) := by decide +kernel
theorem d_Model_add_73 : decode b_Model_add 73 = .ok (.aload_n 0, 1) := by decide +kernel
theorem d_Model_add_74 : decode b_Model_add 74 = .ok (.getfield 35, 3) := by decide +kernel
theorem d_Model_add_77 : decode b_Model_add 77 = .ok (.aload_n 0, 1) := by decide +kernel
theorem d_Model_add_78 : decode b_Model_add 78 = .ok (.getfield 47, 3) := by decide +kernel
theorem d_Model_add_81 : decode b_Model_add 81 = .ok (.bipush 7, 2) := by decide +kernel
theorem d_Model_add_83 : decode b_Model_add 83 = .ok (.imul, 1) := by decide +kernel
theorem d_Model_add_84 : decode b_Model_add 84 = .ok (.iconst 4, 1) := by decide +kernel
theorem d_Model_add_85 : decode b_Model_add 85 = .ok (.iadd, 1) := by decide +kernel
theorem d_Model_add_86 : decode b_Model_add 86 = .ok (.iload 6, 2) := by decide +kernel
theorem d_Model_add_88 : decode b_Model_add 88 = .ok (.iadd, 1) := by decide +kernel
theorem d_Model_add_89 : decode b_Model_add 89 = .ok (.iconst 1, 1) := by decide +kernel
theorem d_Model_add_90 : decode b_Model_add 90 = .ok (.bastore, 1) := by decide +kernel
theorem d_Model_add_91 : decode b_Model_add 91 = .ok (.iinc 6 1, 3) := by decide +kernel
theorem d_Model_add_94 : decode b_Model_add 94 = .ok (.goto (-27), 3) := by decide +kernel
theorem d_Model_add_97 : decode b_Model_add 97 = .ok (.aload_n 0, 1) := by decide +kernel
theorem d_Model_add_98 : decode b_Model_add 98 = .ok (.dup, 1) := by decide +kernel
theorem d_Model_add_99 : decode b_Model_add 99 = .ok (.getfield 47, 3) := by decide +kernel
theorem d_Model_add_102 : decode b_Model_add 102 = .ok (.iconst 1, 1) := by decide +kernel
theorem d_Model_add_103 : decode b_Model_add 103 = .ok (.iadd, 1) := by decide +kernel
theorem d_Model_add_104 : decode b_Model_add 104 = .ok (.putfield 47, 3) := by decide +kernel
theorem d_Model_add_107 : decode b_Model_add 107 = .ok (.aload_n 0, 1) := by decide +kernel
theorem d_Model_add_108 : decode b_Model_add 108 = .ok (.getfield 47, 3) := by decide +kernel
theorem d_Model_add_111 : decode b_Model_add 111 = .ok (.iconst 1, 1) := by decide +kernel
theorem d_Model_add_112 : decode b_Model_add 112 = .ok (.isub, 1) := by decide +kernel
theorem d_Model_add_113 : decode b_Model_add 113 = .ok (.ireturn, 1) := by decide +kernel
theorem d_Model_container_0 : decode b_Model_container 0 = .ok (.aload_n 0, 1) := by decide +kernel
theorem d_Model_container_1 : decode b_Model_container 1 = .ok (.iload_n 1, 1) := by decide +kernel
theorem d_Model_container_2 : decode b_Model_container 2 = .ok (.invokevirtual 79, 3) := by decide +kernel
theorem d_Model_container_5 : decode b_Model_container 5 = .ok (.ifCond .eq 22, 3) := by decide +kernel
theorem d_Model_container_8 : decode b_Model_container 8 = .ok (.aload_n 0, 1) := by decide +kernel
theorem d_Model_container_9 : decode b_Model_container 9 = .ok (.iload_n 1, 1) := by decide +kernel
theorem d_Model_container_10 : decode b_Model_container 10 = .ok (.invokevirtual 82, 3) := by decide +kernel
theorem d_Model_container_13 : decode b_Model_container 13 = .ok (.iconst 2, 1) := by decide +kernel
theorem d_Model_container_14 : decode b_Model_container 14 = .ok (.if_icmp .gt 13, 3) := by decide +kernel
theorem d_Model_container_17 : decode b_Model_container 17 = .ok (.iload_n 2, 1) := by decide +kernel
theorem d_Model_container_18 : decode b_Model_container 18 = .ok (.ifCond .lt 9, 3) := by decide +kernel
theorem d_Model_container_21 : decode b_Model_container 21 = .ok (.iload_n 2, 1) := by decide +kernel
theorem d_Model_container_22 : decode b_Model_container 22 = .ok (.bipush 99, 2) := by decide +kernel
theorem d_Model_container_24 : decode b_Model_container 24 = .ok (.if_icmp .le 5, 3) := by decide +kernel
theorem d_Model_container_27 : decode b_Model_container 27 = .ok (.iconst (-1), 1) := by decide +kernel
theorem d_Model_container_28 : decode b_Model_container 28 = .ok (.ireturn, 1) := by decide +kernel
theorem d_Model_container_29 : decode b_Model_container 29 = .ok (.aload_n 0, 1) := by decide +kernel
theorem d_Model_container_30 : decode b_Model_container 30 = .ok (.iload_n 1, 1) := by decide +kernel
theorem d_Model_container_31 : decode b_Model_container 31 = .ok (.iload_n 2, 1) := by decide +kernel
theorem d_Model_container_32 : decode b_Model_container 32 = .ok (.iconst 0, 1) := by decide +kernel
theorem d_Model_container_33 : decode b_Model_container 33 = .ok (.iconst 0, 1) := by decide +kernel
theorem d_Model_container_34 : decode b_Model_container 34 = .ok (.iload_n 3, 1) := by decide +kernel
theorem d_Model_container_35 : decode b_Model_container 35 = .ok (.invokevirtual 86, 3) := by decide +kernel
theorem d_Model_container_38 : decode b_Model_container 38 = .ok (.ireturn, 1) := by decide +kernel
theorem d_Model_test_0 : decode b_Model_test 0 = .ok (.aload_n 0, 1) := by decide +kernel
theorem d_Model_test_1 : decode b_Model_test 1 = .ok (.iload_n 1, 1) := by decide +kernel
theorem d_Model_test_2 : decode b_Model_test 2 = .ok (.invokevirtual 79, 3) := by decide +kernel
theorem d_Model_test_5 : decode b_Model_test 5 = .ok (.ifCond .eq 36, 3) := by decide +kernel
theorem d_Model_test_8 : decode b_Model_test 8 = .ok (.iload_n 2, 1) := by decide +kernel
theorem d_Model_test_9 : decode b_Model_test 9 = .ok (.ifCond .lt 32, 3) := by decide +kernel
theorem d_Model_test_12 : decode b_Model_test 12 = .ok (.iload_n 2, 1) := by decide +kernel
theorem d_Model_test_13 : decode b_Model_test 13 = .ok (.bipush 99, 2) := by decide +kernel
theorem d_Model_test_15 : decode b_Model_test 15 = .ok (.if_icmp .gt 26, 3) := by decide +kernel
theorem d_Model_test_18 : decode b_Model_test 18 = .ok (.iload_n 3, 1) := by decide +kernel
theorem d_Model_test_19 : decode b_Model_test 19 = .ok (.iconst 1, 1) := by decide +kernel
theorem d_Model_test_20 : decode b_Model_test 20 = .ok (.if_icmp .lt 21, 3) := by decide +kernel
theorem d_Model_test_23 : decode b_Model_test 23 = .ok (.iload_n 3, 1) := by decide +kernel
theorem d_Model_test_24 : decode b_Model_test 24 = .ok (.iconst 3, 1) := by decide +kernel
theorem d_Model_test_25 : decode b_Model_test 25 = .ok (.if_icmp .gt 16, 3) := by decide +kernel
theorem d_Model_test_28 : decode b_Model_test 28 = .ok (.iload 4, 2) := by decide +kernel
theorem d_Model_test_30 : decode b_Model_test 30 = .ok (.iconst 1, 1) := by decide +kernel
theorem d_Model_test_31 : decode b_Model_test 31 = .ok (.if_icmp .lt 10, 3) := by decide +kernel
theorem d_Model_test_34 : decode b_Model_test 34 = .ok (.iload 4, 2) := by decide +kernel
theorem d_Model_test_36 : decode b_Model_test 36 = .ok (.bipush 50, 2) := by decide +kernel
theorem d_Model_test_38 : decode b_Model_test 38 = .ok (.if_icmp .le 5, 3) := by decide +kernel
theorem d_Model_test_41 : decode b_Model_test 41 = .ok (.iconst (-1), 1) := by decide +kernel
theorem d_Model_test_42 : decode b_Model_test 42 = .ok (.ireturn, 1) := by decide +kernel
theorem d_Model_test_43 : decode b_Model_test 43 = .ok (.aload_n 0, 1) := by decide +kernel
theorem d_Model_test_44 : decode b_Model_test 44 = .ok (.iload_n 1, 1) := by decide +kernel
theorem d_Model_test_45 : decode b_Model_test 45 = .ok (.iload_n 2, 1) := by decide +kernel
theorem d_Model_test_46 : decode b_Model_test 46 = .ok (.iload_n 3, 1) := by decide +kernel
theorem d_Model_test_47 : decode b_Model_test 47 = .ok (.iload 4, 2) := by decide +kernel
theorem d_Model_test_49 : decode b_Model_test 49 = .ok (.iconst 0, 1) := by decide +kernel
theorem d_Model_test_50 : decode b_Model_test 50 = .ok (.invokevirtual 86, 3) := by decide +kernel
theorem d_Model_test_53 : decode b_Model_test 53 = .ok (.ireturn, 1) := by decide +kernel
theorem d_Model_mark_0 : decode b_Model_mark 0 = .ok (.aload_n 0, 1) := by decide +kernel
theorem d_Model_mark_1 : decode b_Model_mark 1 = .ok (.iload_n 1, 1) := by decide +kernel
theorem d_Model_mark_2 : decode b_Model_mark 2 = .ok (.invokevirtual 75, 3) := by decide +kernel
theorem d_Model_mark_5 : decode b_Model_mark 5 = .ok (.ifCond .eq 14, 3) := by decide +kernel
theorem d_Model_mark_8 : decode b_Model_mark 8 = .ok (.iload_n 2, 1) := by decide +kernel
theorem d_Model_mark_9 : decode b_Model_mark 9 = .ok (.ifCond .lt 10, 3) := by decide +kernel
theorem d_Model_mark_12 : decode b_Model_mark 12 = .ok (.iload_n 2, 1) := by decide +kernel
theorem d_Model_mark_13 : decode b_Model_mark 13 = .ok (.sipush 255, 3) := by decide +kernel
theorem d_Model_mark_16 : decode b_Model_mark 16 = .ok (.if_icmp .le 5, 3) := by decide +kernel
theorem d_Model_mark_19 : decode b_Model_mark 19 = .ok (.iconst (-1), 1) := by decide +kernel
theorem d_Model_mark_20 : decode b_Model_mark 20 = .ok (.ireturn, 1) := by decide +kernel
theorem d_Model_mark_21 : decode b_Model_mark 21 = .ok (.aload_n 0, 1) := by decide +kernel
theorem d_Model_mark_22 : decode b_Model_mark 22 = .ok (.getfield 22, 3) := by decide +kernel
theorem d_Model_mark_25 : decode b_Model_mark 25 = .ok (.iload_n 1, 1) := by decide +kernel
theorem d_Model_mark_26 : decode b_Model_mark 26 = .ok (.iload_n 2, 1) := by decide +kernel
theorem d_Model_mark_27 : decode b_Model_mark 27 = .ok (.iastore, 1) := by decide +kernel
theorem d_Model_mark_28 : decode b_Model_mark 28 = .ok (.aload_n 0, 1) := by decide +kernel
theorem d_Model_mark_29 : decode b_Model_mark 29 = .ok (.getfield 29, 3) := by decide +kernel
theorem d_Model_mark_32 : decode b_Model_mark 32 = .ok (.iload_n 1, 1) := by decide +kernel
theorem d_Model_mark_33 : decode b_Model_mark 33 = .ok (.iload_n 3, 1) := by decide +kernel
theorem d_Model_mark_34 : decode b_Model_mark 34 = .ok (.bastore, 1) := by decide +kernel
theorem d_Model_mark_35 : decode b_Model_mark 35 = .ok (.iconst 0, 1) := by decide +kernel
theorem d_Model_mark_36 : decode b_Model_mark 36 = .ok (.ireturn, 1) := by decide +kernel
theorem d_Model_method_0 : decode b_Model_method 0 = .ok (.aload_n 0, 1) := by decide +kernel
theorem d_Model_method_1 : decode b_Model_method 1 = .ok (.iload_n 1, 1) := by decide +kernel
theorem d_Model_method_2 : decode b_Model_method 2 = .ok (.invokevirtual 75, 3) := by decide +kernel
theorem d_Model_method_5 : decode b_Model_method 5 = .ok (.ifCond .eq 13, 3) := by decide +kernel
theorem d_Model_method_8 : decode b_Model_method 8 = .ok (.iload_n 2, 1) := by decide +kernel
theorem d_Model_method_9 : decode b_Model_method 9 = .ok (.ifCond .lt 9, 3) := by decide +kernel
theorem d_Model_method_12 : decode b_Model_method 12 = .ok (.iload_n 2, 1) := by decide +kernel
theorem d_Model_method_13 : decode b_Model_method 13 = .ok (.bipush 6, 2) := by decide +kernel
theorem d_Model_method_15 : decode b_Model_method 15 = .ok (.if_icmp .le 5, 3) := by decide +kernel
theorem d_Model_method_18 : decode b_Model_method 18 = .ok (.iconst (-1), 1) := by decide +kernel
theorem d_Model_method_19 : decode b_Model_method 19 = .ok (.ireturn, 1) := by decide +kernel
theorem d_Model_method_20 : decode b_Model_method 20 = .ok (.aload_n 0, 1) := by decide +kernel
theorem d_Model_method_21 : decode b_Model_method 21 = .ok (.getfield 16, 3) := by decide +kernel
theorem d_Model_method_24 : decode b_Model_method 24 = .ok (.iload_n 1, 1) := by decide +kernel
theorem d_Model_method_25 : decode b_Model_method 25 = .ok (.iaload, 1) := by decide +kernel
theorem d_Model_method_26 : decode b_Model_method 26 = .ok (.ifCond .ne 11, 3) := by decide +kernel
theorem d_Model_method_29 : decode b_Model_method 29 = .ok (.iload_n 2, 1) := by decide +kernel
theorem d_Model_method_30 : decode b_Model_method 30 = .ok (.iconst 3, 1) := by decide +kernel
theorem d_Model_method_31 : decode b_Model_method 31 = .ok (.if_icmp .le 25, 3) := by decide +kernel
theorem d_Model_method_34 : decode b_Model_method 34 = .ok (.goto 20, 3) := by decide +kernel
theorem d_Model_method_37 : decode b_Model_method 37 = .ok (.iload_n 2, 1) := by decide +kernel
theorem d_Model_method_38 : decode b_Model_method 38 = .ok (.iconst 4, 1) := by decide +kernel
theorem d_Model_method_39 : decode b_Model_method 39 = .ok (.if_icmp .lt 15, 3) := by decide +kernel
theorem d_Model_method_42 : decode b_Model_method 42 = .ok (.iload_n 2, 1) := by decide +kernel
theorem d_Model_method_43 : decode b_Model_method 43 = .ok (.iconst 3, 1) := by decide +kernel
theorem d_Model_method_44 : decode b_Model_method 44 = .ok (.aload_n 0, 1) := by decide +kernel
theorem d_Model_method_45 : decode b_Model_method 45 = .ok (.getfield 16, 3) := by decide +kernel
theorem d_Model_method_48 : decode b_Model_method 48 = .ok (.iload_n 1, 1) := by decide +kernel
theorem d_Model_method_49 : decode b_Model_method 49 = .ok (.iaload, 1) := by decide +kernel
theorem d_Model_method_50 : decode b_Model_method 50 = .ok (.iadd, 1) := by decide +kernel
theorem d_Model_method_51 : decode b_Model_method 51 = .ok (.if_icmp .le 5, 3) := by decide +kernel
theorem d_Model_method_54 : decode b_Model_method 54 = .ok (.iconst (-1), 1) := by decide +kernel
theorem d_Model_method_55 : decode b_Model_method 55 = .ok (.ireturn, 1) := by decide +kernel
theorem d_Model_method_56 : decode b_Model_method 56 = .ok (.iload_n 3, 1) := by decide +kernel
theorem d_Model_method_57 : decode b_Model_method 57 = .ok (.ifCond .lt 32, 3) := by decide +kernel
theorem d_Model_method_60 : decode b_Model_method 60 = .ok (.iload_n 3, 1) := by decide +kernel
theorem d_Model_method_61 : decode b_Model_method 61 = .ok (.iconst 2, 1) := by decide +kernel
theorem d_Model_method_62 : decode b_Model_method 62 = .ok (.if_icmp .gt 27, 3) := by decide +kernel
theorem d_Model_method_65 : decode b_Model_method 65 = .ok (.iload 4, 2) := by decide +kernel
theorem d_Model_method_67 : decode b_Model_method 67 = .ok (.ifCond .lt 22, 3) := by decide +kernel
theorem d_Model_method_70 : decode b_Model_method 70 = .ok (.iload 4, 2) := by decide +kernel
theorem d_Model_method_72 : decode b_Model_method 72 = .ok (.bipush 99, 2) := by decide +kernel
theorem d_Model_method_74 : decode b_Model_method 74 = .ok (.if_icmp .gt 15, 3) := by decide +kernel
theorem d_Model_method_77 : decode b_Model_method 77 = .ok (.iload 5, 2) := by decide +kernel
theorem d_Model_method_79 : decode b_Model_method 79 = .ok (.ifCond .lt 10, 3) := by decide +kernel
theorem d_Model_method_82 : decode b_Model_method 82 = .ok (.iload 5, 2) := by decide +kernel
theorem d_Model_method_84 : decode b_Model_method 84 = .ok (.bipush 50, 2) := by decide +kernel
theorem d_Model_method_86 : decode b_Model_method 86 = .ok (.if_icmp .le 5, 3) := by decide +kernel
theorem d_Model_method_89 : decode b_Model_method 89 = .ok (.iconst (-1), 1) := by decide +kernel
theorem d_Model_method_90 : decode b_Model_method 90 = .ok (.ireturn, 1) := by decide +kernel
theorem d_Model_method_91 : decode b_Model_method 91 = .ok (.iload_n 1, 1) := by decide +kernel
theorem d_Model_method_92 : decode b_Model_method 92 = .ok (.bipush 7, 2) := by decide +kernel
theorem d_Model_method_94 : decode b_Model_method 94 = .ok (.imul, 1) := by decide +kernel
theorem d_Model_method_95 : decode b_Model_method 95 = .ok (.iload_n 2, 1) := by decide +kernel
theorem d_Model_method_96 : decode b_Model_method 96 = .ok (.iadd, 1) := by decide +kernel
theorem d_Model_method_97 : decode b_Model_method 97 = .ok (.istore 6, 2) := by decide +kernel
theorem d_Model_method_99 : decode b_Model_method 99 = .ok (.aload_n 0, 1) := by decide +kernel
theorem d_Model_method_100 : decode b_Model_method 100 = .ok (.getfield 35, 3) := by decide +kernel
theorem d_Model_method_103 : decode b_Model_method 103 = .ok (.iload 6, 2) := by decide +kernel
theorem d_Model_method_105 : decode b_Model_method 105 = .ok (.iconst 1, 1) := by decide +kernel
theorem d_Model_method_106 : decode b_Model_method 106 = .ok (.bastore, 1) := by decide +kernel
theorem d_Model_method_107 : decode b_Model_method 107 = .ok (.aload_n 0, 1) := by decide +kernel
theorem d_Model_method_108 : decode b_Model_method 108 = .ok (.getfield 38, 3) := by decide +kernel
theorem d_Model_method_111 : decode b_Model_method 111 = .ok (.iload 6, 2) := by decide +kernel
theorem d_Model_method_113 : decode b_Model_method 113 = .ok (.iload_n 3, 1) := by decide +kernel
theorem d_Model_method_114 : decode b_Model_method 114 = .ok (.iastore, 1) := by decide +kernel
theorem d_Model_method_115 : decode b_Model_method 115 = .ok (.aload_n 0, 1) := by decide +kernel
theorem d_Model_method_116 : decode b_Model_method 116 = .ok (.getfield 41, 3) := by decide +kernel
theorem d_Model_method_119 : decode b_Model_method 119 = .ok (.iload 6, 2) := by decide +kernel
theorem d_Model_method_121 : decode b_Model_method 121 = .ok (.iload 4, 2) := by decide +kernel
theorem d_Model_method_123 : decode b_Model_method 123 = .ok (.iastore, 1) := by decide +kernel
theorem d_Model_method_124 : decode b_Model_method 124 = .ok (.aload_n 0, 1) := by decide +kernel
theorem d_Model_method_125 : decode b_Model_method 125 = .ok (.getfield 44, 3) := by decide +kernel
theorem d_Model_method_128 : decode b_Model_method 128 = .ok (.iload 6, 2) := by decide +kernel
theorem d_Model_method_130 : decode b_Model_method 130 = .ok (.iload 5, 2) := by decide +kernel
theorem d_Model_method_132 : decode b_Model_method 132 = .ok (.iastore, 1) := by decide +kernel
theorem d_Model_method_133 : decode b_Model_method 133 = .ok (.iconst 0, 1) := by decide +kernel
theorem d_Model_method_134 : decode b_Model_method 134 = .ok (.ireturn, 1) := by decide +kernel
theorem d_Model_without_0 : decode b_Model_without 0 = .ok (.aload_n 0, 1) := by decide +kernel
theorem d_Model_without_1 : decode b_Model_without 1 = .ok (.iload_n 1, 1) := by decide +kernel
theorem d_Model_without_2 : decode b_Model_without 2 = .ok (.invokevirtual 79, 3) := by decide +kernel
theorem d_Model_without_5 : decode b_Model_without 5 = .ok (.ifCond .eq 26, 3) := by decide +kernel
theorem d_Model_without_8 : decode b_Model_without 8 = .ok (.iload_n 2, 1) := by decide +kernel
theorem d_Model_without_9 : decode b_Model_without 9 = .ok (.ifCond .lt 22, 3) := by decide +kernel
theorem d_Model_without_12 : decode b_Model_without 12 = .ok (.iload_n 2, 1) := by decide +kernel
theorem d_Model_without_13 : decode b_Model_without 13 = .ok (.iconst 3, 1) := by decide +kernel
theorem d_Model_without_14 : decode b_Model_without 14 = .ok (.if_icmp .gt 17, 3) := by decide +kernel
theorem d_Model_without_17 : decode b_Model_without 17 = .ok (.aload_n 0, 1) := by decide +kernel
theorem d_Model_without_18 : decode b_Model_without 18 = .ok (.getfield 35, 3) := by decide +kernel
theorem d_Model_without_21 : decode b_Model_without 21 = .ok (.iload_n 1, 1) := by decide +kernel
theorem d_Model_without_22 : decode b_Model_without 22 = .ok (.bipush 7, 2) := by decide +kernel
theorem d_Model_without_24 : decode b_Model_without 24 = .ok (.imul, 1) := by decide +kernel
theorem d_Model_without_25 : decode b_Model_without 25 = .ok (.iload_n 2, 1) := by decide +kernel
theorem d_Model_without_26 : decode b_Model_without 26 = .ok (.iadd, 1) := by decide +kernel
theorem d_Model_without_27 : decode b_Model_without 27 = .ok (.baload, 1) := by decide +kernel
theorem d_Model_without_28 : decode b_Model_without 28 = .ok (.ifCond .ne 5, 3) := by decide +kernel
theorem d_Model_without_31 : decode b_Model_without 31 = .ok (.iconst (-1), 1) := by decide +kernel
theorem d_Model_without_32 : decode b_Model_without 32 = .ok (.ireturn, 1) := by decide +kernel
theorem d_Model_without_33 : decode b_Model_without 33 = .ok (.aload_n 0, 1) := by decide +kernel
theorem d_Model_without_34 : decode b_Model_without 34 = .ok (.getfield 35, 3) := by decide +kernel
theorem d_Model_without_37 : decode b_Model_without 37 = .ok (.iload_n 1, 1) := by decide +kernel
theorem d_Model_without_38 : decode b_Model_without 38 = .ok (.bipush 7, 2) := by decide +kernel
theorem d_Model_without_40 : decode b_Model_without 40 = .ok (.imul, 1) := by decide +kernel
theorem d_Model_without_41 : decode b_Model_without 41 = .ok (.iload_n 2, 1) := by decide +kernel
theorem d_Model_without_42 : decode b_Model_without 42 = .ok (.iadd, 1) := by decide +kernel
theorem d_Model_without_43 : decode b_Model_without 43 = .ok (.iconst 0, 1) := by decide +kernel
theorem d_Model_without_44 : decode b_Model_without 44 = .ok (.bastore, 1) := by decide +kernel
theorem d_Model_without_45 : decode b_Model_without 45 = .ok (.aload_n 0, 1) := by decide +kernel
theorem d_Model_without_46 : decode b_Model_without 46 = .ok (.getfield 38, 3) := by decide +kernel
theorem d_Model_without_49 : decode b_Model_without 49 = .ok (.iload_n 1, 1) := by decide +kernel
theorem d_Model_without_50 : decode b_Model_without 50 = .ok (.bipush 7, 2) := by decide +kernel
theorem d_Model_without_52 : decode b_Model_without 52 = .ok (.imul, 1) := by decide +kernel
theorem d_Model_without_53 : decode b_Model_without 53 = .ok (.iload_n 2, 1) := by decide +kernel
theorem d_Model_without_54 : decode b_Model_without 54 = .ok (.iadd, 1) := by decide +kernel
theorem d_Model_without_55 : decode b_Model_without 55 = .ok (.aload_n 0, 1) := by decide +kernel
theorem d_Model_without_56 : decode b_Model_without 56 = .ok (.getfield 41, 3) := by decide +kernel
theorem d_Model_without_59 : decode b_Model_without 59 = .ok (.iload_n 1, 1) := by decide +kernel
theorem d_Model_without_60 : decode b_Model_without 60 = .ok (.bipush 7, 2) := by decide +kernel
theorem d_Model_without_62 : decode b_Model_without 62 = .ok (.imul, 1) := by decide +kernel
theorem d_Model_without_63 : decode b_Model_without 63 = .ok (.iload_n 2, 1) := by decide +kernel
theorem d_Model_without_64 : decode b_Model_without 64 = .ok (.iadd, 1) := by decide +kernel
theorem d_Model_without_65 : decode b_Model_without 65 = .ok (.aload_n 0, 1) := by decide +kernel
theorem d_Model_without_66 : decode b_Model_without 66 = .ok (.getfield 44, 3) := by decide +kernel
theorem d_Model_without_69 : decode b_Model_without 69 = .ok (.iload_n 1, 1) := by decide +kernel
theorem d_Model_without_70 : decode b_Model_without 70 = .ok (.bipush 7, 2) := by decide +kernel
theorem d_Model_without_72 : decode b_Model_without 72 = .ok (.imul, 1) := by decide +kernel
theorem d_Model_without_73 : decode b_Model_without 73 = .ok (.iload_n 2, 1) := by decide +kernel
theorem d_Model_without_74 : decode b_Model_without 74 = .ok (.iadd, 1) := by decide +kernel
theorem d_Model_without_75 : decode b_Model_without 75 = .ok (.iconst 0, 1) := by decide +kernel
theorem d_Model_without_76 : decode b_Model_without 76 = .ok (.dup_x2, 1) := by decide +kernel
theorem d_Model_without_77 : decode b_Model_without 77 = .ok (.iastore, 1) := by decide +kernel
theorem d_Model_without_78 : decode b_Model_without 78 = .ok (.dup_x2, 1) := by decide +kernel
theorem d_Model_without_79 : decode b_Model_without 79 = .ok (.iastore, 1) := by decide +kernel
theorem d_Model_without_80 : decode b_Model_without 80 = .ok (.iastore, 1) := by decide +kernel
theorem d_Model_without_81 : decode b_Model_without 81 = .ok (.iconst 0, 1) := by decide +kernel
theorem d_Model_without_82 : decode b_Model_without 82 = .ok (.ireturn, 1) := by decide +kernel
theorem d_Model_choose_0 : decode b_Model_choose 0 = .ok (.iconst 0, 1) := by decide +kernel
theorem d_Model_choose_1 : decode b_Model_choose 1 = .ok (.istore_n 3, 1) := by decide +kernel
theorem d_Model_choose_2 : decode b_Model_choose 2 = .ok (.iload_n 3, 1) := by decide +kernel
theorem d_Model_choose_3 : decode b_Model_choose 3 = .ok (.aload_n 0, 1) := by decide +kernel
theorem d_Model_choose_4 : decode b_Model_choose 4 = .ok (.getfield 47, 3) := by decide +kernel
theorem d_Model_choose_7 : decode b_Model_choose 7 = .ok (.if_icmp .ge 16, 3) := by decide +kernel
theorem d_Model_choose_10 : decode b_Model_choose 10 = .ok (.aload_n 0, 1) := by decide +kernel
theorem d_Model_choose_11 : decode b_Model_choose 11 = .ok (.getfield 32, 3) := by decide +kernel
theorem d_Model_choose_14 : decode b_Model_choose 14 = .ok (.iload_n 3, 1) := by decide +kernel
theorem d_Model_choose_15 : decode b_Model_choose 15 = .ok (.iconst 0, 1) := by decide +kernel
theorem d_Model_choose_16 : decode b_Model_choose 16 = .ok (.bastore, 1) := by decide +kernel
theorem d_Model_choose_17 : decode b_Model_choose 17 = .ok (.iinc 3 1, 3) := by decide +kernel
theorem d_Model_choose_20 : decode b_Model_choose 20 = .ok (.goto (-18), 3) := by decide +kernel
theorem d_Model_choose_23 : decode b_Model_choose 23 = .ok (.iconst 0, 1) := by decide +kernel
theorem d_Model_choose_24 : decode b_Model_choose 24 = .ok (.istore_n 3, 1) := by decide +kernel
theorem d_Model_choose_25 : decode b_Model_choose 25 = .ok (.iload_n 3, 1) := by decide +kernel
theorem d_Model_choose_26 : decode b_Model_choose 26 = .ok (.aload_n 0, 1) := by decide +kernel
theorem d_Model_choose_27 : decode b_Model_choose 27 = .ok (.getfield 47, 3) := by decide +kernel
theorem d_Model_choose_30 : decode b_Model_choose 30 = .ok (.if_icmp .ge 115, 3) := by decide +kernel
theorem d_Model_choose_33 : decode b_Model_choose 33 = .ok (.aload_n 0, 1) := by decide +kernel
theorem d_Model_choose_34 : decode b_Model_choose 34 = .ok (.getfield 16, 3) := by decide +kernel
theorem d_Model_choose_37 : decode b_Model_choose 37 = .ok (.iload_n 3, 1) := by decide +kernel
theorem d_Model_choose_38 : decode b_Model_choose 38 = .ok (.iaload, 1) := by decide +kernel
theorem d_Model_choose_39 : decode b_Model_choose 39 = .ok (.ifCond .ne 6, 3) := by decide +kernel
theorem d_Model_choose_42 : decode b_Model_choose 42 = .ok (.goto 97, 3) := by decide +kernel
theorem d_Model_choose_45 : decode b_Model_choose 45 = .ok (.iconst 0, 1) := by decide +kernel
theorem d_Model_choose_46 : decode b_Model_choose 46 = .ok (.istore 4, 2) := by decide +kernel
theorem d_Model_choose_48 : decode b_Model_choose 48 = .ok (.iload_n 3, 1) := by decide +kernel
theorem d_Model_choose_49 : decode b_Model_choose 49 = .ok (.istore 5, 2) := by decide +kernel
theorem d_Model_choose_51 : decode b_Model_choose 51 = .ok (.iload 5, 2) := by decide +kernel
theorem d_Model_choose_53 : decode b_Model_choose 53 = .ok (.ifCond .lt 27, 3) := by decide +kernel
theorem d_Model_choose_56 : decode b_Model_choose 56 = .ok (.iload 4, 2) := by decide +kernel
theorem d_Model_choose_58 : decode b_Model_choose 58 = .ok (.aload_n 0, 1) := by decide +kernel
theorem d_Model_choose_59 : decode b_Model_choose 59 = .ok (.getfield 22, 3) := by decide +kernel
theorem d_Model_choose_62 : decode b_Model_choose 62 = .ok (.iload 5, 2) := by decide +kernel
theorem d_Model_choose_64 : decode b_Model_choose 64 = .ok (.iaload, 1) := by decide +kernel
theorem d_Model_choose_65 : decode b_Model_choose 65 = .ok (.ior, 1) := by decide +kernel
theorem d_Model_choose_66 : decode b_Model_choose 66 = .ok (.istore 4, 2) := by decide +kernel
theorem d_Model_choose_68 : decode b_Model_choose 68 = .ok (.aload_n 0, 1) := by decide +kernel
theorem d_Model_choose_69 : decode b_Model_choose 69 = .ok (.getfield 7, 3) := by decide +kernel
theorem d_Model_choose_72 : decode b_Model_choose 72 = .ok (.iload 5, 2) := by decide +kernel
theorem d_Model_choose_74 : decode b_Model_choose 74 = .ok (.iaload, 1) := by decide +kernel
theorem d_Model_choose_75 : decode b_Model_choose 75 = .ok (.istore 5, 2) := by decide +kernel
theorem d_Model_choose_77 : decode b_Model_choose 77 = .ok (.goto (-26), 3) := by decide +kernel
theorem d_Model_choose_80 : decode b_Model_choose 80 = .ok (.iload_n 1, 1) := by decide +kernel
theorem d_Model_choose_81 : decode b_Model_choose 81 = .ok (.ifCond .eq 10, 3) := by decide +kernel
theorem d_Model_choose_84 : decode b_Model_choose 84 = .ok (.iload 4, 2) := by decide +kernel
theorem d_Model_choose_86 : decode b_Model_choose 86 = .ok (.iload_n 1, 1) := by decide +kernel
theorem d_Model_choose_87 : decode b_Model_choose 87 = .ok (.iand, 1) := by decide +kernel
theorem d_Model_choose_88 : decode b_Model_choose 88 = .ok (.ifCond .eq 51, 3) := by decide +kernel
theorem d_Model_choose_91 : decode b_Model_choose 91 = .ok (.iload 4, 2) := by decide +kernel
theorem d_Model_choose_93 : decode b_Model_choose 93 = .ok (.iload_n 2, 1) := by decide +kernel
theorem d_Model_choose_94 : decode b_Model_choose 94 = .ok (.iand, 1) := by decide +kernel
theorem d_Model_choose_95 : decode b_Model_choose 95 = .ok (.ifCond .eq 6, 3) := by decide +kernel
theorem d_Model_choose_98 : decode b_Model_choose 98 = .ok (.goto 41, 3) := by decide +kernel
theorem d_Model_choose_101 : decode b_Model_choose 101 = .ok (.aload_n 0, 1) := by decide +kernel
theorem d_Model_choose_102 : decode b_Model_choose 102 = .ok (.dup, 1) := by decide +kernel
theorem d_Model_choose_103 : decode b_Model_choose 103 = .ok (.getfield 90, 3) := by decide +kernel
theorem d_Model_choose_106 : decode b_Model_choose 106 = .ok (.iconst 1, 1) := by decide +kernel
theorem d_Model_choose_107 : decode b_Model_choose 107 = .ok (.iadd, 1) := by decide +kernel
theorem d_Model_choose_108 : decode b_Model_choose 108 = .ok (.putfield 90, 3) := by decide +kernel
theorem d_Model_choose_111 : decode b_Model_choose 111 = .ok (.iload_n 3, 1) := by decide +kernel
theorem d_Model_choose_112 : decode b_Model_choose 112 = .ok (.istore 5, 2) := by decide +kernel
theorem d_Model_choose_114 : decode b_Model_choose 114 = .ok (.iload 5, 2) := by decide +kernel
theorem d_Model_choose_116 : decode b_Model_choose 116 = .ok (.ifCond .lt 23, 3) := by decide +kernel
theorem d_Model_choose_119 : decode b_Model_choose 119 = .ok (.aload_n 0, 1) := by decide +kernel
theorem d_Model_choose_120 : decode b_Model_choose 120 = .ok (.getfield 32, 3) := by decide +kernel
theorem d_Model_choose_123 : decode b_Model_choose 123 = .ok (.iload 5, 2) := by decide +kernel
theorem d_Model_choose_125 : decode b_Model_choose 125 = .ok (.iconst 1, 1) := by decide +kernel
theorem d_Model_choose_126 : decode b_Model_choose 126 = .ok (.bastore, 1) := by decide +kernel
theorem d_Model_choose_127 : decode b_Model_choose 127 = .ok (.aload_n 0, 1) := by decide +kernel
theorem d_Model_choose_128 : decode b_Model_choose 128 = .ok (.getfield 7, 3) := by decide +kernel
theorem d_Model_choose_131 : decode b_Model_choose 131 = .ok (.iload 5, 2) := by decide +kernel
theorem d_Model_choose_133 : decode b_Model_choose 133 = .ok (.iaload, 1) := by decide +kernel
theorem d_Model_choose_134 : decode b_Model_choose 134 = .ok (.istore 5, 2) := by decide +kernel
theorem d_Model_choose_136 : decode b_Model_choose 136 = .ok (.goto (-22), 3) := by decide +kernel
theorem d_Model_choose_139 : decode b_Model_choose 139 = .ok (.iinc 3 1, 3) := by decide +kernel
theorem d_Model_choose_142 : decode b_Model_choose 142 = .ok (.goto (-117), 3) := by decide +kernel
theorem d_Model_choose_145 : decode b_Model_choose 145 = .ok (.return_, 1) := by decide +kernel
theorem d_Model_gather_0 : decode b_Model_gather 0 = .ok (.iload_n 1, 1) := by decide +kernel
theorem d_Model_gather_1 : decode b_Model_gather 1 = .ok (.iconst 4, 1) := by decide +kernel
theorem d_Model_gather_2 : decode b_Model_gather 2 = .ok (.if_icmp .ge 16, 3) := by decide +kernel
theorem d_Model_gather_5 : decode b_Model_gather 5 = .ok (.iload_n 1, 1) := by decide +kernel
theorem d_Model_gather_6 : decode b_Model_gather 6 = .ok (.iconst 2, 1) := by decide +kernel
theorem d_Model_gather_7 : decode b_Model_gather 7 = .ok (.imul, 1) := by decide +kernel
theorem d_Model_gather_8 : decode b_Model_gather 8 = .ok (.aload_n 0, 1) := by decide +kernel
theorem d_Model_gather_9 : decode b_Model_gather 9 = .ok (.getfield 66, 3) := by decide +kernel
theorem d_Model_gather_12 : decode b_Model_gather 12 = .ok (.iload_n 1, 1) := by decide +kernel
theorem d_Model_gather_13 : decode b_Model_gather 13 = .ok (.iaload, 1) := by decide +kernel
theorem d_Model_gather_14 : decode b_Model_gather 14 = .ok (.iadd, 1) := by decide +kernel
theorem d_Model_gather_15 : decode b_Model_gather 15 = .ok (.goto 12, 3) := by decide +kernel
theorem d_Model_gather_18 : decode b_Model_gather 18 = .ok (.bipush 8, 2) := by decide +kernel
theorem d_Model_gather_20 : decode b_Model_gather 20 = .ok (.aload_n 0, 1) := by decide +kernel
theorem d_Model_gather_21 : decode b_Model_gather 21 = .ok (.getfield 66, 3) := by decide +kernel
theorem d_Model_gather_24 : decode b_Model_gather 24 = .ok (.iconst 4, 1) := by decide +kernel
theorem d_Model_gather_25 : decode b_Model_gather 25 = .ok (.iaload, 1) := by decide +kernel
theorem d_Model_gather_26 : decode b_Model_gather 26 = .ok (.iadd, 1) := by decide +kernel
theorem d_Model_gather_27 : decode b_Model_gather 27 = .ok (.istore 4, 2) := by decide +kernel
theorem d_Model_gather_29 : decode b_Model_gather 29 = .ok (.aload_n 0, 1) := by decide +kernel
theorem d_Model_gather_30 : decode b_Model_gather 30 = .ok (.getfield 60, 3) := by decide +kernel
theorem d_Model_gather_33 : decode b_Model_gather 33 = .ok (.iload 4, 2) := by decide +kernel
theorem d_Model_gather_35 : decode b_Model_gather 35 = .ok (.iload_n 2, 1) := by decide +kernel
theorem d_Model_gather_36 : decode b_Model_gather 36 = .ok (.iastore, 1) := by decide +kernel
theorem d_Model_gather_37 : decode b_Model_gather 37 = .ok (.aload_n 0, 1) := by decide +kernel
theorem d_Model_gather_38 : decode b_Model_gather 38 = .ok (.getfield 63, 3) := by decide +kernel
theorem d_Model_gather_41 : decode b_Model_gather 41 = .ok (.iload 4, 2) := by decide +kernel
theorem d_Model_gather_43 : decode b_Model_gather 43 = .ok (.iload_n 3, 1) := by decide +kernel
theorem d_Model_gather_44 : decode b_Model_gather 44 = .ok (.ifCond .eq 7, 3) := by decide +kernel
theorem d_Model_gather_47 : decode b_Model_gather 47 = .ok (.iconst 1, 1) := by decide +kernel
theorem d_Model_gather_48 : decode b_Model_gather 48 = .ok (.goto 4, 3) := by decide +kernel
theorem d_Model_gather_51 : decode b_Model_gather 51 = .ok (.iconst 0, 1) := by decide +kernel
theorem d_Model_gather_52 : decode b_Model_gather 52 = .ok (.iastore, 1) := by decide +kernel
theorem d_Model_gather_53 : decode b_Model_gather 53 = .ok (.aload_n 0, 1) := by decide +kernel
theorem d_Model_gather_54 : decode b_Model_gather 54 = .ok (.getfield 66, 3) := by decide +kernel
theorem d_Model_gather_57 : decode b_Model_gather 57 = .ok (.iload_n 1, 1) := by decide +kernel
theorem d_Model_gather_58 : decode b_Model_gather 58 = .ok (.dup2, 1) := by decide +kernel
theorem d_Model_gather_59 : decode b_Model_gather 59 = .ok (.iaload, 1) := by decide +kernel
theorem d_Model_gather_60 : decode b_Model_gather 60 = .ok (.iconst 1, 1) := by decide +kernel
theorem d_Model_gather_61 : decode b_Model_gather 61 = .ok (.iadd, 1) := by decide +kernel
theorem d_Model_gather_62 : decode b_Model_gather 62 = .ok (.iastore, 1) := by decide +kernel
theorem d_Model_gather_63 : decode b_Model_gather 63 = .ok (.return_, 1) := by decide +kernel
theorem d_Model_call_0 : decode b_Model_call 0 = .ok (.iload_n 1, 1) := by decide +kernel
theorem d_Model_call_1 : decode b_Model_call 1 = .ok (.bipush 7, 2) := by decide +kernel
theorem d_Model_call_3 : decode b_Model_call 3 = .ok (.imul, 1) := by decide +kernel
theorem d_Model_call_4 : decode b_Model_call 4 = .ok (.iload_n 2, 1) := by decide +kernel
theorem d_Model_call_5 : decode b_Model_call 5 = .ok (.iadd, 1) := by decide +kernel
theorem d_Model_call_6 : decode b_Model_call 6 = .ok (.istore 4, 2) := by decide +kernel
theorem d_Model_call_8 : decode b_Model_call 8 = .ok (.aload_n 0, 1) := by decide +kernel
theorem d_Model_call_9 : decode b_Model_call 9 = .ok (.getfield 35, 3) := by decide +kernel
theorem d_Model_call_12 : decode b_Model_call 12 = .ok (.iload 4, 2) := by decide +kernel
theorem d_Model_call_14 : decode b_Model_call 14 = .ok (.baload, 1) := by decide +kernel
theorem d_Model_call_15 : decode b_Model_call 15 = .ok (.ifCond .ne 4, 3) := by decide +kernel
theorem d_Model_call_18 : decode b_Model_call 18 = .ok (.return_, 1) := by decide +kernel
theorem d_Model_call_19 : decode b_Model_call 19 = .ok (.aload_n 0, 1) := by decide +kernel
theorem d_Model_call_20 : decode b_Model_call 20 = .ok (.dup, 1) := by decide +kernel
theorem d_Model_call_21 : decode b_Model_call 21 = .ok (.getfield 93, 3) := by decide +kernel
theorem d_Model_call_24 : decode b_Model_call 24 = .ok (.iconst 1, 1) := by decide +kernel
theorem d_Model_call_25 : decode b_Model_call 25 = .ok (.iadd, 1) := by decide +kernel
theorem d_Model_call_26 : decode b_Model_call 26 = .ok (.putfield 93, 3) := by decide +kernel
theorem d_Model_call_29 : decode b_Model_call 29 = .ok (.iload_n 2, 1) := by decide +kernel
theorem d_Model_call_30 : decode b_Model_call 30 = .ok (.iconst 3, 1) := by decide +kernel
theorem d_Model_call_31 : decode b_Model_call 31 = .ok (.if_icmp .le 43, 3) := by decide +kernel
theorem d_Model_call_34 : decode b_Model_call 34 = .ok (.aload_n 0, 1) := by decide +kernel
theorem d_Model_call_35 : decode b_Model_call 35 = .ok (.getfield 44, 3) := by decide +kernel
theorem d_Model_call_38 : decode b_Model_call 38 = .ok (.iload 4, 2) := by decide +kernel
theorem d_Model_call_40 : decode b_Model_call 40 = .ok (.iaload, 1) := by decide +kernel
theorem d_Model_call_41 : decode b_Model_call 41 = .ok (.aload_n 0, 1) := by decide +kernel
theorem d_Model_call_42 : decode b_Model_call 42 = .ok (.getfield 19, 3) := by decide +kernel
theorem d_Model_call_45 : decode b_Model_call 45 = .ok (.iload_n 1, 1) := by decide +kernel
theorem d_Model_call_46 : decode b_Model_call 46 = .ok (.iaload, 1) := by decide +kernel
theorem d_Model_call_47 : decode b_Model_call 47 = .ok (.if_icmp .le 27, 3) := by decide +kernel
theorem d_Model_call_50 : decode b_Model_call 50 = .ok (.aload_n 0, 1) := by decide +kernel
theorem d_Model_call_51 : decode b_Model_call 51 = .ok (.dup, 1) := by decide +kernel
theorem d_Model_call_52 : decode b_Model_call 52 = .ok (.getfield 96, 3) := by decide +kernel
theorem d_Model_call_55 : decode b_Model_call 55 = .ok (.aload_n 0, 1) := by decide +kernel
theorem d_Model_call_56 : decode b_Model_call 56 = .ok (.getfield 19, 3) := by decide +kernel
theorem d_Model_call_59 : decode b_Model_call 59 = .ok (.iload_n 1, 1) := by decide +kernel
theorem d_Model_call_60 : decode b_Model_call 60 = .ok (.iaload, 1) := by decide +kernel
theorem d_Model_call_61 : decode b_Model_call 61 = .ok (.iadd, 1) := by decide +kernel
theorem d_Model_call_62 : decode b_Model_call 62 = .ok (.putfield 96, 3) := by decide +kernel
theorem d_Model_call_65 : decode b_Model_call 65 = .ok (.aload_n 0, 1) := by decide +kernel
theorem d_Model_call_66 : decode b_Model_call 66 = .ok (.iload_n 3, 1) := by decide +kernel
theorem d_Model_call_67 : decode b_Model_call 67 = .ok (.bipush 100, 2) := by decide +kernel
theorem d_Model_call_69 : decode b_Model_call 69 = .ok (.iconst 0, 1) := by decide +kernel
theorem d_Model_call_70 : decode b_Model_call 70 = .ok (.invokevirtual 99, 3) := by decide +kernel
theorem d_Model_call_73 : decode b_Model_call 73 = .ok (.return_, 1) := by decide +kernel
theorem d_Model_call_74 : decode b_Model_call 74 = .ok (.aload_n 0, 1) := by decide +kernel
theorem d_Model_call_75 : decode b_Model_call 75 = .ok (.dup, 1) := by decide +kernel
theorem d_Model_call_76 : decode b_Model_call 76 = .ok (.getfield 96, 3) := by decide +kernel
theorem d_Model_call_79 : decode b_Model_call 79 = .ok (.aload_n 0, 1) := by decide +kernel
theorem d_Model_call_80 : decode b_Model_call 80 = .ok (.getfield 44, 3) := by decide +kernel
theorem d_Model_call_83 : decode b_Model_call 83 = .ok (.iload 4, 2) := by decide +kernel
theorem d_Model_call_85 : decode b_Model_call 85 = .ok (.iaload, 1) := by decide +kernel
theorem d_Model_call_86 : decode b_Model_call 86 = .ok (.iadd, 1) := by decide +kernel
theorem d_Model_call_87 : decode b_Model_call 87 = .ok (.putfield 96, 3) := by decide +kernel
theorem d_Model_call_90 : decode b_Model_call 90 = .ok (.aload_n 0, 1) := by decide +kernel
theorem d_Model_call_91 : decode b_Model_call 91 = .ok (.getfield 38, 3) := by decide +kernel
theorem d_Model_call_94 : decode b_Model_call 94 = .ok (.iload 4, 2) := by decide +kernel
theorem d_Model_call_96 : decode b_Model_call 96 = .ok (.iaload, 1) := by decide +kernel
theorem d_Model_call_97 : decode b_Model_call 97 = .ok (.ifCond .eq 31, 3) := by decide +kernel
theorem d_Model_call_100 : decode b_Model_call 100 = .ok (.aload_n 0, 1) := by decide +kernel
theorem d_Model_call_101 : decode b_Model_call 101 = .ok (.iload_n 3, 1) := by decide +kernel
theorem d_Model_call_102 : decode b_Model_call 102 = .ok (.aload_n 0, 1) := by decide +kernel
theorem d_Model_call_103 : decode b_Model_call 103 = .ok (.getfield 41, 3) := by decide +kernel
theorem d_Model_call_106 : decode b_Model_call 106 = .ok (.iload 4, 2) := by decide +kernel
theorem d_Model_call_108 : decode b_Model_call 108 = .ok (.iaload, 1) := by decide +kernel
theorem d_Model_call_109 : decode b_Model_call 109 = .ok (.aload_n 0, 1) := by decide +kernel
theorem d_Model_call_110 : decode b_Model_call 110 = .ok (.getfield 38, 3) := by decide +kernel
theorem d_Model_call_113 : decode b_Model_call 113 = .ok (.iload 4, 2) := by decide +kernel
theorem d_Model_call_115 : decode b_Model_call 115 = .ok (.iaload, 1) := by decide +kernel
theorem d_Model_call_116 : decode b_Model_call 116 = .ok (.iconst 2, 1) := by decide +kernel
theorem d_Model_call_117 : decode b_Model_call 117 = .ok (.if_icmp .ne 7, 3) := by decide +kernel
theorem d_Model_call_120 : decode b_Model_call 120 = .ok (.iconst 1, 1) := by decide +kernel
theorem d_Model_call_121 : decode b_Model_call 121 = .ok (.goto 4, 3) := by decide +kernel
theorem d_Model_call_124 : decode b_Model_call 124 = .ok (.iconst 0, 1) := by decide +kernel
theorem d_Model_call_125 : decode b_Model_call 125 = .ok (.invokevirtual 99, 3) := by decide +kernel
theorem d_Model_call_128 : decode b_Model_call 128 = .ok (.return_, 1) := by decide +kernel
theorem d_Model_note_0 : decode b_Model_note 0 = .ok (.aload_n 0, 1) := by decide +kernel
theorem d_Model_note_1 : decode b_Model_note 1 = .ok (.getfield 103, 3) := by decide +kernel
theorem d_Model_note_4 : decode b_Model_note 4 = .ok (.istore 4, 2) := by decide +kernel
theorem d_Model_note_6 : decode b_Model_note 6 = .ok (.aload_n 0, 1) := by decide +kernel
theorem d_Model_note_7 : decode b_Model_note 7 = .ok (.dup, 1) := by decide +kernel
theorem d_Model_note_8 : decode b_Model_note 8 = .ok (.getfield 103, 3) := by decide +kernel
theorem d_Model_note_11 : decode b_Model_note 11 = .ok (.iconst 1, 1) := by decide +kernel
theorem d_Model_note_12 : decode b_Model_note 12 = .ok (.iadd, 1) := by decide +kernel
theorem d_Model_note_13 : decode b_Model_note 13 = .ok (.putfield 103, 3) := by decide +kernel
theorem d_Model_note_16 : decode b_Model_note 16 = .ok (.iload_n 1, 1) := by decide +kernel
theorem d_Model_note_17 : decode b_Model_note 17 = .ok (.iconst 3, 1) := by decide +kernel
theorem d_Model_note_18 : decode b_Model_note 18 = .ok (.if_icmp .ne 13, 3) := by decide +kernel
theorem d_Model_note_21 : decode b_Model_note 21 = .ok (.aload_n 0, 1) := by decide +kernel
theorem d_Model_note_22 : decode b_Model_note 22 = .ok (.dup, 1) := by decide +kernel
theorem d_Model_note_23 : decode b_Model_note 23 = .ok (.getfield 106, 3) := by decide +kernel
theorem d_Model_note_26 : decode b_Model_note 26 = .ok (.iconst 1, 1) := by decide +kernel
theorem d_Model_note_27 : decode b_Model_note 27 = .ok (.iadd, 1) := by decide +kernel
theorem d_Model_note_28 : decode b_Model_note 28 = .ok (.putfield 106, 3) := by decide +kernel
theorem d_Model_note_31 : decode b_Model_note 31 = .ok (.iload 4, 2) := by decide +kernel
theorem d_Model_note_33 : decode b_Model_note 33 = .ok (.sipush 150, 3) := by decide +kernel
theorem d_Model_note_36 : decode b_Model_note 36 = .ok (.if_icmp .lt 4, 3) := by decide +kernel
theorem d_Model_note_39 : decode b_Model_note 39 = .ok (.return_, 1) := by decide +kernel
theorem d_Model_note_40 : decode b_Model_note 40 = .ok (.iconst 4, 1) := by decide +kernel
theorem d_Model_note_41 : decode b_Model_note 41 = .ok (.istore 5, 2) := by decide +kernel
theorem d_Model_note_43 : decode b_Model_note 43 = .ok (.iload 5, 2) := by decide +kernel
theorem d_Model_note_45 : decode b_Model_note 45 = .ok (.bipush 8, 2) := by decide +kernel
theorem d_Model_note_47 : decode b_Model_note 47 = .ok (.if_icmp .ge 23, 3) := by decide +kernel
theorem d_Model_note_50 : decode b_Model_note 50 = .ok (.aload_n 0, 1) := by decide +kernel
theorem d_Model_note_51 : decode b_Model_note 51 = .ok (.getfield 69, 3) := by decide +kernel
theorem d_Model_note_54 : decode b_Model_note 54 = .ok (.iload 4, 2) := by decide +kernel
theorem d_Model_note_56 : decode b_Model_note 56 = .ok (.bipush 8, 2) := by decide +kernel
theorem d_Model_note_58 : decode b_Model_note 58 = .ok (.imul, 1) := by decide +kernel
theorem d_Model_note_59 : decode b_Model_note 59 = .ok (.iload 5, 2) := by decide +kernel
theorem d_Model_note_61 : decode b_Model_note 61 = .ok (.iadd, 1) := by decide +kernel
theorem d_Model_note_62 : decode b_Model_note 62 = .ok (.iconst 0, 1) := by decide +kernel
theorem d_Model_note_63 : decode b_Model_note 63 = .ok (.iastore, 1) := by decide +kernel
theorem d_Model_note_64 : decode b_Model_note 64 = .ok (.iinc 5 1, 3) := by decide +kernel
theorem d_Model_note_67 : decode b_Model_note 67 = .ok (.goto (-24), 3) := by decide +kernel
theorem d_Model_note_70 : decode b_Model_note 70 = .ok (.aload_n 0, 1) := by decide +kernel
theorem d_Model_note_71 : decode b_Model_note 71 = .ok (.getfield 69, 3) := by decide +kernel
theorem d_Model_note_74 : decode b_Model_note 74 = .ok (.iload 4, 2) := by decide +kernel
theorem d_Model_note_76 : decode b_Model_note 76 = .ok (.bipush 8, 2) := by decide +kernel
theorem d_Model_note_78 : decode b_Model_note 78 = .ok (.imul, 1) := by decide +kernel
theorem d_Model_note_79 : decode b_Model_note 79 = .ok (.iload_n 1, 1) := by decide +kernel
theorem d_Model_note_80 : decode b_Model_note 80 = .ok (.iastore, 1) := by decide +kernel
theorem d_Model_note_81 : decode b_Model_note 81 = .ok (.aload_n 0, 1) := by decide +kernel
theorem d_Model_note_82 : decode b_Model_note 82 = .ok (.getfield 69, 3) := by decide +kernel
theorem d_Model_note_85 : decode b_Model_note 85 = .ok (.iload 4, 2) := by decide +kernel
theorem d_Model_note_87 : decode b_Model_note 87 = .ok (.bipush 8, 2) := by decide +kernel
theorem d_Model_note_89 : decode b_Model_note 89 = .ok (.imul, 1) := by decide +kernel
theorem d_Model_note_90 : decode b_Model_note 90 = .ok (.iconst 1, 1) := by decide +kernel
theorem d_Model_note_91 : decode b_Model_note 91 = .ok (.iadd, 1) := by decide +kernel
theorem d_Model_note_92 : decode b_Model_note 92 = .ok (.iload_n 2, 1) := by decide +kernel
theorem d_Model_note_93 : decode b_Model_note 93 = .ok (.iastore, 1) := by decide +kernel
theorem d_Model_note_94 : decode b_Model_note 94 = .ok (.aload_n 0, 1) := by decide +kernel
theorem d_Model_note_95 : decode b_Model_note 95 = .ok (.getfield 69, 3) := by decide +kernel
theorem d_Model_note_98 : decode b_Model_note 98 = .ok (.iload 4, 2) := by decide +kernel
theorem d_Model_note_100 : decode b_Model_note 100 = .ok (.bipush 8, 2) := by decide +kernel
theorem d_Model_note_102 : decode b_Model_note 102 = .ok (.imul, 1) := by decide +kernel
theorem d_Model_note_103 : decode b_Model_note 103 = .ok (.iconst 2, 1) := by decide +kernel
theorem d_Model_note_104 : decode b_Model_note 104 = .ok (.iadd, 1) := by decide +kernel
theorem d_Model_note_105 : decode b_Model_note 105 = .ok (.iload_n 3, 1) := by decide +kernel
theorem d_Model_note_106 : decode b_Model_note 106 = .ok (.iastore, 1) := by decide +kernel
theorem d_Model_note_107 : decode b_Model_note 107 = .ok (.aload_n 0, 1) := by decide +kernel
theorem d_Model_note_108 : decode b_Model_note 108 = .ok (.getfield 69, 3) := by decide +kernel
theorem d_Model_note_111 : decode b_Model_note 111 = .ok (.iload 4, 2) := by decide +kernel
theorem d_Model_note_113 : decode b_Model_note 113 = .ok (.bipush 8, 2) := by decide +kernel
theorem d_Model_note_115 : decode b_Model_note 115 = .ok (.imul, 1) := by decide +kernel
theorem d_Model_note_116 : decode b_Model_note 116 = .ok (.iconst 3, 1) := by decide +kernel
theorem d_Model_note_117 : decode b_Model_note 117 = .ok (.iadd, 1) := by decide +kernel
theorem d_Model_note_118 : decode b_Model_note 118 = .ok (.aload_n 0, 1) := by decide +kernel
theorem d_Model_note_119 : decode b_Model_note 119 = .ok (.getfield 96, 3) := by decide +kernel
theorem d_Model_note_122 : decode b_Model_note 122 = .ok (.iastore, 1) := by decide +kernel
theorem d_Model_note_123 : decode b_Model_note 123 = .ok (.return_, 1) := by decide +kernel
theorem d_Model_status_0 : decode b_Model_status 0 = .ok (.aload_n 0, 1) := by decide +kernel
theorem d_Model_status_1 : decode b_Model_status 1 = .ok (.getfield 66, 3) := by decide +kernel
theorem d_Model_status_4 : decode b_Model_status 4 = .ok (.iload_n 1, 1) := by decide +kernel
theorem d_Model_status_5 : decode b_Model_status 5 = .ok (.iaload, 1) := by decide +kernel
theorem d_Model_status_6 : decode b_Model_status 6 = .ok (.ifCond .ne 5, 3) := by decide +kernel
theorem d_Model_status_9 : decode b_Model_status 9 = .ok (.iconst 0, 1) := by decide +kernel
theorem d_Model_status_10 : decode b_Model_status 10 = .ok (.ireturn, 1) := by decide +kernel
theorem d_Model_status_11 : decode b_Model_status 11 = .ok (.aload_n 0, 1) := by decide +kernel
theorem d_Model_status_12 : decode b_Model_status 12 = .ok (.getfield 63, 3) := by decide +kernel
theorem d_Model_status_15 : decode b_Model_status 15 = .ok (.iload_n 1, 1) := by decide +kernel
theorem d_Model_status_16 : decode b_Model_status 16 = .ok (.iconst 4, 1) := by decide +kernel
theorem d_Model_status_17 : decode b_Model_status 17 = .ok (.if_icmp .ge 9, 3) := by decide +kernel
theorem d_Model_status_20 : decode b_Model_status 20 = .ok (.iload_n 1, 1) := by decide +kernel
theorem d_Model_status_21 : decode b_Model_status 21 = .ok (.iconst 2, 1) := by decide +kernel
theorem d_Model_status_22 : decode b_Model_status 22 = .ok (.imul, 1) := by decide +kernel
theorem d_Model_status_23 : decode b_Model_status 23 = .ok (.goto 5, 3) := by decide +kernel
theorem d_Model_status_26 : decode b_Model_status 26 = .ok (.bipush 8, 2) := by decide +kernel
theorem d_Model_status_28 : decode b_Model_status 28 = .ok (.iaload, 1) := by decide +kernel
theorem d_Model_status_29 : decode b_Model_status 29 = .ok (.iconst 1, 1) := by decide +kernel
theorem d_Model_status_30 : decode b_Model_status 30 = .ok (.if_icmp .ne 7, 3) := by decide +kernel
theorem d_Model_status_33 : decode b_Model_status 33 = .ok (.iconst 2, 1) := by decide +kernel
theorem d_Model_status_34 : decode b_Model_status 34 = .ok (.goto 4, 3) := by decide +kernel
theorem d_Model_status_37 : decode b_Model_status 37 = .ok (.iconst 1, 1) := by decide +kernel
theorem d_Model_status_38 : decode b_Model_status 38 = .ok (.ireturn, 1) := by decide +kernel
theorem d_Model_finish_0 : decode b_Model_finish 0 = .ok (.aload_n 0, 1) := by decide +kernel
theorem d_Model_finish_1 : decode b_Model_finish 1 = .ok (.iconst 2, 1) := by decide +kernel
theorem d_Model_finish_2 : decode b_Model_finish 2 = .ok (.iload_n 1, 1) := by decide +kernel
theorem d_Model_finish_3 : decode b_Model_finish 3 = .ok (.iload_n 2, 1) := by decide +kernel
theorem d_Model_finish_4 : decode b_Model_finish 4 = .ok (.invokevirtual 109, 3) := by decide +kernel
theorem d_Model_finish_7 : decode b_Model_finish 7 = .ok (.aload_n 0, 1) := by decide +kernel
theorem d_Model_finish_8 : decode b_Model_finish 8 = .ok (.iload_n 3, 1) := by decide +kernel
theorem d_Model_finish_9 : decode b_Model_finish 9 = .ok (.invokevirtual 113, 3) := by decide +kernel
theorem d_Model_finish_12 : decode b_Model_finish 12 = .ok (.istore 5, 2) := by decide +kernel
theorem d_Model_finish_14 : decode b_Model_finish 14 = .ok (.iload_n 3, 1) := by decide +kernel
theorem d_Model_finish_15 : decode b_Model_finish 15 = .ok (.iconst 4, 1) := by decide +kernel
theorem d_Model_finish_16 : decode b_Model_finish 16 = .ok (.if_icmp .ge 9, 3) := by decide +kernel
theorem d_Model_finish_19 : decode b_Model_finish 19 = .ok (.iload_n 3, 1) := by decide +kernel
theorem d_Model_finish_20 : decode b_Model_finish 20 = .ok (.iconst 2, 1) := by decide +kernel
theorem d_Model_finish_21 : decode b_Model_finish 21 = .ok (.imul, 1) := by decide +kernel
theorem d_Model_finish_22 : decode b_Model_finish 22 = .ok (.goto 5, 3) := by decide +kernel
theorem d_Model_finish_25 : decode b_Model_finish 25 = .ok (.bipush 8, 2) := by decide +kernel
theorem d_Model_finish_27 : decode b_Model_finish 27 = .ok (.istore 6, 2) := by decide +kernel
theorem d_Model_finish_29 : decode b_Model_finish 29 = .ok (.aload_n 0, 1) := by decide +kernel
theorem d_Model_finish_30 : decode b_Model_finish 30 = .ok (.getfield 103, 3) := by decide +kernel
theorem d_Model_finish_33 : decode b_Model_finish 33 = .ok (.iconst 1, 1) := by decide +kernel
theorem d_Model_finish_34 : decode b_Model_finish 34 = .ok (.isub, 1) := by decide +kernel
