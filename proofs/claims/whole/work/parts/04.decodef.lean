theorem d_Model_event_20 : decode b_Model_event 20 = .ok (.ifCond .lt 9, 3) := by decide +kernel
theorem d_Model_event_23 : decode b_Model_event 23 = .ok (.iload_n 2, 1) := by decide +kernel
theorem d_Model_event_24 : decode b_Model_event 24 = .ok (.bipush 7, 2) := by decide +kernel
theorem d_Model_event_26 : decode b_Model_event 26 = .ok (.if_icmp .le 9, 3) := by decide +kernel
theorem d_Model_event_29 : decode b_Model_event 29 = .ok (.sipush (-1000), 3) := by decide +kernel
theorem d_Model_event_32 : decode b_Model_event 32 = .ok (.goto 14, 3) := by decide +kernel
theorem d_Model_event_35 : decode b_Model_event 35 = .ok (.aload_n 0, 1) := by decide +kernel
theorem d_Model_event_36 : decode b_Model_event 36 = .ok (.getfield 69, 3) := by decide +kernel
theorem d_Model_event_39 : decode b_Model_event 39 = .ok (.iload_n 1, 1) := by decide +kernel
theorem d_Model_event_40 : decode b_Model_event 40 = .ok (.bipush 8, 2) := by decide +kernel
theorem d_Model_event_42 : decode b_Model_event 42 = .ok (.imul, 1) := by decide +kernel
theorem d_Model_event_43 : decode b_Model_event 43 = .ok (.iload_n 2, 1) := by decide +kernel
theorem d_Model_event_44 : decode b_Model_event 44 = .ok (.iadd, 1) := by decide +kernel
theorem d_Model_event_45 : decode b_Model_event 45 = .ok (.iaload, 1) := by decide +kernel
theorem d_Model_event_46 : decode b_Model_event 46 = .ok (.ireturn, 1) := by decide +kernel
theorem d_Model_trouble_0 : decode b_Model_trouble 0 = .ok (.iload_n 1, 1) := by decide +kernel
theorem d_Model_trouble_1 : decode b_Model_trouble 1 = .ok (.ifCond .lt 40, 3) := by decide +kernel
theorem d_Model_trouble_4 : decode b_Model_trouble 4 = .ok (.iload_n 1, 1) := by decide +kernel
theorem d_Model_trouble_5 : decode b_Model_trouble 5 = .ok (.aload_n 0, 1) := by decide +kernel
theorem d_Model_trouble_6 : decode b_Model_trouble 6 = .ok (.getfield 103, 3) := by decide +kernel
theorem d_Model_trouble_9 : decode b_Model_trouble 9 = .ok (.if_icmp .ge 32, 3) := by decide +kernel
theorem d_Model_trouble_12 : decode b_Model_trouble 12 = .ok (.iload_n 1, 1) := by decide +kernel
theorem d_Model_trouble_13 : decode b_Model_trouble 13 = .ok (.sipush 150, 3) := by decide +kernel
theorem d_Model_trouble_16 : decode b_Model_trouble 16 = .ok (.if_icmp .ge 25, 3) := by decide +kernel
theorem d_Model_trouble_19 : decode b_Model_trouble 19 = .ok (.aload_n 0, 1) := by decide +kernel
theorem d_Model_trouble_20 : decode b_Model_trouble 20 = .ok (.getfield 69, 3) := by decide +kernel
theorem d_Model_trouble_23 : decode b_Model_trouble 23 = .ok (.iload_n 1, 1) := by decide +kernel
theorem d_Model_trouble_24 : decode b_Model_trouble 24 = .ok (.bipush 8, 2) := by decide +kernel
theorem d_Model_trouble_26 : decode b_Model_trouble 26 = .ok (.imul, 1) := by decide +kernel
theorem d_Model_trouble_27 : decode b_Model_trouble 27 = .ok (.iaload, 1) := by decide +kernel
theorem d_Model_trouble_28 : decode b_Model_trouble 28 = .ok (.iconst 2, 1) := by decide +kernel
theorem d_Model_trouble_29 : decode b_Model_trouble 29 = .ok (.if_icmp .ne 12, 3) := by decide +kernel
theorem d_Model_trouble_32 : decode b_Model_trouble 32 = .ok (.iload_n 2, 1) := by decide +kernel
theorem d_Model_trouble_33 : decode b_Model_trouble 33 = .ok (.ifCond .lt 8, 3) := by decide +kernel
theorem d_Model_trouble_36 : decode b_Model_trouble 36 = .ok (.iload_n 2, 1) := by decide +kernel
theorem d_Model_trouble_37 : decode b_Model_trouble 37 = .ok (.iconst 3, 1) := by decide +kernel
theorem d_Model_trouble_38 : decode b_Model_trouble 38 = .ok (.if_icmp .le 7, 3) := by decide +kernel
theorem d_Model_trouble_41 : decode b_Model_trouble 41 = .ok (.sipush (-1000), 3) := by decide +kernel
theorem d_Model_trouble_44 : decode b_Model_trouble 44 = .ok (.ireturn, 1) := by decide +kernel
theorem d_Model_trouble_45 : decode b_Model_trouble 45 = .ok (.aload_n 0, 1) := by decide +kernel
theorem d_Model_trouble_46 : decode b_Model_trouble 46 = .ok (.getfield 72, 3) := by decide +kernel
theorem d_Model_trouble_49 : decode b_Model_trouble 49 = .ok (.iload_n 1, 1) := by decide +kernel
theorem d_Model_trouble_50 : decode b_Model_trouble 50 = .ok (.iconst 4, 1) := by decide +kernel
theorem d_Model_trouble_51 : decode b_Model_trouble 51 = .ok (.imul, 1) := by decide +kernel
theorem d_Model_trouble_52 : decode b_Model_trouble 52 = .ok (.iload_n 2, 1) := by decide +kernel
theorem d_Model_trouble_53 : decode b_Model_trouble 53 = .ok (.iadd, 1) := by decide +kernel
theorem d_Model_trouble_54 : decode b_Model_trouble 54 = .ok (.iaload, 1) := by decide +kernel
theorem d_Model_trouble_55 : decode b_Model_trouble 55 = .ok (.ireturn, 1) := by decide +kernel
theorem d_Model_count_0 : decode b_Model_count 0 = .ok (.iload_n 1, 1) := by decide +kernel
theorem d_Model_count_1 : decode b_Model_count 1 = .ok (.ifCond .lt 9, 3) := by decide +kernel
theorem d_Model_count_4 : decode b_Model_count 4 = .ok (.iload_n 1, 1) := by decide +kernel
theorem d_Model_count_5 : decode b_Model_count 5 = .ok (.bipush 10, 2) := by decide +kernel
theorem d_Model_count_7 : decode b_Model_count 7 = .ok (.if_icmp .le 7, 3) := by decide +kernel
theorem d_Model_count_10 : decode b_Model_count 10 = .ok (.sipush (-1000), 3) := by decide +kernel
theorem d_Model_count_13 : decode b_Model_count 13 = .ok (.ireturn, 1) := by decide +kernel
theorem d_Model_count_14 : decode b_Model_count 14 = .ok (.iload_n 1, 1) := by decide +kernel
theorem d_Model_count_15 : decode b_Model_count 15 = .ok (.iconst 3, 1) := by decide +kernel
theorem d_Model_count_16 : decode b_Model_count 16 = .ok (.if_icmp .ge 31, 3) := by decide +kernel
theorem d_Model_count_19 : decode b_Model_count 19 = .ok (.iload_n 1, 1) := by decide +kernel
theorem d_Model_count_20 : decode b_Model_count 20 = .ok (.ifCond .ne 10, 3) := by decide +kernel
theorem d_Model_count_23 : decode b_Model_count 23 = .ok (.aload_n 0, 1) := by decide +kernel
theorem d_Model_count_24 : decode b_Model_count 24 = .ok (.getfield 47, 3) := by decide +kernel
theorem d_Model_count_27 : decode b_Model_count 27 = .ok (.goto 19, 3) := by decide +kernel
theorem d_Model_count_30 : decode b_Model_count 30 = .ok (.iload_n 1, 1) := by decide +kernel
theorem d_Model_count_31 : decode b_Model_count 31 = .ok (.iconst 1, 1) := by decide +kernel
theorem d_Model_count_32 : decode b_Model_count 32 = .ok (.if_icmp .ne 10, 3) := by decide +kernel
theorem d_Model_count_35 : decode b_Model_count 35 = .ok (.aload_n 0, 1) := by decide +kernel
theorem d_Model_count_36 : decode b_Model_count 36 = .ok (.getfield 103, 3) := by decide +kernel
theorem d_Model_count_39 : decode b_Model_count 39 = .ok (.goto 7, 3) := by decide +kernel
theorem d_Model_count_42 : decode b_Model_count 42 = .ok (.aload_n 0, 1) := by decide +kernel
theorem d_Model_count_43 : decode b_Model_count 43 = .ok (.getfield 123, 3) := by decide +kernel
theorem d_Model_count_46 : decode b_Model_count 46 = .ok (.ireturn, 1) := by decide +kernel
theorem d_Model_count_47 : decode b_Model_count 47 = .ok (.iload_n 1, 1) := by decide +kernel
theorem d_Model_count_48 : decode b_Model_count 48 = .ok (.bipush 6, 2) := by decide +kernel
theorem d_Model_count_50 : decode b_Model_count 50 = .ok (.if_icmp .ge 32, 3) := by decide +kernel
theorem d_Model_count_53 : decode b_Model_count 53 = .ok (.iload_n 1, 1) := by decide +kernel
theorem d_Model_count_54 : decode b_Model_count 54 = .ok (.iconst 3, 1) := by decide +kernel
theorem d_Model_count_55 : decode b_Model_count 55 = .ok (.if_icmp .ne 10, 3) := by decide +kernel
theorem d_Model_count_58 : decode b_Model_count 58 = .ok (.aload_n 0, 1) := by decide +kernel
theorem d_Model_count_59 : decode b_Model_count 59 = .ok (.getfield 126, 3) := by decide +kernel
theorem d_Model_count_62 : decode b_Model_count 62 = .ok (.goto 19, 3) := by decide +kernel
theorem d_Model_count_65 : decode b_Model_count 65 = .ok (.iload_n 1, 1) := by decide +kernel
theorem d_Model_count_66 : decode b_Model_count 66 = .ok (.iconst 4, 1) := by decide +kernel
theorem d_Model_count_67 : decode b_Model_count 67 = .ok (.if_icmp .ne 10, 3) := by decide +kernel
theorem d_Model_count_70 : decode b_Model_count 70 = .ok (.aload_n 0, 1) := by decide +kernel
theorem d_Model_count_71 : decode b_Model_count 71 = .ok (.getfield 129, 3) := by decide +kernel
theorem d_Model_count_74 : decode b_Model_count 74 = .ok (.goto 7, 3) := by decide +kernel
theorem d_Model_count_77 : decode b_Model_count 77 = .ok (.aload_n 0, 1) := by decide +kernel
theorem d_Model_count_78 : decode b_Model_count 78 = .ok (.getfield 106, 3) := by decide +kernel
theorem d_Model_count_81 : decode b_Model_count 81 = .ok (.ireturn, 1) := by decide +kernel
theorem d_Model_count_82 : decode b_Model_count 82 = .ok (.iload_n 1, 1) := by decide +kernel
theorem d_Model_count_83 : decode b_Model_count 83 = .ok (.bipush 8, 2) := by decide +kernel
theorem d_Model_count_85 : decode b_Model_count 85 = .ok (.if_icmp .ge 21, 3) := by decide +kernel
theorem d_Model_count_88 : decode b_Model_count 88 = .ok (.iload_n 1, 1) := by decide +kernel
theorem d_Model_count_89 : decode b_Model_count 89 = .ok (.bipush 6, 2) := by decide +kernel
theorem d_Model_count_91 : decode b_Model_count 91 = .ok (.if_icmp .ne 10, 3) := by decide +kernel
theorem d_Model_count_94 : decode b_Model_count 94 = .ok (.aload_n 0, 1) := by decide +kernel
theorem d_Model_count_95 : decode b_Model_count 95 = .ok (.getfield 120, 3) := by decide +kernel
theorem d_Model_count_98 : decode b_Model_count 98 = .ok (.goto 7, 3) := by decide +kernel
theorem d_Model_count_101 : decode b_Model_count 101 = .ok (.aload_n 0, 1) := by decide +kernel
theorem d_Model_count_102 : decode b_Model_count 102 = .ok (.getfield 138, 3) := by decide +kernel
theorem d_Model_count_105 : decode b_Model_count 105 = .ok (.ireturn, 1) := by decide +kernel
theorem d_Model_count_106 : decode b_Model_count 106 = .ok (.iload_n 1, 1) := by decide +kernel
theorem d_Model_count_107 : decode b_Model_count 107 = .ok (.bipush 8, 2) := by decide +kernel
theorem d_Model_count_109 : decode b_Model_count 109 = .ok (.if_icmp .ne 10, 3) := by decide +kernel
theorem d_Model_count_112 : decode b_Model_count 112 = .ok (.aload_n 0, 1) := by decide +kernel
theorem d_Model_count_113 : decode b_Model_count 113 = .ok (.getfield 96, 3) := by decide +kernel
theorem d_Model_count_116 : decode b_Model_count 116 = .ok (.goto 20, 3) := by decide +kernel
theorem d_Model_count_119 : decode b_Model_count 119 = .ok (.iload_n 1, 1) := by decide +kernel
theorem d_Model_count_120 : decode b_Model_count 120 = .ok (.bipush 9, 2) := by decide +kernel
theorem d_Model_count_122 : decode b_Model_count 122 = .ok (.if_icmp .ne 10, 3) := by decide +kernel
theorem d_Model_count_125 : decode b_Model_count 125 = .ok (.aload_n 0, 1) := by decide +kernel
theorem d_Model_count_126 : decode b_Model_count 126 = .ok (.getfield 93, 3) := by decide +kernel
theorem d_Model_count_129 : decode b_Model_count 129 = .ok (.goto 7, 3) := by decide +kernel
theorem d_Model_count_132 : decode b_Model_count 132 = .ok (.aload_n 0, 1) := by decide +kernel
theorem d_Model_count_133 : decode b_Model_count 133 = .ok (.getfield 90, 3) := by decide +kernel
theorem d_Model_count_136 : decode b_Model_count 136 = .ok (.ireturn, 1) := by decide +kernel
theorem d_Law_law_0 : decode code 0 = .ok (.new 7, 3) := by decide +kernel
theorem d_Law_law_3 : decode code 3 = .ok (.dup, 1) := by decide +kernel
theorem d_Law_law_4 : decode code 4 = .ok (.invokespecial 9, 3) := by decide +kernel
theorem d_Law_law_7 : decode code 7 = .ok (.astore_n 1, 1) := by decide +kernel
theorem d_Law_law_8 : decode code 8 = .ok (.new 10, 3) := by decide +kernel
theorem d_Law_law_11 : decode code 11 = .ok (.dup, 1) := by decide +kernel
theorem d_Law_law_12 : decode code 12 = .ok (.invokespecial 12, 3) := by decide +kernel
theorem d_Law_law_15 : decode code 15 = .ok (.astore_n 2, 1) := by decide +kernel
theorem d_Law_law_16 : decode code 16 = .ok (.iconst 0, 1) := by decide +kernel
theorem d_Law_law_17 : decode code 17 = .ok (.istore_n 3, 1) := by decide +kernel
theorem d_Law_law_18 : decode code 18 = .ok (.iload_n 3, 1) := by decide +kernel
theorem d_Law_law_19 : decode code 19 = .ok (.aload_n 0, 1) := by decide +kernel
theorem d_Law_law_20 : decode code 20 = .ok (.arraylength, 1) := by decide +kernel
theorem d_Law_law_21 : decode code 21 = .ok (.bipush 6, 2) := by decide +kernel
theorem d_Law_law_23 : decode code 23 = .ok (.isub, 1) := by decide +kernel
theorem d_Law_law_24 : decode code 24 = .ok (.if_icmp .gt 465, 3) := by decide +kernel
theorem d_Law_law_27 : decode code 27 = .ok (.aload_n 0, 1) := by decide +kernel
theorem d_Law_law_28 : decode code 28 = .ok (.iload_n 3, 1) := by decide +kernel
theorem d_Law_law_29 : decode code 29 = .ok (.iaload, 1) := by decide +kernel
theorem d_Law_law_30 : decode code 30 = .ok (.bipush 15, 2) := by decide +kernel
theorem d_Law_law_32 : decode code 32 = .ok (.iand, 1) := by decide +kernel
theorem d_Law_law_33 : decode code 33 = .ok (.tableswitch 450 0 8 #[51, 110, 163, 222, 285, 318, 361, 394, 427], 51) := by decide +kernel
theorem d_Law_law_84 : decode code 84 = .ok (.aload_n 1, 1) := by decide +kernel
theorem d_Law_law_85 : decode code 85 = .ok (.aload_n 0, 1) := by decide +kernel
theorem d_Law_law_86 : decode code 86 = .ok (.iload_n 3, 1) := by decide +kernel
theorem d_Law_law_87 : decode code 87 = .ok (.iconst 1, 1) := by decide +kernel
theorem d_Law_law_88 : decode code 88 = .ok (.iadd, 1) := by decide +kernel
theorem d_Law_law_89 : decode code 89 = .ok (.iaload, 1) := by decide +kernel
theorem d_Law_law_90 : decode code 90 = .ok (.aload_n 0, 1) := by decide +kernel
theorem d_Law_law_91 : decode code 91 = .ok (.iload_n 3, 1) := by decide +kernel
theorem d_Law_law_92 : decode code 92 = .ok (.iconst 2, 1) := by decide +kernel
theorem d_Law_law_93 : decode code 93 = .ok (.iadd, 1) := by decide +kernel
theorem d_Law_law_94 : decode code 94 = .ok (.iaload, 1) := by decide +kernel
theorem d_Law_law_95 : decode code 95 = .ok (.aload_n 0, 1) := by decide +kernel
theorem d_Law_law_96 : decode code 96 = .ok (.iload_n 3, 1) := by decide +kernel
theorem d_Law_law_97 : decode code 97 = .ok (.iconst 3, 1) := by decide +kernel
theorem d_Law_law_98 : decode code 98 = .ok (.iadd, 1) := by decide +kernel
theorem d_Law_law_99 : decode code 99 = .ok (.iaload, 1) := by decide +kernel
theorem d_Law_law_100 : decode code 100 = .ok (.ifCond .eq 7, 3) := by decide +kernel
theorem d_Law_law_103 : decode code 103 = .ok (.iconst 1, 1) := by decide +kernel
theorem d_Law_law_104 : decode code 104 = .ok (.goto 4, 3) := by decide +kernel
theorem d_Law_law_107 : decode code 107 = .ok (.iconst 0, 1) := by decide +kernel
theorem d_Law_law_108 : decode code 108 = .ok (.invokevirtual 13, 3) := by decide +kernel
theorem d_Law_law_111 : decode code 111 = .ok (.aload_n 2, 1) := by decide +kernel
theorem d_Law_law_112 : decode code 112 = .ok (.aload_n 0, 1) := by decide +kernel
theorem d_Law_law_113 : decode code 113 = .ok (.iload_n 3, 1) := by decide +kernel
theorem d_Law_law_114 : decode code 114 = .ok (.iconst 1, 1) := by decide +kernel
theorem d_Law_law_115 : decode code 115 = .ok (.iadd, 1) := by decide +kernel
theorem d_Law_law_116 : decode code 116 = .ok (.iaload, 1) := by decide +kernel
theorem d_Law_law_117 : decode code 117 = .ok (.aload_n 0, 1) := by decide +kernel
theorem d_Law_law_118 : decode code 118 = .ok (.iload_n 3, 1) := by decide +kernel
theorem d_Law_law_119 : decode code 119 = .ok (.iconst 2, 1) := by decide +kernel
theorem d_Law_law_120 : decode code 120 = .ok (.iadd, 1) := by decide +kernel
theorem d_Law_law_121 : decode code 121 = .ok (.iaload, 1) := by decide +kernel
theorem d_Law_law_122 : decode code 122 = .ok (.aload_n 0, 1) := by decide +kernel
theorem d_Law_law_123 : decode code 123 = .ok (.iload_n 3, 1) := by decide +kernel
theorem d_Law_law_124 : decode code 124 = .ok (.iconst 3, 1) := by decide +kernel
theorem d_Law_law_125 : decode code 125 = .ok (.iadd, 1) := by decide +kernel
theorem d_Law_law_126 : decode code 126 = .ok (.iaload, 1) := by decide +kernel
theorem d_Law_law_127 : decode code 127 = .ok (.ifCond .eq 7, 3) := by decide +kernel
theorem d_Law_law_130 : decode code 130 = .ok (.iconst 1, 1) := by decide +kernel
theorem d_Law_law_131 : decode code 131 = .ok (.goto 4, 3) := by decide +kernel
theorem d_Law_law_134 : decode code 134 = .ok (.iconst 0, 1) := by decide +kernel
theorem d_Law_law_135 : decode code 135 = .ok (.invokevirtual 17, 3) := by decide +kernel
theorem d_Law_law_138 : decode code 138 = .ok (.if_icmp .eq 345, 3) := by decide +kernel
theorem d_Law_law_141 : decode code 141 = .ok (.iconst 0, 1) := by decide +kernel
theorem d_Law_law_142 : decode code 142 = .ok (.ireturn, 1) := by decide +kernel
theorem d_Law_law_143 : decode code 143 = .ok (.aload_n 1, 1) := by decide +kernel
theorem d_Law_law_144 : decode code 144 = .ok (.aload_n 0, 1) := by decide +kernel
theorem d_Law_law_145 : decode code 145 = .ok (.iload_n 3, 1) := by decide +kernel
theorem d_Law_law_146 : decode code 146 = .ok (.iconst 1, 1) := by decide +kernel
theorem d_Law_law_147 : decode code 147 = .ok (.iadd, 1) := by decide +kernel
theorem d_Law_law_148 : decode code 148 = .ok (.iaload, 1) := by decide +kernel
theorem d_Law_law_149 : decode code 149 = .ok (.aload_n 0, 1) := by decide +kernel
theorem d_Law_law_150 : decode code 150 = .ok (.iload_n 3, 1) := by decide +kernel
theorem d_Law_law_151 : decode code 151 = .ok (.iconst 2, 1) := by decide +kernel
theorem d_Law_law_152 : decode code 152 = .ok (.iadd, 1) := by decide +kernel
theorem d_Law_law_153 : decode code 153 = .ok (.iaload, 1) := by decide +kernel
theorem d_Law_law_154 : decode code 154 = .ok (.aload_n 0, 1) := by decide +kernel
theorem d_Law_law_155 : decode code 155 = .ok (.iload_n 3, 1) := by decide +kernel
theorem d_Law_law_156 : decode code 156 = .ok (.iconst 3, 1) := by decide +kernel
theorem d_Law_law_157 : decode code 157 = .ok (.iadd, 1) := by decide +kernel
theorem d_Law_law_158 : decode code 158 = .ok (.iaload, 1) := by decide +kernel
theorem d_Law_law_159 : decode code 159 = .ok (.aload_n 0, 1) := by decide +kernel
theorem d_Law_law_160 : decode code 160 = .ok (.iload_n 3, 1) := by decide +kernel
theorem d_Law_law_161 : decode code 161 = .ok (.iconst 4, 1) := by decide +kernel
theorem d_Law_law_162 : decode code 162 = .ok (.iadd, 1) := by decide +kernel
theorem d_Law_law_163 : decode code 163 = .ok (.iaload, 1) := by decide +kernel
theorem d_Law_law_164 : decode code 164 = .ok (.invokevirtual 18, 3) := by decide +kernel
theorem d_Law_law_167 : decode code 167 = .ok (.aload_n 2, 1) := by decide +kernel
theorem d_Law_law_168 : decode code 168 = .ok (.aload_n 0, 1) := by decide +kernel
theorem d_Law_law_169 : decode code 169 = .ok (.iload_n 3, 1) := by decide +kernel
theorem d_Law_law_170 : decode code 170 = .ok (.iconst 1, 1) := by decide +kernel
theorem d_Law_law_171 : decode code 171 = .ok (.iadd, 1) := by decide +kernel
theorem d_Law_law_172 : decode code 172 = .ok (.iaload, 1) := by decide +kernel
theorem d_Law_law_173 : decode code 173 = .ok (.aload_n 0, 1) := by decide +kernel
theorem d_Law_law_174 : decode code 174 = .ok (.iload_n 3, 1) := by decide +kernel
theorem d_Law_law_175 : decode code 175 = .ok (.iconst 2, 1) := by decide +kernel
theorem d_Law_law_176 : decode code 176 = .ok (.iadd, 1) := by decide +kernel
theorem d_Law_law_177 : decode code 177 = .ok (.iaload, 1) := by decide +kernel
theorem d_Law_law_178 : decode code 178 = .ok (.aload_n 0, 1) := by decide +kernel
theorem d_Law_law_179 : decode code 179 = .ok (.iload_n 3, 1) := by decide +kernel
theorem d_Law_law_180 : decode code 180 = .ok (.iconst 3, 1) := by decide +kernel
theorem d_Law_law_181 : decode code 181 = .ok (.iadd, 1) := by decide +kernel
theorem d_Law_law_182 : decode code 182 = .ok (.iaload, 1) := by decide +kernel
theorem d_Law_law_183 : decode code 183 = .ok (.aload_n 0, 1) := by decide +kernel
theorem d_Law_law_184 : decode code 184 = .ok (.iload_n 3, 1) := by decide +kernel
theorem d_Law_law_185 : decode code 185 = .ok (.iconst 4, 1) := by decide +kernel
theorem d_Law_law_186 : decode code 186 = .ok (.iadd, 1) := by decide +kernel
theorem d_Law_law_187 : decode code 187 = .ok (.iaload, 1) := by decide +kernel
theorem d_Law_law_188 : decode code 188 = .ok (.invokevirtual 22, 3) := by decide +kernel
theorem d_Law_law_191 : decode code 191 = .ok (.if_icmp .eq 292, 3) := by decide +kernel
theorem d_Law_law_194 : decode code 194 = .ok (.iconst 0, 1) := by decide +kernel
theorem d_Law_law_195 : decode code 195 = .ok (.ireturn, 1) := by decide +kernel
theorem d_Law_law_196 : decode code 196 = .ok (.aload_n 1, 1) := by decide +kernel
theorem d_Law_law_197 : decode code 197 = .ok (.aload_n 0, 1) := by decide +kernel
theorem d_Law_law_198 : decode code 198 = .ok (.iload_n 3, 1) := by decide +kernel
theorem d_Law_law_199 : decode code 199 = .ok (.iconst 1, 1) := by decide +kernel
theorem d_Law_law_200 : decode code 200 = .ok (.iadd, 1) := by decide +kernel
theorem d_Law_law_201 : decode code 201 = .ok (.iaload, 1) := by decide +kernel
theorem d_Law_law_202 : decode code 202 = .ok (.aload_n 0, 1) := by decide +kernel
theorem d_Law_law_203 : decode code 203 = .ok (.iload_n 3, 1) := by decide +kernel
theorem d_Law_law_204 : decode code 204 = .ok (.iconst 2, 1) := by decide +kernel
theorem d_Law_law_205 : decode code 205 = .ok (.iadd, 1) := by decide +kernel
theorem d_Law_law_206 : decode code 206 = .ok (.iaload, 1) := by decide +kernel
theorem d_Law_law_207 : decode code 207 = .ok (.aload_n 0, 1) := by decide +kernel
theorem d_Law_law_208 : decode code 208 = .ok (.iload_n 3, 1) := by decide +kernel
theorem d_Law_law_209 : decode code 209 = .ok (.iconst 3, 1) := by decide +kernel
theorem d_Law_law_210 : decode code 210 = .ok (.iadd, 1) := by decide +kernel
theorem d_Law_law_211 : decode code 211 = .ok (.iaload, 1) := by decide +kernel
theorem d_Law_law_212 : decode code 212 = .ok (.ifCond .eq 7, 3) := by decide +kernel
theorem d_Law_law_215 : decode code 215 = .ok (.iconst 1, 1) := by decide +kernel
theorem d_Law_law_216 : decode code 216 = .ok (.goto 4, 3) := by decide +kernel
theorem d_Law_law_219 : decode code 219 = .ok (.iconst 0, 1) := by decide +kernel
theorem d_Law_law_220 : decode code 220 = .ok (.invokevirtual 23, 3) := by decide +kernel
theorem d_Law_law_223 : decode code 223 = .ok (.aload_n 2, 1) := by decide +kernel
theorem d_Law_law_224 : decode code 224 = .ok (.aload_n 0, 1) := by decide +kernel
theorem d_Law_law_225 : decode code 225 = .ok (.iload_n 3, 1) := by decide +kernel
theorem d_Law_law_226 : decode code 226 = .ok (.iconst 1, 1) := by decide +kernel
theorem d_Law_law_227 : decode code 227 = .ok (.iadd, 1) := by decide +kernel
theorem d_Law_law_228 : decode code 228 = .ok (.iaload, 1) := by decide +kernel
theorem d_Law_law_229 : decode code 229 = .ok (.aload_n 0, 1) := by decide +kernel
theorem d_Law_law_230 : decode code 230 = .ok (.iload_n 3, 1) := by decide +kernel
theorem d_Law_law_231 : decode code 231 = .ok (.iconst 2, 1) := by decide +kernel
theorem d_Law_law_232 : decode code 232 = .ok (.iadd, 1) := by decide +kernel
theorem d_Law_law_233 : decode code 233 = .ok (.iaload, 1) := by decide +kernel
theorem d_Law_law_234 : decode code 234 = .ok (.aload_n 0, 1) := by decide +kernel
theorem d_Law_law_235 : decode code 235 = .ok (.iload_n 3, 1) := by decide +kernel
theorem d_Law_law_236 : decode code 236 = .ok (.iconst 3, 1) := by decide +kernel
theorem d_Law_law_237 : decode code 237 = .ok (.iadd, 1) := by decide +kernel
theorem d_Law_law_238 : decode code 238 = .ok (.iaload, 1) := by decide +kernel
theorem d_Law_law_239 : decode code 239 = .ok (.ifCond .eq 7, 3) := by decide +kernel
theorem d_Law_law_242 : decode code 242 = .ok (.iconst 1, 1) := by decide +kernel
theorem d_Law_law_243 : decode code 243 = .ok (.goto 4, 3) := by decide +kernel
theorem d_Law_law_246 : decode code 246 = .ok (.iconst 0, 1) := by decide +kernel
theorem d_Law_law_247 : decode code 247 = .ok (.invokevirtual 26, 3) := by decide +kernel
theorem d_Law_law_250 : decode code 250 = .ok (.if_icmp .eq 233, 3) := by decide +kernel
theorem d_Law_law_253 : decode code 253 = .ok (.iconst 0, 1) := by decide +kernel
theorem d_Law_law_254 : decode code 254 = .ok (.ireturn, 1) := by decide +kernel
theorem d_Law_law_255 : decode code 255 = .ok (.aload_n 1, 1) := by decide +kernel
theorem d_Law_law_256 : decode code 256 = .ok (.aload_n 0, 1) := by decide +kernel
theorem d_Law_law_257 : decode code 257 = .ok (.iload_n 3, 1) := by decide +kernel
theorem d_Law_law_258 : decode code 258 = .ok (.iconst 1, 1) := by decide +kernel
theorem d_Law_law_259 : decode code 259 = .ok (.iadd, 1) := by decide +kernel
theorem d_Law_law_260 : decode code 260 = .ok (.iaload, 1) := by decide +kernel
theorem d_Law_law_261 : decode code 261 = .ok (.aload_n 0, 1) := by decide +kernel
theorem d_Law_law_262 : decode code 262 = .ok (.iload_n 3, 1) := by decide +kernel
theorem d_Law_law_263 : decode code 263 = .ok (.iconst 2, 1) := by decide +kernel
theorem d_Law_law_264 : decode code 264 = .ok (.iadd, 1) := by decide +kernel
theorem d_Law_law_265 : decode code 265 = .ok (.iaload, 1) := by decide +kernel
theorem d_Law_law_266 : decode code 266 = .ok (.aload_n 0, 1) := by decide +kernel
theorem d_Law_law_267 : decode code 267 = .ok (.iload_n 3, 1) := by decide +kernel
theorem d_Law_law_268 : decode code 268 = .ok (.iconst 3, 1) := by decide +kernel
theorem d_Law_law_269 : decode code 269 = .ok (.iadd, 1) := by decide +kernel
theorem d_Law_law_270 : decode code 270 = .ok (.iaload, 1) := by decide +kernel
theorem d_Law_law_271 : decode code 271 = .ok (.aload_n 0, 1) := by decide +kernel
theorem d_Law_law_272 : decode code 272 = .ok (.iload_n 3, 1) := by decide +kernel
theorem d_Law_law_273 : decode code 273 = .ok (.iconst 4, 1) := by decide +kernel
theorem d_Law_law_274 : decode code 274 = .ok (.iadd, 1) := by decide +kernel
theorem d_Law_law_275 : decode code 275 = .ok (.iaload, 1) := by decide +kernel
theorem d_Law_law_276 : decode code 276 = .ok (.aload_n 0, 1) := by decide +kernel
theorem d_Law_law_277 : decode code 277 = .ok (.iload_n 3, 1) := by decide +kernel
theorem d_Law_law_278 : decode code 278 = .ok (.iconst 5, 1) := by decide +kernel
theorem d_Law_law_279 : decode code 279 = .ok (.iadd, 1) := by decide +kernel
theorem d_Law_law_280 : decode code 280 = .ok (.iaload, 1) := by decide +kernel
theorem d_Law_law_281 : decode code 281 = .ok (.invokevirtual 27, 3) := by decide +kernel
theorem d_Law_law_284 : decode code 284 = .ok (.aload_n 2, 1) := by decide +kernel
theorem d_Law_law_285 : decode code 285 = .ok (.aload_n 0, 1) := by decide +kernel
theorem d_Law_law_286 : decode code 286 = .ok (.iload_n 3, 1) := by decide +kernel
theorem d_Law_law_287 : decode code 287 = .ok (.iconst 1, 1) := by decide +kernel
theorem d_Law_law_288 : decode code 288 = .ok (.iadd, 1) := by decide +kernel
theorem d_Law_law_289 : decode code 289 = .ok (.iaload, 1) := by decide +kernel
theorem d_Law_law_290 : decode code 290 = .ok (.aload_n 0, 1) := by decide +kernel
theorem d_Law_law_291 : decode code 291 = .ok (.iload_n 3, 1) := by decide +kernel
theorem d_Law_law_292 : decode code 292 = .ok (.iconst 2, 1) := by decide +kernel
theorem d_Law_law_293 : decode code 293 = .ok (.iadd, 1) := by decide +kernel
theorem d_Law_law_294 : decode code 294 = .ok (.iaload, 1) := by decide +kernel
theorem d_Law_law_295 : decode code 295 = .ok (.aload_n 0, 1) := by decide +kernel
theorem d_Law_law_296 : decode code 296 = .ok (.iload_n 3, 1) := by decide +kernel
theorem d_Law_law_297 : decode code 297 = .ok (.iconst 3, 1) := by decide +kernel
theorem d_Law_law_298 : decode code 298 = .ok (.iadd, 1) := by decide +kernel
theorem d_Law_law_299 : decode code 299 = .ok (.iaload, 1) := by decide +kernel
theorem d_Law_law_300 : decode code 300 = .ok (.aload_n 0, 1) := by decide +kernel
theorem d_Law_law_301 : decode code 301 = .ok (.iload_n 3, 1) := by decide +kernel
theorem d_Law_law_302 : decode code 302 = .ok (.iconst 4, 1) := by decide +kernel
theorem d_Law_law_303 : decode code 303 = .ok (.iadd, 1) := by decide +kernel
theorem d_Law_law_304 : decode code 304 = .ok (.iaload, 1) := by decide +kernel
theorem d_Law_law_305 : decode code 305 = .ok (.aload_n 0, 1) := by decide +kernel
theorem d_Law_law_306 : decode code 306 = .ok (.iload_n 3, 1) := by decide +kernel
theorem d_Law_law_307 : decode code 307 = .ok (.iconst 5, 1) := by decide +kernel
theorem d_Law_law_308 : decode code 308 = .ok (.iadd, 1) := by decide +kernel
theorem d_Law_law_309 : decode code 309 = .ok (.iaload, 1) := by decide +kernel
theorem d_Law_law_310 : decode code 310 = .ok (.invokevirtual 31, 3) := by decide +kernel
theorem d_Law_law_313 : decode code 313 = .ok (.if_icmp .eq 170, 3) := by decide +kernel
theorem d_Law_law_316 : decode code 316 = .ok (.iconst 0, 1) := by decide +kernel
theorem d_Law_law_317 : decode code 317 = .ok (.ireturn, 1) := by decide +kernel
theorem d_Law_law_318 : decode code 318 = .ok (.aload_n 1, 1) := by decide +kernel
theorem d_Law_law_319 : decode code 319 = .ok (.aload_n 0, 1) := by decide +kernel
theorem d_Law_law_320 : decode code 320 = .ok (.iload_n 3, 1) := by decide +kernel
theorem d_Law_law_321 : decode code 321 = .ok (.iconst 1, 1) := by decide +kernel
theorem d_Law_law_322 : decode code 322 = .ok (.iadd, 1) := by decide +kernel
theorem d_Law_law_323 : decode code 323 = .ok (.iaload, 1) := by decide +kernel
theorem d_Law_law_324 : decode code 324 = .ok (.aload_n 0, 1) := by decide +kernel
theorem d_Law_law_325 : decode code 325 = .ok (.iload_n 3, 1) := by decide +kernel
theorem d_Law_law_326 : decode code 326 = .ok (.iconst 2, 1) := by decide +kernel
theorem d_Law_law_327 : decode code 327 = .ok (.iadd, 1) := by decide +kernel
theorem d_Law_law_328 : decode code 328 = .ok (.iaload, 1) := by decide +kernel
theorem d_Law_law_329 : decode code 329 = .ok (.invokevirtual 32, 3) := by decide +kernel
theorem d_Law_law_332 : decode code 332 = .ok (.aload_n 2, 1) := by decide +kernel
theorem d_Law_law_333 : decode code 333 = .ok (.aload_n 0, 1) := by decide +kernel
theorem d_Law_law_334 : decode code 334 = .ok (.iload_n 3, 1) := by decide +kernel
theorem d_Law_law_335 : decode code 335 = .ok (.iconst 1, 1) := by decide +kernel
theorem d_Law_law_336 : decode code 336 = .ok (.iadd, 1) := by decide +kernel
theorem d_Law_law_337 : decode code 337 = .ok (.iaload, 1) := by decide +kernel
theorem d_Law_law_338 : decode code 338 = .ok (.aload_n 0, 1) := by decide +kernel
theorem d_Law_law_339 : decode code 339 = .ok (.iload_n 3, 1) := by decide +kernel
theorem d_Law_law_340 : decode code 340 = .ok (.iconst 2, 1) := by decide +kernel
theorem d_Law_law_341 : decode code 341 = .ok (.iadd, 1) := by decide +kernel
theorem d_Law_law_342 : decode code 342 = .ok (.iaload, 1) := by decide +kernel
theorem d_Law_law_343 : decode code 343 = .ok (.invokevirtual 36, 3) := by decide +kernel
theorem d_Law_law_346 : decode code 346 = .ok (.if_icmp .eq 137, 3) := by decide +kernel
theorem d_Law_law_349 : decode code 349 = .ok (.iconst 0, 1) := by decide +kernel
theorem d_Law_law_350 : decode code 350 = .ok (.ireturn, 1) := by decide +kernel
theorem d_Law_law_351 : decode code 351 = .ok (.aload_n 1, 1) := by decide +kernel
theorem d_Law_law_352 : decode code 352 = .ok (.aload_n 0, 1) := by decide +kernel
theorem d_Law_law_353 : decode code 353 = .ok (.iload_n 3, 1) := by decide +kernel
theorem d_Law_law_354 : decode code 354 = .ok (.iconst 1, 1) := by decide +kernel
theorem d_Law_law_355 : decode code 355 = .ok (.iadd, 1) := by decide +kernel
theorem d_Law_law_356 : decode code 356 = .ok (.iaload, 1) := by decide +kernel
theorem d_Law_law_357 : decode code 357 = .ok (.aload_n 0, 1) := by decide +kernel
theorem d_Law_law_358 : decode code 358 = .ok (.iload_n 3, 1) := by decide +kernel
theorem d_Law_law_359 : decode code 359 = .ok (.iconst 2, 1) := by decide +kernel
theorem d_Law_law_360 : decode code 360 = .ok (.iadd, 1) := by decide +kernel
theorem d_Law_law_361 : decode code 361 = .ok (.iaload, 1) := by decide +kernel
theorem d_Law_law_362 : decode code 362 = .ok (.aload_n 0, 1) := by decide +kernel
theorem d_Law_law_363 : decode code 363 = .ok (.iload_n 3, 1) := by decide +kernel
theorem d_Law_law_364 : decode code 364 = .ok (.iconst 3, 1) := by decide +kernel
theorem d_Law_law_365 : decode code 365 = .ok (.iadd, 1) := by decide +kernel
theorem d_Law_law_366 : decode code 366 = .ok (.iaload, 1) := by decide +kernel
theorem d_Law_law_367 : decode code 367 = .ok (.invokevirtual 37, 3) := by decide +kernel
theorem d_Law_law_370 : decode code 370 = .ok (.aload_n 2, 1) := by decide +kernel
theorem d_Law_law_371 : decode code 371 = .ok (.aload_n 0, 1) := by decide +kernel
theorem d_Law_law_372 : decode code 372 = .ok (.iload_n 3, 1) := by decide +kernel
theorem d_Law_law_373 : decode code 373 = .ok (.iconst 1, 1) := by decide +kernel
theorem d_Law_law_374 : decode code 374 = .ok (.iadd, 1) := by decide +kernel
theorem d_Law_law_375 : decode code 375 = .ok (.iaload, 1) := by decide +kernel
theorem d_Law_law_376 : decode code 376 = .ok (.aload_n 0, 1) := by decide +kernel
theorem d_Law_law_377 : decode code 377 = .ok (.iload_n 3, 1) := by decide +kernel
theorem d_Law_law_378 : decode code 378 = .ok (.iconst 2, 1) := by decide +kernel
theorem d_Law_law_379 : decode code 379 = .ok (.iadd, 1) := by decide +kernel
theorem d_Law_law_380 : decode code 380 = .ok (.iaload, 1) := by decide +kernel
theorem d_Law_law_381 : decode code 381 = .ok (.aload_n 0, 1) := by decide +kernel
theorem d_Law_law_382 : decode code 382 = .ok (.iload_n 3, 1) := by decide +kernel
theorem d_Law_law_383 : decode code 383 = .ok (.iconst 3, 1) := by decide +kernel
theorem d_Law_law_384 : decode code 384 = .ok (.iadd, 1) := by decide +kernel
theorem d_Law_law_385 : decode code 385 = .ok (.iaload, 1) := by decide +kernel
theorem d_Law_law_386 : decode code 386 = .ok (.invokevirtual 41, 3) := by decide +kernel
theorem d_Law_law_389 : decode code 389 = .ok (.if_icmp .eq 94, 3) := by decide +kernel
theorem d_Law_law_392 : decode code 392 = .ok (.iconst 0, 1) := by decide +kernel
theorem d_Law_law_393 : decode code 393 = .ok (.ireturn, 1) := by decide +kernel
theorem d_Law_law_394 : decode code 394 = .ok (.aload_n 1, 1) := by decide +kernel
theorem d_Law_law_395 : decode code 395 = .ok (.aload_n 0, 1) := by decide +kernel
theorem d_Law_law_396 : decode code 396 = .ok (.iload_n 3, 1) := by decide +kernel
theorem d_Law_law_397 : decode code 397 = .ok (.iconst 1, 1) := by decide +kernel
theorem d_Law_law_398 : decode code 398 = .ok (.iadd, 1) := by decide +kernel
theorem d_Law_law_399 : decode code 399 = .ok (.iaload, 1) := by decide +kernel
theorem d_Law_law_400 : decode code 400 = .ok (.aload_n 0, 1) := by decide +kernel
theorem d_Law_law_401 : decode code 401 = .ok (.iload_n 3, 1) := by decide +kernel
theorem d_Law_law_402 : decode code 402 = .ok (.iconst 2, 1) := by decide +kernel
theorem d_Law_law_403 : decode code 403 = .ok (.iadd, 1) := by decide +kernel
theorem d_Law_law_404 : decode code 404 = .ok (.iaload, 1) := by decide +kernel
theorem d_Law_law_405 : decode code 405 = .ok (.invokevirtual 42, 3) := by decide +kernel
theorem d_Law_law_408 : decode code 408 = .ok (.aload_n 2, 1) := by decide +kernel
theorem d_Law_law_409 : decode code 409 = .ok (.aload_n 0, 1) := by decide +kernel
theorem d_Law_law_410 : decode code 410 = .ok (.iload_n 3, 1) := by decide +kernel
theorem d_Law_law_411 : decode code 411 = .ok (.iconst 1, 1) := by decide +kernel
theorem d_Law_law_412 : decode code 412 = .ok (.iadd, 1) := by decide +kernel
theorem d_Law_law_413 : decode code 413 = .ok (.iaload, 1) := by decide +kernel
theorem d_Law_law_414 : decode code 414 = .ok (.aload_n 0, 1) := by decide +kernel
theorem d_Law_law_415 : decode code 415 = .ok (.iload_n 3, 1) := by decide +kernel
theorem d_Law_law_416 : decode code 416 = .ok (.iconst 2, 1) := by decide +kernel
theorem d_Law_law_417 : decode code 417 = .ok (.iadd, 1) := by decide +kernel
theorem d_Law_law_418 : decode code 418 = .ok (.iaload, 1) := by decide +kernel
theorem d_Law_law_419 : decode code 419 = .ok (.invokevirtual 45, 3) := by decide +kernel
theorem d_Law_law_422 : decode code 422 = .ok (.if_icmp .eq 61, 3) := by decide +kernel
theorem d_Law_law_425 : decode code 425 = .ok (.iconst 0, 1) := by decide +kernel
theorem d_Law_law_426 : decode code 426 = .ok (.ireturn, 1) := by decide +kernel
theorem d_Law_law_427 : decode code 427 = .ok (.aload_n 1, 1) := by decide +kernel
theorem d_Law_law_428 : decode code 428 = .ok (.aload_n 0, 1) := by decide +kernel
theorem d_Law_law_429 : decode code 429 = .ok (.iload_n 3, 1) := by decide +kernel
theorem d_Law_law_430 : decode code 430 = .ok (.iconst 1, 1) := by decide +kernel
theorem d_Law_law_431 : decode code 431 = .ok (.iadd, 1) := by decide +kernel
theorem d_Law_law_432 : decode code 432 = .ok (.iaload, 1) := by decide +kernel
theorem d_Law_law_433 : decode code 433 = .ok (.aload_n 0, 1) := by decide +kernel
theorem d_Law_law_434 : decode code 434 = .ok (.iload_n 3, 1) := by decide +kernel
theorem d_Law_law_435 : decode code 435 = .ok (.iconst 2, 1) := by decide +kernel
theorem d_Law_law_436 : decode code 436 = .ok (.iadd, 1) := by decide +kernel
theorem d_Law_law_437 : decode code 437 = .ok (.iaload, 1) := by decide +kernel
theorem d_Law_law_438 : decode code 438 = .ok (.invokevirtual 46, 3) := by decide +kernel
theorem d_Law_law_441 : decode code 441 = .ok (.aload_n 2, 1) := by decide +kernel
theorem d_Law_law_442 : decode code 442 = .ok (.aload_n 0, 1) := by decide +kernel
theorem d_Law_law_443 : decode code 443 = .ok (.iload_n 3, 1) := by decide +kernel
theorem d_Law_law_444 : decode code 444 = .ok (.iconst 1, 1) := by decide +kernel
theorem d_Law_law_445 : decode code 445 = .ok (.iadd, 1) := by decide +kernel
theorem d_Law_law_446 : decode code 446 = .ok (.iaload, 1) := by decide +kernel
theorem d_Law_law_447 : decode code 447 = .ok (.aload_n 0, 1) := by decide +kernel
theorem d_Law_law_448 : decode code 448 = .ok (.iload_n 3, 1) := by decide +kernel
theorem d_Law_law_449 : decode code 449 = .ok (.iconst 2, 1) := by decide +kernel
theorem d_Law_law_450 : decode code 450 = .ok (.iadd, 1) := by decide +kernel
theorem d_Law_law_451 : decode code 451 = .ok (.iaload, 1) := by decide +kernel
theorem d_Law_law_452 : decode code 452 = .ok (.invokevirtual 49, 3) := by decide +kernel
theorem d_Law_law_455 : decode code 455 = .ok (.if_icmp .eq 28, 3) := by decide +kernel
theorem d_Law_law_458 : decode code 458 = .ok (.iconst 0, 1) := by decide +kernel
theorem d_Law_law_459 : decode code 459 = .ok (.ireturn, 1) := by decide +kernel
theorem d_Law_law_460 : decode code 460 = .ok (.aload_n 1, 1) := by decide +kernel
theorem d_Law_law_461 : decode code 461 = .ok (.aload_n 0, 1) := by decide +kernel
theorem d_Law_law_462 : decode code 462 = .ok (.iload_n 3, 1) := by decide +kernel
theorem d_Law_law_463 : decode code 463 = .ok (.iconst 1, 1) := by decide +kernel
theorem d_Law_law_464 : decode code 464 = .ok (.iadd, 1) := by decide +kernel
theorem d_Law_law_465 : decode code 465 = .ok (.iaload, 1) := by decide +kernel
theorem d_Law_law_466 : decode code 466 = .ok (.invokevirtual 50, 3) := by decide +kernel
theorem d_Law_law_469 : decode code 469 = .ok (.aload_n 2, 1) := by decide +kernel
theorem d_Law_law_470 : decode code 470 = .ok (.aload_n 0, 1) := by decide +kernel
theorem d_Law_law_471 : decode code 471 = .ok (.iload_n 3, 1) := by decide +kernel
theorem d_Law_law_472 : decode code 472 = .ok (.iconst 1, 1) := by decide +kernel
theorem d_Law_law_473 : decode code 473 = .ok (.iadd, 1) := by decide +kernel
theorem d_Law_law_474 : decode code 474 = .ok (.iaload, 1) := by decide +kernel
theorem d_Law_law_475 : decode code 475 = .ok (.invokevirtual 54, 3) := by decide +kernel
theorem d_Law_law_478 : decode code 478 = .ok (.if_icmp .eq 5, 3) := by decide +kernel
theorem d_Law_law_481 : decode code 481 = .ok (.iconst 0, 1) := by decide +kernel
theorem d_Law_law_482 : decode code 482 = .ok (.ireturn, 1) := by decide +kernel
theorem d_Law_law_483 : decode code 483 = .ok (.iinc 3 6, 3) := by decide +kernel
theorem d_Law_law_486 : decode code 486 = .ok (.goto (-468), 3) := by decide +kernel
theorem d_Law_law_489 : decode code 489 = .ok (.iconst 1, 1) := by decide +kernel
theorem d_Law_law_490 : decode code 490 = .ok (.ireturn, 1) := by decide +kernel
