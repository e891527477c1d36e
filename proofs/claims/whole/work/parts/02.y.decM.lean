theorem dX8_init_0 : decode cX8_init 0 = .ok (.aload_n 0, 1) := by decide +kernel
theorem dX8_init_1 : decode cX8_init 1 = .ok (.invokespecial 1, 3) := by decide +kernel
theorem dX8_init_4 : decode cX8_init 4 = .ok (.aload_n 0, 1) := by decide +kernel
theorem dX8_init_5 : decode cX8_init 5 = .ok (.iconst 4, 1) := by decide +kernel
theorem dX8_init_6 : decode cX8_init 6 = .ok (.newarray .int, 2) := by decide +kernel
theorem dX8_init_8 : decode cX8_init 8 = .ok (.putfield 9, 3) := by decide +kernel
theorem dX8_init_11 : decode cX8_init 11 = .ok (.aload_n 0, 1) := by decide +kernel
theorem dX8_init_12 : decode cX8_init 12 = .ok (.iconst 4, 1) := by decide +kernel
theorem dX8_init_13 : decode cX8_init 13 = .ok (.newarray .int, 2) := by decide +kernel
theorem dX8_init_15 : decode cX8_init 15 = .ok (.putfield 13, 3) := by decide +kernel
theorem dX8_init_18 : decode cX8_init 18 = .ok (.aload_n 0, 1) := by decide +kernel
theorem dX8_init_19 : decode cX8_init 19 = .ok (.bipush 120, 2) := by decide +kernel
theorem dX8_init_21 : decode cX8_init 21 = .ok (.newarray .int, 2) := by decide +kernel
theorem dX8_init_23 : decode cX8_init 23 = .ok (.putfield 16, 3) := by decide +kernel
theorem dX8_init_26 : decode cX8_init 26 = .ok (.aload_n 0, 1) := by decide +kernel
theorem dX8_init_27 : decode cX8_init 27 = .ok (.bipush 24, 2) := by decide +kernel
theorem dX8_init_29 : decode cX8_init 29 = .ok (.newarray .int, 2) := by decide +kernel
theorem dX8_init_31 : decode cX8_init 31 = .ok (.putfield 19, 3) := by decide +kernel
theorem dX8_init_34 : decode cX8_init 34 = .ok (.aload_n 0, 1) := by decide +kernel
theorem dX8_init_35 : decode cX8_init 35 = .ok (.bipush 24, 2) := by decide +kernel
theorem dX8_init_37 : decode cX8_init 37 = .ok (.newarray .int, 2) := by decide +kernel
theorem dX8_init_39 : decode cX8_init 39 = .ok (.putfield 22, 3) := by decide +kernel
theorem dX8_init_42 : decode cX8_init 42 = .ok (.aload_n 0, 1) := by decide +kernel
theorem dX8_init_43 : decode cX8_init 43 = .ok (.bipush 24, 2) := by decide +kernel
theorem dX8_init_45 : decode cX8_init 45 = .ok (.newarray .int, 2) := by decide +kernel
theorem dX8_init_47 : decode cX8_init 47 = .ok (.putfield 25, 3) := by decide +kernel
theorem dX8_init_50 : decode cX8_init 50 = .ok (.aload_n 0, 1) := by decide +kernel
theorem dX8_init_51 : decode cX8_init 51 = .ok (.bipush 24, 2) := by decide +kernel
theorem dX8_init_53 : decode cX8_init 53 = .ok (.newarray .int, 2) := by decide +kernel
theorem dX8_init_55 : decode cX8_init 55 = .ok (.putfield 28, 3) := by decide +kernel
theorem dX8_init_58 : decode cX8_init 58 = .ok (.aload_n 0, 1) := by decide +kernel
theorem dX8_init_59 : decode cX8_init 59 = .ok (.bipush 24, 2) := by decide +kernel
theorem dX8_init_61 : decode cX8_init 61 = .ok (.newarray .int, 2) := by decide +kernel
theorem dX8_init_63 : decode cX8_init 63 = .ok (.putfield 31, 3) := by decide +kernel
theorem dX8_init_66 : decode cX8_init 66 = .ok (.aload_n 0, 1) := by decide +kernel
theorem dX8_init_67 : decode cX8_init 67 = .ok (.bipush 24, 2) := by decide +kernel
theorem dX8_init_69 : decode cX8_init 69 = .ok (.newarray .int, 2) := by decide +kernel
theorem dX8_init_71 : decode cX8_init 71 = .ok (.putfield 34, 3) := by decide +kernel
theorem dX8_init_74 : decode cX8_init 74 = .ok (.aload_n 0, 1) := by decide +kernel
theorem dX8_init_75 : decode cX8_init 75 = .ok (.bipush 24, 2) := by decide +kernel
theorem dX8_init_77 : decode cX8_init 77 = .ok (.newarray .int, 2) := by decide +kernel
theorem dX8_init_79 : decode cX8_init 79 = .ok (.putfield 37, 3) := by decide +kernel
theorem dX8_init_82 : decode cX8_init 82 = .ok (.aload_n 0, 1) := by decide +kernel
theorem dX8_init_83 : decode cX8_init 83 = .ok (.ldc 40, 2) := by decide +kernel
theorem dX8_init_85 : decode cX8_init 85 = .ok (.putfield 41, 3) := by decide +kernel
theorem dX8_init_88 : decode cX8_init 88 = .ok (.aload_n 0, 1) := by decide +kernel
theorem dX8_init_89 : decode cX8_init 89 = .ok (.bipush 24, 2) := by decide +kernel
theorem dX8_init_91 : decode cX8_init 91 = .ok (.newarray .int, 2) := by decide +kernel
theorem dX8_init_93 : decode cX8_init 93 = .ok (.putfield 45, 3) := by decide +kernel
theorem dX8_init_96 : decode cX8_init 96 = .ok (.aload_n 0, 1) := by decide +kernel
theorem dX8_init_97 : decode cX8_init 97 = .ok (.bipush 16, 2) := by decide +kernel
theorem dX8_init_99 : decode cX8_init 99 = .ok (.newarray .int, 2) := by decide +kernel
theorem dX8_init_101 : decode cX8_init 101 = .ok (.putfield 48, 3) := by decide +kernel
theorem dX8_init_104 : decode cX8_init 104 = .ok (.aload_n 0, 1) := by decide +kernel
theorem dX8_init_105 : decode cX8_init 105 = .ok (.bipush 24, 2) := by decide +kernel
theorem dX8_init_107 : decode cX8_init 107 = .ok (.newarray .int, 2) := by decide +kernel
theorem dX8_init_109 : decode cX8_init 109 = .ok (.putfield 51, 3) := by decide +kernel
theorem dX8_init_112 : decode cX8_init 112 = .ok (.aload_n 0, 1) := by decide +kernel
theorem dX8_init_113 : decode cX8_init 113 = .ok (.bipush 24, 2) := by decide +kernel
theorem dX8_init_115 : decode cX8_init 115 = .ok (.newarray .long, 2) := by decide +kernel
theorem dX8_init_117 : decode cX8_init 117 = .ok (.putfield 54, 3) := by decide +kernel
theorem dX8_init_120 : decode cX8_init 120 = .ok (.aload_n 0, 1) := by decide +kernel
theorem dX8_init_121 : decode cX8_init 121 = .ok (.sipush 28800, 3) := by decide +kernel
theorem dX8_init_124 : decode cX8_init 124 = .ok (.newarray .int, 2) := by decide +kernel
theorem dX8_init_126 : decode cX8_init 126 = .ok (.putfield 58, 3) := by decide +kernel
theorem dX8_init_129 : decode cX8_init 129 = .ok (.aload_n 0, 1) := by decide +kernel
theorem dX8_init_130 : decode cX8_init 130 = .ok (.bipush 24, 2) := by decide +kernel
theorem dX8_init_132 : decode cX8_init 132 = .ok (.newarray .boolean, 2) := by decide +kernel
theorem dX8_init_134 : decode cX8_init 134 = .ok (.putfield 61, 3) := by decide +kernel
theorem dX8_init_137 : decode cX8_init 137 = .ok (.aload_n 0, 1) := by decide +kernel
theorem dX8_init_138 : decode cX8_init 138 = .ok (.sipush 400, 3) := by decide +kernel
theorem dX8_init_141 : decode cX8_init 141 = .ok (.newarray .boolean, 2) := by decide +kernel
theorem dX8_init_143 : decode cX8_init 143 = .ok (.putfield 65, 3) := by decide +kernel
theorem dX8_init_146 : decode cX8_init 146 = .ok (.aload_n 0, 1) := by decide +kernel
theorem dX8_init_147 : decode cX8_init 147 = .ok (.sipush 1200, 3) := by decide +kernel
theorem dX8_init_150 : decode cX8_init 150 = .ok (.newarray .int, 2) := by decide +kernel
theorem dX8_init_152 : decode cX8_init 152 = .ok (.putfield 68, 3) := by decide +kernel
theorem dX8_init_155 : decode cX8_init 155 = .ok (.aload_n 0, 1) := by decide +kernel
theorem dX8_init_156 : decode cX8_init 156 = .ok (.bipush 64, 2) := by decide +kernel
theorem dX8_init_158 : decode cX8_init 158 = .ok (.newarray .int, 2) := by decide +kernel
theorem dX8_init_160 : decode cX8_init 160 = .ok (.putfield 71, 3) := by decide +kernel
theorem dX8_init_163 : decode cX8_init 163 = .ok (.aload_n 0, 1) := by decide +kernel
theorem dX8_init_164 : decode cX8_init 164 = .ok (.bipush 64, 2) := by decide +kernel
theorem dX8_init_166 : decode cX8_init 166 = .ok (.newarray .int, 2) := by decide +kernel
theorem dX8_init_168 : decode cX8_init 168 = .ok (.putfield 74, 3) := by decide +kernel
theorem dX8_init_171 : decode cX8_init 171 = .ok (.aload_n 0, 1) := by decide +kernel
theorem dX8_init_172 : decode cX8_init 172 = .ok (.bipush 64, 2) := by decide +kernel
theorem dX8_init_174 : decode cX8_init 174 = .ok (.newarray .int, 2) := by decide +kernel
theorem dX8_init_176 : decode cX8_init 176 = .ok (.putfield 77, 3) := by decide +kernel
theorem dX8_init_179 : decode cX8_init 179 = .ok (.aload_n 0, 1) := by decide +kernel
theorem dX8_init_180 : decode cX8_init 180 = .ok (.bipush 64, 2) := by decide +kernel
theorem dX8_init_182 : decode cX8_init 182 = .ok (.newarray .int, 2) := by decide +kernel
theorem dX8_init_184 : decode cX8_init 184 = .ok (.putfield 80, 3) := by decide +kernel
theorem dX8_init_187 : decode cX8_init 187 = .ok (.aload_n 0, 1) := by decide +kernel
theorem dX8_init_188 : decode cX8_init 188 = .ok (.bipush 64, 2) := by decide +kernel
theorem dX8_init_190 : decode cX8_init 190 = .ok (.newarray .int, 2) := by decide +kernel
theorem dX8_init_192 : decode cX8_init 192 = .ok (.putfield 83, 3) := by decide +kernel
theorem dX8_init_195 : decode cX8_init 195 = .ok (.aload_n 0, 1) := by decide +kernel
theorem dX8_init_196 : decode cX8_init 196 = .ok (.bipush 24, 2) := by decide +kernel
theorem dX8_init_198 : decode cX8_init 198 = .ok (.newarray .int, 2) := by decide +kernel
theorem dX8_init_200 : decode cX8_init 200 = .ok (.putfield 86, 3) := by decide +kernel
theorem dX8_init_203 : decode cX8_init 203 = .ok (.aload_n 0, 1) := by decide +kernel
theorem dX8_init_204 : decode cX8_init 204 = .ok (.bipush 16, 2) := by decide +kernel
theorem dX8_init_206 : decode cX8_init 206 = .ok (.newarray .int, 2) := by decide +kernel
theorem dX8_init_208 : decode cX8_init 208 = .ok (.putfield 89, 3) := by decide +kernel
theorem dX8_init_211 : decode cX8_init 211 = .ok (.aload_n 0, 1) := by decide +kernel
theorem dX8_init_212 : decode cX8_init 212 = .ok (.bipush 16, 2) := by decide +kernel
theorem dX8_init_214 : decode cX8_init 214 = .ok (.newarray .int, 2) := by decide +kernel
theorem dX8_init_216 : decode cX8_init 216 = .ok (.putfield 92, 3) := by decide +kernel
theorem dX8_init_219 : decode cX8_init 219 = .ok (.aload_n 0, 1) := by decide +kernel
theorem dX8_init_220 : decode cX8_init 220 = .ok (.bipush 10, 2) := by decide +kernel
theorem dX8_init_222 : decode cX8_init 222 = .ok (.newarray .boolean, 2) := by decide +kernel
theorem dX8_init_224 : decode cX8_init 224 = .ok (.putfield 95, 3) := by decide +kernel
theorem dX8_init_227 : decode cX8_init 227 = .ok (.return_, 1) := by decide +kernel
theorem dX8_thrown_0 : decode cX8_thrown 0 = .ok (.aload_n 0, 1) := by decide +kernel
theorem dX8_thrown_1 : decode cX8_thrown 1 = .ok (.getfield 98, 3) := by decide +kernel
theorem dX8_thrown_4 : decode cX8_thrown 4 = .ok (.ireturn, 1) := by decide +kernel
theorem dX8_goesWell_0 : decode cX8_goesWell 0 = .ok (.aload_n 0, 1) := by decide +kernel
theorem dX8_goesWell_1 : decode cX8_goesWell 1 = .ok (.iload_n 1, 1) := by decide +kernel
theorem dX8_goesWell_2 : decode cX8_goesWell 2 = .ok (.putfield 98, 3) := by decide +kernel
theorem dX8_goesWell_5 : decode cX8_goesWell 5 = .ok (.iload_n 1, 1) := by decide +kernel
theorem dX8_goesWell_6 : decode cX8_goesWell 6 = .ok (.ifCond .ne 7, 3) := by decide +kernel
theorem dX8_goesWell_9 : decode cX8_goesWell 9 = .ok (.iconst 1, 1) := by decide +kernel
theorem dX8_goesWell_10 : decode cX8_goesWell 10 = .ok (.goto 4, 3) := by decide +kernel
theorem dX8_goesWell_13 : decode cX8_goesWell 13 = .ok (.iconst 0, 1) := by decide +kernel
theorem dX8_goesWell_14 : decode cX8_goesWell 14 = .ok (.ireturn, 1) := by decide +kernel
theorem dX8_in_0 : decode cX8_in 0 = .ok (.iload_n 0, 1) := by decide +kernel
theorem dX8_in_1 : decode cX8_in 1 = .ok (.iload_n 1, 1) := by decide +kernel
theorem dX8_in_2 : decode cX8_in 2 = .ok (.if_icmp .lt 12, 3) := by decide +kernel
theorem dX8_in_5 : decode cX8_in 5 = .ok (.iload_n 0, 1) := by decide +kernel
theorem dX8_in_6 : decode cX8_in 6 = .ok (.iload_n 2, 1) := by decide +kernel
theorem dX8_in_7 : decode cX8_in 7 = .ok (.if_icmp .gt 7, 3) := by decide +kernel
theorem dX8_in_10 : decode cX8_in 10 = .ok (.iconst 1, 1) := by decide +kernel
theorem dX8_in_11 : decode cX8_in 11 = .ok (.goto 4, 3) := by decide +kernel
theorem dX8_in_14 : decode cX8_in 14 = .ok (.iconst 0, 1) := by decide +kernel
theorem dX8_in_15 : decode cX8_in 15 = .ok (.ireturn, 1) := by decide +kernel
theorem dX8_isTable_0 : decode cX8_isTable 0 = .ok (.iload_n 1, 1) := by decide +kernel
theorem dX8_isTable_1 : decode cX8_isTable 1 = .ok (.iconst 0, 1) := by decide +kernel
theorem dX8_isTable_2 : decode cX8_isTable 2 = .ok (.aload_n 0, 1) := by decide +kernel
theorem dX8_isTable_3 : decode cX8_isTable 3 = .ok (.getfield 101, 3) := by decide +kernel
theorem dX8_isTable_6 : decode cX8_isTable 6 = .ok (.iconst 1, 1) := by decide +kernel
theorem dX8_isTable_7 : decode cX8_isTable 7 = .ok (.isub, 1) := by decide +kernel
theorem dX8_isTable_8 : decode cX8_isTable 8 = .ok (.invokestatic 104, 3) := by decide +kernel
theorem dX8_isTable_11 : decode cX8_isTable 11 = .ok (.ireturn, 1) := by decide +kernel
theorem dX8_isColumn_0 : decode cX8_isColumn 0 = .ok (.aload_n 0, 1) := by decide +kernel
theorem dX8_isColumn_1 : decode cX8_isColumn 1 = .ok (.iload_n 1, 1) := by decide +kernel
theorem dX8_isColumn_2 : decode cX8_isColumn 2 = .ok (.invokevirtual 108, 3) := by decide +kernel
theorem dX8_isColumn_5 : decode cX8_isColumn 5 = .ok (.ifCond .eq 23, 3) := by decide +kernel
theorem dX8_isColumn_8 : decode cX8_isColumn 8 = .ok (.iload_n 2, 1) := by decide +kernel
theorem dX8_isColumn_9 : decode cX8_isColumn 9 = .ok (.iconst 0, 1) := by decide +kernel
theorem dX8_isColumn_10 : decode cX8_isColumn 10 = .ok (.aload_n 0, 1) := by decide +kernel
theorem dX8_isColumn_11 : decode cX8_isColumn 11 = .ok (.getfield 9, 3) := by decide +kernel
theorem dX8_isColumn_14 : decode cX8_isColumn 14 = .ok (.iload_n 1, 1) := by decide +kernel
theorem dX8_isColumn_15 : decode cX8_isColumn 15 = .ok (.iaload, 1) := by decide +kernel
theorem dX8_isColumn_16 : decode cX8_isColumn 16 = .ok (.iconst 1, 1) := by decide +kernel
theorem dX8_isColumn_17 : decode cX8_isColumn 17 = .ok (.isub, 1) := by decide +kernel
theorem dX8_isColumn_18 : decode cX8_isColumn 18 = .ok (.invokestatic 104, 3) := by decide +kernel
theorem dX8_isColumn_21 : decode cX8_isColumn 21 = .ok (.ifCond .eq 7, 3) := by decide +kernel
theorem dX8_isColumn_24 : decode cX8_isColumn 24 = .ok (.iconst 1, 1) := by decide +kernel
theorem dX8_isColumn_25 : decode cX8_isColumn 25 = .ok (.goto 4, 3) := by decide +kernel
theorem dX8_isColumn_28 : decode cX8_isColumn 28 = .ok (.iconst 0, 1) := by decide +kernel
theorem dX8_isColumn_29 : decode cX8_isColumn 29 = .ok (.ireturn, 1) := by decide +kernel
theorem dX8_at_0 : decode cX8_at 0 = .ok (.aload_n 0, 1) := by decide +kernel
theorem dX8_at_1 : decode cX8_at 1 = .ok (.getfield 16, 3) := by decide +kernel
theorem dX8_at_4 : decode cX8_at 4 = .ok (.bipush 10, 2) := by decide +kernel
theorem dX8_at_6 : decode cX8_at 6 = .ok (.iload_n 1, 1) := by decide +kernel
theorem dX8_at_7 : decode cX8_at 7 = .ok (.imul, 1) := by decide +kernel
theorem dX8_at_8 : decode cX8_at 8 = .ok (.iload_n 2, 1) := by decide +kernel
theorem dX8_at_9 : decode cX8_at 9 = .ok (.iadd, 1) := by decide +kernel
theorem dX8_at_10 : decode cX8_at 10 = .ok (.iconst 3, 1) := by decide +kernel
theorem dX8_at_11 : decode cX8_at 11 = .ok (.imul, 1) := by decide +kernel
theorem dX8_at_12 : decode cX8_at 12 = .ok (.iload_n 3, 1) := by decide +kernel
theorem dX8_at_13 : decode cX8_at 13 = .ok (.iadd, 1) := by decide +kernel
theorem dX8_at_14 : decode cX8_at 14 = .ok (.iaload, 1) := by decide +kernel
theorem dX8_at_15 : decode cX8_at 15 = .ok (.ireturn, 1) := by decide +kernel
theorem dX8_table_0 : decode cX8_table 0 = .ok (.aload_n 0, 1) := by decide +kernel
theorem dX8_table_1 : decode cX8_table 1 = .ok (.iload_n 1, 1) := by decide +kernel
theorem dX8_table_2 : decode cX8_table 2 = .ok (.iconst 1, 1) := by decide +kernel
theorem dX8_table_3 : decode cX8_table 3 = .ok (.iconst 3, 1) := by decide +kernel
theorem dX8_table_4 : decode cX8_table 4 = .ok (.invokestatic 104, 3) := by decide +kernel
theorem dX8_table_7 : decode cX8_table 7 = .ok (.ifCond .ne 7, 3) := by decide +kernel
theorem dX8_table_10 : decode cX8_table 10 = .ok (.iconst 1, 1) := by decide +kernel
theorem dX8_table_11 : decode cX8_table 11 = .ok (.goto 16, 3) := by decide +kernel
theorem dX8_table_14 : decode cX8_table 14 = .ok (.aload_n 0, 1) := by decide +kernel
theorem dX8_table_15 : decode cX8_table 15 = .ok (.getfield 101, 3) := by decide +kernel
theorem dX8_table_18 : decode cX8_table 18 = .ok (.iconst 4, 1) := by decide +kernel
theorem dX8_table_19 : decode cX8_table 19 = .ok (.if_icmp .ne 7, 3) := by decide +kernel
theorem dX8_table_22 : decode cX8_table 22 = .ok (.iconst 2, 1) := by decide +kernel
theorem dX8_table_23 : decode cX8_table 23 = .ok (.goto 4, 3) := by decide +kernel
theorem dX8_table_26 : decode cX8_table 26 = .ok (.iconst 0, 1) := by decide +kernel
theorem dX8_table_27 : decode cX8_table 27 = .ok (.invokevirtual 112, 3) := by decide +kernel
theorem dX8_table_30 : decode cX8_table 30 = .ok (.ifCond .ne 5, 3) := by decide +kernel
theorem dX8_table_33 : decode cX8_table 33 = .ok (.iconst 0, 1) := by decide +kernel
theorem dX8_table_34 : decode cX8_table 34 = .ok (.ireturn, 1) := by decide +kernel
theorem dX8_table_35 : decode cX8_table 35 = .ok (.aload_n 0, 1) := by decide +kernel
theorem dX8_table_36 : decode cX8_table 36 = .ok (.getfield 9, 3) := by decide +kernel
theorem dX8_table_39 : decode cX8_table 39 = .ok (.aload_n 0, 1) := by decide +kernel
theorem dX8_table_40 : decode cX8_table 40 = .ok (.getfield 101, 3) := by decide +kernel
theorem dX8_table_43 : decode cX8_table 43 = .ok (.iload_n 1, 1) := by decide +kernel
theorem dX8_table_44 : decode cX8_table 44 = .ok (.iastore, 1) := by decide +kernel
theorem dX8_table_45 : decode cX8_table 45 = .ok (.aload_n 0, 1) := by decide +kernel
theorem dX8_table_46 : decode cX8_table 46 = .ok (.dup, 1) := by decide +kernel
theorem dX8_table_47 : decode cX8_table 47 = .ok (.getfield 101, 3) := by decide +kernel
theorem dX8_table_50 : decode cX8_table 50 = .ok (.iconst 1, 1) := by decide +kernel
theorem dX8_table_51 : decode cX8_table 51 = .ok (.iadd, 1) := by decide +kernel
theorem dX8_table_52 : decode cX8_table 52 = .ok (.putfield 101, 3) := by decide +kernel
theorem dX8_table_55 : decode cX8_table 55 = .ok (.aload_n 0, 1) := by decide +kernel
theorem dX8_table_56 : decode cX8_table 56 = .ok (.getfield 101, 3) := by decide +kernel
theorem dX8_table_59 : decode cX8_table 59 = .ok (.iconst 1, 1) := by decide +kernel
theorem dX8_table_60 : decode cX8_table 60 = .ok (.isub, 1) := by decide +kernel
theorem dX8_table_61 : decode cX8_table 61 = .ok (.ireturn, 1) := by decide +kernel
theorem dX8_isValue_0 : decode cX8_isValue 0 = .ok (.iload_n 0, 1) := by decide +kernel
theorem dX8_isValue_1 : decode cX8_isValue 1 = .ok (.sipush (-1000), 3) := by decide +kernel
theorem dX8_isValue_4 : decode cX8_isValue 4 = .ok (.if_icmp .eq 14, 3) := by decide +kernel
theorem dX8_isValue_7 : decode cX8_isValue 7 = .ok (.iload_n 0, 1) := by decide +kernel
theorem dX8_isValue_8 : decode cX8_isValue 8 = .ok (.bipush (-99), 2) := by decide +kernel
theorem dX8_isValue_10 : decode cX8_isValue 10 = .ok (.bipush 99, 2) := by decide +kernel
theorem dX8_isValue_12 : decode cX8_isValue 12 = .ok (.invokestatic 104, 3) := by decide +kernel
theorem dX8_isValue_15 : decode cX8_isValue 15 = .ok (.ifCond .eq 7, 3) := by decide +kernel
theorem dX8_isValue_18 : decode cX8_isValue 18 = .ok (.iconst 1, 1) := by decide +kernel
theorem dX8_isValue_19 : decode cX8_isValue 19 = .ok (.goto 4, 3) := by decide +kernel
theorem dX8_isValue_22 : decode cX8_isValue 22 = .ok (.iconst 0, 1) := by decide +kernel
theorem dX8_isValue_23 : decode cX8_isValue 23 = .ok (.ireturn, 1) := by decide +kernel
theorem dX8_add_0 : decode cX8_add 0 = .ok (.aload_n 0, 1) := by decide +kernel
theorem dX8_add_1 : decode cX8_add 1 = .ok (.iload_n 1, 1) := by decide +kernel
theorem dX8_add_2 : decode cX8_add 2 = .ok (.invokevirtual 108, 3) := by decide +kernel
theorem dX8_add_5 : decode cX8_add 5 = .ok (.istore 5, 2) := by decide +kernel
theorem dX8_add_7 : decode cX8_add 7 = .ok (.iload 5, 2) := by decide +kernel
theorem dX8_add_9 : decode cX8_add 9 = .ok (.ifCond .eq 64, 3) := by decide +kernel
theorem dX8_add_12 : decode cX8_add 12 = .ok (.iload_n 2, 1) := by decide +kernel
theorem dX8_add_13 : decode cX8_add 13 = .ok (.invokestatic 115, 3) := by decide +kernel
theorem dX8_add_16 : decode cX8_add 16 = .ok (.ifCond .eq 57, 3) := by decide +kernel
theorem dX8_add_19 : decode cX8_add 19 = .ok (.aload_n 0, 1) := by decide +kernel
theorem dX8_add_20 : decode cX8_add 20 = .ok (.getfield 9, 3) := by decide +kernel
theorem dX8_add_23 : decode cX8_add 23 = .ok (.iload_n 1, 1) := by decide +kernel
theorem dX8_add_24 : decode cX8_add 24 = .ok (.iaload, 1) := by decide +kernel
theorem dX8_add_25 : decode cX8_add 25 = .ok (.iconst 1, 1) := by decide +kernel
theorem dX8_add_26 : decode cX8_add 26 = .ok (.if_icmp .le 13, 3) := by decide +kernel
theorem dX8_add_29 : decode cX8_add 29 = .ok (.iload_n 3, 1) := by decide +kernel
theorem dX8_add_30 : decode cX8_add 30 = .ok (.invokestatic 115, 3) := by decide +kernel
theorem dX8_add_33 : decode cX8_add 33 = .ok (.ifCond .eq 40, 3) := by decide +kernel
theorem dX8_add_36 : decode cX8_add 36 = .ok (.goto 7, 3) := by decide +kernel
theorem dX8_add_39 : decode cX8_add 39 = .ok (.iload_n 3, 1) := by decide +kernel
theorem dX8_add_40 : decode cX8_add 40 = .ok (.ifCond .ne 33, 3) := by decide +kernel
theorem dX8_add_43 : decode cX8_add 43 = .ok (.aload_n 0, 1) := by decide +kernel
theorem dX8_add_44 : decode cX8_add 44 = .ok (.getfield 9, 3) := by decide +kernel
theorem dX8_add_47 : decode cX8_add 47 = .ok (.iload_n 1, 1) := by decide +kernel
theorem dX8_add_48 : decode cX8_add 48 = .ok (.iaload, 1) := by decide +kernel
theorem dX8_add_49 : decode cX8_add 49 = .ok (.iconst 2, 1) := by decide +kernel
theorem dX8_add_50 : decode cX8_add 50 = .ok (.if_icmp .le 14, 3) := by decide +kernel
theorem dX8_add_53 : decode cX8_add 53 = .ok (.iload 4, 2) := by decide +kernel
theorem dX8_add_55 : decode cX8_add 55 = .ok (.invokestatic 115, 3) := by decide +kernel
theorem dX8_add_58 : decode cX8_add 58 = .ok (.ifCond .eq 15, 3) := by decide +kernel
theorem dX8_add_61 : decode cX8_add 61 = .ok (.goto 8, 3) := by decide +kernel
theorem dX8_add_64 : decode cX8_add 64 = .ok (.iload 4, 2) := by decide +kernel
theorem dX8_add_66 : decode cX8_add 66 = .ok (.ifCond .ne 7, 3) := by decide +kernel
theorem dX8_add_69 : decode cX8_add 69 = .ok (.iconst 1, 1) := by decide +kernel
theorem dX8_add_70 : decode cX8_add 70 = .ok (.goto 4, 3) := by decide +kernel
theorem dX8_add_73 : decode cX8_add 73 = .ok (.iconst 0, 1) := by decide +kernel
theorem dX8_add_74 : decode cX8_add 74 = .ok (.istore 6, 2) := by decide +kernel
theorem dX8_add_76 : decode cX8_add 76 = .ok (.aload_n 0, 1) := by decide +kernel
theorem dX8_add_77 : decode cX8_add 77 = .ok (.iload 5, 2) := by decide +kernel
theorem dX8_add_79 : decode cX8_add 79 = .ok (.ifCond .ne 7, 3) := by decide +kernel
theorem dX8_add_82 : decode cX8_add 82 = .ok (.iconst 1, 1) := by decide +kernel
theorem dX8_add_83 : decode cX8_add 83 = .ok (.goto 28, 3) := by decide +kernel
theorem dX8_add_86 : decode cX8_add 86 = .ok (.iload 6, 2) := by decide +kernel
theorem dX8_add_88 : decode cX8_add 88 = .ok (.ifCond .ne 7, 3) := by decide +kernel
theorem dX8_add_91 : decode cX8_add 91 = .ok (.iconst 2, 1) := by decide +kernel
theorem dX8_add_92 : decode cX8_add 92 = .ok (.goto 19, 3) := by decide +kernel
theorem dX8_add_95 : decode cX8_add 95 = .ok (.aload_n 0, 1) := by decide +kernel
theorem dX8_add_96 : decode cX8_add 96 = .ok (.getfield 13, 3) := by decide +kernel
theorem dX8_add_99 : decode cX8_add 99 = .ok (.iload_n 1, 1) := by decide +kernel
theorem dX8_add_100 : decode cX8_add 100 = .ok (.iaload, 1) := by decide +kernel
theorem dX8_add_101 : decode cX8_add 101 = .ok (.bipush 10, 2) := by decide +kernel
theorem dX8_add_103 : decode cX8_add 103 = .ok (.if_icmp .ne 7, 3) := by decide +kernel
theorem dX8_add_106 : decode cX8_add 106 = .ok (.iconst 3, 1) := by decide +kernel
theorem dX8_add_107 : decode cX8_add 107 = .ok (.goto 4, 3) := by decide +kernel
theorem dX8_add_110 : decode cX8_add 110 = .ok (.iconst 0, 1) := by decide +kernel
theorem dX8_add_111 : decode cX8_add 111 = .ok (.invokevirtual 112, 3) := by decide +kernel
theorem dX8_add_114 : decode cX8_add 114 = .ok (.ifCond .ne 5, 3) := by decide +kernel
theorem dX8_add_117 : decode cX8_add 117 = .ok (.iconst 0, 1) := by decide +kernel
theorem dX8_add_118 : decode cX8_add 118 = .ok (.ireturn, 1) := by decide +kernel
theorem dX8_add_119 : decode cX8_add 119 = .ok (.bipush 10, 2) := by decide +kernel
theorem dX8_add_121 : decode cX8_add 121 = .ok (.iload_n 1, 1) := by decide +kernel
theorem dX8_add_122 : decode cX8_add 122 = .ok (.imul, 1) := by decide +kernel
theorem dX8_add_123 : decode cX8_add 123 = .ok (.aload_n 0, 1) := by decide +kernel
theorem dX8_add_124 : decode cX8_add 124 = .ok (.getfield 13, 3) := by decide +kernel
theorem dX8_add_127 : decode cX8_add 127 = .ok (.iload_n 1, 1) := by decide +kernel
theorem dX8_add_128 : decode cX8_add 128 = .ok (.iaload, 1) := by decide +kernel
theorem dX8_add_129 : decode cX8_add 129 = .ok (.iadd, 1) := by decide +kernel
theorem dX8_add_130 : decode cX8_add 130 = .ok (.iconst 3, 1) := by decide +kernel
theorem dX8_add_131 : decode cX8_add 131 = .ok (.imul, 1) := by decide +kernel
theorem dX8_add_132 : decode cX8_add 132 = .ok (.istore 7, 2) := by decide +kernel
theorem dX8_add_134 : decode cX8_add 134 = .ok (.aload_n 0, 1) := by decide +kernel
theorem dX8_add_135 : decode cX8_add 135 = .ok (.getfield 16, 3) := by decide +kernel
theorem dX8_add_138 : decode cX8_add 138 = .ok (.iload 7, 2) := by decide +kernel
theorem dX8_add_140 : decode cX8_add 140 = .ok (.iload_n 2, 1) := by decide +kernel
theorem dX8_add_141 : decode cX8_add 141 = .ok (.iastore, 1) := by decide +kernel
theorem dX8_add_142 : decode cX8_add 142 = .ok (.aload_n 0, 1) := by decide +kernel
theorem dX8_add_143 : decode cX8_add 143 = .ok (.getfield 16, 3) := by decide +kernel
theorem dX8_add_146 : decode cX8_add 146 = .ok (.iload 7, 2) := by decide +kernel
theorem dX8_add_148 : decode cX8_add 148 = .ok (.iconst 1, 1) := by decide +kernel
theorem dX8_add_149 : decode cX8_add 149 = .ok (.iadd, 1) := by decide +kernel
theorem dX8_add_150 : decode cX8_add 150 = .ok (.iload_n 3, 1) := by decide +kernel
theorem dX8_add_151 : decode cX8_add 151 = .ok (.iastore, 1) := by decide +kernel
theorem dX8_add_152 : decode cX8_add 152 = .ok (.aload_n 0, 1) := by decide +kernel
theorem dX8_add_153 : decode cX8_add 153 = .ok (.getfield 16, 3) := by decide +kernel
theorem dX8_add_156 : decode cX8_add 156 = .ok (.iload 7, 2) := by decide +kernel
theorem dX8_add_158 : decode cX8_add 158 = .ok (.iconst 2, 1) := by decide +kernel
theorem dX8_add_159 : decode cX8_add 159 = .ok (.iadd, 1) := by decide +kernel
theorem dX8_add_160 : decode cX8_add 160 = .ok (.iload 4, 2) := by decide +kernel
theorem dX8_add_162 : decode cX8_add 162 = .ok (.iastore, 1) := by decide +kernel
theorem dX8_add_163 : decode cX8_add 163 = .ok (.aload_n 0, 1) := by decide +kernel
theorem dX8_add_164 : decode cX8_add 164 = .ok (.getfield 13, 3) := by decide +kernel
theorem dX8_add_167 : decode cX8_add 167 = .ok (.iload_n 1, 1) := by decide +kernel
theorem dX8_add_168 : decode cX8_add 168 = .ok (.dup2, 1) := by decide +kernel
theorem dX8_add_169 : decode cX8_add 169 = .ok (.iaload, 1) := by decide +kernel
theorem dX8_add_170 : decode cX8_add 170 = .ok (.iconst 1, 1) := by decide +kernel
theorem dX8_add_171 : decode cX8_add 171 = .ok (.iadd, 1) := by decide +kernel
theorem dX8_add_172 : decode cX8_add 172 = .ok (.iastore, 1) := by decide +kernel
theorem dX8_add_173 : decode cX8_add 173 = .ok (.aload_n 0, 1) := by decide +kernel
theorem dX8_add_174 : decode cX8_add 174 = .ok (.getfield 13, 3) := by decide +kernel
theorem dX8_add_177 : decode cX8_add 177 = .ok (.iload_n 1, 1) := by decide +kernel
theorem dX8_add_178 : decode cX8_add 178 = .ok (.iaload, 1) := by decide +kernel
theorem dX8_add_179 : decode cX8_add 179 = .ok (.ireturn, 1) := by decide +kernel
theorem dX8_take_0 : decode cX8_take 0 = .ok (.aload_n 0, 1) := by decide +kernel
theorem dX8_take_1 : decode cX8_take 1 = .ok (.iload_n 1, 1) := by decide +kernel
theorem dX8_take_2 : decode cX8_take 2 = .ok (.invokevirtual 108, 3) := by decide +kernel
theorem dX8_take_5 : decode cX8_take 5 = .ok (.ifCond .eq 23, 3) := by decide +kernel
theorem dX8_take_8 : decode cX8_take 8 = .ok (.iload_n 2, 1) := by decide +kernel
theorem dX8_take_9 : decode cX8_take 9 = .ok (.iconst 0, 1) := by decide +kernel
theorem dX8_take_10 : decode cX8_take 10 = .ok (.aload_n 0, 1) := by decide +kernel
theorem dX8_take_11 : decode cX8_take 11 = .ok (.getfield 13, 3) := by decide +kernel
theorem dX8_take_14 : decode cX8_take 14 = .ok (.iload_n 1, 1) := by decide +kernel
theorem dX8_take_15 : decode cX8_take 15 = .ok (.iaload, 1) := by decide +kernel
theorem dX8_take_16 : decode cX8_take 16 = .ok (.iconst 1, 1) := by decide +kernel
theorem dX8_take_17 : decode cX8_take 17 = .ok (.isub, 1) := by decide +kernel
theorem dX8_take_18 : decode cX8_take 18 = .ok (.invokestatic 104, 3) := by decide +kernel
theorem dX8_take_21 : decode cX8_take 21 = .ok (.ifCond .eq 7, 3) := by decide +kernel
theorem dX8_take_24 : decode cX8_take 24 = .ok (.iconst 1, 1) := by decide +kernel
theorem dX8_take_25 : decode cX8_take 25 = .ok (.goto 4, 3) := by decide +kernel
theorem dX8_take_28 : decode cX8_take 28 = .ok (.iconst 0, 1) := by decide +kernel
theorem dX8_take_29 : decode cX8_take 29 = .ok (.istore_n 3, 1) := by decide +kernel
theorem dX8_take_30 : decode cX8_take 30 = .ok (.aload_n 0, 1) := by decide +kernel
theorem dX8_take_31 : decode cX8_take 31 = .ok (.iload_n 3, 1) := by decide +kernel
theorem dX8_take_32 : decode cX8_take 32 = .ok (.ifCond .eq 7, 3) := by decide +kernel
theorem dX8_take_35 : decode cX8_take 35 = .ok (.iconst 0, 1) := by decide +kernel
theorem dX8_take_36 : decode cX8_take 36 = .ok (.goto 4, 3) := by decide +kernel
theorem dX8_take_39 : decode cX8_take 39 = .ok (.iconst 1, 1) := by decide +kernel
theorem dX8_take_40 : decode cX8_take 40 = .ok (.invokevirtual 112, 3) := by decide +kernel
theorem dX8_take_43 : decode cX8_take 43 = .ok (.ifCond .ne 5, 3) := by decide +kernel
theorem dX8_take_46 : decode cX8_take 46 = .ok (.iconst 0, 1) := by decide +kernel
theorem dX8_take_47 : decode cX8_take 47 = .ok (.ireturn, 1) := by decide +kernel
theorem dX8_take_48 : decode cX8_take 48 = .ok (.bipush 10, 2) := by decide +kernel
theorem dX8_take_50 : decode cX8_take 50 = .ok (.iload_n 1, 1) := by decide +kernel
theorem dX8_take_51 : decode cX8_take 51 = .ok (.imul, 1) := by decide +kernel
theorem dX8_take_52 : decode cX8_take 52 = .ok (.iload_n 2, 1) := by decide +kernel
theorem dX8_take_53 : decode cX8_take 53 = .ok (.iadd, 1) := by decide +kernel
theorem dX8_take_54 : decode cX8_take 54 = .ok (.iconst 3, 1) := by decide +kernel
theorem dX8_take_55 : decode cX8_take 55 = .ok (.imul, 1) := by decide +kernel
theorem dX8_take_56 : decode cX8_take 56 = .ok (.istore 4, 2) := by decide +kernel
theorem dX8_take_58 : decode cX8_take 58 = .ok (.iload 4, 2) := by decide +kernel
theorem dX8_take_60 : decode cX8_take 60 = .ok (.bipush 10, 2) := by decide +kernel
theorem dX8_take_62 : decode cX8_take 62 = .ok (.iload_n 1, 1) := by decide +kernel
theorem dX8_take_63 : decode cX8_take 63 = .ok (.imul, 1) := by decide +kernel
theorem dX8_take_64 : decode cX8_take 64 = .ok (.aload_n 0, 1) := by decide +kernel
theorem dX8_take_65 : decode cX8_take 65 = .ok (.getfield 13, 3) := by decide +kernel
theorem dX8_take_68 : decode cX8_take 68 = .ok (.iload_n 1, 1) := by decide +kernel
theorem dX8_take_69 : decode cX8_take 69 = .ok (.iaload, 1) := by decide +kernel
theorem dX8_take_70 : decode cX8_take 70 = .ok (.iadd, 1) := by decide +kernel
theorem dX8_take_71 : decode cX8_take 71 = .ok (.iconst 1, 1) := by decide +kernel
theorem dX8_take_72 : decode cX8_take 72 = .ok (.isub, 1) := by decide +kernel
theorem dX8_take_73 : decode cX8_take 73 = .ok (.iconst 3, 1) := by decide +kernel
theorem dX8_take_74 : decode cX8_take 74 = .ok (.imul, 1) := by decide +kernel
theorem dX8_take_75 : decode cX8_take 75 = .ok (.if_icmp .ge 25, 3) := by decide +kernel
theorem dX8_take_78 : decode cX8_take 78 = .ok (.aload_n 0, 1) := by decide +kernel
theorem dX8_take_79 : decode cX8_take 79 = .ok (.getfield 16, 3) := by decide +kernel
theorem dX8_take_82 : decode cX8_take 82 = .ok (.iload 4, 2) := by decide +kernel
theorem dX8_take_84 : decode cX8_take 84 = .ok (.aload_n 0, 1) := by decide +kernel
theorem dX8_take_85 : decode cX8_take 85 = .ok (.getfield 16, 3) := by decide +kernel
theorem dX8_take_88 : decode cX8_take 88 = .ok (.iload 4, 2) := by decide +kernel
theorem dX8_take_90 : decode cX8_take 90 = .ok (.iconst 3, 1) := by decide +kernel
theorem dX8_take_91 : decode cX8_take 91 = .ok (.iadd, 1) := by decide +kernel
theorem dX8_take_92 : decode cX8_take 92 = .ok (.iaload, 1) := by decide +kernel
theorem dX8_take_93 : decode cX8_take 93 = .ok (.iastore, 1) := by decide +kernel
theorem dX8_take_94 : decode cX8_take 94 = .ok (.iinc 4 1, 3) := by decide +kernel
theorem dX8_take_97 : decode cX8_take 97 = .ok (.goto (-39), 3) := by decide +kernel
theorem dX8_take_100 : decode cX8_take 100 = .ok (.aload_n 0, 1) := by decide +kernel
theorem dX8_take_101 : decode cX8_take 101 = .ok (.getfield 13, 3) := by decide +kernel
theorem dX8_take_104 : decode cX8_take 104 = .ok (.iload_n 1, 1) := by decide +kernel
theorem dX8_take_105 : decode cX8_take 105 = .ok (.dup2, 1) := by decide +kernel
theorem dX8_take_106 : decode cX8_take 106 = .ok (.iaload, 1) := by decide +kernel
theorem dX8_take_107 : decode cX8_take 107 = .ok (.iconst 1, 1) := by decide +kernel
theorem dX8_take_108 : decode cX8_take 108 = .ok (.isub, 1) := by decide +kernel
theorem dX8_take_109 : decode cX8_take 109 = .ok (.iastore, 1) := by decide +kernel
theorem dX8_take_110 : decode cX8_take 110 = .ok (.aload_n 0, 1) := by decide +kernel
theorem dX8_take_111 : decode cX8_take 111 = .ok (.getfield 13, 3) := by decide +kernel
theorem dX8_take_114 : decode cX8_take 114 = .ok (.iload_n 1, 1) := by decide +kernel
theorem dX8_take_115 : decode cX8_take 115 = .ok (.iaload, 1) := by decide +kernel
theorem dX8_take_116 : decode cX8_take 116 = .ok (.ireturn, 1) := by decide +kernel
theorem dX8_isNode_0 : decode cX8_isNode 0 = .ok (.iload_n 1, 1) := by decide +kernel
theorem dX8_isNode_1 : decode cX8_isNode 1 = .ok (.iconst 0, 1) := by decide +kernel
theorem dX8_isNode_2 : decode cX8_isNode 2 = .ok (.aload_n 0, 1) := by decide +kernel
theorem dX8_isNode_3 : decode cX8_isNode 3 = .ok (.getfield 118, 3) := by decide +kernel
theorem dX8_isNode_6 : decode cX8_isNode 6 = .ok (.iconst 1, 1) := by decide +kernel
theorem dX8_isNode_7 : decode cX8_isNode 7 = .ok (.isub, 1) := by decide +kernel
theorem dX8_isNode_8 : decode cX8_isNode 8 = .ok (.invokestatic 104, 3) := by decide +kernel
theorem dX8_isNode_11 : decode cX8_isNode 11 = .ok (.ireturn, 1) := by decide +kernel
theorem dX8_isNodeColumn_0 : decode cX8_isNodeColumn 0 = .ok (.aload_n 0, 1) := by decide +kernel
theorem dX8_isNodeColumn_1 : decode cX8_isNodeColumn 1 = .ok (.iload_n 1, 1) := by decide +kernel
theorem dX8_isNodeColumn_2 : decode cX8_isNodeColumn 2 = .ok (.invokevirtual 121, 3) := by decide +kernel
theorem dX8_isNodeColumn_5 : decode cX8_isNodeColumn 5 = .ok (.ifCond .eq 23, 3) := by decide +kernel
theorem dX8_isNodeColumn_8 : decode cX8_isNodeColumn 8 = .ok (.iload_n 2, 1) := by decide +kernel
theorem dX8_isNodeColumn_9 : decode cX8_isNodeColumn 9 = .ok (.iconst 0, 1) := by decide +kernel
theorem dX8_isNodeColumn_10 : decode cX8_isNodeColumn 10 = .ok (.aload_n 0, 1) := by decide +kernel
theorem dX8_isNodeColumn_11 : decode cX8_isNodeColumn 11 = .ok (.getfield 37, 3) := by decide +kernel
theorem dX8_isNodeColumn_14 : decode cX8_isNodeColumn 14 = .ok (.iload_n 1, 1) := by decide +kernel
theorem dX8_isNodeColumn_15 : decode cX8_isNodeColumn 15 = .ok (.iaload, 1) := by decide +kernel
theorem dX8_isNodeColumn_16 : decode cX8_isNodeColumn 16 = .ok (.iconst 1, 1) := by decide +kernel
theorem dX8_isNodeColumn_17 : decode cX8_isNodeColumn 17 = .ok (.isub, 1) := by decide +kernel
theorem dX8_isNodeColumn_18 : decode cX8_isNodeColumn 18 = .ok (.invokestatic 104, 3) := by decide +kernel
theorem dX8_isNodeColumn_21 : decode cX8_isNodeColumn 21 = .ok (.ifCond .eq 7, 3) := by decide +kernel
theorem dX8_isNodeColumn_24 : decode cX8_isNodeColumn 24 = .ok (.iconst 1, 1) := by decide +kernel
theorem dX8_isNodeColumn_25 : decode cX8_isNodeColumn 25 = .ok (.goto 4, 3) := by decide +kernel
theorem dX8_isNodeColumn_28 : decode cX8_isNodeColumn 28 = .ok (.iconst 0, 1) := by decide +kernel
theorem dX8_isNodeColumn_29 : decode cX8_isNodeColumn 29 = .ok (.ireturn, 1) := by decide +kernel
theorem dX8_widthOf_0 : decode cX8_widthOf 0 = .ok (.iload_n 1, 1) := by decide +kernel
theorem dX8_widthOf_1 : decode cX8_widthOf 1 = .ok (.ifCond .ne 12, 3) := by decide +kernel
theorem dX8_widthOf_4 : decode cX8_widthOf 4 = .ok (.aload_n 0, 1) := by decide +kernel
theorem dX8_widthOf_5 : decode cX8_widthOf 5 = .ok (.getfield 9, 3) := by decide +kernel
theorem dX8_widthOf_8 : decode cX8_widthOf 8 = .ok (.iload_n 2, 1) := by decide +kernel
theorem dX8_widthOf_9 : decode cX8_widthOf 9 = .ok (.iaload, 1) := by decide +kernel
theorem dX8_widthOf_10 : decode cX8_widthOf 10 = .ok (.goto 45, 3) := by decide +kernel
theorem dX8_widthOf_13 : decode cX8_widthOf 13 = .ok (.iload_n 1, 1) := by decide +kernel
theorem dX8_widthOf_14 : decode cX8_widthOf 14 = .ok (.iconst 3, 1) := by decide +kernel
theorem dX8_widthOf_15 : decode cX8_widthOf 15 = .ok (.if_icmp .ne 7, 3) := by decide +kernel
theorem dX8_widthOf_18 : decode cX8_widthOf 18 = .ok (.iconst 2, 1) := by decide +kernel
theorem dX8_widthOf_19 : decode cX8_widthOf 19 = .ok (.goto 36, 3) := by decide +kernel
theorem dX8_widthOf_22 : decode cX8_widthOf 22 = .ok (.iload_n 1, 1) := by decide +kernel
theorem dX8_widthOf_23 : decode cX8_widthOf 23 = .ok (.iconst 2, 1) := by decide +kernel
theorem dX8_widthOf_24 : decode cX8_widthOf 24 = .ok (.if_icmp .ne 25, 3) := by decide +kernel
theorem dX8_widthOf_27 : decode cX8_widthOf 27 = .ok (.iload 4, 2) := by decide +kernel
theorem dX8_widthOf_29 : decode cX8_widthOf 29 = .ok (.iconst 2, 1) := by decide +kernel
theorem dX8_widthOf_30 : decode cX8_widthOf 30 = .ok (.if_icmp .ge 19, 3) := by decide +kernel
theorem dX8_widthOf_33 : decode cX8_widthOf 33 = .ok (.aload_n 0, 1) := by decide +kernel
theorem dX8_widthOf_34 : decode cX8_widthOf 34 = .ok (.getfield 37, 3) := by decide +kernel
theorem dX8_widthOf_37 : decode cX8_widthOf 37 = .ok (.iload_n 2, 1) := by decide +kernel
theorem dX8_widthOf_38 : decode cX8_widthOf 38 = .ok (.iaload, 1) := by decide +kernel
theorem dX8_widthOf_39 : decode cX8_widthOf 39 = .ok (.aload_n 0, 1) := by decide +kernel
theorem dX8_widthOf_40 : decode cX8_widthOf 40 = .ok (.getfield 37, 3) := by decide +kernel
theorem dX8_widthOf_43 : decode cX8_widthOf 43 = .ok (.iload_n 3, 1) := by decide +kernel
theorem dX8_widthOf_44 : decode cX8_widthOf 44 = .ok (.iaload, 1) := by decide +kernel
theorem dX8_widthOf_45 : decode cX8_widthOf 45 = .ok (.iadd, 1) := by decide +kernel
theorem dX8_widthOf_46 : decode cX8_widthOf 46 = .ok (.goto 9, 3) := by decide +kernel
theorem dX8_widthOf_49 : decode cX8_widthOf 49 = .ok (.aload_n 0, 1) := by decide +kernel
theorem dX8_widthOf_50 : decode cX8_widthOf 50 = .ok (.getfield 37, 3) := by decide +kernel
theorem dX8_widthOf_53 : decode cX8_widthOf 53 = .ok (.iload_n 2, 1) := by decide +kernel
theorem dX8_widthOf_54 : decode cX8_widthOf 54 = .ok (.iaload, 1) := by decide +kernel
theorem dX8_widthOf_55 : decode cX8_widthOf 55 = .ok (.ireturn, 1) := by decide +kernel
theorem dX8_find_0 : decode cX8_find 0 = .ok (.iconst 0, 1) := by decide +kernel
theorem dX8_find_1 : decode cX8_find 1 = .ok (.istore 7, 2) := by decide +kernel
theorem dX8_find_3 : decode cX8_find 3 = .ok (.iload 7, 2) := by decide +kernel
theorem dX8_find_5 : decode cX8_find 5 = .ok (.aload_n 0, 1) := by decide +kernel
theorem dX8_find_6 : decode cX8_find 6 = .ok (.getfield 118, 3) := by decide +kernel
theorem dX8_find_9 : decode cX8_find 9 = .ok (.if_icmp .ge 81, 3) := by decide +kernel
theorem dX8_find_12 : decode cX8_find 12 = .ok (.aload_n 0, 1) := by decide +kernel
theorem dX8_find_13 : decode cX8_find 13 = .ok (.getfield 19, 3) := by decide +kernel
theorem dX8_find_16 : decode cX8_find 16 = .ok (.iload 7, 2) := by decide +kernel
theorem dX8_find_18 : decode cX8_find 18 = .ok (.iaload, 1) := by decide +kernel
theorem dX8_find_19 : decode cX8_find 19 = .ok (.iload_n 1, 1) := by decide +kernel
theorem dX8_find_20 : decode cX8_find 20 = .ok (.if_icmp .ne 64, 3) := by decide +kernel
theorem dX8_find_23 : decode cX8_find 23 = .ok (.aload_n 0, 1) := by decide +kernel
theorem dX8_find_24 : decode cX8_find 24 = .ok (.getfield 22, 3) := by decide +kernel
theorem dX8_find_27 : decode cX8_find 27 = .ok (.iload 7, 2) := by decide +kernel
theorem dX8_find_29 : decode cX8_find 29 = .ok (.iaload, 1) := by decide +kernel
theorem dX8_find_30 : decode cX8_find 30 = .ok (.iload_n 2, 1) := by decide +kernel
theorem dX8_find_31 : decode cX8_find 31 = .ok (.if_icmp .ne 53, 3) := by decide +kernel
theorem dX8_find_34 : decode cX8_find 34 = .ok (.aload_n 0, 1) := by decide +kernel
theorem dX8_find_35 : decode cX8_find 35 = .ok (.getfield 25, 3) := by decide +kernel
theorem dX8_find_38 : decode cX8_find 38 = .ok (.iload 7, 2) := by decide +kernel
theorem dX8_find_40 : decode cX8_find 40 = .ok (.iaload, 1) := by decide +kernel
theorem dX8_find_41 : decode cX8_find 41 = .ok (.iload_n 3, 1) := by decide +kernel
theorem dX8_find_42 : decode cX8_find 42 = .ok (.if_icmp .ne 42, 3) := by decide +kernel
theorem dX8_find_45 : decode cX8_find 45 = .ok (.aload_n 0, 1) := by decide +kernel
theorem dX8_find_46 : decode cX8_find 46 = .ok (.getfield 28, 3) := by decide +kernel
theorem dX8_find_49 : decode cX8_find 49 = .ok (.iload 7, 2) := by decide +kernel
theorem dX8_find_51 : decode cX8_find 51 = .ok (.iaload, 1) := by decide +kernel
theorem dX8_find_52 : decode cX8_find 52 = .ok (.iload 4, 2) := by decide +kernel
theorem dX8_find_54 : decode cX8_find 54 = .ok (.if_icmp .ne 30, 3) := by decide +kernel
theorem dX8_find_57 : decode cX8_find 57 = .ok (.aload_n 0, 1) := by decide +kernel
theorem dX8_find_58 : decode cX8_find 58 = .ok (.getfield 31, 3) := by decide +kernel
theorem dX8_find_61 : decode cX8_find 61 = .ok (.iload 7, 2) := by decide +kernel
theorem dX8_find_63 : decode cX8_find 63 = .ok (.iaload, 1) := by decide +kernel
theorem dX8_find_64 : decode cX8_find 64 = .ok (.iload 5, 2) := by decide +kernel
theorem dX8_find_66 : decode cX8_find 66 = .ok (.if_icmp .ne 18, 3) := by decide +kernel
theorem dX8_find_69 : decode cX8_find 69 = .ok (.aload_n 0, 1) := by decide +kernel
theorem dX8_find_70 : decode cX8_find 70 = .ok (.getfield 34, 3) := by decide +kernel
theorem dX8_find_73 : decode cX8_find 73 = .ok (.iload 7, 2) := by decide +kernel
theorem dX8_find_75 : decode cX8_find 75 = .ok (.iaload, 1) := by decide +kernel
theorem dX8_find_76 : decode cX8_find 76 = .ok (.iload 6, 2) := by decide +kernel
theorem dX8_find_78 : decode cX8_find 78 = .ok (.if_icmp .ne 6, 3) := by decide +kernel
theorem dX8_find_81 : decode cX8_find 81 = .ok (.iload 7, 2) := by decide +kernel
theorem dX8_find_83 : decode cX8_find 83 = .ok (.ireturn, 1) := by decide +kernel
theorem dX8_find_84 : decode cX8_find 84 = .ok (.iinc 7 1, 3) := by decide +kernel
theorem dX8_find_87 : decode cX8_find 87 = .ok (.goto (-84), 3) := by decide +kernel
theorem dX8_find_90 : decode cX8_find 90 = .ok (.iconst (-1), 1) := by decide +kernel
theorem dX8_find_91 : decode cX8_find 91 = .ok (.ireturn, 1) := by decide +kernel
theorem dX8_lay_0 : decode cX8_lay 0 = .ok (.aload_n 0, 1) := by decide +kernel
theorem dX8_lay_1 : decode cX8_lay 1 = .ok (.getfield 19, 3) := by decide +kernel
theorem dX8_lay_4 : decode cX8_lay 4 = .ok (.iload_n 1, 1) := by decide +kernel
theorem dX8_lay_5 : decode cX8_lay 5 = .ok (.iload_n 2, 1) := by decide +kernel
theorem dX8_lay_6 : decode cX8_lay 6 = .ok (.iastore, 1) := by decide +kernel
theorem dX8_lay_7 : decode cX8_lay 7 = .ok (.aload_n 0, 1) := by decide +kernel
theorem dX8_lay_8 : decode cX8_lay 8 = .ok (.getfield 22, 3) := by decide +kernel
theorem dX8_lay_11 : decode cX8_lay 11 = .ok (.iload_n 1, 1) := by decide +kernel
theorem dX8_lay_12 : decode cX8_lay 12 = .ok (.iload_n 3, 1) := by decide +kernel
theorem dX8_lay_13 : decode cX8_lay 13 = .ok (.iastore, 1) := by decide +kernel
theorem dX8_lay_14 : decode cX8_lay 14 = .ok (.aload_n 0, 1) := by decide +kernel
theorem dX8_lay_15 : decode cX8_lay 15 = .ok (.getfield 25, 3) := by decide +kernel
theorem dX8_lay_18 : decode cX8_lay 18 = .ok (.iload_n 1, 1) := by decide +kernel
theorem dX8_lay_19 : decode cX8_lay 19 = .ok (.iload 4, 2) := by decide +kernel
theorem dX8_lay_21 : decode cX8_lay 21 = .ok (.iastore, 1) := by decide +kernel
theorem dX8_lay_22 : decode cX8_lay 22 = .ok (.aload_n 0, 1) := by decide +kernel
theorem dX8_lay_23 : decode cX8_lay 23 = .ok (.getfield 28, 3) := by decide +kernel
theorem dX8_lay_26 : decode cX8_lay 26 = .ok (.iload_n 1, 1) := by decide +kernel
theorem dX8_lay_27 : decode cX8_lay 27 = .ok (.iload 5, 2) := by decide +kernel
theorem dX8_lay_29 : decode cX8_lay 29 = .ok (.iastore, 1) := by decide +kernel
theorem dX8_lay_30 : decode cX8_lay 30 = .ok (.aload_n 0, 1) := by decide +kernel
theorem dX8_lay_31 : decode cX8_lay 31 = .ok (.getfield 31, 3) := by decide +kernel
theorem dX8_lay_34 : decode cX8_lay 34 = .ok (.iload_n 1, 1) := by decide +kernel
theorem dX8_lay_35 : decode cX8_lay 35 = .ok (.iload 6, 2) := by decide +kernel
theorem dX8_lay_37 : decode cX8_lay 37 = .ok (.iastore, 1) := by decide +kernel
theorem dX8_lay_38 : decode cX8_lay 38 = .ok (.aload_n 0, 1) := by decide +kernel
theorem dX8_lay_39 : decode cX8_lay 39 = .ok (.getfield 34, 3) := by decide +kernel
theorem dX8_lay_42 : decode cX8_lay 42 = .ok (.iload_n 1, 1) := by decide +kernel
theorem dX8_lay_43 : decode cX8_lay 43 = .ok (.iload 7, 2) := by decide +kernel
theorem dX8_lay_45 : decode cX8_lay 45 = .ok (.iastore, 1) := by decide +kernel
theorem dX8_lay_46 : decode cX8_lay 46 = .ok (.aload_n 0, 1) := by decide +kernel
theorem dX8_lay_47 : decode cX8_lay 47 = .ok (.getfield 37, 3) := by decide +kernel
theorem dX8_lay_50 : decode cX8_lay 50 = .ok (.iload_n 1, 1) := by decide +kernel
theorem dX8_lay_51 : decode cX8_lay 51 = .ok (.aload_n 0, 1) := by decide +kernel
theorem dX8_lay_52 : decode cX8_lay 52 = .ok (.iload_n 2, 1) := by decide +kernel
theorem dX8_lay_53 : decode cX8_lay 53 = .ok (.iload_n 3, 1) := by decide +kernel
theorem dX8_lay_54 : decode cX8_lay 54 = .ok (.iload 4, 2) := by decide +kernel
theorem dX8_lay_56 : decode cX8_lay 56 = .ok (.iload_n 2, 1) := by decide +kernel
theorem dX8_lay_57 : decode cX8_lay 57 = .ok (.iconst 2, 1) := by decide +kernel
theorem dX8_lay_58 : decode cX8_lay 58 = .ok (.if_icmp .ne 8, 3) := by decide +kernel
theorem dX8_lay_61 : decode cX8_lay 61 = .ok (.iload 7, 2) := by decide +kernel
theorem dX8_lay_63 : decode cX8_lay 63 = .ok (.goto 4, 3) := by decide +kernel
theorem dX8_lay_66 : decode cX8_lay 66 = .ok (.iconst 0, 1) := by decide +kernel
theorem dX8_lay_67 : decode cX8_lay 67 = .ok (.invokevirtual 124, 3) := by decide +kernel
theorem dX8_lay_70 : decode cX8_lay 70 = .ok (.iastore, 1) := by decide +kernel
theorem dX8_lay_71 : decode cX8_lay 71 = .ok (.return_, 1) := by decide +kernel
theorem dX8_made_0 : decode cX8_made 0 = .ok (.aload_n 0, 1) := by decide +kernel
theorem dX8_made_1 : decode cX8_made 1 = .ok (.iload_n 1, 1) := by decide +kernel
theorem dX8_made_2 : decode cX8_made 2 = .ok (.iload_n 2, 1) := by decide +kernel
theorem dX8_made_3 : decode cX8_made 3 = .ok (.iload_n 3, 1) := by decide +kernel
theorem dX8_made_4 : decode cX8_made 4 = .ok (.iload 4, 2) := by decide +kernel
theorem dX8_made_6 : decode cX8_made 6 = .ok (.iload 5, 2) := by decide +kernel
theorem dX8_made_8 : decode cX8_made 8 = .ok (.iload 6, 2) := by decide +kernel
theorem dX8_made_10 : decode cX8_made 10 = .ok (.invokevirtual 128, 3) := by decide +kernel
theorem dX8_made_13 : decode cX8_made 13 = .ok (.istore 8, 2) := by decide +kernel
theorem dX8_made_15 : decode cX8_made 15 = .ok (.iload 8, 2) := by decide +kernel
theorem dX8_made_17 : decode cX8_made 17 = .ok (.iconst (-1), 1) := by decide +kernel
theorem dX8_made_18 : decode cX8_made 18 = .ok (.if_icmp .eq 11, 3) := by decide +kernel
theorem dX8_made_21 : decode cX8_made 21 = .ok (.aload_n 0, 1) := by decide +kernel
theorem dX8_made_22 : decode cX8_made 22 = .ok (.iconst 0, 1) := by decide +kernel
theorem dX8_made_23 : decode cX8_made 23 = .ok (.putfield 98, 3) := by decide +kernel
theorem dX8_made_26 : decode cX8_made 26 = .ok (.iload 8, 2) := by decide +kernel
theorem dX8_made_28 : decode cX8_made 28 = .ok (.ireturn, 1) := by decide +kernel
theorem dX8_made_29 : decode cX8_made 29 = .ok (.aload_n 0, 1) := by decide +kernel
theorem dX8_made_30 : decode cX8_made 30 = .ok (.aload_n 0, 1) := by decide +kernel
theorem dX8_made_31 : decode cX8_made 31 = .ok (.getfield 118, 3) := by decide +kernel
theorem dX8_made_34 : decode cX8_made 34 = .ok (.bipush 24, 2) := by decide +kernel
theorem dX8_made_36 : decode cX8_made 36 = .ok (.if_icmp .ne 8, 3) := by decide +kernel
theorem dX8_made_39 : decode cX8_made 39 = .ok (.iload 7, 2) := by decide +kernel
theorem dX8_made_41 : decode cX8_made 41 = .ok (.goto 4, 3) := by decide +kernel
theorem dX8_made_44 : decode cX8_made 44 = .ok (.iconst 0, 1) := by decide +kernel
theorem dX8_made_45 : decode cX8_made 45 = .ok (.invokevirtual 112, 3) := by decide +kernel
theorem dX8_made_48 : decode cX8_made 48 = .ok (.ifCond .ne 5, 3) := by decide +kernel
theorem dX8_made_51 : decode cX8_made 51 = .ok (.iconst 0, 1) := by decide +kernel
theorem dX8_made_52 : decode cX8_made 52 = .ok (.ireturn, 1) := by decide +kernel
theorem dX8_made_53 : decode cX8_made 53 = .ok (.aload_n 0, 1) := by decide +kernel
theorem dX8_made_54 : decode cX8_made 54 = .ok (.aload_n 0, 1) := by decide +kernel
theorem dX8_made_55 : decode cX8_made 55 = .ok (.getfield 118, 3) := by decide +kernel
theorem dX8_made_58 : decode cX8_made 58 = .ok (.iload_n 1, 1) := by decide +kernel
theorem dX8_made_59 : decode cX8_made 59 = .ok (.iload_n 2, 1) := by decide +kernel
theorem dX8_made_60 : decode cX8_made 60 = .ok (.iload_n 3, 1) := by decide +kernel
theorem dX8_made_61 : decode cX8_made 61 = .ok (.iload 4, 2) := by decide +kernel
theorem dX8_made_63 : decode cX8_made 63 = .ok (.iload 5, 2) := by decide +kernel
theorem dX8_made_65 : decode cX8_made 65 = .ok (.iload 6, 2) := by decide +kernel
theorem dX8_made_67 : decode cX8_made 67 = .ok (.invokevirtual 132, 3) := by decide +kernel
theorem dX8_made_70 : decode cX8_made 70 = .ok (.aload_n 0, 1) := by decide +kernel
theorem dX8_made_71 : decode cX8_made 71 = .ok (.dup, 1) := by decide +kernel
theorem dX8_made_72 : decode cX8_made 72 = .ok (.getfield 118, 3) := by decide +kernel
theorem dX8_made_75 : decode cX8_made 75 = .ok (.iconst 1, 1) := by decide +kernel
theorem dX8_made_76 : decode cX8_made 76 = .ok (.iadd, 1) := by decide +kernel
theorem dX8_made_77 : decode cX8_made 77 = .ok (.putfield 118, 3) := by decide +kernel
theorem dX8_made_80 : decode cX8_made 80 = .ok (.aload_n 0, 1) := by decide +kernel
theorem dX8_made_81 : decode cX8_made 81 = .ok (.getfield 118, 3) := by decide +kernel
theorem dX8_made_84 : decode cX8_made 84 = .ok (.iconst 1, 1) := by decide +kernel
theorem dX8_made_85 : decode cX8_made 85 = .ok (.isub, 1) := by decide +kernel
theorem dX8_made_86 : decode cX8_made 86 = .ok (.ireturn, 1) := by decide +kernel
theorem dX8_scan_0 : decode cX8_scan 0 = .ok (.aload_n 0, 1) := by decide +kernel
theorem dX8_scan_1 : decode cX8_scan 1 = .ok (.aload_n 0, 1) := by decide +kernel
theorem dX8_scan_2 : decode cX8_scan 2 = .ok (.iload_n 1, 1) := by decide +kernel
theorem dX8_scan_3 : decode cX8_scan 3 = .ok (.invokevirtual 108, 3) := by decide +kernel
theorem dX8_scan_6 : decode cX8_scan 6 = .ok (.ifCond .eq 7, 3) := by decide +kernel
theorem dX8_scan_9 : decode cX8_scan 9 = .ok (.iconst 0, 1) := by decide +kernel
theorem dX8_scan_10 : decode cX8_scan 10 = .ok (.goto 4, 3) := by decide +kernel
theorem dX8_scan_13 : decode cX8_scan 13 = .ok (.iconst 1, 1) := by decide +kernel
theorem dX8_scan_14 : decode cX8_scan 14 = .ok (.invokevirtual 112, 3) := by decide +kernel
theorem dX8_scan_17 : decode cX8_scan 17 = .ok (.ifCond .eq 17, 3) := by decide +kernel
theorem dX8_scan_20 : decode cX8_scan 20 = .ok (.aload_n 0, 1) := by decide +kernel
theorem dX8_scan_21 : decode cX8_scan 21 = .ok (.iconst 0, 1) := by decide +kernel
theorem dX8_scan_22 : decode cX8_scan 22 = .ok (.iload_n 1, 1) := by decide +kernel
theorem dX8_scan_23 : decode cX8_scan 23 = .ok (.iconst (-1), 1) := by decide +kernel
theorem dX8_scan_24 : decode cX8_scan 24 = .ok (.iconst 0, 1) := by decide +kernel
theorem dX8_scan_25 : decode cX8_scan 25 = .ok (.iconst 0, 1) := by decide +kernel
theorem dX8_scan_26 : decode cX8_scan 26 = .ok (.iconst 0, 1) := by decide +kernel
theorem dX8_scan_27 : decode cX8_scan 27 = .ok (.iconst 2, 1) := by decide +kernel
theorem dX8_scan_28 : decode cX8_scan 28 = .ok (.invokevirtual 136, 3) := by decide +kernel
theorem dX8_scan_31 : decode cX8_scan 31 = .ok (.goto 4, 3) := by decide +kernel
theorem dX8_scan_34 : decode cX8_scan 34 = .ok (.iconst 0, 1) := by decide +kernel
theorem dX8_scan_35 : decode cX8_scan 35 = .ok (.ireturn, 1) := by decide +kernel
theorem dX8_filter_0 : decode cX8_filter 0 = .ok (.aload_n 0, 1) := by decide +kernel
theorem dX8_filter_1 : decode cX8_filter 1 = .ok (.iload_n 1, 1) := by decide +kernel
theorem dX8_filter_2 : decode cX8_filter 2 = .ok (.iload_n 2, 1) := by decide +kernel
theorem dX8_filter_3 : decode cX8_filter 3 = .ok (.invokevirtual 140, 3) := by decide +kernel
theorem dX8_filter_6 : decode cX8_filter 6 = .ok (.istore 5, 2) := by decide +kernel
theorem dX8_filter_8 : decode cX8_filter 8 = .ok (.iload_n 3, 1) := by decide +kernel
theorem dX8_filter_9 : decode cX8_filter 9 = .ok (.iconst 0, 1) := by decide +kernel
theorem dX8_filter_10 : decode cX8_filter 10 = .ok (.iconst 5, 1) := by decide +kernel
theorem dX8_filter_11 : decode cX8_filter 11 = .ok (.invokestatic 104, 3) := by decide +kernel
theorem dX8_filter_14 : decode cX8_filter 14 = .ok (.ifCond .eq 32, 3) := by decide +kernel
theorem dX8_filter_17 : decode cX8_filter 17 = .ok (.iload_n 3, 1) := by decide +kernel
theorem dX8_filter_18 : decode cX8_filter 18 = .ok (.iconst 4, 1) := by decide +kernel
theorem dX8_filter_19 : decode cX8_filter 19 = .ok (.if_icmp .ge 18, 3) := by decide +kernel
theorem dX8_filter_22 : decode cX8_filter 22 = .ok (.iload 4, 2) := by decide +kernel
theorem dX8_filter_24 : decode cX8_filter 24 = .ok (.bipush (-99), 2) := by decide +kernel
theorem dX8_filter_26 : decode cX8_filter 26 = .ok (.bipush 99, 2) := by decide +kernel
theorem dX8_filter_28 : decode cX8_filter 28 = .ok (.invokestatic 104, 3) := by decide +kernel
theorem dX8_filter_31 : decode cX8_filter 31 = .ok (.ifCond .eq 15, 3) := by decide +kernel
theorem dX8_filter_34 : decode cX8_filter 34 = .ok (.goto 8, 3) := by decide +kernel
theorem dX8_filter_37 : decode cX8_filter 37 = .ok (.iload 4, 2) := by decide +kernel
theorem dX8_filter_39 : decode cX8_filter 39 = .ok (.ifCond .ne 7, 3) := by decide +kernel
theorem dX8_filter_42 : decode cX8_filter 42 = .ok (.iconst 1, 1) := by decide +kernel
theorem dX8_filter_43 : decode cX8_filter 43 = .ok (.goto 4, 3) := by decide +kernel
theorem dX8_filter_46 : decode cX8_filter 46 = .ok (.iconst 0, 1) := by decide +kernel
theorem dX8_filter_47 : decode cX8_filter 47 = .ok (.istore 6, 2) := by decide +kernel
theorem dX8_filter_49 : decode cX8_filter 49 = .ok (.aload_n 0, 1) := by decide +kernel
theorem dX8_filter_50 : decode cX8_filter 50 = .ok (.iload 5, 2) := by decide +kernel
theorem dX8_filter_52 : decode cX8_filter 52 = .ok (.ifCond .ne 7, 3) := by decide +kernel
theorem dX8_filter_55 : decode cX8_filter 55 = .ok (.iconst 1, 1) := by decide +kernel
theorem dX8_filter_56 : decode cX8_filter 56 = .ok (.goto 13, 3) := by decide +kernel
theorem dX8_filter_59 : decode cX8_filter 59 = .ok (.iload 6, 2) := by decide +kernel
theorem dX8_filter_61 : decode cX8_filter 61 = .ok (.ifCond .eq 7, 3) := by decide +kernel
theorem dX8_filter_64 : decode cX8_filter 64 = .ok (.iconst 0, 1) := by decide +kernel
theorem dX8_filter_65 : decode cX8_filter 65 = .ok (.goto 4, 3) := by decide +kernel
theorem dX8_filter_68 : decode cX8_filter 68 = .ok (.iconst 2, 1) := by decide +kernel
theorem dX8_filter_69 : decode cX8_filter 69 = .ok (.invokevirtual 112, 3) := by decide +kernel
theorem dX8_filter_72 : decode cX8_filter 72 = .ok (.ifCond .eq 18, 3) := by decide +kernel
theorem dX8_filter_75 : decode cX8_filter 75 = .ok (.aload_n 0, 1) := by decide +kernel
theorem dX8_filter_76 : decode cX8_filter 76 = .ok (.iconst 1, 1) := by decide +kernel
theorem dX8_filter_77 : decode cX8_filter 77 = .ok (.iload_n 1, 1) := by decide +kernel
theorem dX8_filter_78 : decode cX8_filter 78 = .ok (.iconst (-1), 1) := by decide +kernel
theorem dX8_filter_79 : decode cX8_filter 79 = .ok (.iload_n 2, 1) := by decide +kernel
theorem dX8_filter_80 : decode cX8_filter 80 = .ok (.iload_n 3, 1) := by decide +kernel
theorem dX8_filter_81 : decode cX8_filter 81 = .ok (.iload 4, 2) := by decide +kernel
theorem dX8_filter_83 : decode cX8_filter 83 = .ok (.iconst 3, 1) := by decide +kernel
theorem dX8_filter_84 : decode cX8_filter 84 = .ok (.invokevirtual 136, 3) := by decide +kernel
theorem dX8_filter_87 : decode cX8_filter 87 = .ok (.goto 4, 3) := by decide +kernel
theorem dX8_filter_90 : decode cX8_filter 90 = .ok (.iconst 0, 1) := by decide +kernel
theorem dX8_filter_91 : decode cX8_filter 91 = .ok (.ireturn, 1) := by decide +kernel
theorem dX8_join_0 : decode cX8_join 0 = .ok (.aload_n 0, 1) := by decide +kernel
theorem dX8_join_1 : decode cX8_join 1 = .ok (.iload_n 1, 1) := by decide +kernel
theorem dX8_join_2 : decode cX8_join 2 = .ok (.iload_n 3, 1) := by decide +kernel
theorem dX8_join_3 : decode cX8_join 3 = .ok (.invokevirtual 140, 3) := by decide +kernel
theorem dX8_join_6 : decode cX8_join 6 = .ok (.ifCond .eq 17, 3) := by decide +kernel
theorem dX8_join_9 : decode cX8_join 9 = .ok (.aload_n 0, 1) := by decide +kernel
theorem dX8_join_10 : decode cX8_join 10 = .ok (.iload_n 2, 1) := by decide +kernel
theorem dX8_join_11 : decode cX8_join 11 = .ok (.iload 4, 2) := by decide +kernel
theorem dX8_join_13 : decode cX8_join 13 = .ok (.invokevirtual 140, 3) := by decide +kernel
theorem dX8_join_16 : decode cX8_join 16 = .ok (.ifCond .eq 7, 3) := by decide +kernel
theorem dX8_join_19 : decode cX8_join 19 = .ok (.iconst 1, 1) := by decide +kernel
theorem dX8_join_20 : decode cX8_join 20 = .ok (.goto 4, 3) := by decide +kernel
theorem dX8_join_23 : decode cX8_join 23 = .ok (.iconst 0, 1) := by decide +kernel
theorem dX8_join_24 : decode cX8_join 24 = .ok (.istore 6, 2) := by decide +kernel
theorem dX8_join_26 : decode cX8_join 26 = .ok (.iload 5, 2) := by decide +kernel
theorem dX8_join_28 : decode cX8_join 28 = .ok (.iconst 0, 1) := by decide +kernel
theorem dX8_join_29 : decode cX8_join 29 = .ok (.iconst 4, 1) := by decide +kernel
theorem dX8_join_30 : decode cX8_join 30 = .ok (.invokestatic 104, 3) := by decide +kernel
theorem dX8_join_33 : decode cX8_join 33 = .ok (.istore 7, 2) := by decide +kernel
theorem dX8_join_35 : decode cX8_join 35 = .ok (.iload 6, 2) := by decide +kernel
theorem dX8_join_37 : decode cX8_join 37 = .ok (.ifCond .eq 31, 3) := by decide +kernel
theorem dX8_join_40 : decode cX8_join 40 = .ok (.iload 5, 2) := by decide +kernel
theorem dX8_join_42 : decode cX8_join 42 = .ok (.iconst 2, 1) := by decide +kernel
theorem dX8_join_43 : decode cX8_join 43 = .ok (.if_icmp .ge 21, 3) := by decide +kernel
theorem dX8_join_46 : decode cX8_join 46 = .ok (.aload_n 0, 1) := by decide +kernel
theorem dX8_join_47 : decode cX8_join 47 = .ok (.getfield 37, 3) := by decide +kernel
theorem dX8_join_50 : decode cX8_join 50 = .ok (.iload_n 1, 1) := by decide +kernel
theorem dX8_join_51 : decode cX8_join 51 = .ok (.iaload, 1) := by decide +kernel
theorem dX8_join_52 : decode cX8_join 52 = .ok (.aload_n 0, 1) := by decide +kernel
theorem dX8_join_53 : decode cX8_join 53 = .ok (.getfield 37, 3) := by decide +kernel
theorem dX8_join_56 : decode cX8_join 56 = .ok (.iload_n 2, 1) := by decide +kernel
theorem dX8_join_57 : decode cX8_join 57 = .ok (.iaload, 1) := by decide +kernel
theorem dX8_join_58 : decode cX8_join 58 = .ok (.iadd, 1) := by decide +kernel
theorem dX8_join_59 : decode cX8_join 59 = .ok (.bipush 6, 2) := by decide +kernel
theorem dX8_join_61 : decode cX8_join 61 = .ok (.if_icmp .gt 7, 3) := by decide +kernel
theorem dX8_join_64 : decode cX8_join 64 = .ok (.iconst 1, 1) := by decide +kernel
theorem dX8_join_65 : decode cX8_join 65 = .ok (.goto 4, 3) := by decide +kernel
theorem dX8_join_68 : decode cX8_join 68 = .ok (.iconst 0, 1) := by decide +kernel
theorem dX8_join_69 : decode cX8_join 69 = .ok (.istore 8, 2) := by decide +kernel
theorem dX8_join_71 : decode cX8_join 71 = .ok (.aload_n 0, 1) := by decide +kernel
theorem dX8_join_72 : decode cX8_join 72 = .ok (.iload 6, 2) := by decide +kernel
theorem dX8_join_74 : decode cX8_join 74 = .ok (.ifCond .ne 7, 3) := by decide +kernel
theorem dX8_join_77 : decode cX8_join 77 = .ok (.iconst 1, 1) := by decide +kernel
theorem dX8_join_78 : decode cX8_join 78 = .ok (.goto 22, 3) := by decide +kernel
theorem dX8_join_81 : decode cX8_join 81 = .ok (.iload 7, 2) := by decide +kernel
theorem dX8_join_83 : decode cX8_join 83 = .ok (.ifCond .ne 7, 3) := by decide +kernel
theorem dX8_join_86 : decode cX8_join 86 = .ok (.iconst 2, 1) := by decide +kernel
theorem dX8_join_87 : decode cX8_join 87 = .ok (.goto 13, 3) := by decide +kernel
theorem dX8_join_90 : decode cX8_join 90 = .ok (.iload 8, 2) := by decide +kernel
theorem dX8_join_92 : decode cX8_join 92 = .ok (.ifCond .eq 7, 3) := by decide +kernel
theorem dX8_join_95 : decode cX8_join 95 = .ok (.iconst 0, 1) := by decide +kernel
theorem dX8_join_96 : decode cX8_join 96 = .ok (.goto 4, 3) := by decide +kernel
theorem dX8_join_99 : decode cX8_join 99 = .ok (.iconst 3, 1) := by decide +kernel
theorem dX8_join_100 : decode cX8_join 100 = .ok (.invokevirtual 112, 3) := by decide +kernel
theorem dX8_join_103 : decode cX8_join 103 = .ok (.ifCond .eq 19, 3) := by decide +kernel
theorem dX8_join_106 : decode cX8_join 106 = .ok (.aload_n 0, 1) := by decide +kernel
theorem dX8_join_107 : decode cX8_join 107 = .ok (.iconst 2, 1) := by decide +kernel
theorem dX8_join_108 : decode cX8_join 108 = .ok (.iload_n 1, 1) := by decide +kernel
theorem dX8_join_109 : decode cX8_join 109 = .ok (.iload_n 2, 1) := by decide +kernel
theorem dX8_join_110 : decode cX8_join 110 = .ok (.iload_n 3, 1) := by decide +kernel
theorem dX8_join_111 : decode cX8_join 111 = .ok (.iload 4, 2) := by decide +kernel
theorem dX8_join_113 : decode cX8_join 113 = .ok (.iload 5, 2) := by decide +kernel
theorem dX8_join_115 : decode cX8_join 115 = .ok (.iconst 3, 1) := by decide +kernel
theorem dX8_join_116 : decode cX8_join 116 = .ok (.invokevirtual 136, 3) := by decide +kernel
theorem dX8_join_119 : decode cX8_join 119 = .ok (.goto 4, 3) := by decide +kernel
theorem dX8_join_122 : decode cX8_join 122 = .ok (.iconst 0, 1) := by decide +kernel
theorem dX8_join_123 : decode cX8_join 123 = .ok (.ireturn, 1) := by decide +kernel
theorem dX8_group_0 : decode cX8_group 0 = .ok (.aload_n 0, 1) := by decide +kernel
theorem dX8_group_1 : decode cX8_group 1 = .ok (.iload_n 1, 1) := by decide +kernel
theorem dX8_group_2 : decode cX8_group 2 = .ok (.iload_n 2, 1) := by decide +kernel
theorem dX8_group_3 : decode cX8_group 3 = .ok (.invokevirtual 140, 3) := by decide +kernel
theorem dX8_group_6 : decode cX8_group 6 = .ok (.ifCond .eq 28, 3) := by decide +kernel
theorem dX8_group_9 : decode cX8_group 9 = .ok (.iload_n 3, 1) := by decide +kernel
theorem dX8_group_10 : decode cX8_group 10 = .ok (.ifCond .eq 20, 3) := by decide +kernel
theorem dX8_group_13 : decode cX8_group 13 = .ok (.iload 4, 2) := by decide +kernel
theorem dX8_group_15 : decode cX8_group 15 = .ok (.iconst 0, 1) := by decide +kernel
theorem dX8_group_16 : decode cX8_group 16 = .ok (.aload_n 0, 1) := by decide +kernel
theorem dX8_group_17 : decode cX8_group 17 = .ok (.getfield 37, 3) := by decide +kernel
theorem dX8_group_20 : decode cX8_group 20 = .ok (.iload_n 1, 1) := by decide +kernel
theorem dX8_group_21 : decode cX8_group 21 = .ok (.iaload, 1) := by decide +kernel
theorem dX8_group_22 : decode cX8_group 22 = .ok (.iconst 1, 1) := by decide +kernel
theorem dX8_group_23 : decode cX8_group 23 = .ok (.isub, 1) := by decide +kernel
theorem dX8_group_24 : decode cX8_group 24 = .ok (.invokestatic 104, 3) := by decide +kernel
theorem dX8_group_27 : decode cX8_group 27 = .ok (.ifCond .eq 7, 3) := by decide +kernel
theorem dX8_group_30 : decode cX8_group 30 = .ok (.iconst 1, 1) := by decide +kernel
theorem dX8_group_31 : decode cX8_group 31 = .ok (.goto 4, 3) := by decide +kernel
theorem dX8_group_34 : decode cX8_group 34 = .ok (.iconst 0, 1) := by decide +kernel
theorem dX8_group_35 : decode cX8_group 35 = .ok (.istore 5, 2) := by decide +kernel
theorem dX8_group_37 : decode cX8_group 37 = .ok (.iload_n 3, 1) := by decide +kernel
theorem dX8_group_38 : decode cX8_group 38 = .ok (.iconst 0, 1) := by decide +kernel
theorem dX8_group_39 : decode cX8_group 39 = .ok (.iconst 4, 1) := by decide +kernel
theorem dX8_group_40 : decode cX8_group 40 = .ok (.invokestatic 104, 3) := by decide +kernel
theorem dX8_group_43 : decode cX8_group 43 = .ok (.ifCond .eq 16, 3) := by decide +kernel
theorem dX8_group_46 : decode cX8_group 46 = .ok (.iload_n 3, 1) := by decide +kernel
theorem dX8_group_47 : decode cX8_group 47 = .ok (.ifCond .ne 8, 3) := by decide +kernel
theorem dX8_group_50 : decode cX8_group 50 = .ok (.iload 4, 2) := by decide +kernel
theorem dX8_group_52 : decode cX8_group 52 = .ok (.ifCond .ne 7, 3) := by decide +kernel
theorem dX8_group_55 : decode cX8_group 55 = .ok (.iconst 1, 1) := by decide +kernel
theorem dX8_group_56 : decode cX8_group 56 = .ok (.goto 4, 3) := by decide +kernel
theorem dX8_group_59 : decode cX8_group 59 = .ok (.iconst 0, 1) := by decide +kernel
theorem dX8_group_60 : decode cX8_group 60 = .ok (.istore 6, 2) := by decide +kernel
theorem dX8_group_62 : decode cX8_group 62 = .ok (.aload_n 0, 1) := by decide +kernel
theorem dX8_group_63 : decode cX8_group 63 = .ok (.iload 5, 2) := by decide +kernel
theorem dX8_group_65 : decode cX8_group 65 = .ok (.ifCond .ne 7, 3) := by decide +kernel
theorem dX8_group_68 : decode cX8_group 68 = .ok (.iconst 1, 1) := by decide +kernel
theorem dX8_group_69 : decode cX8_group 69 = .ok (.goto 13, 3) := by decide +kernel
theorem dX8_group_72 : decode cX8_group 72 = .ok (.iload 6, 2) := by decide +kernel
theorem dX8_group_74 : decode cX8_group 74 = .ok (.ifCond .ne 7, 3) := by decide +kernel
theorem dX8_group_77 : decode cX8_group 77 = .ok (.iconst 2, 1) := by decide +kernel
theorem dX8_group_78 : decode cX8_group 78 = .ok (.goto 4, 3) := by decide +kernel
theorem dX8_group_81 : decode cX8_group 81 = .ok (.iconst 0, 1) := by decide +kernel
theorem dX8_group_82 : decode cX8_group 82 = .ok (.invokevirtual 112, 3) := by decide +kernel
theorem dX8_group_85 : decode cX8_group 85 = .ok (.ifCond .eq 18, 3) := by decide +kernel
theorem dX8_group_88 : decode cX8_group 88 = .ok (.aload_n 0, 1) := by decide +kernel
theorem dX8_group_89 : decode cX8_group 89 = .ok (.iconst 3, 1) := by decide +kernel
theorem dX8_group_90 : decode cX8_group 90 = .ok (.iload_n 1, 1) := by decide +kernel
theorem dX8_group_91 : decode cX8_group 91 = .ok (.iconst (-1), 1) := by decide +kernel
theorem dX8_group_92 : decode cX8_group 92 = .ok (.iload_n 2, 1) := by decide +kernel
theorem dX8_group_93 : decode cX8_group 93 = .ok (.iload_n 3, 1) := by decide +kernel
theorem dX8_group_94 : decode cX8_group 94 = .ok (.iload 4, 2) := by decide +kernel
theorem dX8_group_96 : decode cX8_group 96 = .ok (.iconst 3, 1) := by decide +kernel
theorem dX8_group_97 : decode cX8_group 97 = .ok (.invokevirtual 136, 3) := by decide +kernel
theorem dX8_group_100 : decode cX8_group 100 = .ok (.goto 4, 3) := by decide +kernel
theorem dX8_group_103 : decode cX8_group 103 = .ok (.iconst 0, 1) := by decide +kernel
theorem dX8_group_104 : decode cX8_group 104 = .ok (.ireturn, 1) := by decide +kernel
theorem dX8_bag_0 : decode cX8_bag 0 = .ok (.aload_n 0, 1) := by decide +kernel
theorem dX8_bag_1 : decode cX8_bag 1 = .ok (.iload_n 1, 1) := by decide +kernel
theorem dX8_bag_2 : decode cX8_bag 2 = .ok (.invokevirtual 121, 3) := by decide +kernel
theorem dX8_bag_5 : decode cX8_bag 5 = .ok (.ifCond .eq 15, 3) := by decide +kernel
theorem dX8_bag_8 : decode cX8_bag 8 = .ok (.aload_n 0, 1) := by decide +kernel
theorem dX8_bag_9 : decode cX8_bag 9 = .ok (.iload_n 2, 1) := by decide +kernel
theorem dX8_bag_10 : decode cX8_bag 10 = .ok (.invokevirtual 121, 3) := by decide +kernel
theorem dX8_bag_13 : decode cX8_bag 13 = .ok (.ifCond .eq 7, 3) := by decide +kernel
theorem dX8_bag_16 : decode cX8_bag 16 = .ok (.iconst 1, 1) := by decide +kernel
theorem dX8_bag_17 : decode cX8_bag 17 = .ok (.goto 4, 3) := by decide +kernel
theorem dX8_bag_20 : decode cX8_bag 20 = .ok (.iconst 0, 1) := by decide +kernel
theorem dX8_bag_21 : decode cX8_bag 21 = .ok (.istore 4, 2) := by decide +kernel
theorem dX8_bag_23 : decode cX8_bag 23 = .ok (.iload_n 3, 1) := by decide +kernel
theorem dX8_bag_24 : decode cX8_bag 24 = .ok (.iconst 0, 1) := by decide +kernel
theorem dX8_bag_25 : decode cX8_bag 25 = .ok (.iconst 3, 1) := by decide +kernel
theorem dX8_bag_26 : decode cX8_bag 26 = .ok (.invokestatic 104, 3) := by decide +kernel
theorem dX8_bag_29 : decode cX8_bag 29 = .ok (.istore 5, 2) := by decide +kernel
theorem dX8_bag_31 : decode cX8_bag 31 = .ok (.aload_n 0, 1) := by decide +kernel
theorem dX8_bag_32 : decode cX8_bag 32 = .ok (.iload 4, 2) := by decide +kernel
theorem dX8_bag_34 : decode cX8_bag 34 = .ok (.ifCond .ne 7, 3) := by decide +kernel
theorem dX8_bag_37 : decode cX8_bag 37 = .ok (.iconst 1, 1) := by decide +kernel
theorem dX8_bag_38 : decode cX8_bag 38 = .ok (.goto 32, 3) := by decide +kernel
theorem dX8_bag_41 : decode cX8_bag 41 = .ok (.iload 5, 2) := by decide +kernel
theorem dX8_bag_43 : decode cX8_bag 43 = .ok (.ifCond .ne 7, 3) := by decide +kernel
theorem dX8_bag_46 : decode cX8_bag 46 = .ok (.iconst 2, 1) := by decide +kernel
theorem dX8_bag_47 : decode cX8_bag 47 = .ok (.goto 23, 3) := by decide +kernel
theorem dX8_bag_50 : decode cX8_bag 50 = .ok (.aload_n 0, 1) := by decide +kernel
theorem dX8_bag_51 : decode cX8_bag 51 = .ok (.getfield 37, 3) := by decide +kernel
theorem dX8_bag_54 : decode cX8_bag 54 = .ok (.iload_n 1, 1) := by decide +kernel
theorem dX8_bag_55 : decode cX8_bag 55 = .ok (.iaload, 1) := by decide +kernel
theorem dX8_bag_56 : decode cX8_bag 56 = .ok (.aload_n 0, 1) := by decide +kernel
theorem dX8_bag_57 : decode cX8_bag 57 = .ok (.getfield 37, 3) := by decide +kernel
theorem dX8_bag_60 : decode cX8_bag 60 = .ok (.iload_n 2, 1) := by decide +kernel
theorem dX8_bag_61 : decode cX8_bag 61 = .ok (.iaload, 1) := by decide +kernel
theorem dX8_bag_62 : decode cX8_bag 62 = .ok (.if_icmp .ne 7, 3) := by decide +kernel
theorem dX8_bag_65 : decode cX8_bag 65 = .ok (.iconst 0, 1) := by decide +kernel
theorem dX8_bag_66 : decode cX8_bag 66 = .ok (.goto 4, 3) := by decide +kernel
theorem dX8_bag_69 : decode cX8_bag 69 = .ok (.iconst 3, 1) := by decide +kernel
theorem dX8_bag_70 : decode cX8_bag 70 = .ok (.invokevirtual 112, 3) := by decide +kernel
theorem dX8_bag_73 : decode cX8_bag 73 = .ok (.ifCond .eq 17, 3) := by decide +kernel
theorem dX8_bag_76 : decode cX8_bag 76 = .ok (.aload_n 0, 1) := by decide +kernel
theorem dX8_bag_77 : decode cX8_bag 77 = .ok (.iconst 4, 1) := by decide +kernel
theorem dX8_bag_78 : decode cX8_bag 78 = .ok (.iload_n 1, 1) := by decide +kernel
theorem dX8_bag_79 : decode cX8_bag 79 = .ok (.iload_n 2, 1) := by decide +kernel
theorem dX8_bag_80 : decode cX8_bag 80 = .ok (.iload_n 3, 1) := by decide +kernel
theorem dX8_bag_81 : decode cX8_bag 81 = .ok (.iconst 0, 1) := by decide +kernel
theorem dX8_bag_82 : decode cX8_bag 82 = .ok (.iconst 0, 1) := by decide +kernel
theorem dX8_bag_83 : decode cX8_bag 83 = .ok (.iconst 3, 1) := by decide +kernel
theorem dX8_bag_84 : decode cX8_bag 84 = .ok (.invokevirtual 136, 3) := by decide +kernel
theorem dX8_bag_87 : decode cX8_bag 87 = .ok (.goto 4, 3) := by decide +kernel
theorem dX8_bag_90 : decode cX8_bag 90 = .ok (.iconst 0, 1) := by decide +kernel
theorem dX8_bag_91 : decode cX8_bag 91 = .ok (.ireturn, 1) := by decide +kernel
theorem dX8_cellOf_0 : decode cX8_cellOf 0 = .ok (.aload_n 0, 1) := by decide +kernel
theorem dX8_cellOf_1 : decode cX8_cellOf 1 = .ok (.getfield 58, 3) := by decide +kernel
theorem dX8_cellOf_4 : decode cX8_cellOf 4 = .ok (.sipush 200, 3) := by decide +kernel
theorem dX8_cellOf_7 : decode cX8_cellOf 7 = .ok (.iload_n 1, 1) := by decide +kernel
theorem dX8_cellOf_8 : decode cX8_cellOf 8 = .ok (.imul, 1) := by decide +kernel
theorem dX8_cellOf_9 : decode cX8_cellOf 9 = .ok (.iload_n 2, 1) := by decide +kernel
theorem dX8_cellOf_10 : decode cX8_cellOf 10 = .ok (.iadd, 1) := by decide +kernel
theorem dX8_cellOf_11 : decode cX8_cellOf 11 = .ok (.bipush 6, 2) := by decide +kernel
theorem dX8_cellOf_13 : decode cX8_cellOf 13 = .ok (.imul, 1) := by decide +kernel
theorem dX8_cellOf_14 : decode cX8_cellOf 14 = .ok (.iload_n 3, 1) := by decide +kernel
theorem dX8_cellOf_15 : decode cX8_cellOf 15 = .ok (.iadd, 1) := by decide +kernel
theorem dX8_cellOf_16 : decode cX8_cellOf 16 = .ok (.iaload, 1) := by decide +kernel
theorem dX8_cellOf_17 : decode cX8_cellOf 17 = .ok (.ireturn, 1) := by decide +kernel
theorem dX8_put_0 : decode cX8_put 0 = .ok (.aload_n 0, 1) := by decide +kernel
theorem dX8_put_1 : decode cX8_put 1 = .ok (.getfield 51, 3) := by decide +kernel
theorem dX8_put_4 : decode cX8_put 4 = .ok (.iload_n 1, 1) := by decide +kernel
theorem dX8_put_5 : decode cX8_put 5 = .ok (.iaload, 1) := by decide +kernel
theorem dX8_put_6 : decode cX8_put 6 = .ok (.sipush 200, 3) := by decide +kernel
theorem dX8_put_9 : decode cX8_put 9 = .ok (.if_icmp .ge 26, 3) := by decide +kernel
theorem dX8_put_12 : decode cX8_put 12 = .ok (.aload_n 0, 1) := by decide +kernel
theorem dX8_put_13 : decode cX8_put 13 = .ok (.getfield 58, 3) := by decide +kernel
theorem dX8_put_16 : decode cX8_put 16 = .ok (.sipush 200, 3) := by decide +kernel
theorem dX8_put_19 : decode cX8_put 19 = .ok (.iload_n 1, 1) := by decide +kernel
theorem dX8_put_20 : decode cX8_put 20 = .ok (.imul, 1) := by decide +kernel
theorem dX8_put_21 : decode cX8_put 21 = .ok (.aload_n 0, 1) := by decide +kernel
theorem dX8_put_22 : decode cX8_put 22 = .ok (.getfield 51, 3) := by decide +kernel
theorem dX8_put_25 : decode cX8_put 25 = .ok (.iload_n 1, 1) := by decide +kernel
theorem dX8_put_26 : decode cX8_put 26 = .ok (.iaload, 1) := by decide +kernel
theorem dX8_put_27 : decode cX8_put 27 = .ok (.iadd, 1) := by decide +kernel
theorem dX8_put_28 : decode cX8_put 28 = .ok (.bipush 6, 2) := by decide +kernel
theorem dX8_put_30 : decode cX8_put 30 = .ok (.imul, 1) := by decide +kernel
theorem dX8_put_31 : decode cX8_put 31 = .ok (.iload_n 2, 1) := by decide +kernel
theorem dX8_put_32 : decode cX8_put 32 = .ok (.iadd, 1) := by decide +kernel
theorem dX8_put_33 : decode cX8_put 33 = .ok (.iload_n 3, 1) := by decide +kernel
theorem dX8_put_34 : decode cX8_put 34 = .ok (.iastore, 1) := by decide +kernel
theorem dX8_put_35 : decode cX8_put 35 = .ok (.return_, 1) := by decide +kernel
theorem dX8_copyRow_0 : decode cX8_copyRow 0 = .ok (.iconst 0, 1) := by decide +kernel
theorem dX8_copyRow_1 : decode cX8_copyRow 1 = .ok (.istore 5, 2) := by decide +kernel
theorem dX8_copyRow_3 : decode cX8_copyRow 3 = .ok (.iload 5, 2) := by decide +kernel
theorem dX8_copyRow_5 : decode cX8_copyRow 5 = .ok (.aload_n 0, 1) := by decide +kernel
theorem dX8_copyRow_6 : decode cX8_copyRow 6 = .ok (.getfield 37, 3) := by decide +kernel
theorem dX8_copyRow_9 : decode cX8_copyRow 9 = .ok (.iload_n 2, 1) := by decide +kernel
theorem dX8_copyRow_10 : decode cX8_copyRow 10 = .ok (.iaload, 1) := by decide +kernel
theorem dX8_copyRow_11 : decode cX8_copyRow 11 = .ok (.if_icmp .ge 27, 3) := by decide +kernel
theorem dX8_copyRow_14 : decode cX8_copyRow 14 = .ok (.aload_n 0, 1) := by decide +kernel
theorem dX8_copyRow_15 : decode cX8_copyRow 15 = .ok (.iload_n 1, 1) := by decide +kernel
theorem dX8_copyRow_16 : decode cX8_copyRow 16 = .ok (.iload 4, 2) := by decide +kernel
theorem dX8_copyRow_18 : decode cX8_copyRow 18 = .ok (.iload 5, 2) := by decide +kernel
theorem dX8_copyRow_20 : decode cX8_copyRow 20 = .ok (.iadd, 1) := by decide +kernel
theorem dX8_copyRow_21 : decode cX8_copyRow 21 = .ok (.aload_n 0, 1) := by decide +kernel
theorem dX8_copyRow_22 : decode cX8_copyRow 22 = .ok (.iload_n 2, 1) := by decide +kernel
theorem dX8_copyRow_23 : decode cX8_copyRow 23 = .ok (.iload_n 3, 1) := by decide +kernel
theorem dX8_copyRow_24 : decode cX8_copyRow 24 = .ok (.iload 5, 2) := by decide +kernel
theorem dX8_copyRow_26 : decode cX8_copyRow 26 = .ok (.invokevirtual 144, 3) := by decide +kernel
theorem dX8_copyRow_29 : decode cX8_copyRow 29 = .ok (.invokevirtual 148, 3) := by decide +kernel
theorem dX8_copyRow_32 : decode cX8_copyRow 32 = .ok (.iinc 5 1, 3) := by decide +kernel
theorem dX8_copyRow_35 : decode cX8_copyRow 35 = .ok (.goto (-32), 3) := by decide +kernel
theorem dX8_copyRow_38 : decode cX8_copyRow 38 = .ok (.return_, 1) := by decide +kernel
theorem dX8_isTrue_0 : decode cX8_isTrue 0 = .ok (.iload_n 1, 1) := by decide +kernel
theorem dX8_isTrue_1 : decode cX8_isTrue 1 = .ok (.iconst 3, 1) := by decide +kernel
theorem dX8_isTrue_2 : decode cX8_isTrue 2 = .ok (.if_icmp .le 34, 3) := by decide +kernel
theorem dX8_isTrue_5 : decode cX8_isTrue 5 = .ok (.iload_n 0, 1) := by decide +kernel
theorem dX8_isTrue_6 : decode cX8_isTrue 6 = .ok (.sipush (-1000), 3) := by decide +kernel
theorem dX8_isTrue_9 : decode cX8_isTrue 9 = .ok (.if_icmp .ne 7, 3) := by decide +kernel
theorem dX8_isTrue_12 : decode cX8_isTrue 12 = .ok (.iconst 1, 1) := by decide +kernel
theorem dX8_isTrue_13 : decode cX8_isTrue 13 = .ok (.goto 4, 3) := by decide +kernel
theorem dX8_isTrue_16 : decode cX8_isTrue 16 = .ok (.iconst 0, 1) := by decide +kernel
theorem dX8_isTrue_17 : decode cX8_isTrue 17 = .ok (.iload_n 1, 1) := by decide +kernel
theorem dX8_isTrue_18 : decode cX8_isTrue 18 = .ok (.iconst 4, 1) := by decide +kernel
theorem dX8_isTrue_19 : decode cX8_isTrue 19 = .ok (.if_icmp .ne 7, 3) := by decide +kernel
theorem dX8_isTrue_22 : decode cX8_isTrue 22 = .ok (.iconst 1, 1) := by decide +kernel
theorem dX8_isTrue_23 : decode cX8_isTrue 23 = .ok (.goto 4, 3) := by decide +kernel
theorem dX8_isTrue_26 : decode cX8_isTrue 26 = .ok (.iconst 0, 1) := by decide +kernel
theorem dX8_isTrue_27 : decode cX8_isTrue 27 = .ok (.if_icmp .ne 7, 3) := by decide +kernel
theorem dX8_isTrue_30 : decode cX8_isTrue 30 = .ok (.iconst 1, 1) := by decide +kernel
theorem dX8_isTrue_31 : decode cX8_isTrue 31 = .ok (.goto 4, 3) := by decide +kernel
theorem dX8_isTrue_34 : decode cX8_isTrue 34 = .ok (.iconst 0, 1) := by decide +kernel
theorem dX8_isTrue_35 : decode cX8_isTrue 35 = .ok (.ireturn, 1) := by decide +kernel
theorem dX8_isTrue_36 : decode cX8_isTrue 36 = .ok (.iload_n 0, 1) := by decide +kernel
theorem dX8_isTrue_37 : decode cX8_isTrue 37 = .ok (.sipush (-1000), 3) := by decide +kernel
theorem dX8_isTrue_40 : decode cX8_isTrue 40 = .ok (.if_icmp .eq 14, 3) := by decide +kernel
theorem dX8_isTrue_43 : decode cX8_isTrue 43 = .ok (.iload_n 2, 1) := by decide +kernel
theorem dX8_isTrue_44 : decode cX8_isTrue 44 = .ok (.sipush (-1000), 3) := by decide +kernel
theorem dX8_isTrue_47 : decode cX8_isTrue 47 = .ok (.if_icmp .eq 7, 3) := by decide +kernel
theorem dX8_isTrue_50 : decode cX8_isTrue 50 = .ok (.iconst 1, 1) := by decide +kernel
theorem dX8_isTrue_51 : decode cX8_isTrue 51 = .ok (.goto 4, 3) := by decide +kernel
theorem dX8_isTrue_54 : decode cX8_isTrue 54 = .ok (.iconst 0, 1) := by decide +kernel
theorem dX8_isTrue_55 : decode cX8_isTrue 55 = .ok (.istore_n 3, 1) := by decide +kernel
theorem dX8_isTrue_56 : decode cX8_isTrue 56 = .ok (.iload_n 3, 1) := by decide +kernel
theorem dX8_isTrue_57 : decode cX8_isTrue 57 = .ok (.ifCond .eq 50, 3) := by decide +kernel
theorem dX8_isTrue_60 : decode cX8_isTrue 60 = .ok (.iload_n 1, 1) := by decide +kernel
theorem dX8_isTrue_61 : decode cX8_isTrue 61 = .ok (.ifCond .ne 11, 3) := by decide +kernel
theorem dX8_isTrue_64 : decode cX8_isTrue 64 = .ok (.iload_n 0, 1) := by decide +kernel
theorem dX8_isTrue_65 : decode cX8_isTrue 65 = .ok (.iload_n 2, 1) := by decide +kernel
theorem dX8_isTrue_66 : decode cX8_isTrue 66 = .ok (.if_icmp .ne 41, 3) := by decide +kernel
theorem dX8_isTrue_69 : decode cX8_isTrue 69 = .ok (.goto 34, 3) := by decide +kernel
theorem dX8_isTrue_72 : decode cX8_isTrue 72 = .ok (.iload_n 1, 1) := by decide +kernel
theorem dX8_isTrue_73 : decode cX8_isTrue 73 = .ok (.iconst 1, 1) := by decide +kernel
theorem dX8_isTrue_74 : decode cX8_isTrue 74 = .ok (.if_icmp .ne 11, 3) := by decide +kernel
theorem dX8_isTrue_77 : decode cX8_isTrue 77 = .ok (.iload_n 0, 1) := by decide +kernel
theorem dX8_isTrue_78 : decode cX8_isTrue 78 = .ok (.iload_n 2, 1) := by decide +kernel
theorem dX8_isTrue_79 : decode cX8_isTrue 79 = .ok (.if_icmp .eq 28, 3) := by decide +kernel
theorem dX8_isTrue_82 : decode cX8_isTrue 82 = .ok (.goto 21, 3) := by decide +kernel
theorem dX8_isTrue_85 : decode cX8_isTrue 85 = .ok (.iload_n 1, 1) := by decide +kernel
theorem dX8_isTrue_86 : decode cX8_isTrue 86 = .ok (.iconst 2, 1) := by decide +kernel
theorem dX8_isTrue_87 : decode cX8_isTrue 87 = .ok (.if_icmp .ne 11, 3) := by decide +kernel
theorem dX8_isTrue_90 : decode cX8_isTrue 90 = .ok (.iload_n 0, 1) := by decide +kernel
theorem dX8_isTrue_91 : decode cX8_isTrue 91 = .ok (.iload_n 2, 1) := by decide +kernel
theorem dX8_isTrue_92 : decode cX8_isTrue 92 = .ok (.if_icmp .ge 15, 3) := by decide +kernel
theorem dX8_isTrue_95 : decode cX8_isTrue 95 = .ok (.goto 8, 3) := by decide +kernel
theorem dX8_isTrue_98 : decode cX8_isTrue 98 = .ok (.iload_n 0, 1) := by decide +kernel
theorem dX8_isTrue_99 : decode cX8_isTrue 99 = .ok (.iload_n 2, 1) := by decide +kernel
theorem dX8_isTrue_100 : decode cX8_isTrue 100 = .ok (.if_icmp .le 7, 3) := by decide +kernel
theorem dX8_isTrue_103 : decode cX8_isTrue 103 = .ok (.iconst 1, 1) := by decide +kernel
theorem dX8_isTrue_104 : decode cX8_isTrue 104 = .ok (.goto 4, 3) := by decide +kernel
theorem dX8_isTrue_107 : decode cX8_isTrue 107 = .ok (.iconst 0, 1) := by decide +kernel
theorem dX8_isTrue_108 : decode cX8_isTrue 108 = .ok (.ireturn, 1) := by decide +kernel
theorem dX8_giveScan_0 : decode cX8_giveScan 0 = .ok (.iconst 0, 1) := by decide +kernel
theorem dX8_giveScan_1 : decode cX8_giveScan 1 = .ok (.istore_n 2, 1) := by decide +kernel
theorem dX8_giveScan_2 : decode cX8_giveScan 2 = .ok (.iload_n 2, 1) := by decide +kernel
theorem dX8_giveScan_3 : decode cX8_giveScan 3 = .ok (.aload_n 0, 1) := by decide +kernel
theorem dX8_giveScan_4 : decode cX8_giveScan 4 = .ok (.getfield 13, 3) := by decide +kernel
theorem dX8_giveScan_7 : decode cX8_giveScan 7 = .ok (.aload_n 0, 1) := by decide +kernel
theorem dX8_giveScan_8 : decode cX8_giveScan 8 = .ok (.getfield 22, 3) := by decide +kernel
theorem dX8_giveScan_11 : decode cX8_giveScan 11 = .ok (.iload_n 1, 1) := by decide +kernel
theorem dX8_giveScan_12 : decode cX8_giveScan 12 = .ok (.iaload, 1) := by decide +kernel
theorem dX8_giveScan_13 : decode cX8_giveScan 13 = .ok (.iaload, 1) := by decide +kernel
theorem dX8_giveScan_14 : decode cX8_giveScan 14 = .ok (.if_icmp .ge 55, 3) := by decide +kernel
theorem dX8_giveScan_17 : decode cX8_giveScan 17 = .ok (.iconst 0, 1) := by decide +kernel
theorem dX8_giveScan_18 : decode cX8_giveScan 18 = .ok (.istore_n 3, 1) := by decide +kernel
theorem dX8_giveScan_19 : decode cX8_giveScan 19 = .ok (.iload_n 3, 1) := by decide +kernel
theorem dX8_giveScan_20 : decode cX8_giveScan 20 = .ok (.aload_n 0, 1) := by decide +kernel
theorem dX8_giveScan_21 : decode cX8_giveScan 21 = .ok (.getfield 37, 3) := by decide +kernel
theorem dX8_giveScan_24 : decode cX8_giveScan 24 = .ok (.iload_n 1, 1) := by decide +kernel
theorem dX8_giveScan_25 : decode cX8_giveScan 25 = .ok (.iaload, 1) := by decide +kernel
theorem dX8_giveScan_26 : decode cX8_giveScan 26 = .ok (.if_icmp .ge 27, 3) := by decide +kernel
theorem dX8_giveScan_29 : decode cX8_giveScan 29 = .ok (.aload_n 0, 1) := by decide +kernel
theorem dX8_giveScan_30 : decode cX8_giveScan 30 = .ok (.iload_n 1, 1) := by decide +kernel
theorem dX8_giveScan_31 : decode cX8_giveScan 31 = .ok (.iload_n 3, 1) := by decide +kernel
theorem dX8_giveScan_32 : decode cX8_giveScan 32 = .ok (.aload_n 0, 1) := by decide +kernel
theorem dX8_giveScan_33 : decode cX8_giveScan 33 = .ok (.aload_n 0, 1) := by decide +kernel
theorem dX8_giveScan_34 : decode cX8_giveScan 34 = .ok (.getfield 22, 3) := by decide +kernel
theorem dX8_giveScan_37 : decode cX8_giveScan 37 = .ok (.iload_n 1, 1) := by decide +kernel
theorem dX8_giveScan_38 : decode cX8_giveScan 38 = .ok (.iaload, 1) := by decide +kernel
theorem dX8_giveScan_39 : decode cX8_giveScan 39 = .ok (.iload_n 2, 1) := by decide +kernel
theorem dX8_giveScan_40 : decode cX8_giveScan 40 = .ok (.iload_n 3, 1) := by decide +kernel
theorem dX8_giveScan_41 : decode cX8_giveScan 41 = .ok (.invokevirtual 152, 3) := by decide +kernel
theorem dX8_giveScan_44 : decode cX8_giveScan 44 = .ok (.invokevirtual 148, 3) := by decide +kernel
theorem dX8_giveScan_47 : decode cX8_giveScan 47 = .ok (.iinc 3 1, 3) := by decide +kernel
theorem dX8_giveScan_50 : decode cX8_giveScan 50 = .ok (.goto (-31), 3) := by decide +kernel
theorem dX8_giveScan_53 : decode cX8_giveScan 53 = .ok (.aload_n 0, 1) := by decide +kernel
theorem dX8_giveScan_54 : decode cX8_giveScan 54 = .ok (.getfield 51, 3) := by decide +kernel
theorem dX8_giveScan_57 : decode cX8_giveScan 57 = .ok (.iload_n 1, 1) := by decide +kernel
theorem dX8_giveScan_58 : decode cX8_giveScan 58 = .ok (.dup2, 1) := by decide +kernel
theorem dX8_giveScan_59 : decode cX8_giveScan 59 = .ok (.iaload, 1) := by decide +kernel
theorem dX8_giveScan_60 : decode cX8_giveScan 60 = .ok (.iconst 1, 1) := by decide +kernel
theorem dX8_giveScan_61 : decode cX8_giveScan 61 = .ok (.iadd, 1) := by decide +kernel
theorem dX8_giveScan_62 : decode cX8_giveScan 62 = .ok (.iastore, 1) := by decide +kernel
theorem dX8_giveScan_63 : decode cX8_giveScan 63 = .ok (.iinc 2 1, 3) := by decide +kernel
theorem dX8_giveScan_66 : decode cX8_giveScan 66 = .ok (.goto (-64), 3) := by decide +kernel
theorem dX8_giveScan_69 : decode cX8_giveScan 69 = .ok (.return_, 1) := by decide +kernel
theorem dX8_giveFilter_0 : decode cX8_giveFilter 0 = .ok (.iconst 0, 1) := by decide +kernel
theorem dX8_giveFilter_1 : decode cX8_giveFilter 1 = .ok (.istore_n 2, 1) := by decide +kernel
theorem dX8_giveFilter_2 : decode cX8_giveFilter 2 = .ok (.iload_n 2, 1) := by decide +kernel
theorem dX8_giveFilter_3 : decode cX8_giveFilter 3 = .ok (.aload_n 0, 1) := by decide +kernel
theorem dX8_giveFilter_4 : decode cX8_giveFilter 4 = .ok (.getfield 51, 3) := by decide +kernel
theorem dX8_giveFilter_7 : decode cX8_giveFilter 7 = .ok (.aload_n 0, 1) := by decide +kernel
theorem dX8_giveFilter_8 : decode cX8_giveFilter 8 = .ok (.getfield 22, 3) := by decide +kernel
theorem dX8_giveFilter_11 : decode cX8_giveFilter 11 = .ok (.iload_n 1, 1) := by decide +kernel
theorem dX8_giveFilter_12 : decode cX8_giveFilter 12 = .ok (.iaload, 1) := by decide +kernel
theorem dX8_giveFilter_13 : decode cX8_giveFilter 13 = .ok (.iaload, 1) := by decide +kernel
theorem dX8_giveFilter_14 : decode cX8_giveFilter 14 = .ok (.if_icmp .ge 67, 3) := by decide +kernel
theorem dX8_giveFilter_17 : decode cX8_giveFilter 17 = .ok (.aload_n 0, 1) := by decide +kernel
theorem dX8_giveFilter_18 : decode cX8_giveFilter 18 = .ok (.aload_n 0, 1) := by decide +kernel
theorem dX8_giveFilter_19 : decode cX8_giveFilter 19 = .ok (.getfield 22, 3) := by decide +kernel
theorem dX8_giveFilter_22 : decode cX8_giveFilter 22 = .ok (.iload_n 1, 1) := by decide +kernel
theorem dX8_giveFilter_23 : decode cX8_giveFilter 23 = .ok (.iaload, 1) := by decide +kernel
theorem dX8_giveFilter_24 : decode cX8_giveFilter 24 = .ok (.iload_n 2, 1) := by decide +kernel
theorem dX8_giveFilter_25 : decode cX8_giveFilter 25 = .ok (.aload_n 0, 1) := by decide +kernel
theorem dX8_giveFilter_26 : decode cX8_giveFilter 26 = .ok (.getfield 28, 3) := by decide +kernel
theorem dX8_giveFilter_29 : decode cX8_giveFilter 29 = .ok (.iload_n 1, 1) := by decide +kernel
theorem dX8_giveFilter_30 : decode cX8_giveFilter 30 = .ok (.iaload, 1) := by decide +kernel
theorem dX8_giveFilter_31 : decode cX8_giveFilter 31 = .ok (.invokevirtual 144, 3) := by decide +kernel
theorem dX8_giveFilter_34 : decode cX8_giveFilter 34 = .ok (.aload_n 0, 1) := by decide +kernel
theorem dX8_giveFilter_35 : decode cX8_giveFilter 35 = .ok (.getfield 31, 3) := by decide +kernel
theorem dX8_giveFilter_38 : decode cX8_giveFilter 38 = .ok (.iload_n 1, 1) := by decide +kernel
theorem dX8_giveFilter_39 : decode cX8_giveFilter 39 = .ok (.iaload, 1) := by decide +kernel
theorem dX8_giveFilter_40 : decode cX8_giveFilter 40 = .ok (.aload_n 0, 1) := by decide +kernel
theorem dX8_giveFilter_41 : decode cX8_giveFilter 41 = .ok (.getfield 34, 3) := by decide +kernel
theorem dX8_giveFilter_44 : decode cX8_giveFilter 44 = .ok (.iload_n 1, 1) := by decide +kernel
theorem dX8_giveFilter_45 : decode cX8_giveFilter 45 = .ok (.iaload, 1) := by decide +kernel
theorem dX8_giveFilter_46 : decode cX8_giveFilter 46 = .ok (.invokestatic 155, 3) := by decide +kernel
theorem dX8_giveFilter_49 : decode cX8_giveFilter 49 = .ok (.ifCond .eq 26, 3) := by decide +kernel
theorem dX8_giveFilter_52 : decode cX8_giveFilter 52 = .ok (.aload_n 0, 1) := by decide +kernel
theorem dX8_giveFilter_53 : decode cX8_giveFilter 53 = .ok (.iload_n 1, 1) := by decide +kernel
theorem dX8_giveFilter_54 : decode cX8_giveFilter 54 = .ok (.aload_n 0, 1) := by decide +kernel
theorem dX8_giveFilter_55 : decode cX8_giveFilter 55 = .ok (.getfield 22, 3) := by decide +kernel
theorem dX8_giveFilter_58 : decode cX8_giveFilter 58 = .ok (.iload_n 1, 1) := by decide +kernel
theorem dX8_giveFilter_59 : decode cX8_giveFilter 59 = .ok (.iaload, 1) := by decide +kernel
theorem dX8_giveFilter_60 : decode cX8_giveFilter 60 = .ok (.iload_n 2, 1) := by decide +kernel
theorem dX8_giveFilter_61 : decode cX8_giveFilter 61 = .ok (.iconst 0, 1) := by decide +kernel
theorem dX8_giveFilter_62 : decode cX8_giveFilter 62 = .ok (.invokevirtual 158, 3) := by decide +kernel
theorem dX8_giveFilter_65 : decode cX8_giveFilter 65 = .ok (.aload_n 0, 1) := by decide +kernel
theorem dX8_giveFilter_66 : decode cX8_giveFilter 66 = .ok (.getfield 51, 3) := by decide +kernel
theorem dX8_giveFilter_69 : decode cX8_giveFilter 69 = .ok (.iload_n 1, 1) := by decide +kernel
theorem dX8_giveFilter_70 : decode cX8_giveFilter 70 = .ok (.dup2, 1) := by decide +kernel
theorem dX8_giveFilter_71 : decode cX8_giveFilter 71 = .ok (.iaload, 1) := by decide +kernel
theorem dX8_giveFilter_72 : decode cX8_giveFilter 72 = .ok (.iconst 1, 1) := by decide +kernel
theorem dX8_giveFilter_73 : decode cX8_giveFilter 73 = .ok (.iadd, 1) := by decide +kernel
theorem dX8_giveFilter_74 : decode cX8_giveFilter 74 = .ok (.iastore, 1) := by decide +kernel
theorem dX8_giveFilter_75 : decode cX8_giveFilter 75 = .ok (.iinc 2 1, 3) := by decide +kernel
theorem dX8_giveFilter_78 : decode cX8_giveFilter 78 = .ok (.goto (-76), 3) := by decide +kernel
theorem dX8_giveFilter_81 : decode cX8_giveFilter 81 = .ok (.return_, 1) := by decide +kernel
theorem dX8_giveJoin_0 : decode cX8_giveJoin 0 = .ok (.aload_n 0, 1) := by decide +kernel
theorem dX8_giveJoin_1 : decode cX8_giveJoin 1 = .ok (.getfield 22, 3) := by decide +kernel
theorem dX8_giveJoin_4 : decode cX8_giveJoin 4 = .ok (.iload_n 1, 1) := by decide +kernel
theorem dX8_giveJoin_5 : decode cX8_giveJoin 5 = .ok (.iaload, 1) := by decide +kernel
theorem dX8_giveJoin_6 : decode cX8_giveJoin 6 = .ok (.istore_n 2, 1) := by decide +kernel
theorem dX8_giveJoin_7 : decode cX8_giveJoin 7 = .ok (.aload_n 0, 1) := by decide +kernel
theorem dX8_giveJoin_8 : decode cX8_giveJoin 8 = .ok (.getfield 25, 3) := by decide +kernel
theorem dX8_giveJoin_11 : decode cX8_giveJoin 11 = .ok (.iload_n 1, 1) := by decide +kernel
theorem dX8_giveJoin_12 : decode cX8_giveJoin 12 = .ok (.iaload, 1) := by decide +kernel
theorem dX8_giveJoin_13 : decode cX8_giveJoin 13 = .ok (.istore_n 3, 1) := by decide +kernel
theorem dX8_giveJoin_14 : decode cX8_giveJoin 14 = .ok (.aload_n 0, 1) := by decide +kernel
theorem dX8_giveJoin_15 : decode cX8_giveJoin 15 = .ok (.getfield 34, 3) := by decide +kernel
theorem dX8_giveJoin_18 : decode cX8_giveJoin 18 = .ok (.iload_n 1, 1) := by decide +kernel
theorem dX8_giveJoin_19 : decode cX8_giveJoin 19 = .ok (.iaload, 1) := by decide +kernel
theorem dX8_giveJoin_20 : decode cX8_giveJoin 20 = .ok (.istore 4, 2) := by decide +kernel
theorem dX8_giveJoin_22 : decode cX8_giveJoin 22 = .ok (.iconst 0, 1) := by decide +kernel
theorem dX8_giveJoin_23 : decode cX8_giveJoin 23 = .ok (.istore 5, 2) := by decide +kernel
theorem dX8_giveJoin_25 : decode cX8_giveJoin 25 = .ok (.iload 5, 2) := by decide +kernel
theorem dX8_giveJoin_27 : decode cX8_giveJoin 27 = .ok (.aload_n 0, 1) := by decide +kernel
theorem dX8_giveJoin_28 : decode cX8_giveJoin 28 = .ok (.getfield 51, 3) := by decide +kernel
theorem dX8_giveJoin_31 : decode cX8_giveJoin 31 = .ok (.iload_n 2, 1) := by decide +kernel
theorem dX8_giveJoin_32 : decode cX8_giveJoin 32 = .ok (.iaload, 1) := by decide +kernel
theorem dX8_giveJoin_33 : decode cX8_giveJoin 33 = .ok (.if_icmp .ge 285, 3) := by decide +kernel
theorem dX8_giveJoin_36 : decode cX8_giveJoin 36 = .ok (.iconst 0, 1) := by decide +kernel
theorem dX8_giveJoin_37 : decode cX8_giveJoin 37 = .ok (.istore 6, 2) := by decide +kernel
theorem dX8_giveJoin_39 : decode cX8_giveJoin 39 = .ok (.iconst 0, 1) := by decide +kernel
theorem dX8_giveJoin_40 : decode cX8_giveJoin 40 = .ok (.istore 7, 2) := by decide +kernel
theorem dX8_giveJoin_42 : decode cX8_giveJoin 42 = .ok (.iconst 0, 1) := by decide +kernel
theorem dX8_giveJoin_43 : decode cX8_giveJoin 43 = .ok (.istore 8, 2) := by decide +kernel
theorem dX8_giveJoin_45 : decode cX8_giveJoin 45 = .ok (.iload 8, 2) := by decide +kernel
theorem dX8_giveJoin_47 : decode cX8_giveJoin 47 = .ok (.aload_n 0, 1) := by decide +kernel
theorem dX8_giveJoin_48 : decode cX8_giveJoin 48 = .ok (.getfield 51, 3) := by decide +kernel
theorem dX8_giveJoin_51 : decode cX8_giveJoin 51 = .ok (.iload_n 3, 1) := by decide +kernel
theorem dX8_giveJoin_52 : decode cX8_giveJoin 52 = .ok (.iaload, 1) := by decide +kernel
theorem dX8_giveJoin_53 : decode cX8_giveJoin 53 = .ok (.if_icmp .ge 143, 3) := by decide +kernel
theorem dX8_giveJoin_56 : decode cX8_giveJoin 56 = .ok (.aload_n 0, 1) := by decide +kernel
theorem dX8_giveJoin_57 : decode cX8_giveJoin 57 = .ok (.iload_n 2, 1) := by decide +kernel
theorem dX8_giveJoin_58 : decode cX8_giveJoin 58 = .ok (.iload 5, 2) := by decide +kernel
theorem dX8_giveJoin_60 : decode cX8_giveJoin 60 = .ok (.aload_n 0, 1) := by decide +kernel
theorem dX8_giveJoin_61 : decode cX8_giveJoin 61 = .ok (.getfield 28, 3) := by decide +kernel
theorem dX8_giveJoin_64 : decode cX8_giveJoin 64 = .ok (.iload_n 1, 1) := by decide +kernel
theorem dX8_giveJoin_65 : decode cX8_giveJoin 65 = .ok (.iaload, 1) := by decide +kernel
theorem dX8_giveJoin_66 : decode cX8_giveJoin 66 = .ok (.invokevirtual 144, 3) := by decide +kernel
theorem dX8_giveJoin_69 : decode cX8_giveJoin 69 = .ok (.iconst 0, 1) := by decide +kernel
theorem dX8_giveJoin_70 : decode cX8_giveJoin 70 = .ok (.aload_n 0, 1) := by decide +kernel
theorem dX8_giveJoin_71 : decode cX8_giveJoin 71 = .ok (.iload_n 3, 1) := by decide +kernel
theorem dX8_giveJoin_72 : decode cX8_giveJoin 72 = .ok (.iload 8, 2) := by decide +kernel
theorem dX8_giveJoin_74 : decode cX8_giveJoin 74 = .ok (.aload_n 0, 1) := by decide +kernel
theorem dX8_giveJoin_75 : decode cX8_giveJoin 75 = .ok (.getfield 31, 3) := by decide +kernel
theorem dX8_giveJoin_78 : decode cX8_giveJoin 78 = .ok (.iload_n 1, 1) := by decide +kernel
theorem dX8_giveJoin_79 : decode cX8_giveJoin 79 = .ok (.iaload, 1) := by decide +kernel
theorem dX8_giveJoin_80 : decode cX8_giveJoin 80 = .ok (.invokevirtual 144, 3) := by decide +kernel
theorem dX8_giveJoin_83 : decode cX8_giveJoin 83 = .ok (.invokestatic 155, 3) := by decide +kernel
theorem dX8_giveJoin_86 : decode cX8_giveJoin 86 = .ok (.istore 9, 2) := by decide +kernel
theorem dX8_giveJoin_88 : decode cX8_giveJoin 88 = .ok (.iload 6, 2) := by decide +kernel
theorem dX8_giveJoin_90 : decode cX8_giveJoin 90 = .ok (.iload 9, 2) := by decide +kernel
theorem dX8_giveJoin_92 : decode cX8_giveJoin 92 = .ok (.ifCond .eq 7, 3) := by decide +kernel
theorem dX8_giveJoin_95 : decode cX8_giveJoin 95 = .ok (.iconst 1, 1) := by decide +kernel
theorem dX8_giveJoin_96 : decode cX8_giveJoin 96 = .ok (.goto 4, 3) := by decide +kernel
theorem dX8_giveJoin_99 : decode cX8_giveJoin 99 = .ok (.iconst 0, 1) := by decide +kernel
theorem dX8_giveJoin_100 : decode cX8_giveJoin 100 = .ok (.iadd, 1) := by decide +kernel
theorem dX8_giveJoin_101 : decode cX8_giveJoin 101 = .ok (.istore 6, 2) := by decide +kernel
theorem dX8_giveJoin_103 : decode cX8_giveJoin 103 = .ok (.iload 7, 2) := by decide +kernel
theorem dX8_giveJoin_105 : decode cX8_giveJoin 105 = .ok (.aload_n 0, 1) := by decide +kernel
theorem dX8_giveJoin_106 : decode cX8_giveJoin 106 = .ok (.iload_n 2, 1) := by decide +kernel
theorem dX8_giveJoin_107 : decode cX8_giveJoin 107 = .ok (.iload 5, 2) := by decide +kernel
theorem dX8_giveJoin_109 : decode cX8_giveJoin 109 = .ok (.aload_n 0, 1) := by decide +kernel
theorem dX8_giveJoin_110 : decode cX8_giveJoin 110 = .ok (.getfield 28, 3) := by decide +kernel
theorem dX8_giveJoin_113 : decode cX8_giveJoin 113 = .ok (.iload_n 1, 1) := by decide +kernel
theorem dX8_giveJoin_114 : decode cX8_giveJoin 114 = .ok (.iaload, 1) := by decide +kernel
theorem dX8_giveJoin_115 : decode cX8_giveJoin 115 = .ok (.invokevirtual 144, 3) := by decide +kernel
theorem dX8_giveJoin_118 : decode cX8_giveJoin 118 = .ok (.iconst 1, 1) := by decide +kernel
theorem dX8_giveJoin_119 : decode cX8_giveJoin 119 = .ok (.aload_n 0, 1) := by decide +kernel
theorem dX8_giveJoin_120 : decode cX8_giveJoin 120 = .ok (.iload_n 3, 1) := by decide +kernel
theorem dX8_giveJoin_121 : decode cX8_giveJoin 121 = .ok (.iload 8, 2) := by decide +kernel
theorem dX8_giveJoin_123 : decode cX8_giveJoin 123 = .ok (.aload_n 0, 1) := by decide +kernel
theorem dX8_giveJoin_124 : decode cX8_giveJoin 124 = .ok (.getfield 31, 3) := by decide +kernel
theorem dX8_giveJoin_127 : decode cX8_giveJoin 127 = .ok (.iload_n 1, 1) := by decide +kernel
theorem dX8_giveJoin_128 : decode cX8_giveJoin 128 = .ok (.iaload, 1) := by decide +kernel
theorem dX8_giveJoin_129 : decode cX8_giveJoin 129 = .ok (.invokevirtual 144, 3) := by decide +kernel
theorem dX8_giveJoin_132 : decode cX8_giveJoin 132 = .ok (.invokestatic 155, 3) := by decide +kernel
theorem dX8_giveJoin_135 : decode cX8_giveJoin 135 = .ok (.ifCond .eq 7, 3) := by decide +kernel
theorem dX8_giveJoin_138 : decode cX8_giveJoin 138 = .ok (.iconst 1, 1) := by decide +kernel
theorem dX8_giveJoin_139 : decode cX8_giveJoin 139 = .ok (.goto 4, 3) := by decide +kernel
theorem dX8_giveJoin_142 : decode cX8_giveJoin 142 = .ok (.iconst 0, 1) := by decide +kernel
theorem dX8_giveJoin_143 : decode cX8_giveJoin 143 = .ok (.iadd, 1) := by decide +kernel
theorem dX8_giveJoin_144 : decode cX8_giveJoin 144 = .ok (.istore 7, 2) := by decide +kernel
theorem dX8_giveJoin_146 : decode cX8_giveJoin 146 = .ok (.iload 9, 2) := by decide +kernel
theorem dX8_giveJoin_148 : decode cX8_giveJoin 148 = .ok (.ifCond .eq 42, 3) := by decide +kernel
theorem dX8_giveJoin_151 : decode cX8_giveJoin 151 = .ok (.iload 4, 2) := by decide +kernel
theorem dX8_giveJoin_153 : decode cX8_giveJoin 153 = .ok (.iconst 2, 1) := by decide +kernel
theorem dX8_giveJoin_154 : decode cX8_giveJoin 154 = .ok (.if_icmp .ge 36, 3) := by decide +kernel
theorem dX8_giveJoin_157 : decode cX8_giveJoin 157 = .ok (.aload_n 0, 1) := by decide +kernel
theorem dX8_giveJoin_158 : decode cX8_giveJoin 158 = .ok (.iload_n 1, 1) := by decide +kernel
theorem dX8_giveJoin_159 : decode cX8_giveJoin 159 = .ok (.iload_n 2, 1) := by decide +kernel
theorem dX8_giveJoin_160 : decode cX8_giveJoin 160 = .ok (.iload 5, 2) := by decide +kernel
theorem dX8_giveJoin_162 : decode cX8_giveJoin 162 = .ok (.iconst 0, 1) := by decide +kernel
theorem dX8_giveJoin_163 : decode cX8_giveJoin 163 = .ok (.invokevirtual 158, 3) := by decide +kernel
theorem dX8_giveJoin_166 : decode cX8_giveJoin 166 = .ok (.aload_n 0, 1) := by decide +kernel
theorem dX8_giveJoin_167 : decode cX8_giveJoin 167 = .ok (.iload_n 1, 1) := by decide +kernel
theorem dX8_giveJoin_168 : decode cX8_giveJoin 168 = .ok (.iload_n 3, 1) := by decide +kernel
theorem dX8_giveJoin_169 : decode cX8_giveJoin 169 = .ok (.iload 8, 2) := by decide +kernel
theorem dX8_giveJoin_171 : decode cX8_giveJoin 171 = .ok (.aload_n 0, 1) := by decide +kernel
theorem dX8_giveJoin_172 : decode cX8_giveJoin 172 = .ok (.getfield 37, 3) := by decide +kernel
theorem dX8_giveJoin_175 : decode cX8_giveJoin 175 = .ok (.iload_n 2, 1) := by decide +kernel
theorem dX8_giveJoin_176 : decode cX8_giveJoin 176 = .ok (.iaload, 1) := by decide +kernel
theorem dX8_giveJoin_177 : decode cX8_giveJoin 177 = .ok (.invokevirtual 158, 3) := by decide +kernel
theorem dX8_giveJoin_180 : decode cX8_giveJoin 180 = .ok (.aload_n 0, 1) := by decide +kernel
theorem dX8_giveJoin_181 : decode cX8_giveJoin 181 = .ok (.getfield 51, 3) := by decide +kernel
theorem dX8_giveJoin_184 : decode cX8_giveJoin 184 = .ok (.iload_n 1, 1) := by decide +kernel
theorem dX8_giveJoin_185 : decode cX8_giveJoin 185 = .ok (.dup2, 1) := by decide +kernel
theorem dX8_giveJoin_186 : decode cX8_giveJoin 186 = .ok (.iaload, 1) := by decide +kernel
theorem dX8_giveJoin_187 : decode cX8_giveJoin 187 = .ok (.iconst 1, 1) := by decide +kernel
theorem dX8_giveJoin_188 : decode cX8_giveJoin 188 = .ok (.iadd, 1) := by decide +kernel
theorem dX8_giveJoin_189 : decode cX8_giveJoin 189 = .ok (.iastore, 1) := by decide +kernel
theorem dX8_giveJoin_190 : decode cX8_giveJoin 190 = .ok (.iinc 8 1, 3) := by decide +kernel
theorem dX8_giveJoin_193 : decode cX8_giveJoin 193 = .ok (.goto (-148), 3) := by decide +kernel
theorem dX8_giveJoin_196 : decode cX8_giveJoin 196 = .ok (.iload 4, 2) := by decide +kernel
theorem dX8_giveJoin_198 : decode cX8_giveJoin 198 = .ok (.iconst 1, 1) := by decide +kernel
theorem dX8_giveJoin_199 : decode cX8_giveJoin 199 = .ok (.if_icmp .ne 12, 3) := by decide +kernel
theorem dX8_giveJoin_202 : decode cX8_giveJoin 202 = .ok (.iload 6, 2) := by decide +kernel
theorem dX8_giveJoin_204 : decode cX8_giveJoin 204 = .ok (.ifCond .ne 7, 3) := by decide +kernel
theorem dX8_giveJoin_207 : decode cX8_giveJoin 207 = .ok (.iconst 1, 1) := by decide +kernel
theorem dX8_giveJoin_208 : decode cX8_giveJoin 208 = .ok (.goto 4, 3) := by decide +kernel
theorem dX8_giveJoin_211 : decode cX8_giveJoin 211 = .ok (.iconst 0, 1) := by decide +kernel
theorem dX8_giveJoin_212 : decode cX8_giveJoin 212 = .ok (.istore 8, 2) := by decide +kernel
theorem dX8_giveJoin_214 : decode cX8_giveJoin 214 = .ok (.iload 8, 2) := by decide +kernel
theorem dX8_giveJoin_216 : decode cX8_giveJoin 216 = .ok (.ifCond .ne 42, 3) := by decide +kernel
theorem dX8_giveJoin_219 : decode cX8_giveJoin 219 = .ok (.iload 4, 2) := by decide +kernel
theorem dX8_giveJoin_221 : decode cX8_giveJoin 221 = .ok (.iconst 2, 1) := by decide +kernel
theorem dX8_giveJoin_222 : decode cX8_giveJoin 222 = .ok (.if_icmp .ne 8, 3) := by decide +kernel
theorem dX8_giveJoin_225 : decode cX8_giveJoin 225 = .ok (.iload 6, 2) := by decide +kernel
theorem dX8_giveJoin_227 : decode cX8_giveJoin 227 = .ok (.ifCond .gt 31, 3) := by decide +kernel
theorem dX8_giveJoin_230 : decode cX8_giveJoin 230 = .ok (.iload 4, 2) := by decide +kernel
theorem dX8_giveJoin_232 : decode cX8_giveJoin 232 = .ok (.iconst 3, 1) := by decide +kernel
theorem dX8_giveJoin_233 : decode cX8_giveJoin 233 = .ok (.if_icmp .ne 8, 3) := by decide +kernel
theorem dX8_giveJoin_236 : decode cX8_giveJoin 236 = .ok (.iload 6, 2) := by decide +kernel
theorem dX8_giveJoin_238 : decode cX8_giveJoin 238 = .ok (.ifCond .eq 20, 3) := by decide +kernel
theorem dX8_giveJoin_241 : decode cX8_giveJoin 241 = .ok (.iload 4, 2) := by decide +kernel
theorem dX8_giveJoin_243 : decode cX8_giveJoin 243 = .ok (.iconst 3, 1) := by decide +kernel
theorem dX8_giveJoin_244 : decode cX8_giveJoin 244 = .ok (.if_icmp .le 68, 3) := by decide +kernel
theorem dX8_giveJoin_247 : decode cX8_giveJoin 247 = .ok (.iload 7, 2) := by decide +kernel
theorem dX8_giveJoin_249 : decode cX8_giveJoin 249 = .ok (.aload_n 0, 1) := by decide +kernel
theorem dX8_giveJoin_250 : decode cX8_giveJoin 250 = .ok (.getfield 51, 3) := by decide +kernel
theorem dX8_giveJoin_253 : decode cX8_giveJoin 253 = .ok (.iload_n 3, 1) := by decide +kernel
theorem dX8_giveJoin_254 : decode cX8_giveJoin 254 = .ok (.iaload, 1) := by decide +kernel
theorem dX8_giveJoin_255 : decode cX8_giveJoin 255 = .ok (.if_icmp .ne 57, 3) := by decide +kernel
theorem dX8_giveJoin_258 : decode cX8_giveJoin 258 = .ok (.aload_n 0, 1) := by decide +kernel
theorem dX8_giveJoin_259 : decode cX8_giveJoin 259 = .ok (.iload_n 1, 1) := by decide +kernel
theorem dX8_giveJoin_260 : decode cX8_giveJoin 260 = .ok (.iload_n 2, 1) := by decide +kernel
theorem dX8_giveJoin_261 : decode cX8_giveJoin 261 = .ok (.iload 5, 2) := by decide +kernel
theorem dX8_giveJoin_263 : decode cX8_giveJoin 263 = .ok (.iconst 0, 1) := by decide +kernel
theorem dX8_giveJoin_264 : decode cX8_giveJoin 264 = .ok (.invokevirtual 158, 3) := by decide +kernel
theorem dX8_giveJoin_267 : decode cX8_giveJoin 267 = .ok (.aload_n 0, 1) := by decide +kernel
theorem dX8_giveJoin_268 : decode cX8_giveJoin 268 = .ok (.getfield 37, 3) := by decide +kernel
theorem dX8_giveJoin_271 : decode cX8_giveJoin 271 = .ok (.iload_n 2, 1) := by decide +kernel
theorem dX8_giveJoin_272 : decode cX8_giveJoin 272 = .ok (.iaload, 1) := by decide +kernel
theorem dX8_giveJoin_273 : decode cX8_giveJoin 273 = .ok (.istore 9, 2) := by decide +kernel
theorem dX8_giveJoin_275 : decode cX8_giveJoin 275 = .ok (.iload 9, 2) := by decide +kernel
theorem dX8_giveJoin_277 : decode cX8_giveJoin 277 = .ok (.aload_n 0, 1) := by decide +kernel
theorem dX8_giveJoin_278 : decode cX8_giveJoin 278 = .ok (.getfield 37, 3) := by decide +kernel
theorem dX8_giveJoin_281 : decode cX8_giveJoin 281 = .ok (.iload_n 1, 1) := by decide +kernel
theorem dX8_giveJoin_282 : decode cX8_giveJoin 282 = .ok (.iaload, 1) := by decide +kernel
theorem dX8_giveJoin_283 : decode cX8_giveJoin 283 = .ok (.if_icmp .ge 19, 3) := by decide +kernel
theorem dX8_giveJoin_286 : decode cX8_giveJoin 286 = .ok (.aload_n 0, 1) := by decide +kernel
theorem dX8_giveJoin_287 : decode cX8_giveJoin 287 = .ok (.iload_n 1, 1) := by decide +kernel
theorem dX8_giveJoin_288 : decode cX8_giveJoin 288 = .ok (.iload 9, 2) := by decide +kernel
theorem dX8_giveJoin_290 : decode cX8_giveJoin 290 = .ok (.sipush (-1000), 3) := by decide +kernel
theorem dX8_giveJoin_293 : decode cX8_giveJoin 293 = .ok (.invokevirtual 148, 3) := by decide +kernel
theorem dX8_giveJoin_296 : decode cX8_giveJoin 296 = .ok (.iinc 9 1, 3) := by decide +kernel
theorem dX8_giveJoin_299 : decode cX8_giveJoin 299 = .ok (.goto (-24), 3) := by decide +kernel
theorem dX8_giveJoin_302 : decode cX8_giveJoin 302 = .ok (.aload_n 0, 1) := by decide +kernel
theorem dX8_giveJoin_303 : decode cX8_giveJoin 303 = .ok (.getfield 51, 3) := by decide +kernel
theorem dX8_giveJoin_306 : decode cX8_giveJoin 306 = .ok (.iload_n 1, 1) := by decide +kernel
theorem dX8_giveJoin_307 : decode cX8_giveJoin 307 = .ok (.dup2, 1) := by decide +kernel
theorem dX8_giveJoin_308 : decode cX8_giveJoin 308 = .ok (.iaload, 1) := by decide +kernel
theorem dX8_giveJoin_309 : decode cX8_giveJoin 309 = .ok (.iconst 1, 1) := by decide +kernel
theorem dX8_giveJoin_310 : decode cX8_giveJoin 310 = .ok (.iadd, 1) := by decide +kernel
theorem dX8_giveJoin_311 : decode cX8_giveJoin 311 = .ok (.iastore, 1) := by decide +kernel
theorem dX8_giveJoin_312 : decode cX8_giveJoin 312 = .ok (.iinc 5 1, 3) := by decide +kernel
theorem dX8_giveJoin_315 : decode cX8_giveJoin 315 = .ok (.goto (-290), 3) := by decide +kernel
theorem dX8_giveJoin_318 : decode cX8_giveJoin 318 = .ok (.return_, 1) := by decide +kernel
theorem dX8_groupOf_0 : decode cX8_groupOf 0 = .ok (.aload_n 0, 1) := by decide +kernel
theorem dX8_groupOf_1 : decode cX8_groupOf 1 = .ok (.getfield 31, 3) := by decide +kernel
theorem dX8_groupOf_4 : decode cX8_groupOf 4 = .ok (.iload_n 1, 1) := by decide +kernel
theorem dX8_groupOf_5 : decode cX8_groupOf 5 = .ok (.iaload, 1) := by decide +kernel
theorem dX8_groupOf_6 : decode cX8_groupOf 6 = .ok (.istore_n 3, 1) := by decide +kernel
theorem dX8_groupOf_7 : decode cX8_groupOf 7 = .ok (.aload_n 0, 1) := by decide +kernel
theorem dX8_groupOf_8 : decode cX8_groupOf 8 = .ok (.aload_n 0, 1) := by decide +kernel
theorem dX8_groupOf_9 : decode cX8_groupOf 9 = .ok (.getfield 22, 3) := by decide +kernel
theorem dX8_groupOf_12 : decode cX8_groupOf 12 = .ok (.iload_n 1, 1) := by decide +kernel
theorem dX8_groupOf_13 : decode cX8_groupOf 13 = .ok (.iaload, 1) := by decide +kernel
theorem dX8_groupOf_14 : decode cX8_groupOf 14 = .ok (.iload_n 2, 1) := by decide +kernel
theorem dX8_groupOf_15 : decode cX8_groupOf 15 = .ok (.aload_n 0, 1) := by decide +kernel
theorem dX8_groupOf_16 : decode cX8_groupOf 16 = .ok (.getfield 28, 3) := by decide +kernel
theorem dX8_groupOf_19 : decode cX8_groupOf 19 = .ok (.iload_n 1, 1) := by decide +kernel
theorem dX8_groupOf_20 : decode cX8_groupOf 20 = .ok (.iaload, 1) := by decide +kernel
theorem dX8_groupOf_21 : decode cX8_groupOf 21 = .ok (.invokevirtual 144, 3) := by decide +kernel
theorem dX8_groupOf_24 : decode cX8_groupOf 24 = .ok (.istore 4, 2) := by decide +kernel
theorem dX8_groupOf_26 : decode cX8_groupOf 26 = .ok (.iconst 0, 1) := by decide +kernel
theorem dX8_groupOf_27 : decode cX8_groupOf 27 = .ok (.istore 5, 2) := by decide +kernel
theorem dX8_groupOf_29 : decode cX8_groupOf 29 = .ok (.iconst 0, 1) := by decide +kernel
theorem dX8_groupOf_30 : decode cX8_groupOf 30 = .ok (.istore 6, 2) := by decide +kernel
theorem dX8_groupOf_32 : decode cX8_groupOf 32 = .ok (.iconst 0, 1) := by decide +kernel
theorem dX8_groupOf_33 : decode cX8_groupOf 33 = .ok (.istore 7, 2) := by decide +kernel
theorem dX8_groupOf_35 : decode cX8_groupOf 35 = .ok (.sipush (-1000), 3) := by decide +kernel
theorem dX8_groupOf_38 : decode cX8_groupOf 38 = .ok (.istore 8, 2) := by decide +kernel
theorem dX8_groupOf_40 : decode cX8_groupOf 40 = .ok (.sipush (-1000), 3) := by decide +kernel
theorem dX8_groupOf_43 : decode cX8_groupOf 43 = .ok (.istore 9, 2) := by decide +kernel
theorem dX8_groupOf_45 : decode cX8_groupOf 45 = .ok (.iload_n 2, 1) := by decide +kernel
theorem dX8_groupOf_46 : decode cX8_groupOf 46 = .ok (.istore 10, 2) := by decide +kernel
theorem dX8_groupOf_48 : decode cX8_groupOf 48 = .ok (.iload 10, 2) := by decide +kernel
theorem dX8_groupOf_50 : decode cX8_groupOf 50 = .ok (.aload_n 0, 1) := by decide +kernel
theorem dX8_groupOf_51 : decode cX8_groupOf 51 = .ok (.getfield 51, 3) := by decide +kernel
theorem dX8_groupOf_54 : decode cX8_groupOf 54 = .ok (.aload_n 0, 1) := by decide +kernel
theorem dX8_groupOf_55 : decode cX8_groupOf 55 = .ok (.getfield 22, 3) := by decide +kernel
theorem dX8_groupOf_58 : decode cX8_groupOf 58 = .ok (.iload_n 1, 1) := by decide +kernel
theorem dX8_groupOf_59 : decode cX8_groupOf 59 = .ok (.iaload, 1) := by decide +kernel
theorem dX8_groupOf_60 : decode cX8_groupOf 60 = .ok (.iaload, 1) := by decide +kernel
theorem dX8_groupOf_61 : decode cX8_groupOf 61 = .ok (.if_icmp .ge 159, 3) := by decide +kernel
theorem dX8_groupOf_64 : decode cX8_groupOf 64 = .ok (.aload_n 0, 1) := by decide +kernel
theorem dX8_groupOf_65 : decode cX8_groupOf 65 = .ok (.aload_n 0, 1) := by decide +kernel
theorem dX8_groupOf_66 : decode cX8_groupOf 66 = .ok (.getfield 22, 3) := by decide +kernel
theorem dX8_groupOf_69 : decode cX8_groupOf 69 = .ok (.iload_n 1, 1) := by decide +kernel
theorem dX8_groupOf_70 : decode cX8_groupOf 70 = .ok (.iaload, 1) := by decide +kernel
theorem dX8_groupOf_71 : decode cX8_groupOf 71 = .ok (.iload 10, 2) := by decide +kernel
theorem dX8_groupOf_73 : decode cX8_groupOf 73 = .ok (.aload_n 0, 1) := by decide +kernel
theorem dX8_groupOf_74 : decode cX8_groupOf 74 = .ok (.getfield 28, 3) := by decide +kernel
theorem dX8_groupOf_77 : decode cX8_groupOf 77 = .ok (.iload_n 1, 1) := by decide +kernel
theorem dX8_groupOf_78 : decode cX8_groupOf 78 = .ok (.iaload, 1) := by decide +kernel
theorem dX8_groupOf_79 : decode cX8_groupOf 79 = .ok (.invokevirtual 144, 3) := by decide +kernel
theorem dX8_groupOf_82 : decode cX8_groupOf 82 = .ok (.iload 4, 2) := by decide +kernel
theorem dX8_groupOf_84 : decode cX8_groupOf 84 = .ok (.if_icmp .ne 130, 3) := by decide +kernel
theorem dX8_groupOf_87 : decode cX8_groupOf 87 = .ok (.aload_n 0, 1) := by decide +kernel
theorem dX8_groupOf_88 : decode cX8_groupOf 88 = .ok (.aload_n 0, 1) := by decide +kernel
theorem dX8_groupOf_89 : decode cX8_groupOf 89 = .ok (.getfield 22, 3) := by decide +kernel
theorem dX8_groupOf_92 : decode cX8_groupOf 92 = .ok (.iload_n 1, 1) := by decide +kernel
theorem dX8_groupOf_93 : decode cX8_groupOf 93 = .ok (.iaload, 1) := by decide +kernel
theorem dX8_groupOf_94 : decode cX8_groupOf 94 = .ok (.iload 10, 2) := by decide +kernel
theorem dX8_groupOf_96 : decode cX8_groupOf 96 = .ok (.aload_n 0, 1) := by decide +kernel
theorem dX8_groupOf_97 : decode cX8_groupOf 97 = .ok (.getfield 34, 3) := by decide +kernel
theorem dX8_groupOf_100 : decode cX8_groupOf 100 = .ok (.iload_n 1, 1) := by decide +kernel
theorem dX8_groupOf_101 : decode cX8_groupOf 101 = .ok (.iaload, 1) := by decide +kernel
theorem dX8_groupOf_102 : decode cX8_groupOf 102 = .ok (.invokevirtual 144, 3) := by decide +kernel
theorem dX8_groupOf_105 : decode cX8_groupOf 105 = .ok (.istore 11, 2) := by decide +kernel
theorem dX8_groupOf_107 : decode cX8_groupOf 107 = .ok (.iload 11, 2) := by decide +kernel
theorem dX8_groupOf_109 : decode cX8_groupOf 109 = .ok (.sipush (-1000), 3) := by decide +kernel
theorem dX8_groupOf_112 : decode cX8_groupOf 112 = .ok (.if_icmp .eq 7, 3) := by decide +kernel
theorem dX8_groupOf_115 : decode cX8_groupOf 115 = .ok (.iconst 1, 1) := by decide +kernel
theorem dX8_groupOf_116 : decode cX8_groupOf 116 = .ok (.goto 4, 3) := by decide +kernel
theorem dX8_groupOf_119 : decode cX8_groupOf 119 = .ok (.iconst 0, 1) := by decide +kernel
theorem dX8_groupOf_120 : decode cX8_groupOf 120 = .ok (.istore 12, 2) := by decide +kernel
theorem dX8_groupOf_122 : decode cX8_groupOf 122 = .ok (.iinc 5 1, 3) := by decide +kernel
theorem dX8_groupOf_125 : decode cX8_groupOf 125 = .ok (.iload 6, 2) := by decide +kernel
theorem dX8_groupOf_127 : decode cX8_groupOf 127 = .ok (.iload 12, 2) := by decide +kernel
theorem dX8_groupOf_129 : decode cX8_groupOf 129 = .ok (.ifCond .eq 7, 3) := by decide +kernel
theorem dX8_groupOf_132 : decode cX8_groupOf 132 = .ok (.iconst 1, 1) := by decide +kernel
theorem dX8_groupOf_133 : decode cX8_groupOf 133 = .ok (.goto 4, 3) := by decide +kernel
theorem dX8_groupOf_136 : decode cX8_groupOf 136 = .ok (.iconst 0, 1) := by decide +kernel
theorem dX8_groupOf_137 : decode cX8_groupOf 137 = .ok (.iadd, 1) := by decide +kernel
theorem dX8_groupOf_138 : decode cX8_groupOf 138 = .ok (.istore 6, 2) := by decide +kernel
theorem dX8_groupOf_140 : decode cX8_groupOf 140 = .ok (.iload 7, 2) := by decide +kernel
theorem dX8_groupOf_142 : decode cX8_groupOf 142 = .ok (.iload 12, 2) := by decide +kernel
theorem dX8_groupOf_144 : decode cX8_groupOf 144 = .ok (.ifCond .eq 8, 3) := by decide +kernel
theorem dX8_groupOf_147 : decode cX8_groupOf 147 = .ok (.iload 11, 2) := by decide +kernel
theorem dX8_groupOf_149 : decode cX8_groupOf 149 = .ok (.goto 4, 3) := by decide +kernel
theorem dX8_groupOf_152 : decode cX8_groupOf 152 = .ok (.iconst 0, 1) := by decide +kernel
theorem dX8_groupOf_153 : decode cX8_groupOf 153 = .ok (.iadd, 1) := by decide +kernel
theorem dX8_groupOf_154 : decode cX8_groupOf 154 = .ok (.istore 7, 2) := by decide +kernel
theorem dX8_groupOf_156 : decode cX8_groupOf 156 = .ok (.iload 12, 2) := by decide +kernel
theorem dX8_groupOf_158 : decode cX8_groupOf 158 = .ok (.ifCond .eq 23, 3) := by decide +kernel
theorem dX8_groupOf_161 : decode cX8_groupOf 161 = .ok (.iload 8, 2) := by decide +kernel
theorem dX8_groupOf_163 : decode cX8_groupOf 163 = .ok (.sipush (-1000), 3) := by decide +kernel
theorem dX8_groupOf_166 : decode cX8_groupOf 166 = .ok (.if_icmp .eq 10, 3) := by decide +kernel
theorem dX8_groupOf_169 : decode cX8_groupOf 169 = .ok (.iload 11, 2) := by decide +kernel
theorem dX8_groupOf_171 : decode cX8_groupOf 171 = .ok (.iload 8, 2) := by decide +kernel
theorem dX8_groupOf_173 : decode cX8_groupOf 173 = .ok (.if_icmp .ge 8, 3) := by decide +kernel
theorem dX8_groupOf_176 : decode cX8_groupOf 176 = .ok (.iload 11, 2) := by decide +kernel
theorem dX8_groupOf_178 : decode cX8_groupOf 178 = .ok (.goto 5, 3) := by decide +kernel
theorem dX8_groupOf_181 : decode cX8_groupOf 181 = .ok (.iload 8, 2) := by decide +kernel
theorem dX8_groupOf_183 : decode cX8_groupOf 183 = .ok (.istore 8, 2) := by decide +kernel
theorem dX8_groupOf_185 : decode cX8_groupOf 185 = .ok (.iload 12, 2) := by decide +kernel
theorem dX8_groupOf_187 : decode cX8_groupOf 187 = .ok (.ifCond .eq 23, 3) := by decide +kernel
theorem dX8_groupOf_190 : decode cX8_groupOf 190 = .ok (.iload 9, 2) := by decide +kernel
theorem dX8_groupOf_192 : decode cX8_groupOf 192 = .ok (.sipush (-1000), 3) := by decide +kernel
theorem dX8_groupOf_195 : decode cX8_groupOf 195 = .ok (.if_icmp .eq 10, 3) := by decide +kernel
theorem dX8_groupOf_198 : decode cX8_groupOf 198 = .ok (.iload 11, 2) := by decide +kernel
theorem dX8_groupOf_200 : decode cX8_groupOf 200 = .ok (.iload 9, 2) := by decide +kernel
theorem dX8_groupOf_202 : decode cX8_groupOf 202 = .ok (.if_icmp .le 8, 3) := by decide +kernel
theorem dX8_groupOf_205 : decode cX8_groupOf 205 = .ok (.iload 11, 2) := by decide +kernel
theorem dX8_groupOf_207 : decode cX8_groupOf 207 = .ok (.goto 5, 3) := by decide +kernel
theorem dX8_groupOf_210 : decode cX8_groupOf 210 = .ok (.iload 9, 2) := by decide +kernel
theorem dX8_groupOf_212 : decode cX8_groupOf 212 = .ok (.istore 9, 2) := by decide +kernel
theorem dX8_groupOf_214 : decode cX8_groupOf 214 = .ok (.iinc 10 1, 3) := by decide +kernel
theorem dX8_groupOf_217 : decode cX8_groupOf 217 = .ok (.goto (-169), 3) := by decide +kernel
theorem dX8_groupOf_220 : decode cX8_groupOf 220 = .ok (.iload 7, 2) := by decide +kernel
theorem dX8_groupOf_222 : decode cX8_groupOf 222 = .ok (.bipush (-99), 2) := by decide +kernel
theorem dX8_groupOf_224 : decode cX8_groupOf 224 = .ok (.if_icmp .ge 8, 3) := by decide +kernel
theorem dX8_groupOf_227 : decode cX8_groupOf 227 = .ok (.bipush (-99), 2) := by decide +kernel
theorem dX8_groupOf_229 : decode cX8_groupOf 229 = .ok (.goto 17, 3) := by decide +kernel
theorem dX8_groupOf_232 : decode cX8_groupOf 232 = .ok (.iload 7, 2) := by decide +kernel
theorem dX8_groupOf_234 : decode cX8_groupOf 234 = .ok (.bipush 99, 2) := by decide +kernel
theorem dX8_groupOf_236 : decode cX8_groupOf 236 = .ok (.if_icmp .le 8, 3) := by decide +kernel
theorem dX8_groupOf_239 : decode cX8_groupOf 239 = .ok (.bipush 99, 2) := by decide +kernel
theorem dX8_groupOf_241 : decode cX8_groupOf 241 = .ok (.goto 5, 3) := by decide +kernel
theorem dX8_groupOf_244 : decode cX8_groupOf 244 = .ok (.iload 7, 2) := by decide +kernel
theorem dX8_groupOf_246 : decode cX8_groupOf 246 = .ok (.istore 10, 2) := by decide +kernel
theorem dX8_groupOf_248 : decode cX8_groupOf 248 = .ok (.iload_n 3, 1) := by decide +kernel
theorem dX8_groupOf_249 : decode cX8_groupOf 249 = .ok (.ifCond .ne 8, 3) := by decide +kernel
theorem dX8_groupOf_252 : decode cX8_groupOf 252 = .ok (.iload 5, 2) := by decide +kernel
theorem dX8_groupOf_254 : decode cX8_groupOf 254 = .ok (.goto 46, 3) := by decide +kernel
theorem dX8_groupOf_257 : decode cX8_groupOf 257 = .ok (.iload_n 3, 1) := by decide +kernel
theorem dX8_groupOf_258 : decode cX8_groupOf 258 = .ok (.iconst 1, 1) := by decide +kernel
theorem dX8_groupOf_259 : decode cX8_groupOf 259 = .ok (.if_icmp .ne 8, 3) := by decide +kernel
theorem dX8_groupOf_262 : decode cX8_groupOf 262 = .ok (.iload 6, 2) := by decide +kernel
theorem dX8_groupOf_264 : decode cX8_groupOf 264 = .ok (.goto 36, 3) := by decide +kernel
theorem dX8_groupOf_267 : decode cX8_groupOf 267 = .ok (.iload 6, 2) := by decide +kernel
theorem dX8_groupOf_269 : decode cX8_groupOf 269 = .ok (.ifCond .ne 9, 3) := by decide +kernel
theorem dX8_groupOf_272 : decode cX8_groupOf 272 = .ok (.sipush (-1000), 3) := by decide +kernel
theorem dX8_groupOf_275 : decode cX8_groupOf 275 = .ok (.goto 25, 3) := by decide +kernel
theorem dX8_groupOf_278 : decode cX8_groupOf 278 = .ok (.iload_n 3, 1) := by decide +kernel
theorem dX8_groupOf_279 : decode cX8_groupOf 279 = .ok (.iconst 2, 1) := by decide +kernel
theorem dX8_groupOf_280 : decode cX8_groupOf 280 = .ok (.if_icmp .ne 8, 3) := by decide +kernel
theorem dX8_groupOf_283 : decode cX8_groupOf 283 = .ok (.iload 10, 2) := by decide +kernel
theorem dX8_groupOf_285 : decode cX8_groupOf 285 = .ok (.goto 15, 3) := by decide +kernel
theorem dX8_groupOf_288 : decode cX8_groupOf 288 = .ok (.iload_n 3, 1) := by decide +kernel
theorem dX8_groupOf_289 : decode cX8_groupOf 289 = .ok (.iconst 3, 1) := by decide +kernel
theorem dX8_groupOf_290 : decode cX8_groupOf 290 = .ok (.if_icmp .ne 8, 3) := by decide +kernel
theorem dX8_groupOf_293 : decode cX8_groupOf 293 = .ok (.iload 8, 2) := by decide +kernel
theorem dX8_groupOf_295 : decode cX8_groupOf 295 = .ok (.goto 5, 3) := by decide +kernel
theorem dX8_groupOf_298 : decode cX8_groupOf 298 = .ok (.iload 9, 2) := by decide +kernel
theorem dX8_groupOf_300 : decode cX8_groupOf 300 = .ok (.ireturn, 1) := by decide +kernel
theorem dX8_giveGroup_0 : decode cX8_giveGroup 0 = .ok (.iconst 0, 1) := by decide +kernel
theorem dX8_giveGroup_1 : decode cX8_giveGroup 1 = .ok (.istore_n 2, 1) := by decide +kernel
theorem dX8_giveGroup_2 : decode cX8_giveGroup 2 = .ok (.iload_n 2, 1) := by decide +kernel
theorem dX8_giveGroup_3 : decode cX8_giveGroup 3 = .ok (.aload_n 0, 1) := by decide +kernel
theorem dX8_giveGroup_4 : decode cX8_giveGroup 4 = .ok (.getfield 51, 3) := by decide +kernel
theorem dX8_giveGroup_7 : decode cX8_giveGroup 7 = .ok (.aload_n 0, 1) := by decide +kernel
theorem dX8_giveGroup_8 : decode cX8_giveGroup 8 = .ok (.getfield 22, 3) := by decide +kernel
theorem dX8_giveGroup_11 : decode cX8_giveGroup 11 = .ok (.iload_n 1, 1) := by decide +kernel
theorem dX8_giveGroup_12 : decode cX8_giveGroup 12 = .ok (.iaload, 1) := by decide +kernel
theorem dX8_giveGroup_13 : decode cX8_giveGroup 13 = .ok (.iaload, 1) := by decide +kernel
theorem dX8_giveGroup_14 : decode cX8_giveGroup 14 = .ok (.if_icmp .ge 118, 3) := by decide +kernel
theorem dX8_giveGroup_17 : decode cX8_giveGroup 17 = .ok (.iconst 1, 1) := by decide +kernel
theorem dX8_giveGroup_18 : decode cX8_giveGroup 18 = .ok (.istore_n 3, 1) := by decide +kernel
theorem dX8_giveGroup_19 : decode cX8_giveGroup 19 = .ok (.iconst 0, 1) := by decide +kernel
theorem dX8_giveGroup_20 : decode cX8_giveGroup 20 = .ok (.istore 4, 2) := by decide +kernel
theorem dX8_giveGroup_22 : decode cX8_giveGroup 22 = .ok (.iload 4, 2) := by decide +kernel
theorem dX8_giveGroup_24 : decode cX8_giveGroup 24 = .ok (.aload_n 0, 1) := by decide +kernel
theorem dX8_giveGroup_25 : decode cX8_giveGroup 25 = .ok (.getfield 51, 3) := by decide +kernel
theorem dX8_giveGroup_28 : decode cX8_giveGroup 28 = .ok (.iload_n 1, 1) := by decide +kernel
theorem dX8_giveGroup_29 : decode cX8_giveGroup 29 = .ok (.iaload, 1) := by decide +kernel
theorem dX8_giveGroup_30 : decode cX8_giveGroup 30 = .ok (.if_icmp .ge 47, 3) := by decide +kernel
theorem dX8_giveGroup_33 : decode cX8_giveGroup 33 = .ok (.iload_n 3, 1) := by decide +kernel
theorem dX8_giveGroup_34 : decode cX8_giveGroup 34 = .ok (.ifCond .eq 35, 3) := by decide +kernel
theorem dX8_giveGroup_37 : decode cX8_giveGroup 37 = .ok (.aload_n 0, 1) := by decide +kernel
theorem dX8_giveGroup_38 : decode cX8_giveGroup 38 = .ok (.iload_n 1, 1) := by decide +kernel
theorem dX8_giveGroup_39 : decode cX8_giveGroup 39 = .ok (.iload 4, 2) := by decide +kernel
theorem dX8_giveGroup_41 : decode cX8_giveGroup 41 = .ok (.iconst 0, 1) := by decide +kernel
theorem dX8_giveGroup_42 : decode cX8_giveGroup 42 = .ok (.invokevirtual 144, 3) := by decide +kernel
theorem dX8_giveGroup_45 : decode cX8_giveGroup 45 = .ok (.aload_n 0, 1) := by decide +kernel
theorem dX8_giveGroup_46 : decode cX8_giveGroup 46 = .ok (.aload_n 0, 1) := by decide +kernel
theorem dX8_giveGroup_47 : decode cX8_giveGroup 47 = .ok (.getfield 22, 3) := by decide +kernel
theorem dX8_giveGroup_50 : decode cX8_giveGroup 50 = .ok (.iload_n 1, 1) := by decide +kernel
theorem dX8_giveGroup_51 : decode cX8_giveGroup 51 = .ok (.iaload, 1) := by decide +kernel
theorem dX8_giveGroup_52 : decode cX8_giveGroup 52 = .ok (.iload_n 2, 1) := by decide +kernel
theorem dX8_giveGroup_53 : decode cX8_giveGroup 53 = .ok (.aload_n 0, 1) := by decide +kernel
theorem dX8_giveGroup_54 : decode cX8_giveGroup 54 = .ok (.getfield 28, 3) := by decide +kernel
theorem dX8_giveGroup_57 : decode cX8_giveGroup 57 = .ok (.iload_n 1, 1) := by decide +kernel
theorem dX8_giveGroup_58 : decode cX8_giveGroup 58 = .ok (.iaload, 1) := by decide +kernel
theorem dX8_giveGroup_59 : decode cX8_giveGroup 59 = .ok (.invokevirtual 144, 3) := by decide +kernel
theorem dX8_giveGroup_62 : decode cX8_giveGroup 62 = .ok (.if_icmp .eq 7, 3) := by decide +kernel
theorem dX8_giveGroup_65 : decode cX8_giveGroup 65 = .ok (.iconst 1, 1) := by decide +kernel
theorem dX8_giveGroup_66 : decode cX8_giveGroup 66 = .ok (.goto 4, 3) := by decide +kernel
theorem dX8_giveGroup_69 : decode cX8_giveGroup 69 = .ok (.iconst 0, 1) := by decide +kernel
theorem dX8_giveGroup_70 : decode cX8_giveGroup 70 = .ok (.istore_n 3, 1) := by decide +kernel
theorem dX8_giveGroup_71 : decode cX8_giveGroup 71 = .ok (.iinc 4 1, 3) := by decide +kernel
theorem dX8_giveGroup_74 : decode cX8_giveGroup 74 = .ok (.goto (-52), 3) := by decide +kernel
theorem dX8_giveGroup_77 : decode cX8_giveGroup 77 = .ok (.iload_n 3, 1) := by decide +kernel
theorem dX8_giveGroup_78 : decode cX8_giveGroup 78 = .ok (.ifCond .eq 48, 3) := by decide +kernel
theorem dX8_giveGroup_81 : decode cX8_giveGroup 81 = .ok (.aload_n 0, 1) := by decide +kernel
theorem dX8_giveGroup_82 : decode cX8_giveGroup 82 = .ok (.iload_n 1, 1) := by decide +kernel
theorem dX8_giveGroup_83 : decode cX8_giveGroup 83 = .ok (.iconst 0, 1) := by decide +kernel
theorem dX8_giveGroup_84 : decode cX8_giveGroup 84 = .ok (.aload_n 0, 1) := by decide +kernel
theorem dX8_giveGroup_85 : decode cX8_giveGroup 85 = .ok (.aload_n 0, 1) := by decide +kernel
theorem dX8_giveGroup_86 : decode cX8_giveGroup 86 = .ok (.getfield 22, 3) := by decide +kernel
theorem dX8_giveGroup_89 : decode cX8_giveGroup 89 = .ok (.iload_n 1, 1) := by decide +kernel
theorem dX8_giveGroup_90 : decode cX8_giveGroup 90 = .ok (.iaload, 1) := by decide +kernel
theorem dX8_giveGroup_91 : decode cX8_giveGroup 91 = .ok (.iload_n 2, 1) := by decide +kernel
theorem dX8_giveGroup_92 : decode cX8_giveGroup 92 = .ok (.aload_n 0, 1) := by decide +kernel
theorem dX8_giveGroup_93 : decode cX8_giveGroup 93 = .ok (.getfield 28, 3) := by decide +kernel
theorem dX8_giveGroup_96 : decode cX8_giveGroup 96 = .ok (.iload_n 1, 1) := by decide +kernel
theorem dX8_giveGroup_97 : decode cX8_giveGroup 97 = .ok (.iaload, 1) := by decide +kernel
theorem dX8_giveGroup_98 : decode cX8_giveGroup 98 = .ok (.invokevirtual 144, 3) := by decide +kernel
theorem dX8_giveGroup_101 : decode cX8_giveGroup 101 = .ok (.invokevirtual 148, 3) := by decide +kernel
theorem dX8_giveGroup_104 : decode cX8_giveGroup 104 = .ok (.aload_n 0, 1) := by decide +kernel
theorem dX8_giveGroup_105 : decode cX8_giveGroup 105 = .ok (.iload_n 1, 1) := by decide +kernel
theorem dX8_giveGroup_106 : decode cX8_giveGroup 106 = .ok (.iconst 1, 1) := by decide +kernel
theorem dX8_giveGroup_107 : decode cX8_giveGroup 107 = .ok (.aload_n 0, 1) := by decide +kernel
theorem dX8_giveGroup_108 : decode cX8_giveGroup 108 = .ok (.iload_n 1, 1) := by decide +kernel
theorem dX8_giveGroup_109 : decode cX8_giveGroup 109 = .ok (.iload_n 2, 1) := by decide +kernel
theorem dX8_giveGroup_110 : decode cX8_giveGroup 110 = .ok (.invokevirtual 162, 3) := by decide +kernel
theorem dX8_giveGroup_113 : decode cX8_giveGroup 113 = .ok (.invokevirtual 148, 3) := by decide +kernel
theorem dX8_giveGroup_116 : decode cX8_giveGroup 116 = .ok (.aload_n 0, 1) := by decide +kernel
theorem dX8_giveGroup_117 : decode cX8_giveGroup 117 = .ok (.getfield 51, 3) := by decide +kernel
theorem dX8_giveGroup_120 : decode cX8_giveGroup 120 = .ok (.iload_n 1, 1) := by decide +kernel
theorem dX8_giveGroup_121 : decode cX8_giveGroup 121 = .ok (.dup2, 1) := by decide +kernel
theorem dX8_giveGroup_122 : decode cX8_giveGroup 122 = .ok (.iaload, 1) := by decide +kernel
theorem dX8_giveGroup_123 : decode cX8_giveGroup 123 = .ok (.iconst 1, 1) := by decide +kernel
theorem dX8_giveGroup_124 : decode cX8_giveGroup 124 = .ok (.iadd, 1) := by decide +kernel
theorem dX8_giveGroup_125 : decode cX8_giveGroup 125 = .ok (.iastore, 1) := by decide +kernel
theorem dX8_giveGroup_126 : decode cX8_giveGroup 126 = .ok (.iinc 2 1, 3) := by decide +kernel
theorem dX8_giveGroup_129 : decode cX8_giveGroup 129 = .ok (.goto (-127), 3) := by decide +kernel
theorem dX8_giveGroup_132 : decode cX8_giveGroup 132 = .ok (.return_, 1) := by decide +kernel
theorem dX8_areSame_0 : decode cX8_areSame 0 = .ok (.iconst 1, 1) := by decide +kernel
theorem dX8_areSame_1 : decode cX8_areSame 1 = .ok (.istore 5, 2) := by decide +kernel
theorem dX8_areSame_3 : decode cX8_areSame 3 = .ok (.iconst 0, 1) := by decide +kernel
theorem dX8_areSame_4 : decode cX8_areSame 4 = .ok (.istore 6, 2) := by decide +kernel
theorem dX8_areSame_6 : decode cX8_areSame 6 = .ok (.iload 6, 2) := by decide +kernel
theorem dX8_areSame_8 : decode cX8_areSame 8 = .ok (.aload_n 0, 1) := by decide +kernel
theorem dX8_areSame_9 : decode cX8_areSame 9 = .ok (.getfield 37, 3) := by decide +kernel
theorem dX8_areSame_12 : decode cX8_areSame 12 = .ok (.iload_n 1, 1) := by decide +kernel
theorem dX8_areSame_13 : decode cX8_areSame 13 = .ok (.iaload, 1) := by decide +kernel
theorem dX8_areSame_14 : decode cX8_areSame 14 = .ok (.if_icmp .ge 41, 3) := by decide +kernel
theorem dX8_areSame_17 : decode cX8_areSame 17 = .ok (.iload 5, 2) := by decide +kernel
theorem dX8_areSame_19 : decode cX8_areSame 19 = .ok (.ifCond .eq 27, 3) := by decide +kernel
theorem dX8_areSame_22 : decode cX8_areSame 22 = .ok (.aload_n 0, 1) := by decide +kernel
theorem dX8_areSame_23 : decode cX8_areSame 23 = .ok (.iload_n 1, 1) := by decide +kernel
theorem dX8_areSame_24 : decode cX8_areSame 24 = .ok (.iload_n 2, 1) := by decide +kernel
theorem dX8_areSame_25 : decode cX8_areSame 25 = .ok (.iload 6, 2) := by decide +kernel
theorem dX8_areSame_27 : decode cX8_areSame 27 = .ok (.invokevirtual 144, 3) := by decide +kernel
theorem dX8_areSame_30 : decode cX8_areSame 30 = .ok (.aload_n 0, 1) := by decide +kernel
theorem dX8_areSame_31 : decode cX8_areSame 31 = .ok (.iload_n 3, 1) := by decide +kernel
theorem dX8_areSame_32 : decode cX8_areSame 32 = .ok (.iload 4, 2) := by decide +kernel
theorem dX8_areSame_34 : decode cX8_areSame 34 = .ok (.iload 6, 2) := by decide +kernel
theorem dX8_areSame_36 : decode cX8_areSame 36 = .ok (.invokevirtual 144, 3) := by decide +kernel
theorem dX8_areSame_39 : decode cX8_areSame 39 = .ok (.if_icmp .ne 7, 3) := by decide +kernel
theorem dX8_areSame_42 : decode cX8_areSame 42 = .ok (.iconst 1, 1) := by decide +kernel
theorem dX8_areSame_43 : decode cX8_areSame 43 = .ok (.goto 4, 3) := by decide +kernel
theorem dX8_areSame_46 : decode cX8_areSame 46 = .ok (.iconst 0, 1) := by decide +kernel
theorem dX8_areSame_47 : decode cX8_areSame 47 = .ok (.istore 5, 2) := by decide +kernel
theorem dX8_areSame_49 : decode cX8_areSame 49 = .ok (.iinc 6 1, 3) := by decide +kernel
theorem dX8_areSame_52 : decode cX8_areSame 52 = .ok (.goto (-46), 3) := by decide +kernel
theorem dX8_areSame_55 : decode cX8_areSame 55 = .ok (.iload 5, 2) := by decide +kernel
theorem dX8_areSame_57 : decode cX8_areSame 57 = .ok (.ireturn, 1) := by decide +kernel
theorem dX8_takeAway_0 : decode cX8_takeAway 0 = .ok (.aload_n 0, 1) := by decide +kernel
theorem dX8_takeAway_1 : decode cX8_takeAway 1 = .ok (.getfield 65, 3) := by decide +kernel
theorem dX8_takeAway_4 : decode cX8_takeAway 4 = .ok (.iconst 0, 1) := by decide +kernel
theorem dX8_takeAway_5 : decode cX8_takeAway 5 = .ok (.invokestatic 166, 3) := by decide +kernel
theorem dX8_takeAway_8 : decode cX8_takeAway 8 = .ok (.iconst 0, 1) := by decide +kernel
theorem dX8_takeAway_9 : decode cX8_takeAway 9 = .ok (.istore_n 3, 1) := by decide +kernel
theorem dX8_takeAway_10 : decode cX8_takeAway 10 = .ok (.iload_n 3, 1) := by decide +kernel
theorem dX8_takeAway_11 : decode cX8_takeAway 11 = .ok (.aload_n 0, 1) := by decide +kernel
theorem dX8_takeAway_12 : decode cX8_takeAway 12 = .ok (.getfield 51, 3) := by decide +kernel
theorem dX8_takeAway_15 : decode cX8_takeAway 15 = .ok (.iload_n 2, 1) := by decide +kernel
theorem dX8_takeAway_16 : decode cX8_takeAway 16 = .ok (.iaload, 1) := by decide +kernel
theorem dX8_takeAway_17 : decode cX8_takeAway 17 = .ok (.if_icmp .ge 84, 3) := by decide +kernel
theorem dX8_takeAway_20 : decode cX8_takeAway 20 = .ok (.iconst 0, 1) := by decide +kernel
theorem dX8_takeAway_21 : decode cX8_takeAway 21 = .ok (.istore 4, 2) := by decide +kernel
theorem dX8_takeAway_23 : decode cX8_takeAway 23 = .ok (.iload 4, 2) := by decide +kernel
theorem dX8_takeAway_25 : decode cX8_takeAway 25 = .ok (.aload_n 0, 1) := by decide +kernel
theorem dX8_takeAway_26 : decode cX8_takeAway 26 = .ok (.getfield 51, 3) := by decide +kernel
theorem dX8_takeAway_29 : decode cX8_takeAway 29 = .ok (.iload_n 1, 1) := by decide +kernel
theorem dX8_takeAway_30 : decode cX8_takeAway 30 = .ok (.iaload, 1) := by decide +kernel
theorem dX8_takeAway_31 : decode cX8_takeAway 31 = .ok (.if_icmp .ge 31, 3) := by decide +kernel
theorem dX8_takeAway_34 : decode cX8_takeAway 34 = .ok (.aload_n 0, 1) := by decide +kernel
theorem dX8_takeAway_35 : decode cX8_takeAway 35 = .ok (.getfield 65, 3) := by decide +kernel
theorem dX8_takeAway_38 : decode cX8_takeAway 38 = .ok (.iload 4, 2) := by decide +kernel
theorem dX8_takeAway_40 : decode cX8_takeAway 40 = .ok (.baload, 1) := by decide +kernel
theorem dX8_takeAway_41 : decode cX8_takeAway 41 = .ok (.ifCond .ne 15, 3) := by decide +kernel
theorem dX8_takeAway_44 : decode cX8_takeAway 44 = .ok (.aload_n 0, 1) := by decide +kernel
theorem dX8_takeAway_45 : decode cX8_takeAway 45 = .ok (.iload_n 1, 1) := by decide +kernel
theorem dX8_takeAway_46 : decode cX8_takeAway 46 = .ok (.iload 4, 2) := by decide +kernel
theorem dX8_takeAway_48 : decode cX8_takeAway 48 = .ok (.iload_n 2, 1) := by decide +kernel
theorem dX8_takeAway_49 : decode cX8_takeAway 49 = .ok (.iload_n 3, 1) := by decide +kernel
theorem dX8_takeAway_50 : decode cX8_takeAway 50 = .ok (.invokevirtual 172, 3) := by decide +kernel
theorem dX8_takeAway_53 : decode cX8_takeAway 53 = .ok (.ifCond .ne 9, 3) := by decide +kernel
theorem dX8_takeAway_56 : decode cX8_takeAway 56 = .ok (.iinc 4 1, 3) := by decide +kernel
theorem dX8_takeAway_59 : decode cX8_takeAway 59 = .ok (.goto (-36), 3) := by decide +kernel
theorem dX8_takeAway_62 : decode cX8_takeAway 62 = .ok (.aload_n 0, 1) := by decide +kernel
theorem dX8_takeAway_63 : decode cX8_takeAway 63 = .ok (.getfield 65, 3) := by decide +kernel
theorem dX8_takeAway_66 : decode cX8_takeAway 66 = .ok (.iload 4, 2) := by decide +kernel
theorem dX8_takeAway_68 : decode cX8_takeAway 68 = .ok (.aload_n 0, 1) := by decide +kernel
theorem dX8_takeAway_69 : decode cX8_takeAway 69 = .ok (.getfield 65, 3) := by decide +kernel
theorem dX8_takeAway_72 : decode cX8_takeAway 72 = .ok (.iload 4, 2) := by decide +kernel
theorem dX8_takeAway_74 : decode cX8_takeAway 74 = .ok (.baload, 1) := by decide +kernel
theorem dX8_takeAway_75 : decode cX8_takeAway 75 = .ok (.ifCond .ne 14, 3) := by decide +kernel
theorem dX8_takeAway_78 : decode cX8_takeAway 78 = .ok (.iload 4, 2) := by decide +kernel
theorem dX8_takeAway_80 : decode cX8_takeAway 80 = .ok (.aload_n 0, 1) := by decide +kernel
theorem dX8_takeAway_81 : decode cX8_takeAway 81 = .ok (.getfield 51, 3) := by decide +kernel
theorem dX8_takeAway_84 : decode cX8_takeAway 84 = .ok (.iload_n 1, 1) := by decide +kernel
theorem dX8_takeAway_85 : decode cX8_takeAway 85 = .ok (.iaload, 1) := by decide +kernel
theorem dX8_takeAway_86 : decode cX8_takeAway 86 = .ok (.if_icmp .ge 7, 3) := by decide +kernel
theorem dX8_takeAway_89 : decode cX8_takeAway 89 = .ok (.iconst 1, 1) := by decide +kernel
theorem dX8_takeAway_90 : decode cX8_takeAway 90 = .ok (.goto 4, 3) := by decide +kernel
theorem dX8_takeAway_93 : decode cX8_takeAway 93 = .ok (.iconst 0, 1) := by decide +kernel
theorem dX8_takeAway_94 : decode cX8_takeAway 94 = .ok (.bastore, 1) := by decide +kernel
theorem dX8_takeAway_95 : decode cX8_takeAway 95 = .ok (.iinc 3 1, 3) := by decide +kernel
theorem dX8_takeAway_98 : decode cX8_takeAway 98 = .ok (.goto (-88), 3) := by decide +kernel
theorem dX8_takeAway_101 : decode cX8_takeAway 101 = .ok (.return_, 1) := by decide +kernel
theorem dX8_markAgain_0 : decode cX8_markAgain 0 = .ok (.iconst 0, 1) := by decide +kernel
theorem dX8_markAgain_1 : decode cX8_markAgain 1 = .ok (.istore_n 3, 1) := by decide +kernel
theorem dX8_markAgain_2 : decode cX8_markAgain 2 = .ok (.iload_n 3, 1) := by decide +kernel
theorem dX8_markAgain_3 : decode cX8_markAgain 3 = .ok (.aload_n 0, 1) := by decide +kernel
theorem dX8_markAgain_4 : decode cX8_markAgain 4 = .ok (.getfield 51, 3) := by decide +kernel
theorem dX8_markAgain_7 : decode cX8_markAgain 7 = .ok (.iload_n 1, 1) := by decide +kernel
theorem dX8_markAgain_8 : decode cX8_markAgain 8 = .ok (.iaload, 1) := by decide +kernel
theorem dX8_markAgain_9 : decode cX8_markAgain 9 = .ok (.aload_n 0, 1) := by decide +kernel
theorem dX8_markAgain_10 : decode cX8_markAgain 10 = .ok (.getfield 51, 3) := by decide +kernel
theorem dX8_markAgain_13 : decode cX8_markAgain 13 = .ok (.iload_n 2, 1) := by decide +kernel
theorem dX8_markAgain_14 : decode cX8_markAgain 14 = .ok (.iaload, 1) := by decide +kernel
theorem dX8_markAgain_15 : decode cX8_markAgain 15 = .ok (.iadd, 1) := by decide +kernel
theorem dX8_markAgain_16 : decode cX8_markAgain 16 = .ok (.if_icmp .ge 144, 3) := by decide +kernel
theorem dX8_markAgain_19 : decode cX8_markAgain 19 = .ok (.iload_n 3, 1) := by decide +kernel
theorem dX8_markAgain_20 : decode cX8_markAgain 20 = .ok (.aload_n 0, 1) := by decide +kernel
theorem dX8_markAgain_21 : decode cX8_markAgain 21 = .ok (.getfield 51, 3) := by decide +kernel
theorem dX8_markAgain_24 : decode cX8_markAgain 24 = .ok (.iload_n 1, 1) := by decide +kernel
theorem dX8_markAgain_25 : decode cX8_markAgain 25 = .ok (.iaload, 1) := by decide +kernel
theorem dX8_markAgain_26 : decode cX8_markAgain 26 = .ok (.if_icmp .ge 7, 3) := by decide +kernel
theorem dX8_markAgain_29 : decode cX8_markAgain 29 = .ok (.iload_n 1, 1) := by decide +kernel
theorem dX8_markAgain_30 : decode cX8_markAgain 30 = .ok (.goto 4, 3) := by decide +kernel
theorem dX8_markAgain_33 : decode cX8_markAgain 33 = .ok (.iload_n 2, 1) := by decide +kernel
theorem dX8_markAgain_34 : decode cX8_markAgain 34 = .ok (.istore 4, 2) := by decide +kernel
theorem dX8_markAgain_36 : decode cX8_markAgain 36 = .ok (.iload_n 3, 1) := by decide +kernel
theorem dX8_markAgain_37 : decode cX8_markAgain 37 = .ok (.aload_n 0, 1) := by decide +kernel
theorem dX8_markAgain_38 : decode cX8_markAgain 38 = .ok (.getfield 51, 3) := by decide +kernel
theorem dX8_markAgain_41 : decode cX8_markAgain 41 = .ok (.iload_n 1, 1) := by decide +kernel
theorem dX8_markAgain_42 : decode cX8_markAgain 42 = .ok (.iaload, 1) := by decide +kernel
theorem dX8_markAgain_43 : decode cX8_markAgain 43 = .ok (.if_icmp .ge 7, 3) := by decide +kernel
theorem dX8_markAgain_46 : decode cX8_markAgain 46 = .ok (.iload_n 3, 1) := by decide +kernel
theorem dX8_markAgain_47 : decode cX8_markAgain 47 = .ok (.goto 11, 3) := by decide +kernel
theorem dX8_markAgain_50 : decode cX8_markAgain 50 = .ok (.iload_n 3, 1) := by decide +kernel
theorem dX8_markAgain_51 : decode cX8_markAgain 51 = .ok (.aload_n 0, 1) := by decide +kernel
theorem dX8_markAgain_52 : decode cX8_markAgain 52 = .ok (.getfield 51, 3) := by decide +kernel
theorem dX8_markAgain_55 : decode cX8_markAgain 55 = .ok (.iload_n 1, 1) := by decide +kernel
theorem dX8_markAgain_56 : decode cX8_markAgain 56 = .ok (.iaload, 1) := by decide +kernel
theorem dX8_markAgain_57 : decode cX8_markAgain 57 = .ok (.isub, 1) := by decide +kernel
theorem dX8_markAgain_58 : decode cX8_markAgain 58 = .ok (.istore 5, 2) := by decide +kernel
theorem dX8_markAgain_60 : decode cX8_markAgain 60 = .ok (.aload_n 0, 1) := by decide +kernel
theorem dX8_markAgain_61 : decode cX8_markAgain 61 = .ok (.getfield 65, 3) := by decide +kernel
theorem dX8_markAgain_64 : decode cX8_markAgain 64 = .ok (.iload_n 3, 1) := by decide +kernel
theorem dX8_markAgain_65 : decode cX8_markAgain 65 = .ok (.iconst 0, 1) := by decide +kernel
theorem dX8_markAgain_66 : decode cX8_markAgain 66 = .ok (.bastore, 1) := by decide +kernel
theorem dX8_markAgain_67 : decode cX8_markAgain 67 = .ok (.iconst 0, 1) := by decide +kernel
theorem dX8_markAgain_68 : decode cX8_markAgain 68 = .ok (.istore 6, 2) := by decide +kernel
theorem dX8_markAgain_70 : decode cX8_markAgain 70 = .ok (.iload 6, 2) := by decide +kernel
theorem dX8_markAgain_72 : decode cX8_markAgain 72 = .ok (.iload_n 3, 1) := by decide +kernel
theorem dX8_markAgain_73 : decode cX8_markAgain 73 = .ok (.if_icmp .ge 81, 3) := by decide +kernel
theorem dX8_markAgain_76 : decode cX8_markAgain 76 = .ok (.aload_n 0, 1) := by decide +kernel
theorem dX8_markAgain_77 : decode cX8_markAgain 77 = .ok (.getfield 65, 3) := by decide +kernel
theorem dX8_markAgain_80 : decode cX8_markAgain 80 = .ok (.iload_n 3, 1) := by decide +kernel
theorem dX8_markAgain_81 : decode cX8_markAgain 81 = .ok (.aload_n 0, 1) := by decide +kernel
theorem dX8_markAgain_82 : decode cX8_markAgain 82 = .ok (.getfield 65, 3) := by decide +kernel
theorem dX8_markAgain_85 : decode cX8_markAgain 85 = .ok (.iload_n 3, 1) := by decide +kernel
theorem dX8_markAgain_86 : decode cX8_markAgain 86 = .ok (.baload, 1) := by decide +kernel
theorem dX8_markAgain_87 : decode cX8_markAgain 87 = .ok (.ifCond .ne 55, 3) := by decide +kernel
theorem dX8_markAgain_90 : decode cX8_markAgain 90 = .ok (.aload_n 0, 1) := by decide +kernel
theorem dX8_markAgain_91 : decode cX8_markAgain 91 = .ok (.iload 6, 2) := by decide +kernel
theorem dX8_markAgain_93 : decode cX8_markAgain 93 = .ok (.aload_n 0, 1) := by decide +kernel
theorem dX8_markAgain_94 : decode cX8_markAgain 94 = .ok (.getfield 51, 3) := by decide +kernel
theorem dX8_markAgain_97 : decode cX8_markAgain 97 = .ok (.iload_n 1, 1) := by decide +kernel
theorem dX8_markAgain_98 : decode cX8_markAgain 98 = .ok (.iaload, 1) := by decide +kernel
theorem dX8_markAgain_99 : decode cX8_markAgain 99 = .ok (.if_icmp .ge 7, 3) := by decide +kernel
theorem dX8_markAgain_102 : decode cX8_markAgain 102 = .ok (.iload_n 1, 1) := by decide +kernel
theorem dX8_markAgain_103 : decode cX8_markAgain 103 = .ok (.goto 4, 3) := by decide +kernel
theorem dX8_markAgain_106 : decode cX8_markAgain 106 = .ok (.iload_n 2, 1) := by decide +kernel
theorem dX8_markAgain_107 : decode cX8_markAgain 107 = .ok (.iload 6, 2) := by decide +kernel
theorem dX8_markAgain_109 : decode cX8_markAgain 109 = .ok (.aload_n 0, 1) := by decide +kernel
theorem dX8_markAgain_110 : decode cX8_markAgain 110 = .ok (.getfield 51, 3) := by decide +kernel
theorem dX8_markAgain_113 : decode cX8_markAgain 113 = .ok (.iload_n 1, 1) := by decide +kernel
theorem dX8_markAgain_114 : decode cX8_markAgain 114 = .ok (.iaload, 1) := by decide +kernel
theorem dX8_markAgain_115 : decode cX8_markAgain 115 = .ok (.if_icmp .ge 8, 3) := by decide +kernel
theorem dX8_markAgain_118 : decode cX8_markAgain 118 = .ok (.iload 6, 2) := by decide +kernel
theorem dX8_markAgain_120 : decode cX8_markAgain 120 = .ok (.goto 12, 3) := by decide +kernel
theorem dX8_markAgain_123 : decode cX8_markAgain 123 = .ok (.iload 6, 2) := by decide +kernel
theorem dX8_markAgain_125 : decode cX8_markAgain 125 = .ok (.aload_n 0, 1) := by decide +kernel
theorem dX8_markAgain_126 : decode cX8_markAgain 126 = .ok (.getfield 51, 3) := by decide +kernel
theorem dX8_markAgain_129 : decode cX8_markAgain 129 = .ok (.iload_n 1, 1) := by decide +kernel
theorem dX8_markAgain_130 : decode cX8_markAgain 130 = .ok (.iaload, 1) := by decide +kernel
theorem dX8_markAgain_131 : decode cX8_markAgain 131 = .ok (.isub, 1) := by decide +kernel
theorem dX8_markAgain_132 : decode cX8_markAgain 132 = .ok (.iload 4, 2) := by decide +kernel
theorem dX8_markAgain_134 : decode cX8_markAgain 134 = .ok (.iload 5, 2) := by decide +kernel
theorem dX8_markAgain_136 : decode cX8_markAgain 136 = .ok (.invokevirtual 172, 3) := by decide +kernel
theorem dX8_markAgain_139 : decode cX8_markAgain 139 = .ok (.ifCond .eq 7, 3) := by decide +kernel
theorem dX8_markAgain_142 : decode cX8_markAgain 142 = .ok (.iconst 1, 1) := by decide +kernel
theorem dX8_markAgain_143 : decode cX8_markAgain 143 = .ok (.goto 4, 3) := by decide +kernel
theorem dX8_markAgain_146 : decode cX8_markAgain 146 = .ok (.iconst 0, 1) := by decide +kernel
theorem dX8_markAgain_147 : decode cX8_markAgain 147 = .ok (.bastore, 1) := by decide +kernel
theorem dX8_markAgain_148 : decode cX8_markAgain 148 = .ok (.iinc 6 1, 3) := by decide +kernel
theorem dX8_markAgain_151 : decode cX8_markAgain 151 = .ok (.goto (-81), 3) := by decide +kernel
theorem dX8_markAgain_154 : decode cX8_markAgain 154 = .ok (.iinc 3 1, 3) := by decide +kernel
theorem dX8_markAgain_157 : decode cX8_markAgain 157 = .ok (.goto (-155), 3) := by decide +kernel
theorem dX8_markAgain_160 : decode cX8_markAgain 160 = .ok (.return_, 1) := by decide +kernel
theorem dX8_giveBag_0 : decode cX8_giveBag 0 = .ok (.aload_n 0, 1) := by decide +kernel
theorem dX8_giveBag_1 : decode cX8_giveBag 1 = .ok (.getfield 22, 3) := by decide +kernel
theorem dX8_giveBag_4 : decode cX8_giveBag 4 = .ok (.iload_n 1, 1) := by decide +kernel
theorem dX8_giveBag_5 : decode cX8_giveBag 5 = .ok (.iaload, 1) := by decide +kernel
theorem dX8_giveBag_6 : decode cX8_giveBag 6 = .ok (.istore_n 2, 1) := by decide +kernel
theorem dX8_giveBag_7 : decode cX8_giveBag 7 = .ok (.aload_n 0, 1) := by decide +kernel
theorem dX8_giveBag_8 : decode cX8_giveBag 8 = .ok (.getfield 25, 3) := by decide +kernel
theorem dX8_giveBag_11 : decode cX8_giveBag 11 = .ok (.iload_n 1, 1) := by decide +kernel
theorem dX8_giveBag_12 : decode cX8_giveBag 12 = .ok (.iaload, 1) := by decide +kernel
theorem dX8_giveBag_13 : decode cX8_giveBag 13 = .ok (.istore_n 3, 1) := by decide +kernel
theorem dX8_giveBag_14 : decode cX8_giveBag 14 = .ok (.aload_n 0, 1) := by decide +kernel
theorem dX8_giveBag_15 : decode cX8_giveBag 15 = .ok (.getfield 28, 3) := by decide +kernel
theorem dX8_giveBag_18 : decode cX8_giveBag 18 = .ok (.iload_n 1, 1) := by decide +kernel
theorem dX8_giveBag_19 : decode cX8_giveBag 19 = .ok (.iaload, 1) := by decide +kernel
theorem dX8_giveBag_20 : decode cX8_giveBag 20 = .ok (.istore 4, 2) := by decide +kernel
theorem dX8_giveBag_22 : decode cX8_giveBag 22 = .ok (.iload 4, 2) := by decide +kernel
theorem dX8_giveBag_24 : decode cX8_giveBag 24 = .ok (.ifCond .ne 14, 3) := by decide +kernel
theorem dX8_giveBag_27 : decode cX8_giveBag 27 = .ok (.aload_n 0, 1) := by decide +kernel
theorem dX8_giveBag_28 : decode cX8_giveBag 28 = .ok (.getfield 65, 3) := by decide +kernel
theorem dX8_giveBag_31 : decode cX8_giveBag 31 = .ok (.iconst 0, 1) := by decide +kernel
theorem dX8_giveBag_32 : decode cX8_giveBag 32 = .ok (.invokestatic 166, 3) := by decide +kernel
theorem dX8_giveBag_35 : decode cX8_giveBag 35 = .ok (.goto 24, 3) := by decide +kernel
theorem dX8_giveBag_38 : decode cX8_giveBag 38 = .ok (.iload 4, 2) := by decide +kernel
theorem dX8_giveBag_40 : decode cX8_giveBag 40 = .ok (.iconst 2, 1) := by decide +kernel
theorem dX8_giveBag_41 : decode cX8_giveBag 41 = .ok (.if_icmp .le 12, 3) := by decide +kernel
theorem dX8_giveBag_44 : decode cX8_giveBag 44 = .ok (.aload_n 0, 1) := by decide +kernel
theorem dX8_giveBag_45 : decode cX8_giveBag 45 = .ok (.iload_n 2, 1) := by decide +kernel
theorem dX8_giveBag_46 : decode cX8_giveBag 46 = .ok (.iload_n 3, 1) := by decide +kernel
theorem dX8_giveBag_47 : decode cX8_giveBag 47 = .ok (.invokevirtual 176, 3) := by decide +kernel
theorem dX8_giveBag_50 : decode cX8_giveBag 50 = .ok (.goto 9, 3) := by decide +kernel
theorem dX8_giveBag_53 : decode cX8_giveBag 53 = .ok (.aload_n 0, 1) := by decide +kernel
theorem dX8_giveBag_54 : decode cX8_giveBag 54 = .ok (.iload_n 2, 1) := by decide +kernel
theorem dX8_giveBag_55 : decode cX8_giveBag 55 = .ok (.iload_n 3, 1) := by decide +kernel
theorem dX8_giveBag_56 : decode cX8_giveBag 56 = .ok (.invokevirtual 180, 3) := by decide +kernel
theorem dX8_giveBag_59 : decode cX8_giveBag 59 = .ok (.iload 4, 2) := by decide +kernel
theorem dX8_giveBag_61 : decode cX8_giveBag 61 = .ok (.ifCond .eq 9, 3) := by decide +kernel
theorem dX8_giveBag_64 : decode cX8_giveBag 64 = .ok (.iload 4, 2) := by decide +kernel
theorem dX8_giveBag_66 : decode cX8_giveBag 66 = .ok (.iconst 2, 1) := by decide +kernel
theorem dX8_giveBag_67 : decode cX8_giveBag 67 = .ok (.if_icmp .le 7, 3) := by decide +kernel
theorem dX8_giveBag_70 : decode cX8_giveBag 70 = .ok (.iconst 1, 1) := by decide +kernel
theorem dX8_giveBag_71 : decode cX8_giveBag 71 = .ok (.goto 4, 3) := by decide +kernel
theorem dX8_giveBag_74 : decode cX8_giveBag 74 = .ok (.iconst 0, 1) := by decide +kernel
theorem dX8_giveBag_75 : decode cX8_giveBag 75 = .ok (.istore 5, 2) := by decide +kernel
theorem dX8_giveBag_77 : decode cX8_giveBag 77 = .ok (.iconst 0, 1) := by decide +kernel
theorem dX8_giveBag_78 : decode cX8_giveBag 78 = .ok (.istore 6, 2) := by decide +kernel
theorem dX8_giveBag_80 : decode cX8_giveBag 80 = .ok (.iload 6, 2) := by decide +kernel
theorem dX8_giveBag_82 : decode cX8_giveBag 82 = .ok (.aload_n 0, 1) := by decide +kernel
theorem dX8_giveBag_83 : decode cX8_giveBag 83 = .ok (.getfield 51, 3) := by decide +kernel
theorem dX8_giveBag_86 : decode cX8_giveBag 86 = .ok (.iload_n 2, 1) := by decide +kernel
theorem dX8_giveBag_87 : decode cX8_giveBag 87 = .ok (.iaload, 1) := by decide +kernel
theorem dX8_giveBag_88 : decode cX8_giveBag 88 = .ok (.iload 5, 2) := by decide +kernel
theorem dX8_giveBag_90 : decode cX8_giveBag 90 = .ok (.ifCond .eq 12, 3) := by decide +kernel
theorem dX8_giveBag_93 : decode cX8_giveBag 93 = .ok (.aload_n 0, 1) := by decide +kernel
theorem dX8_giveBag_94 : decode cX8_giveBag 94 = .ok (.getfield 51, 3) := by decide +kernel
theorem dX8_giveBag_97 : decode cX8_giveBag 97 = .ok (.iload_n 3, 1) := by decide +kernel
theorem dX8_giveBag_98 : decode cX8_giveBag 98 = .ok (.iaload, 1) := by decide +kernel
theorem dX8_giveBag_99 : decode cX8_giveBag 99 = .ok (.goto 4, 3) := by decide +kernel
theorem dX8_giveBag_102 : decode cX8_giveBag 102 = .ok (.iconst 0, 1) := by decide +kernel
theorem dX8_giveBag_103 : decode cX8_giveBag 103 = .ok (.iadd, 1) := by decide +kernel
theorem dX8_giveBag_104 : decode cX8_giveBag 104 = .ok (.if_icmp .ge 87, 3) := by decide +kernel
theorem dX8_giveBag_107 : decode cX8_giveBag 107 = .ok (.aload_n 0, 1) := by decide +kernel
theorem dX8_giveBag_108 : decode cX8_giveBag 108 = .ok (.getfield 65, 3) := by decide +kernel
theorem dX8_giveBag_111 : decode cX8_giveBag 111 = .ok (.iload 6, 2) := by decide +kernel
theorem dX8_giveBag_113 : decode cX8_giveBag 113 = .ok (.baload, 1) := by decide +kernel
theorem dX8_giveBag_114 : decode cX8_giveBag 114 = .ok (.iload 4, 2) := by decide +kernel
theorem dX8_giveBag_116 : decode cX8_giveBag 116 = .ok (.iconst 2, 1) := by decide +kernel
theorem dX8_giveBag_117 : decode cX8_giveBag 117 = .ok (.if_icmp .ne 7, 3) := by decide +kernel
theorem dX8_giveBag_120 : decode cX8_giveBag 120 = .ok (.iconst 1, 1) := by decide +kernel
theorem dX8_giveBag_121 : decode cX8_giveBag 121 = .ok (.goto 4, 3) := by decide +kernel
theorem dX8_giveBag_124 : decode cX8_giveBag 124 = .ok (.iconst 0, 1) := by decide +kernel
theorem dX8_giveBag_125 : decode cX8_giveBag 125 = .ok (.if_icmp .ne 60, 3) := by decide +kernel
theorem dX8_giveBag_128 : decode cX8_giveBag 128 = .ok (.aload_n 0, 1) := by decide +kernel
theorem dX8_giveBag_129 : decode cX8_giveBag 129 = .ok (.iload_n 1, 1) := by decide +kernel
theorem dX8_giveBag_130 : decode cX8_giveBag 130 = .ok (.iload 6, 2) := by decide +kernel
theorem dX8_giveBag_132 : decode cX8_giveBag 132 = .ok (.aload_n 0, 1) := by decide +kernel
theorem dX8_giveBag_133 : decode cX8_giveBag 133 = .ok (.getfield 51, 3) := by decide +kernel
theorem dX8_giveBag_136 : decode cX8_giveBag 136 = .ok (.iload_n 2, 1) := by decide +kernel
theorem dX8_giveBag_137 : decode cX8_giveBag 137 = .ok (.iaload, 1) := by decide +kernel
theorem dX8_giveBag_138 : decode cX8_giveBag 138 = .ok (.if_icmp .ge 7, 3) := by decide +kernel
theorem dX8_giveBag_141 : decode cX8_giveBag 141 = .ok (.iload_n 2, 1) := by decide +kernel
theorem dX8_giveBag_142 : decode cX8_giveBag 142 = .ok (.goto 4, 3) := by decide +kernel
theorem dX8_giveBag_145 : decode cX8_giveBag 145 = .ok (.iload_n 3, 1) := by decide +kernel
theorem dX8_giveBag_146 : decode cX8_giveBag 146 = .ok (.iload 6, 2) := by decide +kernel
theorem dX8_giveBag_148 : decode cX8_giveBag 148 = .ok (.aload_n 0, 1) := by decide +kernel
theorem dX8_giveBag_149 : decode cX8_giveBag 149 = .ok (.getfield 51, 3) := by decide +kernel
theorem dX8_giveBag_152 : decode cX8_giveBag 152 = .ok (.iload_n 2, 1) := by decide +kernel
theorem dX8_giveBag_153 : decode cX8_giveBag 153 = .ok (.iaload, 1) := by decide +kernel
theorem dX8_giveBag_154 : decode cX8_giveBag 154 = .ok (.if_icmp .ge 8, 3) := by decide +kernel
theorem dX8_giveBag_157 : decode cX8_giveBag 157 = .ok (.iload 6, 2) := by decide +kernel
theorem dX8_giveBag_159 : decode cX8_giveBag 159 = .ok (.goto 12, 3) := by decide +kernel
theorem dX8_giveBag_162 : decode cX8_giveBag 162 = .ok (.iload 6, 2) := by decide +kernel
theorem dX8_giveBag_164 : decode cX8_giveBag 164 = .ok (.aload_n 0, 1) := by decide +kernel
theorem dX8_giveBag_165 : decode cX8_giveBag 165 = .ok (.getfield 51, 3) := by decide +kernel
theorem dX8_giveBag_168 : decode cX8_giveBag 168 = .ok (.iload_n 2, 1) := by decide +kernel
theorem dX8_giveBag_169 : decode cX8_giveBag 169 = .ok (.iaload, 1) := by decide +kernel
theorem dX8_giveBag_170 : decode cX8_giveBag 170 = .ok (.isub, 1) := by decide +kernel
theorem dX8_giveBag_171 : decode cX8_giveBag 171 = .ok (.iconst 0, 1) := by decide +kernel
theorem dX8_giveBag_172 : decode cX8_giveBag 172 = .ok (.invokevirtual 158, 3) := by decide +kernel
theorem dX8_giveBag_175 : decode cX8_giveBag 175 = .ok (.aload_n 0, 1) := by decide +kernel
theorem dX8_giveBag_176 : decode cX8_giveBag 176 = .ok (.getfield 51, 3) := by decide +kernel
theorem dX8_giveBag_179 : decode cX8_giveBag 179 = .ok (.iload_n 1, 1) := by decide +kernel
theorem dX8_giveBag_180 : decode cX8_giveBag 180 = .ok (.dup2, 1) := by decide +kernel
theorem dX8_giveBag_181 : decode cX8_giveBag 181 = .ok (.iaload, 1) := by decide +kernel
theorem dX8_giveBag_182 : decode cX8_giveBag 182 = .ok (.iconst 1, 1) := by decide +kernel
theorem dX8_giveBag_183 : decode cX8_giveBag 183 = .ok (.iadd, 1) := by decide +kernel
theorem dX8_giveBag_184 : decode cX8_giveBag 184 = .ok (.iastore, 1) := by decide +kernel
theorem dX8_giveBag_185 : decode cX8_giveBag 185 = .ok (.iinc 6 1, 3) := by decide +kernel
theorem dX8_giveBag_188 : decode cX8_giveBag 188 = .ok (.goto (-108), 3) := by decide +kernel
theorem dX8_giveBag_191 : decode cX8_giveBag 191 = .ok (.return_, 1) := by decide +kernel
theorem dX8_work_0 : decode cX8_work 0 = .ok (.aload_n 0, 1) := by decide +kernel
theorem dX8_work_1 : decode cX8_work 1 = .ok (.getfield 61, 3) := by decide +kernel
theorem dX8_work_4 : decode cX8_work 4 = .ok (.iconst 0, 1) := by decide +kernel
theorem dX8_work_5 : decode cX8_work 5 = .ok (.invokestatic 166, 3) := by decide +kernel
theorem dX8_work_8 : decode cX8_work 8 = .ok (.aload_n 0, 1) := by decide +kernel
theorem dX8_work_9 : decode cX8_work 9 = .ok (.getfield 61, 3) := by decide +kernel
theorem dX8_work_12 : decode cX8_work 12 = .ok (.iload_n 1, 1) := by decide +kernel
theorem dX8_work_13 : decode cX8_work 13 = .ok (.iconst 1, 1) := by decide +kernel
theorem dX8_work_14 : decode cX8_work 14 = .ok (.bastore, 1) := by decide +kernel
theorem dX8_work_15 : decode cX8_work 15 = .ok (.iload_n 1, 1) := by decide +kernel
theorem dX8_work_16 : decode cX8_work 16 = .ok (.istore_n 2, 1) := by decide +kernel
theorem dX8_work_17 : decode cX8_work 17 = .ok (.iload_n 2, 1) := by decide +kernel
theorem dX8_work_18 : decode cX8_work 18 = .ok (.ifCond .lt 70, 3) := by decide +kernel
theorem dX8_work_21 : decode cX8_work 21 = .ok (.aload_n 0, 1) := by decide +kernel
theorem dX8_work_22 : decode cX8_work 22 = .ok (.getfield 61, 3) := by decide +kernel
theorem dX8_work_25 : decode cX8_work 25 = .ok (.iload_n 2, 1) := by decide +kernel
theorem dX8_work_26 : decode cX8_work 26 = .ok (.baload, 1) := by decide +kernel
theorem dX8_work_27 : decode cX8_work 27 = .ok (.ifCond .eq 55, 3) := by decide +kernel
theorem dX8_work_30 : decode cX8_work 30 = .ok (.aload_n 0, 1) := by decide +kernel
theorem dX8_work_31 : decode cX8_work 31 = .ok (.getfield 19, 3) := by decide +kernel
theorem dX8_work_34 : decode cX8_work 34 = .ok (.iload_n 2, 1) := by decide +kernel
theorem dX8_work_35 : decode cX8_work 35 = .ok (.iaload, 1) := by decide +kernel
theorem dX8_work_36 : decode cX8_work 36 = .ok (.ifCond .eq 46, 3) := by decide +kernel
theorem dX8_work_39 : decode cX8_work 39 = .ok (.aload_n 0, 1) := by decide +kernel
theorem dX8_work_40 : decode cX8_work 40 = .ok (.getfield 61, 3) := by decide +kernel
theorem dX8_work_43 : decode cX8_work 43 = .ok (.aload_n 0, 1) := by decide +kernel
theorem dX8_work_44 : decode cX8_work 44 = .ok (.getfield 22, 3) := by decide +kernel
theorem dX8_work_47 : decode cX8_work 47 = .ok (.iload_n 2, 1) := by decide +kernel
theorem dX8_work_48 : decode cX8_work 48 = .ok (.iaload, 1) := by decide +kernel
theorem dX8_work_49 : decode cX8_work 49 = .ok (.iconst 1, 1) := by decide +kernel
theorem dX8_work_50 : decode cX8_work 50 = .ok (.bastore, 1) := by decide +kernel
theorem dX8_work_51 : decode cX8_work 51 = .ok (.aload_n 0, 1) := by decide +kernel
theorem dX8_work_52 : decode cX8_work 52 = .ok (.getfield 61, 3) := by decide +kernel
theorem dX8_work_55 : decode cX8_work 55 = .ok (.aload_n 0, 1) := by decide +kernel
theorem dX8_work_56 : decode cX8_work 56 = .ok (.getfield 25, 3) := by decide +kernel
theorem dX8_work_59 : decode cX8_work 59 = .ok (.iload_n 2, 1) := by decide +kernel
theorem dX8_work_60 : decode cX8_work 60 = .ok (.iaload, 1) := by decide +kernel
theorem dX8_work_61 : decode cX8_work 61 = .ok (.iconst (-1), 1) := by decide +kernel
theorem dX8_work_62 : decode cX8_work 62 = .ok (.if_icmp .ne 12, 3) := by decide +kernel
theorem dX8_work_65 : decode cX8_work 65 = .ok (.aload_n 0, 1) := by decide +kernel
theorem dX8_work_66 : decode cX8_work 66 = .ok (.getfield 22, 3) := by decide +kernel
theorem dX8_work_69 : decode cX8_work 69 = .ok (.iload_n 2, 1) := by decide +kernel
theorem dX8_work_70 : decode cX8_work 70 = .ok (.iaload, 1) := by decide +kernel
theorem dX8_work_71 : decode cX8_work 71 = .ok (.goto 9, 3) := by decide +kernel
theorem dX8_work_74 : decode cX8_work 74 = .ok (.aload_n 0, 1) := by decide +kernel
theorem dX8_work_75 : decode cX8_work 75 = .ok (.getfield 25, 3) := by decide +kernel
theorem dX8_work_78 : decode cX8_work 78 = .ok (.iload_n 2, 1) := by decide +kernel
theorem dX8_work_79 : decode cX8_work 79 = .ok (.iaload, 1) := by decide +kernel
theorem dX8_work_80 : decode cX8_work 80 = .ok (.iconst 1, 1) := by decide +kernel
theorem dX8_work_81 : decode cX8_work 81 = .ok (.bastore, 1) := by decide +kernel
theorem dX8_work_82 : decode cX8_work 82 = .ok (.iinc 2 (-1), 3) := by decide +kernel
theorem dX8_work_85 : decode cX8_work 85 = .ok (.goto (-68), 3) := by decide +kernel
theorem dX8_work_88 : decode cX8_work 88 = .ok (.iconst 0, 1) := by decide +kernel
theorem dX8_work_89 : decode cX8_work 89 = .ok (.istore_n 2, 1) := by decide +kernel
theorem dX8_work_90 : decode cX8_work 90 = .ok (.iload_n 2, 1) := by decide +kernel
theorem dX8_work_91 : decode cX8_work 91 = .ok (.iload_n 1, 1) := by decide +kernel
theorem dX8_work_92 : decode cX8_work 92 = .ok (.if_icmp .gt 122, 3) := by decide +kernel
theorem dX8_work_95 : decode cX8_work 95 = .ok (.aload_n 0, 1) := by decide +kernel
theorem dX8_work_96 : decode cX8_work 96 = .ok (.getfield 51, 3) := by decide +kernel
theorem dX8_work_99 : decode cX8_work 99 = .ok (.iload_n 2, 1) := by decide +kernel
theorem dX8_work_100 : decode cX8_work 100 = .ok (.iconst 0, 1) := by decide +kernel
theorem dX8_work_101 : decode cX8_work 101 = .ok (.iastore, 1) := by decide +kernel
theorem dX8_work_102 : decode cX8_work 102 = .ok (.aload_n 0, 1) := by decide +kernel
theorem dX8_work_103 : decode cX8_work 103 = .ok (.getfield 61, 3) := by decide +kernel
theorem dX8_work_106 : decode cX8_work 106 = .ok (.iload_n 2, 1) := by decide +kernel
theorem dX8_work_107 : decode cX8_work 107 = .ok (.baload, 1) := by decide +kernel
theorem dX8_work_108 : decode cX8_work 108 = .ok (.ifCond .eq 100, 3) := by decide +kernel
theorem dX8_work_111 : decode cX8_work 111 = .ok (.aload_n 0, 1) := by decide +kernel
theorem dX8_work_112 : decode cX8_work 112 = .ok (.iload_n 2, 1) := by decide +kernel
theorem dX8_work_113 : decode cX8_work 113 = .ok (.invokevirtual 183, 3) := by decide +kernel
theorem dX8_work_116 : decode cX8_work 116 = .ok (.aload_n 0, 1) := by decide +kernel
theorem dX8_work_117 : decode cX8_work 117 = .ok (.getfield 19, 3) := by decide +kernel
theorem dX8_work_120 : decode cX8_work 120 = .ok (.iload_n 2, 1) := by decide +kernel
theorem dX8_work_121 : decode cX8_work 121 = .ok (.iaload, 1) := by decide +kernel
theorem dX8_work_122 : decode cX8_work 122 = .ok (.ifCond .ne 7, 3) := by decide +kernel
theorem dX8_work_125 : decode cX8_work 125 = .ok (.iconst 1, 1) := by decide +kernel
theorem dX8_work_126 : decode cX8_work 126 = .ok (.goto 4, 3) := by decide +kernel
theorem dX8_work_129 : decode cX8_work 129 = .ok (.iconst 0, 1) := by decide +kernel
theorem dX8_work_130 : decode cX8_work 130 = .ok (.istore_n 3, 1) := by decide +kernel
theorem dX8_work_131 : decode cX8_work 131 = .ok (.aload_n 0, 1) := by decide +kernel
theorem dX8_work_132 : decode cX8_work 132 = .ok (.getfield 54, 3) := by decide +kernel
theorem dX8_work_135 : decode cX8_work 135 = .ok (.iload_n 2, 1) := by decide +kernel
theorem dX8_work_136 : decode cX8_work 136 = .ok (.aload_n 0, 1) := by decide +kernel
theorem dX8_work_137 : decode cX8_work 137 = .ok (.getfield 51, 3) := by decide +kernel
theorem dX8_work_140 : decode cX8_work 140 = .ok (.iload_n 2, 1) := by decide +kernel
theorem dX8_work_141 : decode cX8_work 141 = .ok (.iaload, 1) := by decide +kernel
theorem dX8_work_142 : decode cX8_work 142 = .ok (.i2l, 1) := by decide +kernel
theorem dX8_work_143 : decode cX8_work 143 = .ok (.iload_n 3, 1) := by decide +kernel
theorem dX8_work_144 : decode cX8_work 144 = .ok (.ifCond .eq 7, 3) := by decide +kernel
theorem dX8_work_147 : decode cX8_work 147 = .ok (.lconst 0, 1) := by decide +kernel
theorem dX8_work_148 : decode cX8_work 148 = .ok (.goto 14, 3) := by decide +kernel
theorem dX8_work_151 : decode cX8_work 151 = .ok (.aload_n 0, 1) := by decide +kernel
theorem dX8_work_152 : decode cX8_work 152 = .ok (.getfield 54, 3) := by decide +kernel
theorem dX8_work_155 : decode cX8_work 155 = .ok (.aload_n 0, 1) := by decide +kernel
theorem dX8_work_156 : decode cX8_work 156 = .ok (.getfield 22, 3) := by decide +kernel
theorem dX8_work_159 : decode cX8_work 159 = .ok (.iload_n 2, 1) := by decide +kernel
theorem dX8_work_160 : decode cX8_work 160 = .ok (.iaload, 1) := by decide +kernel
theorem dX8_work_161 : decode cX8_work 161 = .ok (.laload, 1) := by decide +kernel
theorem dX8_work_162 : decode cX8_work 162 = .ok (.ladd, 1) := by decide +kernel
theorem dX8_work_163 : decode cX8_work 163 = .ok (.iload_n 3, 1) := by decide +kernel
theorem dX8_work_164 : decode cX8_work 164 = .ok (.ifCond .ne 13, 3) := by decide +kernel
theorem dX8_work_167 : decode cX8_work 167 = .ok (.aload_n 0, 1) := by decide +kernel
theorem dX8_work_168 : decode cX8_work 168 = .ok (.getfield 25, 3) := by decide +kernel
theorem dX8_work_171 : decode cX8_work 171 = .ok (.iload_n 2, 1) := by decide +kernel
theorem dX8_work_172 : decode cX8_work 172 = .ok (.iaload, 1) := by decide +kernel
theorem dX8_work_173 : decode cX8_work 173 = .ok (.iconst (-1), 1) := by decide +kernel
theorem dX8_work_174 : decode cX8_work 174 = .ok (.if_icmp .ne 7, 3) := by decide +kernel
theorem dX8_work_177 : decode cX8_work 177 = .ok (.lconst 0, 1) := by decide +kernel
theorem dX8_work_178 : decode cX8_work 178 = .ok (.goto 14, 3) := by decide +kernel
theorem dX8_work_181 : decode cX8_work 181 = .ok (.aload_n 0, 1) := by decide +kernel
theorem dX8_work_182 : decode cX8_work 182 = .ok (.getfield 54, 3) := by decide +kernel
theorem dX8_work_185 : decode cX8_work 185 = .ok (.aload_n 0, 1) := by decide +kernel
theorem dX8_work_186 : decode cX8_work 186 = .ok (.getfield 25, 3) := by decide +kernel
theorem dX8_work_189 : decode cX8_work 189 = .ok (.iload_n 2, 1) := by decide +kernel
theorem dX8_work_190 : decode cX8_work 190 = .ok (.iaload, 1) := by decide +kernel
theorem dX8_work_191 : decode cX8_work 191 = .ok (.laload, 1) := by decide +kernel
theorem dX8_work_192 : decode cX8_work 192 = .ok (.ladd, 1) := by decide +kernel
theorem dX8_work_193 : decode cX8_work 193 = .ok (.lastore, 1) := by decide +kernel
theorem dX8_work_194 : decode cX8_work 194 = .ok (.aload_n 0, 1) := by decide +kernel
theorem dX8_work_195 : decode cX8_work 195 = .ok (.getfield 51, 3) := by decide +kernel
theorem dX8_work_198 : decode cX8_work 198 = .ok (.iload_n 2, 1) := by decide +kernel
theorem dX8_work_199 : decode cX8_work 199 = .ok (.iaload, 1) := by decide +kernel
theorem dX8_work_200 : decode cX8_work 200 = .ok (.sipush 200, 3) := by decide +kernel
theorem dX8_work_203 : decode cX8_work 203 = .ok (.if_icmp .le 5, 3) := by decide +kernel
theorem dX8_work_206 : decode cX8_work 206 = .ok (.iconst 0, 1) := by decide +kernel
theorem dX8_work_207 : decode cX8_work 207 = .ok (.ireturn, 1) := by decide +kernel
theorem dX8_work_208 : decode cX8_work 208 = .ok (.iinc 2 1, 3) := by decide +kernel
theorem dX8_work_211 : decode cX8_work 211 = .ok (.goto (-121), 3) := by decide +kernel
theorem dX8_work_214 : decode cX8_work 214 = .ok (.aload_n 0, 1) := by decide +kernel
theorem dX8_work_215 : decode cX8_work 215 = .ok (.getfield 54, 3) := by decide +kernel
theorem dX8_work_218 : decode cX8_work 218 = .ok (.iload_n 1, 1) := by decide +kernel
theorem dX8_work_219 : decode cX8_work 219 = .ok (.laload, 1) := by decide +kernel
theorem dX8_work_220 : decode cX8_work 220 = .ok (.aload_n 0, 1) := by decide +kernel
theorem dX8_work_221 : decode cX8_work 221 = .ok (.getfield 41, 3) := by decide +kernel
theorem dX8_work_224 : decode cX8_work 224 = .ok (.i2l, 1) := by decide +kernel
theorem dX8_work_225 : decode cX8_work 225 = .ok (.lcmp, 1) := by decide +kernel
theorem dX8_work_226 : decode cX8_work 226 = .ok (.ifCond .gt 7, 3) := by decide +kernel
theorem dX8_work_229 : decode cX8_work 229 = .ok (.iconst 1, 1) := by decide +kernel
theorem dX8_work_230 : decode cX8_work 230 = .ok (.goto 4, 3) := by decide +kernel
theorem dX8_work_233 : decode cX8_work 233 = .ok (.iconst 0, 1) := by decide +kernel
theorem dX8_work_234 : decode cX8_work 234 = .ok (.ireturn, 1) := by decide +kernel
theorem dX8_give_0 : decode cX8_give 0 = .ok (.aload_n 0, 1) := by decide +kernel
theorem dX8_give_1 : decode cX8_give 1 = .ok (.getfield 19, 3) := by decide +kernel
theorem dX8_give_4 : decode cX8_give 4 = .ok (.iload_n 1, 1) := by decide +kernel
theorem dX8_give_5 : decode cX8_give 5 = .ok (.iaload, 1) := by decide +kernel
theorem dX8_give_6 : decode cX8_give 6 = .ok (.ifCond .ne 11, 3) := by decide +kernel
theorem dX8_give_9 : decode cX8_give 9 = .ok (.aload_n 0, 1) := by decide +kernel
theorem dX8_give_10 : decode cX8_give 10 = .ok (.iload_n 1, 1) := by decide +kernel
theorem dX8_give_11 : decode cX8_give 11 = .ok (.invokevirtual 187, 3) := by decide +kernel
theorem dX8_give_14 : decode cX8_give 14 = .ok (.goto 62, 3) := by decide +kernel
theorem dX8_give_17 : decode cX8_give 17 = .ok (.aload_n 0, 1) := by decide +kernel
theorem dX8_give_18 : decode cX8_give 18 = .ok (.getfield 19, 3) := by decide +kernel
theorem dX8_give_21 : decode cX8_give 21 = .ok (.iload_n 1, 1) := by decide +kernel
theorem dX8_give_22 : decode cX8_give 22 = .ok (.iaload, 1) := by decide +kernel
theorem dX8_give_23 : decode cX8_give 23 = .ok (.iconst 1, 1) := by decide +kernel
theorem dX8_give_24 : decode cX8_give 24 = .ok (.if_icmp .ne 11, 3) := by decide +kernel
theorem dX8_give_27 : decode cX8_give 27 = .ok (.aload_n 0, 1) := by decide +kernel
theorem dX8_give_28 : decode cX8_give 28 = .ok (.iload_n 1, 1) := by decide +kernel
theorem dX8_give_29 : decode cX8_give 29 = .ok (.invokevirtual 190, 3) := by decide +kernel
theorem dX8_give_32 : decode cX8_give 32 = .ok (.goto 44, 3) := by decide +kernel
theorem dX8_give_35 : decode cX8_give 35 = .ok (.aload_n 0, 1) := by decide +kernel
theorem dX8_give_36 : decode cX8_give 36 = .ok (.getfield 19, 3) := by decide +kernel
theorem dX8_give_39 : decode cX8_give 39 = .ok (.iload_n 1, 1) := by decide +kernel
theorem dX8_give_40 : decode cX8_give 40 = .ok (.iaload, 1) := by decide +kernel
theorem dX8_give_41 : decode cX8_give 41 = .ok (.iconst 2, 1) := by decide +kernel
theorem dX8_give_42 : decode cX8_give 42 = .ok (.if_icmp .ne 11, 3) := by decide +kernel
theorem dX8_give_45 : decode cX8_give 45 = .ok (.aload_n 0, 1) := by decide +kernel
theorem dX8_give_46 : decode cX8_give 46 = .ok (.iload_n 1, 1) := by decide +kernel
theorem dX8_give_47 : decode cX8_give 47 = .ok (.invokevirtual 193, 3) := by decide +kernel
theorem dX8_give_50 : decode cX8_give 50 = .ok (.goto 26, 3) := by decide +kernel
theorem dX8_give_53 : decode cX8_give 53 = .ok (.aload_n 0, 1) := by decide +kernel
theorem dX8_give_54 : decode cX8_give 54 = .ok (.getfield 19, 3) := by decide +kernel
theorem dX8_give_57 : decode cX8_give 57 = .ok (.iload_n 1, 1) := by decide +kernel
theorem dX8_give_58 : decode cX8_give 58 = .ok (.iaload, 1) := by decide +kernel
theorem dX8_give_59 : decode cX8_give 59 = .ok (.iconst 3, 1) := by decide +kernel
theorem dX8_give_60 : decode cX8_give 60 = .ok (.if_icmp .ne 11, 3) := by decide +kernel
theorem dX8_give_63 : decode cX8_give 63 = .ok (.aload_n 0, 1) := by decide +kernel
theorem dX8_give_64 : decode cX8_give 64 = .ok (.iload_n 1, 1) := by decide +kernel
theorem dX8_give_65 : decode cX8_give 65 = .ok (.invokevirtual 196, 3) := by decide +kernel
theorem dX8_give_68 : decode cX8_give 68 = .ok (.goto 8, 3) := by decide +kernel
theorem dX8_give_71 : decode cX8_give 71 = .ok (.aload_n 0, 1) := by decide +kernel
theorem dX8_give_72 : decode cX8_give 72 = .ok (.iload_n 1, 1) := by decide +kernel
theorem dX8_give_73 : decode cX8_give 73 = .ok (.invokevirtual 199, 3) := by decide +kernel
theorem dX8_give_76 : decode cX8_give 76 = .ok (.return_, 1) := by decide +kernel
theorem dX8_rows_0 : decode cX8_rows 0 = .ok (.aload_n 0, 1) := by decide +kernel
theorem dX8_rows_1 : decode cX8_rows 1 = .ok (.iload_n 1, 1) := by decide +kernel
theorem dX8_rows_2 : decode cX8_rows 2 = .ok (.invokevirtual 121, 3) := by decide +kernel
theorem dX8_rows_5 : decode cX8_rows 5 = .ok (.istore_n 2, 1) := by decide +kernel
theorem dX8_rows_6 : decode cX8_rows 6 = .ok (.aload_n 0, 1) := by decide +kernel
theorem dX8_rows_7 : decode cX8_rows 7 = .ok (.iload_n 2, 1) := by decide +kernel
theorem dX8_rows_8 : decode cX8_rows 8 = .ok (.ifCond .ne 7, 3) := by decide +kernel
theorem dX8_rows_11 : decode cX8_rows 11 = .ok (.iconst 1, 1) := by decide +kernel
theorem dX8_rows_12 : decode cX8_rows 12 = .ok (.goto 16, 3) := by decide +kernel
theorem dX8_rows_15 : decode cX8_rows 15 = .ok (.aload_n 0, 1) := by decide +kernel
theorem dX8_rows_16 : decode cX8_rows 16 = .ok (.iload_n 1, 1) := by decide +kernel
theorem dX8_rows_17 : decode cX8_rows 17 = .ok (.invokevirtual 202, 3) := by decide +kernel
theorem dX8_rows_20 : decode cX8_rows 20 = .ok (.ifCond .eq 7, 3) := by decide +kernel
theorem dX8_rows_23 : decode cX8_rows 23 = .ok (.iconst 0, 1) := by decide +kernel
theorem dX8_rows_24 : decode cX8_rows 24 = .ok (.goto 4, 3) := by decide +kernel
theorem dX8_rows_27 : decode cX8_rows 27 = .ok (.iconst 2, 1) := by decide +kernel
theorem dX8_rows_28 : decode cX8_rows 28 = .ok (.invokevirtual 112, 3) := by decide +kernel
theorem dX8_rows_31 : decode cX8_rows 31 = .ok (.ifCond .eq 12, 3) := by decide +kernel
theorem dX8_rows_34 : decode cX8_rows 34 = .ok (.aload_n 0, 1) := by decide +kernel
theorem dX8_rows_35 : decode cX8_rows 35 = .ok (.getfield 51, 3) := by decide +kernel
theorem dX8_rows_38 : decode cX8_rows 38 = .ok (.iload_n 1, 1) := by decide +kernel
theorem dX8_rows_39 : decode cX8_rows 39 = .ok (.iaload, 1) := by decide +kernel
theorem dX8_rows_40 : decode cX8_rows 40 = .ok (.goto 4, 3) := by decide +kernel
theorem dX8_rows_43 : decode cX8_rows 43 = .ok (.iconst 0, 1) := by decide +kernel
theorem dX8_rows_44 : decode cX8_rows 44 = .ok (.ireturn, 1) := by decide +kernel
theorem dX8_cell_0 : decode cX8_cell 0 = .ok (.aload_n 0, 1) := by decide +kernel
theorem dX8_cell_1 : decode cX8_cell 1 = .ok (.iload_n 1, 1) := by decide +kernel
theorem dX8_cell_2 : decode cX8_cell 2 = .ok (.iload_n 3, 1) := by decide +kernel
theorem dX8_cell_3 : decode cX8_cell 3 = .ok (.invokevirtual 140, 3) := by decide +kernel
theorem dX8_cell_6 : decode cX8_cell 6 = .ok (.ifCond .eq 11, 3) := by decide +kernel
theorem dX8_cell_9 : decode cX8_cell 9 = .ok (.iload_n 2, 1) := by decide +kernel
theorem dX8_cell_10 : decode cX8_cell 10 = .ok (.ifCond .lt 7, 3) := by decide +kernel
theorem dX8_cell_13 : decode cX8_cell 13 = .ok (.iconst 1, 1) := by decide +kernel
theorem dX8_cell_14 : decode cX8_cell 14 = .ok (.goto 4, 3) := by decide +kernel
theorem dX8_cell_17 : decode cX8_cell 17 = .ok (.iconst 0, 1) := by decide +kernel
theorem dX8_cell_18 : decode cX8_cell 18 = .ok (.istore 4, 2) := by decide +kernel
theorem dX8_cell_20 : decode cX8_cell 20 = .ok (.aload_n 0, 1) := by decide +kernel
theorem dX8_cell_21 : decode cX8_cell 21 = .ok (.iload 4, 2) := by decide +kernel
theorem dX8_cell_23 : decode cX8_cell 23 = .ok (.ifCond .ne 7, 3) := by decide +kernel
theorem dX8_cell_26 : decode cX8_cell 26 = .ok (.iconst 1, 1) := by decide +kernel
theorem dX8_cell_27 : decode cX8_cell 27 = .ok (.goto 30, 3) := by decide +kernel
theorem dX8_cell_30 : decode cX8_cell 30 = .ok (.aload_n 0, 1) := by decide +kernel
theorem dX8_cell_31 : decode cX8_cell 31 = .ok (.iload_n 1, 1) := by decide +kernel
theorem dX8_cell_32 : decode cX8_cell 32 = .ok (.invokevirtual 202, 3) := by decide +kernel
theorem dX8_cell_35 : decode cX8_cell 35 = .ok (.ifCond .ne 7, 3) := by decide +kernel
theorem dX8_cell_38 : decode cX8_cell 38 = .ok (.iconst 2, 1) := by decide +kernel
theorem dX8_cell_39 : decode cX8_cell 39 = .ok (.goto 18, 3) := by decide +kernel
theorem dX8_cell_42 : decode cX8_cell 42 = .ok (.iload_n 2, 1) := by decide +kernel
theorem dX8_cell_43 : decode cX8_cell 43 = .ok (.aload_n 0, 1) := by decide +kernel
theorem dX8_cell_44 : decode cX8_cell 44 = .ok (.getfield 51, 3) := by decide +kernel
theorem dX8_cell_47 : decode cX8_cell 47 = .ok (.iload_n 1, 1) := by decide +kernel
theorem dX8_cell_48 : decode cX8_cell 48 = .ok (.iaload, 1) := by decide +kernel
theorem dX8_cell_49 : decode cX8_cell 49 = .ok (.if_icmp .ge 7, 3) := by decide +kernel
theorem dX8_cell_52 : decode cX8_cell 52 = .ok (.iconst 0, 1) := by decide +kernel
theorem dX8_cell_53 : decode cX8_cell 53 = .ok (.goto 4, 3) := by decide +kernel
theorem dX8_cell_56 : decode cX8_cell 56 = .ok (.iconst 1, 1) := by decide +kernel
theorem dX8_cell_57 : decode cX8_cell 57 = .ok (.invokevirtual 112, 3) := by decide +kernel
theorem dX8_cell_60 : decode cX8_cell 60 = .ok (.ifCond .eq 13, 3) := by decide +kernel
theorem dX8_cell_63 : decode cX8_cell 63 = .ok (.aload_n 0, 1) := by decide +kernel
theorem dX8_cell_64 : decode cX8_cell 64 = .ok (.iload_n 1, 1) := by decide +kernel
theorem dX8_cell_65 : decode cX8_cell 65 = .ok (.iload_n 2, 1) := by decide +kernel
theorem dX8_cell_66 : decode cX8_cell 66 = .ok (.iload_n 3, 1) := by decide +kernel
theorem dX8_cell_67 : decode cX8_cell 67 = .ok (.invokevirtual 144, 3) := by decide +kernel
theorem dX8_cell_70 : decode cX8_cell 70 = .ok (.goto 4, 3) := by decide +kernel
theorem dX8_cell_73 : decode cX8_cell 73 = .ok (.iconst 0, 1) := by decide +kernel
theorem dX8_cell_74 : decode cX8_cell 74 = .ok (.ireturn, 1) := by decide +kernel
theorem dX8_steps_0 : decode cX8_steps 0 = .ok (.aload_n 0, 1) := by decide +kernel
theorem dX8_steps_1 : decode cX8_steps 1 = .ok (.iload_n 1, 1) := by decide +kernel
theorem dX8_steps_2 : decode cX8_steps 2 = .ok (.invokevirtual 121, 3) := by decide +kernel
theorem dX8_steps_5 : decode cX8_steps 5 = .ok (.istore_n 2, 1) := by decide +kernel
theorem dX8_steps_6 : decode cX8_steps 6 = .ok (.aload_n 0, 1) := by decide +kernel
theorem dX8_steps_7 : decode cX8_steps 7 = .ok (.iload_n 2, 1) := by decide +kernel
theorem dX8_steps_8 : decode cX8_steps 8 = .ok (.ifCond .ne 7, 3) := by decide +kernel
theorem dX8_steps_11 : decode cX8_steps 11 = .ok (.iconst 1, 1) := by decide +kernel
theorem dX8_steps_12 : decode cX8_steps 12 = .ok (.goto 16, 3) := by decide +kernel
theorem dX8_steps_15 : decode cX8_steps 15 = .ok (.aload_n 0, 1) := by decide +kernel
theorem dX8_steps_16 : decode cX8_steps 16 = .ok (.iload_n 1, 1) := by decide +kernel
theorem dX8_steps_17 : decode cX8_steps 17 = .ok (.invokevirtual 202, 3) := by decide +kernel
theorem dX8_steps_20 : decode cX8_steps 20 = .ok (.ifCond .eq 7, 3) := by decide +kernel
theorem dX8_steps_23 : decode cX8_steps 23 = .ok (.iconst 0, 1) := by decide +kernel
theorem dX8_steps_24 : decode cX8_steps 24 = .ok (.goto 4, 3) := by decide +kernel
theorem dX8_steps_27 : decode cX8_steps 27 = .ok (.iconst 2, 1) := by decide +kernel
theorem dX8_steps_28 : decode cX8_steps 28 = .ok (.invokevirtual 112, 3) := by decide +kernel
theorem dX8_steps_31 : decode cX8_steps 31 = .ok (.ifCond .eq 13, 3) := by decide +kernel
theorem dX8_steps_34 : decode cX8_steps 34 = .ok (.aload_n 0, 1) := by decide +kernel
theorem dX8_steps_35 : decode cX8_steps 35 = .ok (.getfield 54, 3) := by decide +kernel
theorem dX8_steps_38 : decode cX8_steps 38 = .ok (.iload_n 1, 1) := by decide +kernel
theorem dX8_steps_39 : decode cX8_steps 39 = .ok (.laload, 1) := by decide +kernel
theorem dX8_steps_40 : decode cX8_steps 40 = .ok (.l2i, 1) := by decide +kernel
theorem dX8_steps_41 : decode cX8_steps 41 = .ok (.goto 4, 3) := by decide +kernel
theorem dX8_steps_44 : decode cX8_steps 44 = .ok (.iconst 0, 1) := by decide +kernel
theorem dX8_steps_45 : decode cX8_steps 45 = .ok (.ireturn, 1) := by decide +kernel
theorem dX8_same_0 : decode cX8_same 0 = .ok (.aload_n 0, 1) := by decide +kernel
theorem dX8_same_1 : decode cX8_same 1 = .ok (.iload_n 1, 1) := by decide +kernel
theorem dX8_same_2 : decode cX8_same 2 = .ok (.invokevirtual 121, 3) := by decide +kernel
theorem dX8_same_5 : decode cX8_same 5 = .ok (.ifCond .eq 15, 3) := by decide +kernel
theorem dX8_same_8 : decode cX8_same 8 = .ok (.aload_n 0, 1) := by decide +kernel
theorem dX8_same_9 : decode cX8_same 9 = .ok (.iload_n 2, 1) := by decide +kernel
theorem dX8_same_10 : decode cX8_same 10 = .ok (.invokevirtual 121, 3) := by decide +kernel
theorem dX8_same_13 : decode cX8_same 13 = .ok (.ifCond .eq 7, 3) := by decide +kernel
theorem dX8_same_16 : decode cX8_same 16 = .ok (.iconst 1, 1) := by decide +kernel
theorem dX8_same_17 : decode cX8_same 17 = .ok (.goto 4, 3) := by decide +kernel
theorem dX8_same_20 : decode cX8_same 20 = .ok (.iconst 0, 1) := by decide +kernel
theorem dX8_same_21 : decode cX8_same 21 = .ok (.istore_n 3, 1) := by decide +kernel
theorem dX8_same_22 : decode cX8_same 22 = .ok (.aload_n 0, 1) := by decide +kernel
theorem dX8_same_23 : decode cX8_same 23 = .ok (.iload_n 3, 1) := by decide +kernel
theorem dX8_same_24 : decode cX8_same 24 = .ok (.ifCond .ne 7, 3) := by decide +kernel
theorem dX8_same_27 : decode cX8_same 27 = .ok (.iconst 1, 1) := by decide +kernel
theorem dX8_same_28 : decode cX8_same 28 = .ok (.goto 16, 3) := by decide +kernel
theorem dX8_same_31 : decode cX8_same 31 = .ok (.aload_n 0, 1) := by decide +kernel
theorem dX8_same_32 : decode cX8_same 32 = .ok (.iload_n 1, 1) := by decide +kernel
theorem dX8_same_33 : decode cX8_same 33 = .ok (.invokevirtual 202, 3) := by decide +kernel
theorem dX8_same_36 : decode cX8_same 36 = .ok (.ifCond .eq 7, 3) := by decide +kernel
theorem dX8_same_39 : decode cX8_same 39 = .ok (.iconst 0, 1) := by decide +kernel
theorem dX8_same_40 : decode cX8_same 40 = .ok (.goto 4, 3) := by decide +kernel
theorem dX8_same_43 : decode cX8_same 43 = .ok (.iconst 2, 1) := by decide +kernel
theorem dX8_same_44 : decode cX8_same 44 = .ok (.invokevirtual 112, 3) := by decide +kernel
theorem dX8_same_47 : decode cX8_same 47 = .ok (.ifCond .ne 5, 3) := by decide +kernel
theorem dX8_same_50 : decode cX8_same 50 = .ok (.iconst 0, 1) := by decide +kernel
theorem dX8_same_51 : decode cX8_same 51 = .ok (.ireturn, 1) := by decide +kernel
theorem dX8_same_52 : decode cX8_same 52 = .ok (.aload_n 0, 1) := by decide +kernel
theorem dX8_same_53 : decode cX8_same 53 = .ok (.getfield 51, 3) := by decide +kernel
theorem dX8_same_56 : decode cX8_same 56 = .ok (.iload_n 1, 1) := by decide +kernel
theorem dX8_same_57 : decode cX8_same 57 = .ok (.iaload, 1) := by decide +kernel
theorem dX8_same_58 : decode cX8_same 58 = .ok (.istore 4, 2) := by decide +kernel
theorem dX8_same_60 : decode cX8_same 60 = .ok (.iconst 0, 1) := by decide +kernel
theorem dX8_same_61 : decode cX8_same 61 = .ok (.istore 5, 2) := by decide +kernel
theorem dX8_same_63 : decode cX8_same 63 = .ok (.iload 5, 2) := by decide +kernel
theorem dX8_same_65 : decode cX8_same 65 = .ok (.sipush 1200, 3) := by decide +kernel
theorem dX8_same_68 : decode cX8_same 68 = .ok (.if_icmp .ge 29, 3) := by decide +kernel
theorem dX8_same_71 : decode cX8_same 71 = .ok (.aload_n 0, 1) := by decide +kernel
theorem dX8_same_72 : decode cX8_same 72 = .ok (.getfield 68, 3) := by decide +kernel
theorem dX8_same_75 : decode cX8_same 75 = .ok (.iload 5, 2) := by decide +kernel
theorem dX8_same_77 : decode cX8_same 77 = .ok (.aload_n 0, 1) := by decide +kernel
theorem dX8_same_78 : decode cX8_same 78 = .ok (.getfield 58, 3) := by decide +kernel
theorem dX8_same_81 : decode cX8_same 81 = .ok (.sipush 1200, 3) := by decide +kernel
theorem dX8_same_84 : decode cX8_same 84 = .ok (.iload_n 1, 1) := by decide +kernel
theorem dX8_same_85 : decode cX8_same 85 = .ok (.imul, 1) := by decide +kernel
theorem dX8_same_86 : decode cX8_same 86 = .ok (.iload 5, 2) := by decide +kernel
theorem dX8_same_88 : decode cX8_same 88 = .ok (.iadd, 1) := by decide +kernel
theorem dX8_same_89 : decode cX8_same 89 = .ok (.iaload, 1) := by decide +kernel
theorem dX8_same_90 : decode cX8_same 90 = .ok (.iastore, 1) := by decide +kernel
theorem dX8_same_91 : decode cX8_same 91 = .ok (.iinc 5 1, 3) := by decide +kernel
theorem dX8_same_94 : decode cX8_same 94 = .ok (.goto (-31), 3) := by decide +kernel
theorem dX8_same_97 : decode cX8_same 97 = .ok (.aload_n 0, 1) := by decide +kernel
theorem dX8_same_98 : decode cX8_same 98 = .ok (.aload_n 0, 1) := by decide +kernel
theorem dX8_same_99 : decode cX8_same 99 = .ok (.iload_n 2, 1) := by decide +kernel
theorem dX8_same_100 : decode cX8_same 100 = .ok (.invokevirtual 202, 3) := by decide +kernel
theorem dX8_same_103 : decode cX8_same 103 = .ok (.ifCond .eq 7, 3) := by decide +kernel
theorem dX8_same_106 : decode cX8_same 106 = .ok (.iconst 0, 1) := by decide +kernel
theorem dX8_same_107 : decode cX8_same 107 = .ok (.goto 4, 3) := by decide +kernel
theorem dX8_same_110 : decode cX8_same 110 = .ok (.iconst 2, 1) := by decide +kernel
theorem dX8_same_111 : decode cX8_same 111 = .ok (.invokevirtual 112, 3) := by decide +kernel
theorem dX8_same_114 : decode cX8_same 114 = .ok (.ifCond .eq 29, 3) := by decide +kernel
theorem dX8_same_117 : decode cX8_same 117 = .ok (.aload_n 0, 1) := by decide +kernel
theorem dX8_same_118 : decode cX8_same 118 = .ok (.getfield 37, 3) := by decide +kernel
theorem dX8_same_121 : decode cX8_same 121 = .ok (.iload_n 1, 1) := by decide +kernel
theorem dX8_same_122 : decode cX8_same 122 = .ok (.iaload, 1) := by decide +kernel
theorem dX8_same_123 : decode cX8_same 123 = .ok (.aload_n 0, 1) := by decide +kernel
theorem dX8_same_124 : decode cX8_same 124 = .ok (.getfield 37, 3) := by decide +kernel
theorem dX8_same_127 : decode cX8_same 127 = .ok (.iload_n 2, 1) := by decide +kernel
theorem dX8_same_128 : decode cX8_same 128 = .ok (.iaload, 1) := by decide +kernel
theorem dX8_same_129 : decode cX8_same 129 = .ok (.if_icmp .ne 14, 3) := by decide +kernel
theorem dX8_same_132 : decode cX8_same 132 = .ok (.iload 4, 2) := by decide +kernel
theorem dX8_same_134 : decode cX8_same 134 = .ok (.aload_n 0, 1) := by decide +kernel
theorem dX8_same_135 : decode cX8_same 135 = .ok (.getfield 51, 3) := by decide +kernel
theorem dX8_same_138 : decode cX8_same 138 = .ok (.iload_n 2, 1) := by decide +kernel
theorem dX8_same_139 : decode cX8_same 139 = .ok (.iaload, 1) := by decide +kernel
theorem dX8_same_140 : decode cX8_same 140 = .ok (.if_icmp .eq 5, 3) := by decide +kernel
theorem dX8_same_143 : decode cX8_same 143 = .ok (.iconst 0, 1) := by decide +kernel
theorem dX8_same_144 : decode cX8_same 144 = .ok (.ireturn, 1) := by decide +kernel
theorem dX8_same_145 : decode cX8_same 145 = .ok (.aload_n 0, 1) := by decide +kernel
theorem dX8_same_146 : decode cX8_same 146 = .ok (.getfield 65, 3) := by decide +kernel
theorem dX8_same_149 : decode cX8_same 149 = .ok (.iconst 0, 1) := by decide +kernel
theorem dX8_same_150 : decode cX8_same 150 = .ok (.invokestatic 166, 3) := by decide +kernel
theorem dX8_same_153 : decode cX8_same 153 = .ok (.iconst 0, 1) := by decide +kernel
theorem dX8_same_154 : decode cX8_same 154 = .ok (.istore 5, 2) := by decide +kernel
theorem dX8_same_156 : decode cX8_same 156 = .ok (.iload 5, 2) := by decide +kernel
theorem dX8_same_158 : decode cX8_same 158 = .ok (.iload 4, 2) := by decide +kernel
theorem dX8_same_160 : decode cX8_same 160 = .ok (.if_icmp .ge 64, 3) := by decide +kernel
theorem dX8_same_163 : decode cX8_same 163 = .ok (.iconst 0, 1) := by decide +kernel
theorem dX8_same_164 : decode cX8_same 164 = .ok (.istore 6, 2) := by decide +kernel
theorem dX8_same_166 : decode cX8_same 166 = .ok (.iload 6, 2) := by decide +kernel
theorem dX8_same_168 : decode cX8_same 168 = .ok (.iload 4, 2) := by decide +kernel
theorem dX8_same_170 : decode cX8_same 170 = .ok (.if_icmp .ge 31, 3) := by decide +kernel
theorem dX8_same_173 : decode cX8_same 173 = .ok (.aload_n 0, 1) := by decide +kernel
theorem dX8_same_174 : decode cX8_same 174 = .ok (.getfield 65, 3) := by decide +kernel
theorem dX8_same_177 : decode cX8_same 177 = .ok (.iload 6, 2) := by decide +kernel
theorem dX8_same_179 : decode cX8_same 179 = .ok (.baload, 1) := by decide +kernel
theorem dX8_same_180 : decode cX8_same 180 = .ok (.ifCond .ne 15, 3) := by decide +kernel
theorem dX8_same_183 : decode cX8_same 183 = .ok (.aload_n 0, 1) := by decide +kernel
theorem dX8_same_184 : decode cX8_same 184 = .ok (.iload 5, 2) := by decide +kernel
theorem dX8_same_186 : decode cX8_same 186 = .ok (.iload_n 2, 1) := by decide +kernel
theorem dX8_same_187 : decode cX8_same 187 = .ok (.iload 6, 2) := by decide +kernel
theorem dX8_same_189 : decode cX8_same 189 = .ok (.invokevirtual 205, 3) := by decide +kernel
theorem dX8_same_192 : decode cX8_same 192 = .ok (.ifCond .ne 9, 3) := by decide +kernel
theorem dX8_same_195 : decode cX8_same 195 = .ok (.iinc 6 1, 3) := by decide +kernel
theorem dX8_same_198 : decode cX8_same 198 = .ok (.goto (-32), 3) := by decide +kernel
theorem dX8_same_201 : decode cX8_same 201 = .ok (.iload 6, 2) := by decide +kernel
theorem dX8_same_203 : decode cX8_same 203 = .ok (.iload 4, 2) := by decide +kernel
theorem dX8_same_205 : decode cX8_same 205 = .ok (.if_icmp .ne 5, 3) := by decide +kernel
theorem dX8_same_208 : decode cX8_same 208 = .ok (.iconst 0, 1) := by decide +kernel
theorem dX8_same_209 : decode cX8_same 209 = .ok (.ireturn, 1) := by decide +kernel
theorem dX8_same_210 : decode cX8_same 210 = .ok (.aload_n 0, 1) := by decide +kernel
theorem dX8_same_211 : decode cX8_same 211 = .ok (.getfield 65, 3) := by decide +kernel
theorem dX8_same_214 : decode cX8_same 214 = .ok (.iload 6, 2) := by decide +kernel
theorem dX8_same_216 : decode cX8_same 216 = .ok (.iconst 1, 1) := by decide +kernel
theorem dX8_same_217 : decode cX8_same 217 = .ok (.bastore, 1) := by decide +kernel
theorem dX8_same_218 : decode cX8_same 218 = .ok (.iinc 5 1, 3) := by decide +kernel
theorem dX8_same_221 : decode cX8_same 221 = .ok (.goto (-65), 3) := by decide +kernel
theorem dX8_same_224 : decode cX8_same 224 = .ok (.iconst 1, 1) := by decide +kernel
theorem dX8_same_225 : decode cX8_same 225 = .ok (.ireturn, 1) := by decide +kernel
theorem dX8_isKept_0 : decode cX8_isKept 0 = .ok (.iconst 1, 1) := by decide +kernel
theorem dX8_isKept_1 : decode cX8_isKept 1 = .ok (.istore 4, 2) := by decide +kernel
theorem dX8_isKept_3 : decode cX8_isKept 3 = .ok (.iconst 0, 1) := by decide +kernel
theorem dX8_isKept_4 : decode cX8_isKept 4 = .ok (.istore 5, 2) := by decide +kernel
theorem dX8_isKept_6 : decode cX8_isKept 6 = .ok (.iload 5, 2) := by decide +kernel
theorem dX8_isKept_8 : decode cX8_isKept 8 = .ok (.aload_n 0, 1) := by decide +kernel
theorem dX8_isKept_9 : decode cX8_isKept 9 = .ok (.getfield 37, 3) := by decide +kernel
theorem dX8_isKept_12 : decode cX8_isKept 12 = .ok (.iload_n 2, 1) := by decide +kernel
theorem dX8_isKept_13 : decode cX8_isKept 13 = .ok (.iaload, 1) := by decide +kernel
theorem dX8_isKept_14 : decode cX8_isKept 14 = .ok (.if_icmp .ge 44, 3) := by decide +kernel
theorem dX8_isKept_17 : decode cX8_isKept 17 = .ok (.iload 4, 2) := by decide +kernel
theorem dX8_isKept_19 : decode cX8_isKept 19 = .ok (.ifCond .eq 30, 3) := by decide +kernel
theorem dX8_isKept_22 : decode cX8_isKept 22 = .ok (.aload_n 0, 1) := by decide +kernel
theorem dX8_isKept_23 : decode cX8_isKept 23 = .ok (.getfield 68, 3) := by decide +kernel
theorem dX8_isKept_26 : decode cX8_isKept 26 = .ok (.bipush 6, 2) := by decide +kernel
theorem dX8_isKept_28 : decode cX8_isKept 28 = .ok (.iload_n 1, 1) := by decide +kernel
theorem dX8_isKept_29 : decode cX8_isKept 29 = .ok (.imul, 1) := by decide +kernel
theorem dX8_isKept_30 : decode cX8_isKept 30 = .ok (.iload 5, 2) := by decide +kernel
theorem dX8_isKept_32 : decode cX8_isKept 32 = .ok (.iadd, 1) := by decide +kernel
theorem dX8_isKept_33 : decode cX8_isKept 33 = .ok (.iaload, 1) := by decide +kernel
theorem dX8_isKept_34 : decode cX8_isKept 34 = .ok (.aload_n 0, 1) := by decide +kernel
theorem dX8_isKept_35 : decode cX8_isKept 35 = .ok (.iload_n 2, 1) := by decide +kernel
theorem dX8_isKept_36 : decode cX8_isKept 36 = .ok (.iload_n 3, 1) := by decide +kernel
theorem dX8_isKept_37 : decode cX8_isKept 37 = .ok (.iload 5, 2) := by decide +kernel
theorem dX8_isKept_39 : decode cX8_isKept 39 = .ok (.invokevirtual 144, 3) := by decide +kernel
theorem dX8_isKept_42 : decode cX8_isKept 42 = .ok (.if_icmp .ne 7, 3) := by decide +kernel
theorem dX8_isKept_45 : decode cX8_isKept 45 = .ok (.iconst 1, 1) := by decide +kernel
theorem dX8_isKept_46 : decode cX8_isKept 46 = .ok (.goto 4, 3) := by decide +kernel
theorem dX8_isKept_49 : decode cX8_isKept 49 = .ok (.iconst 0, 1) := by decide +kernel
theorem dX8_isKept_50 : decode cX8_isKept 50 = .ok (.istore 4, 2) := by decide +kernel
theorem dX8_isKept_52 : decode cX8_isKept 52 = .ok (.iinc 5 1, 3) := by decide +kernel
theorem dX8_isKept_55 : decode cX8_isKept 55 = .ok (.goto (-49), 3) := by decide +kernel
theorem dX8_isKept_58 : decode cX8_isKept 58 = .ok (.iload 4, 2) := by decide +kernel
theorem dX8_isKept_60 : decode cX8_isKept 60 = .ok (.ireturn, 1) := by decide +kernel
theorem dX8_budget_0 : decode cX8_budget 0 = .ok (.aload_n 0, 1) := by decide +kernel
theorem dX8_budget_1 : decode cX8_budget 1 = .ok (.iload_n 1, 1) := by decide +kernel
theorem dX8_budget_2 : decode cX8_budget 2 = .ok (.iconst 1, 1) := by decide +kernel
theorem dX8_budget_3 : decode cX8_budget 3 = .ok (.ldc 40, 2) := by decide +kernel
theorem dX8_budget_5 : decode cX8_budget 5 = .ok (.invokestatic 104, 3) := by decide +kernel
theorem dX8_budget_8 : decode cX8_budget 8 = .ok (.ifCond .eq 7, 3) := by decide +kernel
theorem dX8_budget_11 : decode cX8_budget 11 = .ok (.iconst 0, 1) := by decide +kernel
theorem dX8_budget_12 : decode cX8_budget 12 = .ok (.goto 4, 3) := by decide +kernel
theorem dX8_budget_15 : decode cX8_budget 15 = .ok (.iconst 1, 1) := by decide +kernel
theorem dX8_budget_16 : decode cX8_budget 16 = .ok (.invokevirtual 112, 3) := by decide +kernel
theorem dX8_budget_19 : decode cX8_budget 19 = .ok (.ifCond .ne 5, 3) := by decide +kernel
theorem dX8_budget_22 : decode cX8_budget 22 = .ok (.iconst 0, 1) := by decide +kernel
theorem dX8_budget_23 : decode cX8_budget 23 = .ok (.ireturn, 1) := by decide +kernel
theorem dX8_budget_24 : decode cX8_budget 24 = .ok (.aload_n 0, 1) := by decide +kernel
theorem dX8_budget_25 : decode cX8_budget 25 = .ok (.getfield 41, 3) := by decide +kernel
theorem dX8_budget_28 : decode cX8_budget 28 = .ok (.istore_n 2, 1) := by decide +kernel
theorem dX8_budget_29 : decode cX8_budget 29 = .ok (.aload_n 0, 1) := by decide +kernel
theorem dX8_budget_30 : decode cX8_budget 30 = .ok (.iload_n 1, 1) := by decide +kernel
theorem dX8_budget_31 : decode cX8_budget 31 = .ok (.putfield 41, 3) := by decide +kernel
theorem dX8_budget_34 : decode cX8_budget 34 = .ok (.iload_n 2, 1) := by decide +kernel
theorem dX8_budget_35 : decode cX8_budget 35 = .ok (.ireturn, 1) := by decide +kernel
theorem dX8_node_0 : decode cX8_node 0 = .ok (.aload_n 0, 1) := by decide +kernel
theorem dX8_node_1 : decode cX8_node 1 = .ok (.iload_n 1, 1) := by decide +kernel
theorem dX8_node_2 : decode cX8_node 2 = .ok (.invokevirtual 121, 3) := by decide +kernel
theorem dX8_node_5 : decode cX8_node 5 = .ok (.istore_n 3, 1) := by decide +kernel
theorem dX8_node_6 : decode cX8_node 6 = .ok (.aload_n 0, 1) := by decide +kernel
theorem dX8_node_7 : decode cX8_node 7 = .ok (.iload_n 3, 1) := by decide +kernel
theorem dX8_node_8 : decode cX8_node 8 = .ok (.ifCond .ne 7, 3) := by decide +kernel
theorem dX8_node_11 : decode cX8_node 11 = .ok (.iconst 1, 1) := by decide +kernel
theorem dX8_node_12 : decode cX8_node 12 = .ok (.goto 17, 3) := by decide +kernel
theorem dX8_node_15 : decode cX8_node 15 = .ok (.iload_n 2, 1) := by decide +kernel
theorem dX8_node_16 : decode cX8_node 16 = .ok (.iconst 0, 1) := by decide +kernel
theorem dX8_node_17 : decode cX8_node 17 = .ok (.iconst 3, 1) := by decide +kernel
theorem dX8_node_18 : decode cX8_node 18 = .ok (.invokestatic 104, 3) := by decide +kernel
theorem dX8_node_21 : decode cX8_node 21 = .ok (.ifCond .eq 7, 3) := by decide +kernel
theorem dX8_node_24 : decode cX8_node 24 = .ok (.iconst 0, 1) := by decide +kernel
theorem dX8_node_25 : decode cX8_node 25 = .ok (.goto 4, 3) := by decide +kernel
theorem dX8_node_28 : decode cX8_node 28 = .ok (.iconst 2, 1) := by decide +kernel
theorem dX8_node_29 : decode cX8_node 29 = .ok (.invokevirtual 112, 3) := by decide +kernel
theorem dX8_node_32 : decode cX8_node 32 = .ok (.ifCond .ne 5, 3) := by decide +kernel
theorem dX8_node_35 : decode cX8_node 35 = .ok (.iconst 0, 1) := by decide +kernel
theorem dX8_node_36 : decode cX8_node 36 = .ok (.ireturn, 1) := by decide +kernel
theorem dX8_node_37 : decode cX8_node 37 = .ok (.iload_n 2, 1) := by decide +kernel
theorem dX8_node_38 : decode cX8_node 38 = .ok (.ifCond .ne 12, 3) := by decide +kernel
theorem dX8_node_41 : decode cX8_node 41 = .ok (.aload_n 0, 1) := by decide +kernel
theorem dX8_node_42 : decode cX8_node 42 = .ok (.getfield 19, 3) := by decide +kernel
theorem dX8_node_45 : decode cX8_node 45 = .ok (.iload_n 1, 1) := by decide +kernel
theorem dX8_node_46 : decode cX8_node 46 = .ok (.iaload, 1) := by decide +kernel
theorem dX8_node_47 : decode cX8_node 47 = .ok (.goto 37, 3) := by decide +kernel
theorem dX8_node_50 : decode cX8_node 50 = .ok (.iload_n 2, 1) := by decide +kernel
theorem dX8_node_51 : decode cX8_node 51 = .ok (.iconst 1, 1) := by decide +kernel
theorem dX8_node_52 : decode cX8_node 52 = .ok (.if_icmp .ne 12, 3) := by decide +kernel
theorem dX8_node_55 : decode cX8_node 55 = .ok (.aload_n 0, 1) := by decide +kernel
theorem dX8_node_56 : decode cX8_node 56 = .ok (.getfield 22, 3) := by decide +kernel
theorem dX8_node_59 : decode cX8_node 59 = .ok (.iload_n 1, 1) := by decide +kernel
theorem dX8_node_60 : decode cX8_node 60 = .ok (.iaload, 1) := by decide +kernel
theorem dX8_node_61 : decode cX8_node 61 = .ok (.goto 23, 3) := by decide +kernel
theorem dX8_node_64 : decode cX8_node 64 = .ok (.iload_n 2, 1) := by decide +kernel
theorem dX8_node_65 : decode cX8_node 65 = .ok (.iconst 2, 1) := by decide +kernel
theorem dX8_node_66 : decode cX8_node 66 = .ok (.if_icmp .ne 12, 3) := by decide +kernel
theorem dX8_node_69 : decode cX8_node 69 = .ok (.aload_n 0, 1) := by decide +kernel
theorem dX8_node_70 : decode cX8_node 70 = .ok (.getfield 25, 3) := by decide +kernel
theorem dX8_node_73 : decode cX8_node 73 = .ok (.iload_n 1, 1) := by decide +kernel
theorem dX8_node_74 : decode cX8_node 74 = .ok (.iaload, 1) := by decide +kernel
theorem dX8_node_75 : decode cX8_node 75 = .ok (.goto 9, 3) := by decide +kernel
theorem dX8_node_78 : decode cX8_node 78 = .ok (.aload_n 0, 1) := by decide +kernel
theorem dX8_node_79 : decode cX8_node 79 = .ok (.getfield 37, 3) := by decide +kernel
theorem dX8_node_82 : decode cX8_node 82 = .ok (.iload_n 1, 1) := by decide +kernel
theorem dX8_node_83 : decode cX8_node 83 = .ok (.iaload, 1) := by decide +kernel
theorem dX8_node_84 : decode cX8_node 84 = .ok (.ireturn, 1) := by decide +kernel
theorem dX8_longer_0 : decode cX8_longer 0 = .ok (.iconst 2, 1) := by decide +kernel
theorem dX8_longer_1 : decode cX8_longer 1 = .ok (.aload_n 0, 1) := by decide +kernel
theorem dX8_longer_2 : decode cX8_longer 2 = .ok (.arraylength, 1) := by decide +kernel
theorem dX8_longer_3 : decode cX8_longer 3 = .ok (.imul, 1) := by decide +kernel
theorem dX8_longer_4 : decode cX8_longer 4 = .ok (.newarray .int, 2) := by decide +kernel
theorem dX8_longer_6 : decode cX8_longer 6 = .ok (.astore_n 1, 1) := by decide +kernel
theorem dX8_longer_7 : decode cX8_longer 7 = .ok (.iconst 0, 1) := by decide +kernel
theorem dX8_longer_8 : decode cX8_longer 8 = .ok (.istore_n 2, 1) := by decide +kernel
theorem dX8_longer_9 : decode cX8_longer 9 = .ok (.iload_n 2, 1) := by decide +kernel
theorem dX8_longer_10 : decode cX8_longer 10 = .ok (.aload_n 0, 1) := by decide +kernel
theorem dX8_longer_11 : decode cX8_longer 11 = .ok (.arraylength, 1) := by decide +kernel
theorem dX8_longer_12 : decode cX8_longer 12 = .ok (.if_icmp .ge 15, 3) := by decide +kernel
theorem dX8_longer_15 : decode cX8_longer 15 = .ok (.aload_n 1, 1) := by decide +kernel
theorem dX8_longer_16 : decode cX8_longer 16 = .ok (.iload_n 2, 1) := by decide +kernel
theorem dX8_longer_17 : decode cX8_longer 17 = .ok (.aload_n 0, 1) := by decide +kernel
theorem dX8_longer_18 : decode cX8_longer 18 = .ok (.iload_n 2, 1) := by decide +kernel
theorem dX8_longer_19 : decode cX8_longer 19 = .ok (.iaload, 1) := by decide +kernel
theorem dX8_longer_20 : decode cX8_longer 20 = .ok (.iastore, 1) := by decide +kernel
theorem dX8_longer_21 : decode cX8_longer 21 = .ok (.iinc 2 1, 3) := by decide +kernel
theorem dX8_longer_24 : decode cX8_longer 24 = .ok (.goto (-15), 3) := by decide +kernel
theorem dX8_longer_27 : decode cX8_longer 27 = .ok (.aload_n 1, 1) := by decide +kernel
theorem dX8_longer_28 : decode cX8_longer 28 = .ok (.areturn, 1) := by decide +kernel
theorem dX8_listOf_0 : decode cX8_listOf 0 = .ok (.iconst 0, 1) := by decide +kernel
theorem dX8_listOf_1 : decode cX8_listOf 1 = .ok (.istore_n 3, 1) := by decide +kernel
theorem dX8_listOf_2 : decode cX8_listOf 2 = .ok (.iload_n 3, 1) := by decide +kernel
theorem dX8_listOf_3 : decode cX8_listOf 3 = .ok (.aload_n 0, 1) := by decide +kernel
theorem dX8_listOf_4 : decode cX8_listOf 4 = .ok (.getfield 208, 3) := by decide +kernel
theorem dX8_listOf_7 : decode cX8_listOf 7 = .ok (.if_icmp .ge 31, 3) := by decide +kernel
theorem dX8_listOf_10 : decode cX8_listOf 10 = .ok (.aload_n 0, 1) := by decide +kernel
theorem dX8_listOf_11 : decode cX8_listOf 11 = .ok (.getfield 71, 3) := by decide +kernel
theorem dX8_listOf_14 : decode cX8_listOf 14 = .ok (.iload_n 3, 1) := by decide +kernel
theorem dX8_listOf_15 : decode cX8_listOf 15 = .ok (.iaload, 1) := by decide +kernel
theorem dX8_listOf_16 : decode cX8_listOf 16 = .ok (.iload_n 1, 1) := by decide +kernel
theorem dX8_listOf_17 : decode cX8_listOf 17 = .ok (.if_icmp .ne 15, 3) := by decide +kernel
theorem dX8_listOf_20 : decode cX8_listOf 20 = .ok (.aload_n 0, 1) := by decide +kernel
theorem dX8_listOf_21 : decode cX8_listOf 21 = .ok (.getfield 74, 3) := by decide +kernel
theorem dX8_listOf_24 : decode cX8_listOf 24 = .ok (.iload_n 3, 1) := by decide +kernel
theorem dX8_listOf_25 : decode cX8_listOf 25 = .ok (.iaload, 1) := by decide +kernel
theorem dX8_listOf_26 : decode cX8_listOf 26 = .ok (.iload_n 2, 1) := by decide +kernel
theorem dX8_listOf_27 : decode cX8_listOf 27 = .ok (.if_icmp .ne 5, 3) := by decide +kernel
theorem dX8_listOf_30 : decode cX8_listOf 30 = .ok (.iload_n 3, 1) := by decide +kernel
theorem dX8_listOf_31 : decode cX8_listOf 31 = .ok (.ireturn, 1) := by decide +kernel
theorem dX8_listOf_32 : decode cX8_listOf 32 = .ok (.iinc 3 1, 3) := by decide +kernel
theorem dX8_listOf_35 : decode cX8_listOf 35 = .ok (.goto (-33), 3) := by decide +kernel
theorem dX8_listOf_38 : decode cX8_listOf 38 = .ok (.aload_n 0, 1) := by decide +kernel
theorem dX8_listOf_39 : decode cX8_listOf 39 = .ok (.getfield 208, 3) := by decide +kernel
theorem dX8_listOf_42 : decode cX8_listOf 42 = .ok (.aload_n 0, 1) := by decide +kernel
theorem dX8_listOf_43 : decode cX8_listOf 43 = .ok (.getfield 71, 3) := by decide +kernel
theorem dX8_listOf_46 : decode cX8_listOf 46 = .ok (.arraylength, 1) := by decide +kernel
theorem dX8_listOf_47 : decode cX8_listOf 47 = .ok (.if_icmp .ne 25, 3) := by decide +kernel
theorem dX8_listOf_50 : decode cX8_listOf 50 = .ok (.aload_n 0, 1) := by decide +kernel
theorem dX8_listOf_51 : decode cX8_listOf 51 = .ok (.aload_n 0, 1) := by decide +kernel
theorem dX8_listOf_52 : decode cX8_listOf 52 = .ok (.getfield 71, 3) := by decide +kernel
theorem dX8_listOf_55 : decode cX8_listOf 55 = .ok (.invokestatic 211, 3) := by decide +kernel
theorem dX8_listOf_58 : decode cX8_listOf 58 = .ok (.putfield 71, 3) := by decide +kernel
theorem dX8_listOf_61 : decode cX8_listOf 61 = .ok (.aload_n 0, 1) := by decide +kernel
theorem dX8_listOf_62 : decode cX8_listOf 62 = .ok (.aload_n 0, 1) := by decide +kernel
theorem dX8_listOf_63 : decode cX8_listOf 63 = .ok (.getfield 74, 3) := by decide +kernel
theorem dX8_listOf_66 : decode cX8_listOf 66 = .ok (.invokestatic 211, 3) := by decide +kernel
theorem dX8_listOf_69 : decode cX8_listOf 69 = .ok (.putfield 74, 3) := by decide +kernel
theorem dX8_listOf_72 : decode cX8_listOf 72 = .ok (.aload_n 0, 1) := by decide +kernel
theorem dX8_listOf_73 : decode cX8_listOf 73 = .ok (.getfield 71, 3) := by decide +kernel
theorem dX8_listOf_76 : decode cX8_listOf 76 = .ok (.aload_n 0, 1) := by decide +kernel
theorem dX8_listOf_77 : decode cX8_listOf 77 = .ok (.getfield 208, 3) := by decide +kernel
theorem dX8_listOf_80 : decode cX8_listOf 80 = .ok (.iload_n 1, 1) := by decide +kernel
theorem dX8_listOf_81 : decode cX8_listOf 81 = .ok (.iastore, 1) := by decide +kernel
theorem dX8_listOf_82 : decode cX8_listOf 82 = .ok (.aload_n 0, 1) := by decide +kernel
theorem dX8_listOf_83 : decode cX8_listOf 83 = .ok (.getfield 74, 3) := by decide +kernel
theorem dX8_listOf_86 : decode cX8_listOf 86 = .ok (.aload_n 0, 1) := by decide +kernel
theorem dX8_listOf_87 : decode cX8_listOf 87 = .ok (.getfield 208, 3) := by decide +kernel
theorem dX8_listOf_90 : decode cX8_listOf 90 = .ok (.iload_n 2, 1) := by decide +kernel
theorem dX8_listOf_91 : decode cX8_listOf 91 = .ok (.iastore, 1) := by decide +kernel
theorem dX8_listOf_92 : decode cX8_listOf 92 = .ok (.aload_n 0, 1) := by decide +kernel
theorem dX8_listOf_93 : decode cX8_listOf 93 = .ok (.dup, 1) := by decide +kernel
theorem dX8_listOf_94 : decode cX8_listOf 94 = .ok (.getfield 208, 3) := by decide +kernel
theorem dX8_listOf_97 : decode cX8_listOf 97 = .ok (.iconst 1, 1) := by decide +kernel
theorem dX8_listOf_98 : decode cX8_listOf 98 = .ok (.iadd, 1) := by decide +kernel
theorem dX8_listOf_99 : decode cX8_listOf 99 = .ok (.putfield 208, 3) := by decide +kernel
theorem dX8_listOf_102 : decode cX8_listOf 102 = .ok (.aload_n 0, 1) := by decide +kernel
theorem dX8_listOf_103 : decode cX8_listOf 103 = .ok (.getfield 208, 3) := by decide +kernel
theorem dX8_listOf_106 : decode cX8_listOf 106 = .ok (.iconst 1, 1) := by decide +kernel
theorem dX8_listOf_107 : decode cX8_listOf 107 = .ok (.isub, 1) := by decide +kernel
theorem dX8_listOf_108 : decode cX8_listOf 108 = .ok (.ireturn, 1) := by decide +kernel
theorem dX8_isOfSecond_0 : decode cX8_isOfSecond 0 = .ok (.iload_n 2, 1) := by decide +kernel
theorem dX8_isOfSecond_1 : decode cX8_isOfSecond 1 = .ok (.sipush 1200, 3) := by decide +kernel
theorem dX8_isOfSecond_4 : decode cX8_isOfSecond 4 = .ok (.idiv, 1) := by decide +kernel
theorem dX8_isOfSecond_5 : decode cX8_isOfSecond 5 = .ok (.aload_n 0, 1) := by decide +kernel
theorem dX8_isOfSecond_6 : decode cX8_isOfSecond 6 = .ok (.getfield 37, 3) := by decide +kernel
theorem dX8_isOfSecond_9 : decode cX8_isOfSecond 9 = .ok (.aload_n 0, 1) := by decide +kernel
theorem dX8_isOfSecond_10 : decode cX8_isOfSecond 10 = .ok (.getfield 22, 3) := by decide +kernel
theorem dX8_isOfSecond_13 : decode cX8_isOfSecond 13 = .ok (.iload_n 1, 1) := by decide +kernel
theorem dX8_isOfSecond_14 : decode cX8_isOfSecond 14 = .ok (.iaload, 1) := by decide +kernel
theorem dX8_isOfSecond_15 : decode cX8_isOfSecond 15 = .ok (.iaload, 1) := by decide +kernel
theorem dX8_isOfSecond_16 : decode cX8_isOfSecond 16 = .ok (.if_icmp .lt 7, 3) := by decide +kernel
theorem dX8_isOfSecond_19 : decode cX8_isOfSecond 19 = .ok (.iconst 1, 1) := by decide +kernel
theorem dX8_isOfSecond_20 : decode cX8_isOfSecond 20 = .ok (.goto 4, 3) := by decide +kernel
theorem dX8_isOfSecond_23 : decode cX8_isOfSecond 23 = .ok (.iconst 0, 1) := by decide +kernel
theorem dX8_isOfSecond_24 : decode cX8_isOfSecond 24 = .ok (.ireturn, 1) := by decide +kernel
theorem dX8_sticks_0 : decode cX8_sticks 0 = .ok (.aload_n 0, 1) := by decide +kernel
theorem dX8_sticks_1 : decode cX8_sticks 1 = .ok (.getfield 34, 3) := by decide +kernel
theorem dX8_sticks_4 : decode cX8_sticks 4 = .ok (.iload_n 1, 1) := by decide +kernel
theorem dX8_sticks_5 : decode cX8_sticks 5 = .ok (.iaload, 1) := by decide +kernel
theorem dX8_sticks_6 : decode cX8_sticks 6 = .ok (.iconst 1, 1) := by decide +kernel
theorem dX8_sticks_7 : decode cX8_sticks 7 = .ok (.if_icmp .ne 21, 3) := by decide +kernel
theorem dX8_sticks_10 : decode cX8_sticks 10 = .ok (.aload_n 0, 1) := by decide +kernel
theorem dX8_sticks_11 : decode cX8_sticks 11 = .ok (.iload_n 1, 1) := by decide +kernel
theorem dX8_sticks_12 : decode cX8_sticks 12 = .ok (.iload_n 2, 1) := by decide +kernel
theorem dX8_sticks_13 : decode cX8_sticks 13 = .ok (.invokevirtual 215, 3) := by decide +kernel
theorem dX8_sticks_16 : decode cX8_sticks 16 = .ok (.ifCond .ne 8, 3) := by decide +kernel
theorem dX8_sticks_19 : decode cX8_sticks 19 = .ok (.iload_n 2, 1) := by decide +kernel
theorem dX8_sticks_20 : decode cX8_sticks 20 = .ok (.iload_n 3, 1) := by decide +kernel
theorem dX8_sticks_21 : decode cX8_sticks 21 = .ok (.if_icmp .gt 7, 3) := by decide +kernel
theorem dX8_sticks_24 : decode cX8_sticks 24 = .ok (.iconst 1, 1) := by decide +kernel
theorem dX8_sticks_25 : decode cX8_sticks 25 = .ok (.goto 4, 3) := by decide +kernel
theorem dX8_sticks_28 : decode cX8_sticks 28 = .ok (.iconst 0, 1) := by decide +kernel
theorem dX8_sticks_29 : decode cX8_sticks 29 = .ok (.ireturn, 1) := by decide +kernel
theorem dX8_partOf_0 : decode cX8_partOf 0 = .ok (.iload_n 1, 1) := by decide +kernel
theorem dX8_partOf_1 : decode cX8_partOf 1 = .ok (.iconst (-1), 1) := by decide +kernel
theorem dX8_partOf_2 : decode cX8_partOf 2 = .ok (.if_icmp .ne 5, 3) := by decide +kernel
theorem dX8_partOf_5 : decode cX8_partOf 5 = .ok (.iconst (-1), 1) := by decide +kernel
theorem dX8_partOf_6 : decode cX8_partOf 6 = .ok (.ireturn, 1) := by decide +kernel
theorem dX8_partOf_7 : decode cX8_partOf 7 = .ok (.aload_n 0, 1) := by decide +kernel
theorem dX8_partOf_8 : decode cX8_partOf 8 = .ok (.getfield 71, 3) := by decide +kernel
theorem dX8_partOf_11 : decode cX8_partOf 11 = .ok (.iload_n 1, 1) := by decide +kernel
theorem dX8_partOf_12 : decode cX8_partOf 12 = .ok (.iaload, 1) := by decide +kernel
theorem dX8_partOf_13 : decode cX8_partOf 13 = .ok (.istore 5, 2) := by decide +kernel
theorem dX8_partOf_15 : decode cX8_partOf 15 = .ok (.aload_n 0, 1) := by decide +kernel
theorem dX8_partOf_16 : decode cX8_partOf 16 = .ok (.iload_n 2, 1) := by decide +kernel
theorem dX8_partOf_17 : decode cX8_partOf 17 = .ok (.iload 5, 2) := by decide +kernel
theorem dX8_partOf_19 : decode cX8_partOf 19 = .ok (.iload 4, 2) := by decide +kernel
theorem dX8_partOf_21 : decode cX8_partOf 21 = .ok (.invokevirtual 218, 3) := by decide +kernel
theorem dX8_partOf_24 : decode cX8_partOf 24 = .ok (.istore 6, 2) := by decide +kernel
theorem dX8_partOf_26 : decode cX8_partOf 26 = .ok (.aload_n 0, 1) := by decide +kernel
theorem dX8_partOf_27 : decode cX8_partOf 27 = .ok (.aload_n 0, 1) := by decide +kernel
theorem dX8_partOf_28 : decode cX8_partOf 28 = .ok (.getfield 74, 3) := by decide +kernel
theorem dX8_partOf_31 : decode cX8_partOf 31 = .ok (.iload_n 1, 1) := by decide +kernel
theorem dX8_partOf_32 : decode cX8_partOf 32 = .ok (.iaload, 1) := by decide +kernel
theorem dX8_partOf_33 : decode cX8_partOf 33 = .ok (.iload_n 2, 1) := by decide +kernel
theorem dX8_partOf_34 : decode cX8_partOf 34 = .ok (.iload_n 3, 1) := by decide +kernel
theorem dX8_partOf_35 : decode cX8_partOf 35 = .ok (.iload 6, 2) := by decide +kernel
theorem dX8_partOf_37 : decode cX8_partOf 37 = .ok (.ifCond .eq 15, 3) := by decide +kernel
theorem dX8_partOf_40 : decode cX8_partOf 40 = .ok (.iload 5, 2) := by decide +kernel
theorem dX8_partOf_42 : decode cX8_partOf 42 = .ok (.iload 4, 2) := by decide +kernel
theorem dX8_partOf_44 : decode cX8_partOf 44 = .ok (.if_icmp .le 8, 3) := by decide +kernel
theorem dX8_partOf_47 : decode cX8_partOf 47 = .ok (.iload 5, 2) := by decide +kernel
theorem dX8_partOf_49 : decode cX8_partOf 49 = .ok (.goto 5, 3) := by decide +kernel
theorem dX8_partOf_52 : decode cX8_partOf 52 = .ok (.iload 4, 2) := by decide +kernel
theorem dX8_partOf_54 : decode cX8_partOf 54 = .ok (.invokevirtual 221, 3) := by decide +kernel
theorem dX8_partOf_57 : decode cX8_partOf 57 = .ok (.istore 7, 2) := by decide +kernel
theorem dX8_partOf_59 : decode cX8_partOf 59 = .ok (.iload 6, 2) := by decide +kernel
theorem dX8_partOf_61 : decode cX8_partOf 61 = .ok (.ifCond .ne 14, 3) := by decide +kernel
theorem dX8_partOf_64 : decode cX8_partOf 64 = .ok (.aload_n 0, 1) := by decide +kernel
theorem dX8_partOf_65 : decode cX8_partOf 65 = .ok (.iload_n 2, 1) := by decide +kernel
theorem dX8_partOf_66 : decode cX8_partOf 66 = .ok (.iload 5, 2) := by decide +kernel
theorem dX8_partOf_68 : decode cX8_partOf 68 = .ok (.invokevirtual 215, 3) := by decide +kernel
theorem dX8_partOf_71 : decode cX8_partOf 71 = .ok (.iload_n 3, 1) := by decide +kernel
theorem dX8_partOf_72 : decode cX8_partOf 72 = .ok (.if_icmp .eq 6, 3) := by decide +kernel
theorem dX8_partOf_75 : decode cX8_partOf 75 = .ok (.iload 7, 2) := by decide +kernel
theorem dX8_partOf_77 : decode cX8_partOf 77 = .ok (.ireturn, 1) := by decide +kernel
theorem dX8_partOf_78 : decode cX8_partOf 78 = .ok (.aload_n 0, 1) := by decide +kernel
theorem dX8_partOf_79 : decode cX8_partOf 79 = .ok (.iload_n 3, 1) := by decide +kernel
theorem dX8_partOf_80 : decode cX8_partOf 80 = .ok (.ifCond .eq 24, 3) := by decide +kernel
theorem dX8_partOf_83 : decode cX8_partOf 83 = .ok (.iload 5, 2) := by decide +kernel
theorem dX8_partOf_85 : decode cX8_partOf 85 = .ok (.sipush 1200, 3) := by decide +kernel
theorem dX8_partOf_88 : decode cX8_partOf 88 = .ok (.aload_n 0, 1) := by decide +kernel
theorem dX8_partOf_89 : decode cX8_partOf 89 = .ok (.getfield 37, 3) := by decide +kernel
theorem dX8_partOf_92 : decode cX8_partOf 92 = .ok (.aload_n 0, 1) := by decide +kernel
theorem dX8_partOf_93 : decode cX8_partOf 93 = .ok (.getfield 22, 3) := by decide +kernel
theorem dX8_partOf_96 : decode cX8_partOf 96 = .ok (.iload_n 2, 1) := by decide +kernel
theorem dX8_partOf_97 : decode cX8_partOf 97 = .ok (.iaload, 1) := by decide +kernel
theorem dX8_partOf_98 : decode cX8_partOf 98 = .ok (.iaload, 1) := by decide +kernel
theorem dX8_partOf_99 : decode cX8_partOf 99 = .ok (.imul, 1) := by decide +kernel
theorem dX8_partOf_100 : decode cX8_partOf 100 = .ok (.isub, 1) := by decide +kernel
theorem dX8_partOf_101 : decode cX8_partOf 101 = .ok (.goto 5, 3) := by decide +kernel
theorem dX8_partOf_104 : decode cX8_partOf 104 = .ok (.iload 5, 2) := by decide +kernel
theorem dX8_partOf_106 : decode cX8_partOf 106 = .ok (.iload 7, 2) := by decide +kernel
theorem dX8_partOf_108 : decode cX8_partOf 108 = .ok (.invokevirtual 225, 3) := by decide +kernel
theorem dX8_partOf_111 : decode cX8_partOf 111 = .ok (.ireturn, 1) := by decide +kernel
theorem dX8_place_0 : decode cX8_place 0 = .ok (.aload_n 0, 1) := by decide +kernel
theorem dX8_place_1 : decode cX8_place 1 = .ok (.getfield 228, 3) := by decide +kernel
theorem dX8_place_4 : decode cX8_place 4 = .ok (.ifCond .eq 7, 3) := by decide +kernel
theorem dX8_place_7 : decode cX8_place 7 = .ok (.iconst (-1), 1) := by decide +kernel
theorem dX8_place_8 : decode cX8_place 8 = .ok (.goto 16, 3) := by decide +kernel
theorem dX8_place_11 : decode cX8_place 11 = .ok (.aload_n 0, 1) := by decide +kernel
theorem dX8_place_12 : decode cX8_place 12 = .ok (.iload_n 1, 1) := by decide +kernel
theorem dX8_place_13 : decode cX8_place 13 = .ok (.iload_n 2, 1) := by decide +kernel
theorem dX8_place_14 : decode cX8_place 14 = .ok (.iload_n 3, 1) := by decide +kernel
theorem dX8_place_15 : decode cX8_place 15 = .ok (.iload 4, 2) := by decide +kernel
theorem dX8_place_17 : decode cX8_place 17 = .ok (.iload 5, 2) := by decide +kernel
theorem dX8_place_19 : decode cX8_place 19 = .ok (.iload 6, 2) := by decide +kernel
theorem dX8_place_21 : decode cX8_place 21 = .ok (.invokevirtual 128, 3) := by decide +kernel
theorem dX8_place_24 : decode cX8_place 24 = .ok (.istore 7, 2) := by decide +kernel
theorem dX8_place_26 : decode cX8_place 26 = .ok (.aload_n 0, 1) := by decide +kernel
theorem dX8_place_27 : decode cX8_place 27 = .ok (.aload_n 0, 1) := by decide +kernel
theorem dX8_place_28 : decode cX8_place 28 = .ok (.getfield 228, 3) := by decide +kernel
theorem dX8_place_31 : decode cX8_place 31 = .ok (.ifCond .ne 18, 3) := by decide +kernel
theorem dX8_place_34 : decode cX8_place 34 = .ok (.iload 7, 2) := by decide +kernel
theorem dX8_place_36 : decode cX8_place 36 = .ok (.iconst (-1), 1) := by decide +kernel
theorem dX8_place_37 : decode cX8_place 37 = .ok (.if_icmp .ne 16, 3) := by decide +kernel
theorem dX8_place_40 : decode cX8_place 40 = .ok (.aload_n 0, 1) := by decide +kernel
theorem dX8_place_41 : decode cX8_place 41 = .ok (.getfield 118, 3) := by decide +kernel
theorem dX8_place_44 : decode cX8_place 44 = .ok (.bipush 24, 2) := by decide +kernel
theorem dX8_place_46 : decode cX8_place 46 = .ok (.if_icmp .ne 7, 3) := by decide +kernel
theorem dX8_place_49 : decode cX8_place 49 = .ok (.iconst 1, 1) := by decide +kernel
theorem dX8_place_50 : decode cX8_place 50 = .ok (.goto 4, 3) := by decide +kernel
theorem dX8_place_53 : decode cX8_place 53 = .ok (.iconst 0, 1) := by decide +kernel
theorem dX8_place_54 : decode cX8_place 54 = .ok (.putfield 228, 3) := by decide +kernel
theorem dX8_place_57 : decode cX8_place 57 = .ok (.aload_n 0, 1) := by decide +kernel
theorem dX8_place_58 : decode cX8_place 58 = .ok (.getfield 228, 3) := by decide +kernel
theorem dX8_place_61 : decode cX8_place 61 = .ok (.ifCond .ne 9, 3) := by decide +kernel
theorem dX8_place_64 : decode cX8_place 64 = .ok (.iload 7, 2) := by decide +kernel
theorem dX8_place_66 : decode cX8_place 66 = .ok (.iconst (-1), 1) := by decide +kernel
theorem dX8_place_67 : decode cX8_place 67 = .ok (.if_icmp .eq 6, 3) := by decide +kernel
theorem dX8_place_70 : decode cX8_place 70 = .ok (.iload 7, 2) := by decide +kernel
theorem dX8_place_72 : decode cX8_place 72 = .ok (.ireturn, 1) := by decide +kernel
theorem dX8_place_73 : decode cX8_place 73 = .ok (.aload_n 0, 1) := by decide +kernel
theorem dX8_place_74 : decode cX8_place 74 = .ok (.aload_n 0, 1) := by decide +kernel
theorem dX8_place_75 : decode cX8_place 75 = .ok (.getfield 118, 3) := by decide +kernel
theorem dX8_place_78 : decode cX8_place 78 = .ok (.iload_n 1, 1) := by decide +kernel
theorem dX8_place_79 : decode cX8_place 79 = .ok (.iload_n 2, 1) := by decide +kernel
theorem dX8_place_80 : decode cX8_place 80 = .ok (.iload_n 3, 1) := by decide +kernel
theorem dX8_place_81 : decode cX8_place 81 = .ok (.iload 4, 2) := by decide +kernel
theorem dX8_place_83 : decode cX8_place 83 = .ok (.iload 5, 2) := by decide +kernel
theorem dX8_place_85 : decode cX8_place 85 = .ok (.iload 6, 2) := by decide +kernel
theorem dX8_place_87 : decode cX8_place 87 = .ok (.invokevirtual 132, 3) := by decide +kernel
theorem dX8_place_90 : decode cX8_place 90 = .ok (.aload_n 0, 1) := by decide +kernel
theorem dX8_place_91 : decode cX8_place 91 = .ok (.dup, 1) := by decide +kernel
theorem dX8_place_92 : decode cX8_place 92 = .ok (.getfield 118, 3) := by decide +kernel
theorem dX8_place_95 : decode cX8_place 95 = .ok (.iconst 1, 1) := by decide +kernel
theorem dX8_place_96 : decode cX8_place 96 = .ok (.iadd, 1) := by decide +kernel
theorem dX8_place_97 : decode cX8_place 97 = .ok (.putfield 118, 3) := by decide +kernel
theorem dX8_place_100 : decode cX8_place 100 = .ok (.aload_n 0, 1) := by decide +kernel
theorem dX8_place_101 : decode cX8_place 101 = .ok (.getfield 118, 3) := by decide +kernel
theorem dX8_place_104 : decode cX8_place 104 = .ok (.iconst 1, 1) := by decide +kernel
theorem dX8_place_105 : decode cX8_place 105 = .ok (.isub, 1) := by decide +kernel
theorem dX8_place_106 : decode cX8_place 106 = .ok (.ireturn, 1) := by decide +kernel
theorem dX8_withChain_0 : decode cX8_withChain 0 = .ok (.iconst 0, 1) := by decide +kernel
theorem dX8_withChain_1 : decode cX8_withChain 1 = .ok (.istore 4, 2) := by decide +kernel
theorem dX8_withChain_3 : decode cX8_withChain 3 = .ok (.iconst (-1), 1) := by decide +kernel
theorem dX8_withChain_4 : decode cX8_withChain 4 = .ok (.istore 5, 2) := by decide +kernel
theorem dX8_withChain_6 : decode cX8_withChain 6 = .ok (.iload_n 2, 1) := by decide +kernel
theorem dX8_withChain_7 : decode cX8_withChain 7 = .ok (.istore 6, 2) := by decide +kernel
theorem dX8_withChain_9 : decode cX8_withChain 9 = .ok (.iload 6, 2) := by decide +kernel
theorem dX8_withChain_11 : decode cX8_withChain 11 = .ok (.iconst (-1), 1) := by decide +kernel
theorem dX8_withChain_12 : decode cX8_withChain 12 = .ok (.if_icmp .eq 119, 3) := by decide +kernel
theorem dX8_withChain_15 : decode cX8_withChain 15 = .ok (.aload_n 0, 1) := by decide +kernel
theorem dX8_withChain_16 : decode cX8_withChain 16 = .ok (.getfield 71, 3) := by decide +kernel
theorem dX8_withChain_19 : decode cX8_withChain 19 = .ok (.iload 6, 2) := by decide +kernel
theorem dX8_withChain_21 : decode cX8_withChain 21 = .ok (.iaload, 1) := by decide +kernel
theorem dX8_withChain_22 : decode cX8_withChain 22 = .ok (.istore 7, 2) := by decide +kernel
theorem dX8_withChain_24 : decode cX8_withChain 24 = .ok (.aload_n 0, 1) := by decide +kernel
theorem dX8_withChain_25 : decode cX8_withChain 25 = .ok (.getfield 19, 3) := by decide +kernel
theorem dX8_withChain_28 : decode cX8_withChain 28 = .ok (.iload_n 3, 1) := by decide +kernel
theorem dX8_withChain_29 : decode cX8_withChain 29 = .ok (.iaload, 1) := by decide +kernel
theorem dX8_withChain_30 : decode cX8_withChain 30 = .ok (.iconst 2, 1) := by decide +kernel
theorem dX8_withChain_31 : decode cX8_withChain 31 = .ok (.if_icmp .ne 15, 3) := by decide +kernel
theorem dX8_withChain_34 : decode cX8_withChain 34 = .ok (.aload_n 0, 1) := by decide +kernel
theorem dX8_withChain_35 : decode cX8_withChain 35 = .ok (.iload_n 3, 1) := by decide +kernel
theorem dX8_withChain_36 : decode cX8_withChain 36 = .ok (.iload 7, 2) := by decide +kernel
theorem dX8_withChain_38 : decode cX8_withChain 38 = .ok (.iload 5, 2) := by decide +kernel
theorem dX8_withChain_40 : decode cX8_withChain 40 = .ok (.invokevirtual 218, 3) := by decide +kernel
theorem dX8_withChain_43 : decode cX8_withChain 43 = .ok (.ifCond .eq 76, 3) := by decide +kernel
theorem dX8_withChain_46 : decode cX8_withChain 46 = .ok (.iload 7, 2) := by decide +kernel
theorem dX8_withChain_48 : decode cX8_withChain 48 = .ok (.iload 5, 2) := by decide +kernel
theorem dX8_withChain_50 : decode cX8_withChain 50 = .ok (.if_icmp .le 8, 3) := by decide +kernel
theorem dX8_withChain_53 : decode cX8_withChain 53 = .ok (.iload 7, 2) := by decide +kernel
theorem dX8_withChain_55 : decode cX8_withChain 55 = .ok (.goto 5, 3) := by decide +kernel
theorem dX8_withChain_58 : decode cX8_withChain 58 = .ok (.iload 5, 2) := by decide +kernel
theorem dX8_withChain_60 : decode cX8_withChain 60 = .ok (.istore 5, 2) := by decide +kernel
theorem dX8_withChain_62 : decode cX8_withChain 62 = .ok (.iload 4, 2) := by decide +kernel
theorem dX8_withChain_64 : decode cX8_withChain 64 = .ok (.istore 8, 2) := by decide +kernel
theorem dX8_withChain_66 : decode cX8_withChain 66 = .ok (.iload 8, 2) := by decide +kernel
theorem dX8_withChain_68 : decode cX8_withChain 68 = .ok (.ifCond .le 39, 3) := by decide +kernel
theorem dX8_withChain_71 : decode cX8_withChain 71 = .ok (.aload_n 0, 1) := by decide +kernel
theorem dX8_withChain_72 : decode cX8_withChain 72 = .ok (.getfield 86, 3) := by decide +kernel
theorem dX8_withChain_75 : decode cX8_withChain 75 = .ok (.iload 8, 2) := by decide +kernel
theorem dX8_withChain_77 : decode cX8_withChain 77 = .ok (.iconst 1, 1) := by decide +kernel
theorem dX8_withChain_78 : decode cX8_withChain 78 = .ok (.isub, 1) := by decide +kernel
theorem dX8_withChain_79 : decode cX8_withChain 79 = .ok (.iaload, 1) := by decide +kernel
theorem dX8_withChain_80 : decode cX8_withChain 80 = .ok (.iload 7, 2) := by decide +kernel
theorem dX8_withChain_82 : decode cX8_withChain 82 = .ok (.if_icmp .ge 25, 3) := by decide +kernel
theorem dX8_withChain_85 : decode cX8_withChain 85 = .ok (.aload_n 0, 1) := by decide +kernel
theorem dX8_withChain_86 : decode cX8_withChain 86 = .ok (.getfield 86, 3) := by decide +kernel
theorem dX8_withChain_89 : decode cX8_withChain 89 = .ok (.iload 8, 2) := by decide +kernel
theorem dX8_withChain_91 : decode cX8_withChain 91 = .ok (.aload_n 0, 1) := by decide +kernel
theorem dX8_withChain_92 : decode cX8_withChain 92 = .ok (.getfield 86, 3) := by decide +kernel
theorem dX8_withChain_95 : decode cX8_withChain 95 = .ok (.iload 8, 2) := by decide +kernel
theorem dX8_withChain_97 : decode cX8_withChain 97 = .ok (.iconst 1, 1) := by decide +kernel
theorem dX8_withChain_98 : decode cX8_withChain 98 = .ok (.isub, 1) := by decide +kernel
theorem dX8_withChain_99 : decode cX8_withChain 99 = .ok (.iaload, 1) := by decide +kernel
theorem dX8_withChain_100 : decode cX8_withChain 100 = .ok (.iastore, 1) := by decide +kernel
theorem dX8_withChain_101 : decode cX8_withChain 101 = .ok (.iinc 8 (-1), 3) := by decide +kernel
theorem dX8_withChain_104 : decode cX8_withChain 104 = .ok (.goto (-38), 3) := by decide +kernel
theorem dX8_withChain_107 : decode cX8_withChain 107 = .ok (.aload_n 0, 1) := by decide +kernel
theorem dX8_withChain_108 : decode cX8_withChain 108 = .ok (.getfield 86, 3) := by decide +kernel
theorem dX8_withChain_111 : decode cX8_withChain 111 = .ok (.iload 8, 2) := by decide +kernel
theorem dX8_withChain_113 : decode cX8_withChain 113 = .ok (.iload 7, 2) := by decide +kernel
theorem dX8_withChain_115 : decode cX8_withChain 115 = .ok (.iastore, 1) := by decide +kernel
theorem dX8_withChain_116 : decode cX8_withChain 116 = .ok (.iinc 4 1, 3) := by decide +kernel
theorem dX8_withChain_119 : decode cX8_withChain 119 = .ok (.aload_n 0, 1) := by decide +kernel
theorem dX8_withChain_120 : decode cX8_withChain 120 = .ok (.getfield 74, 3) := by decide +kernel
theorem dX8_withChain_123 : decode cX8_withChain 123 = .ok (.iload 6, 2) := by decide +kernel
theorem dX8_withChain_125 : decode cX8_withChain 125 = .ok (.iaload, 1) := by decide +kernel
theorem dX8_withChain_126 : decode cX8_withChain 126 = .ok (.istore 6, 2) := by decide +kernel
theorem dX8_withChain_128 : decode cX8_withChain 128 = .ok (.goto (-119), 3) := by decide +kernel
theorem dX8_withChain_131 : decode cX8_withChain 131 = .ok (.iload_n 1, 1) := by decide +kernel
theorem dX8_withChain_132 : decode cX8_withChain 132 = .ok (.istore 6, 2) := by decide +kernel
theorem dX8_withChain_134 : decode cX8_withChain 134 = .ok (.iconst 0, 1) := by decide +kernel
theorem dX8_withChain_135 : decode cX8_withChain 135 = .ok (.istore 7, 2) := by decide +kernel
theorem dX8_withChain_137 : decode cX8_withChain 137 = .ok (.iload 7, 2) := by decide +kernel
theorem dX8_withChain_139 : decode cX8_withChain 139 = .ok (.iload 4, 2) := by decide +kernel
theorem dX8_withChain_141 : decode cX8_withChain 141 = .ok (.if_icmp .ge 58, 3) := by decide +kernel
theorem dX8_withChain_144 : decode cX8_withChain 144 = .ok (.aload_n 0, 1) := by decide +kernel
theorem dX8_withChain_145 : decode cX8_withChain 145 = .ok (.iconst 1, 1) := by decide +kernel
theorem dX8_withChain_146 : decode cX8_withChain 146 = .ok (.iload 6, 2) := by decide +kernel
theorem dX8_withChain_148 : decode cX8_withChain 148 = .ok (.iconst (-1), 1) := by decide +kernel
theorem dX8_withChain_149 : decode cX8_withChain 149 = .ok (.aload_n 0, 1) := by decide +kernel
theorem dX8_withChain_150 : decode cX8_withChain 150 = .ok (.getfield 86, 3) := by decide +kernel
theorem dX8_withChain_153 : decode cX8_withChain 153 = .ok (.iload 7, 2) := by decide +kernel
theorem dX8_withChain_155 : decode cX8_withChain 155 = .ok (.iaload, 1) := by decide +kernel
theorem dX8_withChain_156 : decode cX8_withChain 156 = .ok (.sipush 1200, 3) := by decide +kernel
theorem dX8_withChain_159 : decode cX8_withChain 159 = .ok (.idiv, 1) := by decide +kernel
theorem dX8_withChain_160 : decode cX8_withChain 160 = .ok (.aload_n 0, 1) := by decide +kernel
theorem dX8_withChain_161 : decode cX8_withChain 161 = .ok (.getfield 86, 3) := by decide +kernel
theorem dX8_withChain_164 : decode cX8_withChain 164 = .ok (.iload 7, 2) := by decide +kernel
theorem dX8_withChain_166 : decode cX8_withChain 166 = .ok (.iaload, 1) := by decide +kernel
theorem dX8_withChain_167 : decode cX8_withChain 167 = .ok (.sipush 200, 3) := by decide +kernel
theorem dX8_withChain_170 : decode cX8_withChain 170 = .ok (.idiv, 1) := by decide +kernel
theorem dX8_withChain_171 : decode cX8_withChain 171 = .ok (.bipush 6, 2) := by decide +kernel
theorem dX8_withChain_173 : decode cX8_withChain 173 = .ok (.irem, 1) := by decide +kernel
theorem dX8_withChain_174 : decode cX8_withChain 174 = .ok (.aload_n 0, 1) := by decide +kernel
theorem dX8_withChain_175 : decode cX8_withChain 175 = .ok (.getfield 86, 3) := by decide +kernel
theorem dX8_withChain_178 : decode cX8_withChain 178 = .ok (.iload 7, 2) := by decide +kernel
theorem dX8_withChain_180 : decode cX8_withChain 180 = .ok (.iaload, 1) := by decide +kernel
theorem dX8_withChain_181 : decode cX8_withChain 181 = .ok (.sipush 200, 3) := by decide +kernel
theorem dX8_withChain_184 : decode cX8_withChain 184 = .ok (.irem, 1) := by decide +kernel
theorem dX8_withChain_185 : decode cX8_withChain 185 = .ok (.bipush 99, 2) := by decide +kernel
theorem dX8_withChain_187 : decode cX8_withChain 187 = .ok (.isub, 1) := by decide +kernel
theorem dX8_withChain_188 : decode cX8_withChain 188 = .ok (.invokevirtual 232, 3) := by decide +kernel
theorem dX8_withChain_191 : decode cX8_withChain 191 = .ok (.istore 6, 2) := by decide +kernel
theorem dX8_withChain_193 : decode cX8_withChain 193 = .ok (.iinc 7 1, 3) := by decide +kernel
theorem dX8_withChain_196 : decode cX8_withChain 196 = .ok (.goto (-59), 3) := by decide +kernel
theorem dX8_withChain_199 : decode cX8_withChain 199 = .ok (.iload 6, 2) := by decide +kernel
theorem dX8_withChain_201 : decode cX8_withChain 201 = .ok (.ireturn, 1) := by decide +kernel
theorem dX8_become_0 : decode cX8_become 0 = .ok (.aload_n 0, 1) := by decide +kernel
theorem dX8_become_1 : decode cX8_become 1 = .ok (.getfield 19, 3) := by decide +kernel
theorem dX8_become_4 : decode cX8_become 4 = .ok (.iload_n 1, 1) := by decide +kernel
theorem dX8_become_5 : decode cX8_become 5 = .ok (.iaload, 1) := by decide +kernel
theorem dX8_become_6 : decode cX8_become 6 = .ok (.ifCond .ne 11, 3) := by decide +kernel
theorem dX8_become_9 : decode cX8_become 9 = .ok (.aload_n 0, 1) := by decide +kernel
theorem dX8_become_10 : decode cX8_become 10 = .ok (.iload_n 1, 1) := by decide +kernel
theorem dX8_become_11 : decode cX8_become 11 = .ok (.iload_n 2, 1) := by decide +kernel
theorem dX8_become_12 : decode cX8_become 12 = .ok (.iload_n 1, 1) := by decide +kernel
theorem dX8_become_13 : decode cX8_become 13 = .ok (.invokevirtual 235, 3) := by decide +kernel
theorem dX8_become_16 : decode cX8_become 16 = .ok (.ireturn, 1) := by decide +kernel
theorem dX8_become_17 : decode cX8_become 17 = .ok (.aload_n 0, 1) := by decide +kernel
theorem dX8_become_18 : decode cX8_become 18 = .ok (.getfield 19, 3) := by decide +kernel
theorem dX8_become_21 : decode cX8_become 21 = .ok (.iload_n 1, 1) := by decide +kernel
theorem dX8_become_22 : decode cX8_become 22 = .ok (.iaload, 1) := by decide +kernel
theorem dX8_become_23 : decode cX8_become 23 = .ok (.iconst 4, 1) := by decide +kernel
theorem dX8_become_24 : decode cX8_become 24 = .ok (.if_icmp .ne 45, 3) := by decide +kernel
theorem dX8_become_27 : decode cX8_become 27 = .ok (.aload_n 0, 1) := by decide +kernel
theorem dX8_become_28 : decode cX8_become 28 = .ok (.getfield 28, 3) := by decide +kernel
theorem dX8_become_31 : decode cX8_become 31 = .ok (.iload_n 1, 1) := by decide +kernel
theorem dX8_become_32 : decode cX8_become 32 = .ok (.iaload, 1) := by decide +kernel
theorem dX8_become_33 : decode cX8_become 33 = .ok (.ifCond .ne 36, 3) := by decide +kernel
theorem dX8_become_36 : decode cX8_become 36 = .ok (.aload_n 0, 1) := by decide +kernel
theorem dX8_become_37 : decode cX8_become 37 = .ok (.aload_n 0, 1) := by decide +kernel
theorem dX8_become_38 : decode cX8_become 38 = .ok (.getfield 22, 3) := by decide +kernel
theorem dX8_become_41 : decode cX8_become 41 = .ok (.iload_n 1, 1) := by decide +kernel
theorem dX8_become_42 : decode cX8_become 42 = .ok (.iaload, 1) := by decide +kernel
theorem dX8_become_43 : decode cX8_become 43 = .ok (.iload_n 2, 1) := by decide +kernel
theorem dX8_become_44 : decode cX8_become 44 = .ok (.invokevirtual 238, 3) := by decide +kernel
theorem dX8_become_47 : decode cX8_become 47 = .ok (.istore_n 3, 1) := by decide +kernel
theorem dX8_become_48 : decode cX8_become 48 = .ok (.aload_n 0, 1) := by decide +kernel
theorem dX8_become_49 : decode cX8_become 49 = .ok (.iconst 4, 1) := by decide +kernel
theorem dX8_become_50 : decode cX8_become 50 = .ok (.iload_n 3, 1) := by decide +kernel
theorem dX8_become_51 : decode cX8_become 51 = .ok (.aload_n 0, 1) := by decide +kernel
theorem dX8_become_52 : decode cX8_become 52 = .ok (.aload_n 0, 1) := by decide +kernel
theorem dX8_become_53 : decode cX8_become 53 = .ok (.getfield 25, 3) := by decide +kernel
theorem dX8_become_56 : decode cX8_become 56 = .ok (.iload_n 1, 1) := by decide +kernel
theorem dX8_become_57 : decode cX8_become 57 = .ok (.iaload, 1) := by decide +kernel
theorem dX8_become_58 : decode cX8_become 58 = .ok (.iload_n 2, 1) := by decide +kernel
theorem dX8_become_59 : decode cX8_become 59 = .ok (.invokevirtual 238, 3) := by decide +kernel
theorem dX8_become_62 : decode cX8_become 62 = .ok (.iconst 0, 1) := by decide +kernel
theorem dX8_become_63 : decode cX8_become 63 = .ok (.iconst 0, 1) := by decide +kernel
theorem dX8_become_64 : decode cX8_become 64 = .ok (.iconst 0, 1) := by decide +kernel
theorem dX8_become_65 : decode cX8_become 65 = .ok (.invokevirtual 232, 3) := by decide +kernel
theorem dX8_become_68 : decode cX8_become 68 = .ok (.ireturn, 1) := by decide +kernel
theorem dX8_become_69 : decode cX8_become 69 = .ok (.aload_n 0, 1) := by decide +kernel
theorem dX8_become_70 : decode cX8_become 70 = .ok (.getfield 19, 3) := by decide +kernel
theorem dX8_become_73 : decode cX8_become 73 = .ok (.iload_n 1, 1) := by decide +kernel
theorem dX8_become_74 : decode cX8_become 74 = .ok (.iaload, 1) := by decide +kernel
theorem dX8_become_75 : decode cX8_become 75 = .ok (.iconst 2, 1) := by decide +kernel
theorem dX8_become_76 : decode cX8_become 76 = .ok (.if_icmp .ne 7, 3) := by decide +kernel
theorem dX8_become_79 : decode cX8_become 79 = .ok (.iconst 1, 1) := by decide +kernel
theorem dX8_become_80 : decode cX8_become 80 = .ok (.goto 4, 3) := by decide +kernel
theorem dX8_become_83 : decode cX8_become 83 = .ok (.iconst 0, 1) := by decide +kernel
theorem dX8_become_84 : decode cX8_become 84 = .ok (.istore_n 3, 1) := by decide +kernel
theorem dX8_become_85 : decode cX8_become 85 = .ok (.aload_n 0, 1) := by decide +kernel
theorem dX8_become_86 : decode cX8_become 86 = .ok (.aload_n 0, 1) := by decide +kernel
theorem dX8_become_87 : decode cX8_become 87 = .ok (.getfield 22, 3) := by decide +kernel
theorem dX8_become_90 : decode cX8_become 90 = .ok (.iload_n 1, 1) := by decide +kernel
theorem dX8_become_91 : decode cX8_become 91 = .ok (.iaload, 1) := by decide +kernel
theorem dX8_become_92 : decode cX8_become 92 = .ok (.iload_n 3, 1) := by decide +kernel
theorem dX8_become_93 : decode cX8_become 93 = .ok (.ifCond .eq 14, 3) := by decide +kernel
theorem dX8_become_96 : decode cX8_become 96 = .ok (.aload_n 0, 1) := by decide +kernel
theorem dX8_become_97 : decode cX8_become 97 = .ok (.iload_n 2, 1) := by decide +kernel
theorem dX8_become_98 : decode cX8_become 98 = .ok (.iload_n 1, 1) := by decide +kernel
theorem dX8_become_99 : decode cX8_become 99 = .ok (.iconst 0, 1) := by decide +kernel
theorem dX8_become_100 : decode cX8_become 100 = .ok (.iconst (-1), 1) := by decide +kernel
theorem dX8_become_101 : decode cX8_become 101 = .ok (.invokevirtual 221, 3) := by decide +kernel
theorem dX8_become_104 : decode cX8_become 104 = .ok (.goto 4, 3) := by decide +kernel
theorem dX8_become_107 : decode cX8_become 107 = .ok (.iconst (-1), 1) := by decide +kernel
theorem dX8_become_108 : decode cX8_become 108 = .ok (.invokevirtual 238, 3) := by decide +kernel
theorem dX8_become_111 : decode cX8_become 111 = .ok (.istore 4, 2) := by decide +kernel
theorem dX8_become_113 : decode cX8_become 113 = .ok (.aload_n 0, 1) := by decide +kernel
theorem dX8_become_114 : decode cX8_become 114 = .ok (.getfield 25, 3) := by decide +kernel
theorem dX8_become_117 : decode cX8_become 117 = .ok (.iload_n 1, 1) := by decide +kernel
theorem dX8_become_118 : decode cX8_become 118 = .ok (.iaload, 1) := by decide +kernel
theorem dX8_become_119 : decode cX8_become 119 = .ok (.iconst (-1), 1) := by decide +kernel
theorem dX8_become_120 : decode cX8_become 120 = .ok (.if_icmp .ne 7, 3) := by decide +kernel
theorem dX8_become_123 : decode cX8_become 123 = .ok (.iconst (-1), 1) := by decide +kernel
theorem dX8_become_124 : decode cX8_become 124 = .ok (.goto 29, 3) := by decide +kernel
theorem dX8_become_127 : decode cX8_become 127 = .ok (.aload_n 0, 1) := by decide +kernel
theorem dX8_become_128 : decode cX8_become 128 = .ok (.aload_n 0, 1) := by decide +kernel
theorem dX8_become_129 : decode cX8_become 129 = .ok (.getfield 25, 3) := by decide +kernel
theorem dX8_become_132 : decode cX8_become 132 = .ok (.iload_n 1, 1) := by decide +kernel
theorem dX8_become_133 : decode cX8_become 133 = .ok (.iaload, 1) := by decide +kernel
theorem dX8_become_134 : decode cX8_become 134 = .ok (.iload_n 3, 1) := by decide +kernel
theorem dX8_become_135 : decode cX8_become 135 = .ok (.ifCond .eq 14, 3) := by decide +kernel
theorem dX8_become_138 : decode cX8_become 138 = .ok (.aload_n 0, 1) := by decide +kernel
theorem dX8_become_139 : decode cX8_become 139 = .ok (.iload_n 2, 1) := by decide +kernel
theorem dX8_become_140 : decode cX8_become 140 = .ok (.iload_n 1, 1) := by decide +kernel
theorem dX8_become_141 : decode cX8_become 141 = .ok (.iconst 1, 1) := by decide +kernel
theorem dX8_become_142 : decode cX8_become 142 = .ok (.iconst (-1), 1) := by decide +kernel
theorem dX8_become_143 : decode cX8_become 143 = .ok (.invokevirtual 221, 3) := by decide +kernel
theorem dX8_become_146 : decode cX8_become 146 = .ok (.goto 4, 3) := by decide +kernel
theorem dX8_become_149 : decode cX8_become 149 = .ok (.iconst (-1), 1) := by decide +kernel
theorem dX8_become_150 : decode cX8_become 150 = .ok (.invokevirtual 238, 3) := by decide +kernel
theorem dX8_become_153 : decode cX8_become 153 = .ok (.istore 5, 2) := by decide +kernel
theorem dX8_become_155 : decode cX8_become 155 = .ok (.aload_n 0, 1) := by decide +kernel
theorem dX8_become_156 : decode cX8_become 156 = .ok (.aload_n 0, 1) := by decide +kernel
theorem dX8_become_157 : decode cX8_become 157 = .ok (.aload_n 0, 1) := by decide +kernel
theorem dX8_become_158 : decode cX8_become 158 = .ok (.getfield 19, 3) := by decide +kernel
theorem dX8_become_161 : decode cX8_become 161 = .ok (.iload_n 1, 1) := by decide +kernel
theorem dX8_become_162 : decode cX8_become 162 = .ok (.iaload, 1) := by decide +kernel
theorem dX8_become_163 : decode cX8_become 163 = .ok (.iload 4, 2) := by decide +kernel
theorem dX8_become_165 : decode cX8_become 165 = .ok (.iload 5, 2) := by decide +kernel
theorem dX8_become_167 : decode cX8_become 167 = .ok (.aload_n 0, 1) := by decide +kernel
theorem dX8_become_168 : decode cX8_become 168 = .ok (.getfield 28, 3) := by decide +kernel
theorem dX8_become_171 : decode cX8_become 171 = .ok (.iload_n 1, 1) := by decide +kernel
theorem dX8_become_172 : decode cX8_become 172 = .ok (.iaload, 1) := by decide +kernel
theorem dX8_become_173 : decode cX8_become 173 = .ok (.aload_n 0, 1) := by decide +kernel
theorem dX8_become_174 : decode cX8_become 174 = .ok (.getfield 31, 3) := by decide +kernel
theorem dX8_become_177 : decode cX8_become 177 = .ok (.iload_n 1, 1) := by decide +kernel
theorem dX8_become_178 : decode cX8_become 178 = .ok (.iaload, 1) := by decide +kernel
theorem dX8_become_179 : decode cX8_become 179 = .ok (.aload_n 0, 1) := by decide +kernel
theorem dX8_become_180 : decode cX8_become 180 = .ok (.getfield 34, 3) := by decide +kernel
theorem dX8_become_183 : decode cX8_become 183 = .ok (.iload_n 1, 1) := by decide +kernel
theorem dX8_become_184 : decode cX8_become 184 = .ok (.iaload, 1) := by decide +kernel
theorem dX8_become_185 : decode cX8_become 185 = .ok (.invokevirtual 232, 3) := by decide +kernel
theorem dX8_become_188 : decode cX8_become 188 = .ok (.iload_n 2, 1) := by decide +kernel
theorem dX8_become_189 : decode cX8_become 189 = .ok (.iload_n 1, 1) := by decide +kernel
theorem dX8_become_190 : decode cX8_become 190 = .ok (.invokevirtual 235, 3) := by decide +kernel
theorem dX8_become_193 : decode cX8_become 193 = .ok (.ireturn, 1) := by decide +kernel
theorem dX8_finished_0 : decode cX8_finished 0 = .ok (.aload_n 0, 1) := by decide +kernel
theorem dX8_finished_1 : decode cX8_finished 1 = .ok (.getfield 228, 3) := by decide +kernel
theorem dX8_finished_4 : decode cX8_finished 4 = .ok (.ifCond .eq 5, 3) := by decide +kernel
theorem dX8_finished_7 : decode cX8_finished 7 = .ok (.iconst (-1), 1) := by decide +kernel
theorem dX8_finished_8 : decode cX8_finished 8 = .ok (.ireturn, 1) := by decide +kernel
theorem dX8_finished_9 : decode cX8_finished 9 = .ok (.aload_n 0, 1) := by decide +kernel
theorem dX8_finished_10 : decode cX8_finished 10 = .ok (.getfield 19, 3) := by decide +kernel
theorem dX8_finished_13 : decode cX8_finished 13 = .ok (.iload_n 1, 1) := by decide +kernel
theorem dX8_finished_14 : decode cX8_finished 14 = .ok (.iaload, 1) := by decide +kernel
theorem dX8_finished_15 : decode cX8_finished 15 = .ok (.iconst 1, 1) := by decide +kernel
theorem dX8_finished_16 : decode cX8_finished 16 = .ok (.if_icmp .ne 50, 3) := by decide +kernel
theorem dX8_finished_19 : decode cX8_finished 19 = .ok (.aload_n 0, 1) := by decide +kernel
theorem dX8_finished_20 : decode cX8_finished 20 = .ok (.aload_n 0, 1) := by decide +kernel
theorem dX8_finished_21 : decode cX8_finished 21 = .ok (.getfield 22, 3) := by decide +kernel
theorem dX8_finished_24 : decode cX8_finished 24 = .ok (.iload_n 1, 1) := by decide +kernel
theorem dX8_finished_25 : decode cX8_finished 25 = .ok (.iaload, 1) := by decide +kernel
theorem dX8_finished_26 : decode cX8_finished 26 = .ok (.aload_n 0, 1) := by decide +kernel
theorem dX8_finished_27 : decode cX8_finished 27 = .ok (.sipush 1200, 3) := by decide +kernel
theorem dX8_finished_30 : decode cX8_finished 30 = .ok (.aload_n 0, 1) := by decide +kernel
theorem dX8_finished_31 : decode cX8_finished 31 = .ok (.getfield 28, 3) := by decide +kernel
theorem dX8_finished_34 : decode cX8_finished 34 = .ok (.iload_n 1, 1) := by decide +kernel
theorem dX8_finished_35 : decode cX8_finished 35 = .ok (.iaload, 1) := by decide +kernel
theorem dX8_finished_36 : decode cX8_finished 36 = .ok (.imul, 1) := by decide +kernel
theorem dX8_finished_37 : decode cX8_finished 37 = .ok (.sipush 200, 3) := by decide +kernel
theorem dX8_finished_40 : decode cX8_finished 40 = .ok (.aload_n 0, 1) := by decide +kernel
theorem dX8_finished_41 : decode cX8_finished 41 = .ok (.getfield 31, 3) := by decide +kernel
theorem dX8_finished_44 : decode cX8_finished 44 = .ok (.iload_n 1, 1) := by decide +kernel
theorem dX8_finished_45 : decode cX8_finished 45 = .ok (.iaload, 1) := by decide +kernel
theorem dX8_finished_46 : decode cX8_finished 46 = .ok (.imul, 1) := by decide +kernel
theorem dX8_finished_47 : decode cX8_finished 47 = .ok (.iadd, 1) := by decide +kernel
theorem dX8_finished_48 : decode cX8_finished 48 = .ok (.aload_n 0, 1) := by decide +kernel
theorem dX8_finished_49 : decode cX8_finished 49 = .ok (.getfield 34, 3) := by decide +kernel
theorem dX8_finished_52 : decode cX8_finished 52 = .ok (.iload_n 1, 1) := by decide +kernel
theorem dX8_finished_53 : decode cX8_finished 53 = .ok (.iaload, 1) := by decide +kernel
theorem dX8_finished_54 : decode cX8_finished 54 = .ok (.iadd, 1) := by decide +kernel
theorem dX8_finished_55 : decode cX8_finished 55 = .ok (.bipush 99, 2) := by decide +kernel
theorem dX8_finished_57 : decode cX8_finished 57 = .ok (.iadd, 1) := by decide +kernel
theorem dX8_finished_58 : decode cX8_finished 58 = .ok (.iload_n 2, 1) := by decide +kernel
theorem dX8_finished_59 : decode cX8_finished 59 = .ok (.invokevirtual 225, 3) := by decide +kernel
theorem dX8_finished_62 : decode cX8_finished 62 = .ok (.invokevirtual 238, 3) := by decide +kernel
theorem dX8_finished_65 : decode cX8_finished 65 = .ok (.ireturn, 1) := by decide +kernel
theorem dX8_finished_66 : decode cX8_finished 66 = .ok (.iconst 0, 1) := by decide +kernel
theorem dX8_finished_67 : decode cX8_finished 67 = .ok (.istore_n 3, 1) := by decide +kernel
theorem dX8_finished_68 : decode cX8_finished 68 = .ok (.iload_n 3, 1) := by decide +kernel
theorem dX8_finished_69 : decode cX8_finished 69 = .ok (.aload_n 0, 1) := by decide +kernel
theorem dX8_finished_70 : decode cX8_finished 70 = .ok (.getfield 241, 3) := by decide +kernel
theorem dX8_finished_73 : decode cX8_finished 73 = .ok (.if_icmp .ge 36, 3) := by decide +kernel
theorem dX8_finished_76 : decode cX8_finished 76 = .ok (.aload_n 0, 1) := by decide +kernel
theorem dX8_finished_77 : decode cX8_finished 77 = .ok (.getfield 77, 3) := by decide +kernel
theorem dX8_finished_80 : decode cX8_finished 80 = .ok (.iload_n 3, 1) := by decide +kernel
theorem dX8_finished_81 : decode cX8_finished 81 = .ok (.iaload, 1) := by decide +kernel
theorem dX8_finished_82 : decode cX8_finished 82 = .ok (.iload_n 1, 1) := by decide +kernel
theorem dX8_finished_83 : decode cX8_finished 83 = .ok (.if_icmp .ne 20, 3) := by decide +kernel
theorem dX8_finished_86 : decode cX8_finished 86 = .ok (.aload_n 0, 1) := by decide +kernel
theorem dX8_finished_87 : decode cX8_finished 87 = .ok (.getfield 80, 3) := by decide +kernel
theorem dX8_finished_90 : decode cX8_finished 90 = .ok (.iload_n 3, 1) := by decide +kernel
theorem dX8_finished_91 : decode cX8_finished 91 = .ok (.iaload, 1) := by decide +kernel
theorem dX8_finished_92 : decode cX8_finished 92 = .ok (.iload_n 2, 1) := by decide +kernel
theorem dX8_finished_93 : decode cX8_finished 93 = .ok (.if_icmp .ne 10, 3) := by decide +kernel
theorem dX8_finished_96 : decode cX8_finished 96 = .ok (.aload_n 0, 1) := by decide +kernel
theorem dX8_finished_97 : decode cX8_finished 97 = .ok (.getfield 83, 3) := by decide +kernel
theorem dX8_finished_100 : decode cX8_finished 100 = .ok (.iload_n 3, 1) := by decide +kernel
theorem dX8_finished_101 : decode cX8_finished 101 = .ok (.iaload, 1) := by decide +kernel
theorem dX8_finished_102 : decode cX8_finished 102 = .ok (.ireturn, 1) := by decide +kernel
theorem dX8_finished_103 : decode cX8_finished 103 = .ok (.iinc 3 1, 3) := by decide +kernel
theorem dX8_finished_106 : decode cX8_finished 106 = .ok (.goto (-38), 3) := by decide +kernel
theorem dX8_finished_109 : decode cX8_finished 109 = .ok (.aload_n 0, 1) := by decide +kernel
theorem dX8_finished_110 : decode cX8_finished 110 = .ok (.iload_n 1, 1) := by decide +kernel
theorem dX8_finished_111 : decode cX8_finished 111 = .ok (.iload_n 2, 1) := by decide +kernel
theorem dX8_finished_112 : decode cX8_finished 112 = .ok (.invokevirtual 244, 3) := by decide +kernel
theorem dX8_finished_115 : decode cX8_finished 115 = .ok (.istore_n 3, 1) := by decide +kernel
theorem dX8_finished_116 : decode cX8_finished 116 = .ok (.aload_n 0, 1) := by decide +kernel
theorem dX8_finished_117 : decode cX8_finished 117 = .ok (.getfield 241, 3) := by decide +kernel
theorem dX8_finished_120 : decode cX8_finished 120 = .ok (.aload_n 0, 1) := by decide +kernel
theorem dX8_finished_121 : decode cX8_finished 121 = .ok (.getfield 77, 3) := by decide +kernel
theorem dX8_finished_124 : decode cX8_finished 124 = .ok (.arraylength, 1) := by decide +kernel
theorem dX8_finished_125 : decode cX8_finished 125 = .ok (.if_icmp .ne 36, 3) := by decide +kernel
theorem dX8_finished_128 : decode cX8_finished 128 = .ok (.aload_n 0, 1) := by decide +kernel
theorem dX8_finished_129 : decode cX8_finished 129 = .ok (.aload_n 0, 1) := by decide +kernel
theorem dX8_finished_130 : decode cX8_finished 130 = .ok (.getfield 77, 3) := by decide +kernel
theorem dX8_finished_133 : decode cX8_finished 133 = .ok (.invokestatic 211, 3) := by decide +kernel
theorem dX8_finished_136 : decode cX8_finished 136 = .ok (.putfield 77, 3) := by decide +kernel
theorem dX8_finished_139 : decode cX8_finished 139 = .ok (.aload_n 0, 1) := by decide +kernel
theorem dX8_finished_140 : decode cX8_finished 140 = .ok (.aload_n 0, 1) := by decide +kernel
theorem dX8_finished_141 : decode cX8_finished 141 = .ok (.getfield 80, 3) := by decide +kernel
theorem dX8_finished_144 : decode cX8_finished 144 = .ok (.invokestatic 211, 3) := by decide +kernel
theorem dX8_finished_147 : decode cX8_finished 147 = .ok (.putfield 80, 3) := by decide +kernel
theorem dX8_finished_150 : decode cX8_finished 150 = .ok (.aload_n 0, 1) := by decide +kernel
theorem dX8_finished_151 : decode cX8_finished 151 = .ok (.aload_n 0, 1) := by decide +kernel
theorem dX8_finished_152 : decode cX8_finished 152 = .ok (.getfield 83, 3) := by decide +kernel
theorem dX8_finished_155 : decode cX8_finished 155 = .ok (.invokestatic 211, 3) := by decide +kernel
theorem dX8_finished_158 : decode cX8_finished 158 = .ok (.putfield 83, 3) := by decide +kernel
theorem dX8_finished_161 : decode cX8_finished 161 = .ok (.aload_n 0, 1) := by decide +kernel
theorem dX8_finished_162 : decode cX8_finished 162 = .ok (.getfield 77, 3) := by decide +kernel
theorem dX8_finished_165 : decode cX8_finished 165 = .ok (.aload_n 0, 1) := by decide +kernel
theorem dX8_finished_166 : decode cX8_finished 166 = .ok (.getfield 241, 3) := by decide +kernel
theorem dX8_finished_169 : decode cX8_finished 169 = .ok (.iload_n 1, 1) := by decide +kernel
theorem dX8_finished_170 : decode cX8_finished 170 = .ok (.iastore, 1) := by decide +kernel
theorem dX8_finished_171 : decode cX8_finished 171 = .ok (.aload_n 0, 1) := by decide +kernel
theorem dX8_finished_172 : decode cX8_finished 172 = .ok (.getfield 80, 3) := by decide +kernel
theorem dX8_finished_175 : decode cX8_finished 175 = .ok (.aload_n 0, 1) := by decide +kernel
theorem dX8_finished_176 : decode cX8_finished 176 = .ok (.getfield 241, 3) := by decide +kernel
theorem dX8_finished_179 : decode cX8_finished 179 = .ok (.iload_n 2, 1) := by decide +kernel
theorem dX8_finished_180 : decode cX8_finished 180 = .ok (.iastore, 1) := by decide +kernel
theorem dX8_finished_181 : decode cX8_finished 181 = .ok (.aload_n 0, 1) := by decide +kernel
theorem dX8_finished_182 : decode cX8_finished 182 = .ok (.getfield 83, 3) := by decide +kernel
theorem dX8_finished_185 : decode cX8_finished 185 = .ok (.aload_n 0, 1) := by decide +kernel
theorem dX8_finished_186 : decode cX8_finished 186 = .ok (.getfield 241, 3) := by decide +kernel
theorem dX8_finished_189 : decode cX8_finished 189 = .ok (.iload_n 3, 1) := by decide +kernel
theorem dX8_finished_190 : decode cX8_finished 190 = .ok (.iastore, 1) := by decide +kernel
theorem dX8_finished_191 : decode cX8_finished 191 = .ok (.aload_n 0, 1) := by decide +kernel
theorem dX8_finished_192 : decode cX8_finished 192 = .ok (.dup, 1) := by decide +kernel
theorem dX8_finished_193 : decode cX8_finished 193 = .ok (.getfield 241, 3) := by decide +kernel
theorem dX8_finished_196 : decode cX8_finished 196 = .ok (.iconst 1, 1) := by decide +kernel
theorem dX8_finished_197 : decode cX8_finished 197 = .ok (.iadd, 1) := by decide +kernel
theorem dX8_finished_198 : decode cX8_finished 198 = .ok (.putfield 241, 3) := by decide +kernel
theorem dX8_finished_201 : decode cX8_finished 201 = .ok (.iload_n 3, 1) := by decide +kernel
theorem dX8_finished_202 : decode cX8_finished 202 = .ok (.ireturn, 1) := by decide +kernel
theorem dX8_rewrite_0 : decode cX8_rewrite 0 = .ok (.aload_n 0, 1) := by decide +kernel
theorem dX8_rewrite_1 : decode cX8_rewrite 1 = .ok (.aload_n 0, 1) := by decide +kernel
theorem dX8_rewrite_2 : decode cX8_rewrite 2 = .ok (.iload_n 1, 1) := by decide +kernel
theorem dX8_rewrite_3 : decode cX8_rewrite 3 = .ok (.invokevirtual 121, 3) := by decide +kernel
theorem dX8_rewrite_6 : decode cX8_rewrite 6 = .ok (.ifCond .eq 7, 3) := by decide +kernel
theorem dX8_rewrite_9 : decode cX8_rewrite 9 = .ok (.iconst 0, 1) := by decide +kernel
theorem dX8_rewrite_10 : decode cX8_rewrite 10 = .ok (.goto 4, 3) := by decide +kernel
theorem dX8_rewrite_13 : decode cX8_rewrite 13 = .ok (.iconst 1, 1) := by decide +kernel
theorem dX8_rewrite_14 : decode cX8_rewrite 14 = .ok (.invokevirtual 112, 3) := by decide +kernel
theorem dX8_rewrite_17 : decode cX8_rewrite 17 = .ok (.ifCond .ne 5, 3) := by decide +kernel
theorem dX8_rewrite_20 : decode cX8_rewrite 20 = .ok (.iconst 0, 1) := by decide +kernel
theorem dX8_rewrite_21 : decode cX8_rewrite 21 = .ok (.ireturn, 1) := by decide +kernel
theorem dX8_rewrite_22 : decode cX8_rewrite 22 = .ok (.aload_n 0, 1) := by decide +kernel
theorem dX8_rewrite_23 : decode cX8_rewrite 23 = .ok (.iconst 0, 1) := by decide +kernel
theorem dX8_rewrite_24 : decode cX8_rewrite 24 = .ok (.putfield 208, 3) := by decide +kernel
theorem dX8_rewrite_27 : decode cX8_rewrite 27 = .ok (.aload_n 0, 1) := by decide +kernel
theorem dX8_rewrite_28 : decode cX8_rewrite 28 = .ok (.iconst 0, 1) := by decide +kernel
theorem dX8_rewrite_29 : decode cX8_rewrite 29 = .ok (.putfield 241, 3) := by decide +kernel
theorem dX8_rewrite_32 : decode cX8_rewrite 32 = .ok (.aload_n 0, 1) := by decide +kernel
theorem dX8_rewrite_33 : decode cX8_rewrite 33 = .ok (.getfield 118, 3) := by decide +kernel
theorem dX8_rewrite_36 : decode cX8_rewrite 36 = .ok (.istore_n 2, 1) := by decide +kernel
theorem dX8_rewrite_37 : decode cX8_rewrite 37 = .ok (.aload_n 0, 1) := by decide +kernel
theorem dX8_rewrite_38 : decode cX8_rewrite 38 = .ok (.iconst 0, 1) := by decide +kernel
theorem dX8_rewrite_39 : decode cX8_rewrite 39 = .ok (.putfield 228, 3) := by decide +kernel
theorem dX8_rewrite_42 : decode cX8_rewrite 42 = .ok (.aload_n 0, 1) := by decide +kernel
theorem dX8_rewrite_43 : decode cX8_rewrite 43 = .ok (.iload_n 1, 1) := by decide +kernel
theorem dX8_rewrite_44 : decode cX8_rewrite 44 = .ok (.iconst (-1), 1) := by decide +kernel
theorem dX8_rewrite_45 : decode cX8_rewrite 45 = .ok (.invokevirtual 238, 3) := by decide +kernel
theorem dX8_rewrite_48 : decode cX8_rewrite 48 = .ok (.istore_n 3, 1) := by decide +kernel
theorem dX8_rewrite_49 : decode cX8_rewrite 49 = .ok (.aload_n 0, 1) := by decide +kernel
theorem dX8_rewrite_50 : decode cX8_rewrite 50 = .ok (.aload_n 0, 1) := by decide +kernel
theorem dX8_rewrite_51 : decode cX8_rewrite 51 = .ok (.getfield 228, 3) := by decide +kernel
theorem dX8_rewrite_54 : decode cX8_rewrite 54 = .ok (.ifCond .eq 7, 3) := by decide +kernel
theorem dX8_rewrite_57 : decode cX8_rewrite 57 = .ok (.iload_n 2, 1) := by decide +kernel
theorem dX8_rewrite_58 : decode cX8_rewrite 58 = .ok (.goto 7, 3) := by decide +kernel
theorem dX8_rewrite_61 : decode cX8_rewrite 61 = .ok (.aload_n 0, 1) := by decide +kernel
theorem dX8_rewrite_62 : decode cX8_rewrite 62 = .ok (.getfield 118, 3) := by decide +kernel
theorem dX8_rewrite_65 : decode cX8_rewrite 65 = .ok (.putfield 118, 3) := by decide +kernel
theorem dX8_rewrite_68 : decode cX8_rewrite 68 = .ok (.aload_n 0, 1) := by decide +kernel
theorem dX8_rewrite_69 : decode cX8_rewrite 69 = .ok (.aload_n 0, 1) := by decide +kernel
theorem dX8_rewrite_70 : decode cX8_rewrite 70 = .ok (.getfield 228, 3) := by decide +kernel
theorem dX8_rewrite_73 : decode cX8_rewrite 73 = .ok (.ifCond .eq 7, 3) := by decide +kernel
theorem dX8_rewrite_76 : decode cX8_rewrite 76 = .ok (.iconst 2, 1) := by decide +kernel
theorem dX8_rewrite_77 : decode cX8_rewrite 77 = .ok (.goto 4, 3) := by decide +kernel
theorem dX8_rewrite_80 : decode cX8_rewrite 80 = .ok (.iconst 0, 1) := by decide +kernel
theorem dX8_rewrite_81 : decode cX8_rewrite 81 = .ok (.invokevirtual 112, 3) := by decide +kernel
theorem dX8_rewrite_84 : decode cX8_rewrite 84 = .ok (.ifCond .eq 7, 3) := by decide +kernel
theorem dX8_rewrite_87 : decode cX8_rewrite 87 = .ok (.iload_n 3, 1) := by decide +kernel
theorem dX8_rewrite_88 : decode cX8_rewrite 88 = .ok (.goto 4, 3) := by decide +kernel
theorem dX8_rewrite_91 : decode cX8_rewrite 91 = .ok (.iconst 0, 1) := by decide +kernel
theorem dX8_rewrite_92 : decode cX8_rewrite 92 = .ok (.ireturn, 1) := by decide +kernel
theorem dX8_link_0 : decode cX8_link 0 = .ok (.aload_n 0, 1) := by decide +kernel
theorem dX8_link_1 : decode cX8_link 1 = .ok (.iload_n 1, 1) := by decide +kernel
theorem dX8_link_2 : decode cX8_link 2 = .ok (.iload_n 2, 1) := by decide +kernel
theorem dX8_link_3 : decode cX8_link 3 = .ok (.invokevirtual 247, 3) := by decide +kernel
theorem dX8_link_6 : decode cX8_link 6 = .ok (.ifCond .eq 17, 3) := by decide +kernel
theorem dX8_link_9 : decode cX8_link 9 = .ok (.aload_n 0, 1) := by decide +kernel
theorem dX8_link_10 : decode cX8_link 10 = .ok (.iload_n 3, 1) := by decide +kernel
theorem dX8_link_11 : decode cX8_link 11 = .ok (.iload 4, 2) := by decide +kernel
theorem dX8_link_13 : decode cX8_link 13 = .ok (.invokevirtual 247, 3) := by decide +kernel
theorem dX8_link_16 : decode cX8_link 16 = .ok (.ifCond .eq 7, 3) := by decide +kernel
theorem dX8_link_19 : decode cX8_link 19 = .ok (.iconst 1, 1) := by decide +kernel
theorem dX8_link_20 : decode cX8_link 20 = .ok (.goto 4, 3) := by decide +kernel
theorem dX8_link_23 : decode cX8_link 23 = .ok (.iconst 0, 1) := by decide +kernel
theorem dX8_link_24 : decode cX8_link 24 = .ok (.istore 5, 2) := by decide +kernel
theorem dX8_link_26 : decode cX8_link 26 = .ok (.aload_n 0, 1) := by decide +kernel
theorem dX8_link_27 : decode cX8_link 27 = .ok (.iload 5, 2) := by decide +kernel
theorem dX8_link_29 : decode cX8_link 29 = .ok (.ifCond .ne 7, 3) := by decide +kernel
theorem dX8_link_32 : decode cX8_link 32 = .ok (.iconst 1, 1) := by decide +kernel
theorem dX8_link_33 : decode cX8_link 33 = .ok (.goto 26, 3) := by decide +kernel
theorem dX8_link_36 : decode cX8_link 36 = .ok (.iload_n 1, 1) := by decide +kernel
theorem dX8_link_37 : decode cX8_link 37 = .ok (.iload_n 3, 1) := by decide +kernel
theorem dX8_link_38 : decode cX8_link 38 = .ok (.if_icmp .ne 7, 3) := by decide +kernel
theorem dX8_link_41 : decode cX8_link 41 = .ok (.iconst 2, 1) := by decide +kernel
theorem dX8_link_42 : decode cX8_link 42 = .ok (.goto 17, 3) := by decide +kernel
theorem dX8_link_45 : decode cX8_link 45 = .ok (.aload_n 0, 1) := by decide +kernel
theorem dX8_link_46 : decode cX8_link 46 = .ok (.getfield 250, 3) := by decide +kernel
theorem dX8_link_49 : decode cX8_link 49 = .ok (.bipush 6, 2) := by decide +kernel
theorem dX8_link_51 : decode cX8_link 51 = .ok (.if_icmp .ne 7, 3) := by decide +kernel
theorem dX8_link_54 : decode cX8_link 54 = .ok (.iconst 3, 1) := by decide +kernel
theorem dX8_link_55 : decode cX8_link 55 = .ok (.goto 4, 3) := by decide +kernel
theorem dX8_link_58 : decode cX8_link 58 = .ok (.iconst 0, 1) := by decide +kernel
theorem dX8_link_59 : decode cX8_link 59 = .ok (.invokevirtual 112, 3) := by decide +kernel
theorem dX8_link_62 : decode cX8_link 62 = .ok (.ifCond .ne 5, 3) := by decide +kernel
theorem dX8_link_65 : decode cX8_link 65 = .ok (.iconst 0, 1) := by decide +kernel
theorem dX8_link_66 : decode cX8_link 66 = .ok (.ireturn, 1) := by decide +kernel
theorem dX8_link_67 : decode cX8_link 67 = .ok (.aload_n 0, 1) := by decide +kernel
theorem dX8_link_68 : decode cX8_link 68 = .ok (.getfield 45, 3) := by decide +kernel
theorem dX8_link_71 : decode cX8_link 71 = .ok (.iconst 4, 1) := by decide +kernel
theorem dX8_link_72 : decode cX8_link 72 = .ok (.aload_n 0, 1) := by decide +kernel
theorem dX8_link_73 : decode cX8_link 73 = .ok (.getfield 250, 3) := by decide +kernel
theorem dX8_link_76 : decode cX8_link 76 = .ok (.imul, 1) := by decide +kernel
theorem dX8_link_77 : decode cX8_link 77 = .ok (.iload_n 1, 1) := by decide +kernel
theorem dX8_link_78 : decode cX8_link 78 = .ok (.iastore, 1) := by decide +kernel
theorem dX8_link_79 : decode cX8_link 79 = .ok (.aload_n 0, 1) := by decide +kernel
theorem dX8_link_80 : decode cX8_link 80 = .ok (.getfield 45, 3) := by decide +kernel
theorem dX8_link_83 : decode cX8_link 83 = .ok (.iconst 4, 1) := by decide +kernel
theorem dX8_link_84 : decode cX8_link 84 = .ok (.aload_n 0, 1) := by decide +kernel
theorem dX8_link_85 : decode cX8_link 85 = .ok (.getfield 250, 3) := by decide +kernel
theorem dX8_link_88 : decode cX8_link 88 = .ok (.imul, 1) := by decide +kernel
theorem dX8_link_89 : decode cX8_link 89 = .ok (.iconst 1, 1) := by decide +kernel
theorem dX8_link_90 : decode cX8_link 90 = .ok (.iadd, 1) := by decide +kernel
theorem dX8_link_91 : decode cX8_link 91 = .ok (.iload_n 2, 1) := by decide +kernel
theorem dX8_link_92 : decode cX8_link 92 = .ok (.iastore, 1) := by decide +kernel
theorem dX8_link_93 : decode cX8_link 93 = .ok (.aload_n 0, 1) := by decide +kernel
theorem dX8_link_94 : decode cX8_link 94 = .ok (.getfield 45, 3) := by decide +kernel
theorem dX8_link_97 : decode cX8_link 97 = .ok (.iconst 4, 1) := by decide +kernel
theorem dX8_link_98 : decode cX8_link 98 = .ok (.aload_n 0, 1) := by decide +kernel
theorem dX8_link_99 : decode cX8_link 99 = .ok (.getfield 250, 3) := by decide +kernel
theorem dX8_link_102 : decode cX8_link 102 = .ok (.imul, 1) := by decide +kernel
theorem dX8_link_103 : decode cX8_link 103 = .ok (.iconst 2, 1) := by decide +kernel
theorem dX8_link_104 : decode cX8_link 104 = .ok (.iadd, 1) := by decide +kernel
theorem dX8_link_105 : decode cX8_link 105 = .ok (.iload_n 3, 1) := by decide +kernel
theorem dX8_link_106 : decode cX8_link 106 = .ok (.iastore, 1) := by decide +kernel
theorem dX8_link_107 : decode cX8_link 107 = .ok (.aload_n 0, 1) := by decide +kernel
theorem dX8_link_108 : decode cX8_link 108 = .ok (.getfield 45, 3) := by decide +kernel
theorem dX8_link_111 : decode cX8_link 111 = .ok (.iconst 4, 1) := by decide +kernel
theorem dX8_link_112 : decode cX8_link 112 = .ok (.aload_n 0, 1) := by decide +kernel
theorem dX8_link_113 : decode cX8_link 113 = .ok (.getfield 250, 3) := by decide +kernel
theorem dX8_link_116 : decode cX8_link 116 = .ok (.imul, 1) := by decide +kernel
theorem dX8_link_117 : decode cX8_link 117 = .ok (.iconst 3, 1) := by decide +kernel
theorem dX8_link_118 : decode cX8_link 118 = .ok (.iadd, 1) := by decide +kernel
theorem dX8_link_119 : decode cX8_link 119 = .ok (.iload 4, 2) := by decide +kernel
theorem dX8_link_121 : decode cX8_link 121 = .ok (.iastore, 1) := by decide +kernel
theorem dX8_link_122 : decode cX8_link 122 = .ok (.aload_n 0, 1) := by decide +kernel
theorem dX8_link_123 : decode cX8_link 123 = .ok (.dup, 1) := by decide +kernel
theorem dX8_link_124 : decode cX8_link 124 = .ok (.getfield 250, 3) := by decide +kernel
theorem dX8_link_127 : decode cX8_link 127 = .ok (.iconst 1, 1) := by decide +kernel
theorem dX8_link_128 : decode cX8_link 128 = .ok (.iadd, 1) := by decide +kernel
theorem dX8_link_129 : decode cX8_link 129 = .ok (.putfield 250, 3) := by decide +kernel
theorem dX8_link_132 : decode cX8_link 132 = .ok (.aload_n 0, 1) := by decide +kernel
theorem dX8_link_133 : decode cX8_link 133 = .ok (.getfield 250, 3) := by decide +kernel
theorem dX8_link_136 : decode cX8_link 136 = .ok (.ireturn, 1) := by decide +kernel
theorem dX8_isSet_0 : decode cX8_isSet 0 = .ok (.iload_n 1, 1) := by decide +kernel
theorem dX8_isSet_1 : decode cX8_isSet 1 = .ok (.ifCond .le 17, 3) := by decide +kernel
theorem dX8_isSet_4 : decode cX8_isSet 4 = .ok (.iload_n 1, 1) := by decide +kernel
theorem dX8_isSet_5 : decode cX8_isSet 5 = .ok (.iconst 1, 1) := by decide +kernel
theorem dX8_isSet_6 : decode cX8_isSet 6 = .ok (.aload_n 0, 1) := by decide +kernel
theorem dX8_isSet_7 : decode cX8_isSet 7 = .ok (.getfield 101, 3) := by decide +kernel
theorem dX8_isSet_10 : decode cX8_isSet 10 = .ok (.ishl, 1) := by decide +kernel
theorem dX8_isSet_11 : decode cX8_isSet 11 = .ok (.if_icmp .ge 7, 3) := by decide +kernel
theorem dX8_isSet_14 : decode cX8_isSet 14 = .ok (.iconst 1, 1) := by decide +kernel
theorem dX8_isSet_15 : decode cX8_isSet 15 = .ok (.goto 4, 3) := by decide +kernel
theorem dX8_isSet_18 : decode cX8_isSet 18 = .ok (.iconst 0, 1) := by decide +kernel
theorem dX8_isSet_19 : decode cX8_isSet 19 = .ok (.ireturn, 1) := by decide +kernel
theorem dX8_unlikeValues_0 : decode cX8_unlikeValues 0 = .ok (.iconst 0, 1) := by decide +kernel
theorem dX8_unlikeValues_1 : decode cX8_unlikeValues 1 = .ok (.istore_n 3, 1) := by decide +kernel
theorem dX8_unlikeValues_2 : decode cX8_unlikeValues 2 = .ok (.iconst 0, 1) := by decide +kernel
theorem dX8_unlikeValues_3 : decode cX8_unlikeValues 3 = .ok (.istore 4, 2) := by decide +kernel
theorem dX8_unlikeValues_5 : decode cX8_unlikeValues 5 = .ok (.iload 4, 2) := by decide +kernel
theorem dX8_unlikeValues_7 : decode cX8_unlikeValues 7 = .ok (.aload_n 0, 1) := by decide +kernel
theorem dX8_unlikeValues_8 : decode cX8_unlikeValues 8 = .ok (.getfield 13, 3) := by decide +kernel
theorem dX8_unlikeValues_11 : decode cX8_unlikeValues 11 = .ok (.iload_n 1, 1) := by decide +kernel
theorem dX8_unlikeValues_12 : decode cX8_unlikeValues 12 = .ok (.iaload, 1) := by decide +kernel
theorem dX8_unlikeValues_13 : decode cX8_unlikeValues 13 = .ok (.if_icmp .ge 90, 3) := by decide +kernel
theorem dX8_unlikeValues_16 : decode cX8_unlikeValues 16 = .ok (.aload_n 0, 1) := by decide +kernel
theorem dX8_unlikeValues_17 : decode cX8_unlikeValues 17 = .ok (.iload_n 1, 1) := by decide +kernel
theorem dX8_unlikeValues_18 : decode cX8_unlikeValues 18 = .ok (.iload 4, 2) := by decide +kernel
theorem dX8_unlikeValues_20 : decode cX8_unlikeValues 20 = .ok (.iload_n 2, 1) := by decide +kernel
theorem dX8_unlikeValues_21 : decode cX8_unlikeValues 21 = .ok (.invokevirtual 152, 3) := by decide +kernel
theorem dX8_unlikeValues_24 : decode cX8_unlikeValues 24 = .ok (.sipush (-1000), 3) := by decide +kernel
theorem dX8_unlikeValues_27 : decode cX8_unlikeValues 27 = .ok (.if_icmp .eq 7, 3) := by decide +kernel
theorem dX8_unlikeValues_30 : decode cX8_unlikeValues 30 = .ok (.iconst 1, 1) := by decide +kernel
theorem dX8_unlikeValues_31 : decode cX8_unlikeValues 31 = .ok (.goto 4, 3) := by decide +kernel
theorem dX8_unlikeValues_34 : decode cX8_unlikeValues 34 = .ok (.iconst 0, 1) := by decide +kernel
theorem dX8_unlikeValues_35 : decode cX8_unlikeValues 35 = .ok (.istore 5, 2) := by decide +kernel
theorem dX8_unlikeValues_37 : decode cX8_unlikeValues 37 = .ok (.iconst 0, 1) := by decide +kernel
theorem dX8_unlikeValues_38 : decode cX8_unlikeValues 38 = .ok (.istore 6, 2) := by decide +kernel
theorem dX8_unlikeValues_40 : decode cX8_unlikeValues 40 = .ok (.iload 6, 2) := by decide +kernel
theorem dX8_unlikeValues_42 : decode cX8_unlikeValues 42 = .ok (.iload 4, 2) := by decide +kernel
theorem dX8_unlikeValues_44 : decode cX8_unlikeValues 44 = .ok (.if_icmp .ge 40, 3) := by decide +kernel
theorem dX8_unlikeValues_47 : decode cX8_unlikeValues 47 = .ok (.iload 5, 2) := by decide +kernel
theorem dX8_unlikeValues_49 : decode cX8_unlikeValues 49 = .ok (.ifCond .eq 26, 3) := by decide +kernel
theorem dX8_unlikeValues_52 : decode cX8_unlikeValues 52 = .ok (.aload_n 0, 1) := by decide +kernel
theorem dX8_unlikeValues_53 : decode cX8_unlikeValues 53 = .ok (.iload_n 1, 1) := by decide +kernel
theorem dX8_unlikeValues_54 : decode cX8_unlikeValues 54 = .ok (.iload 6, 2) := by decide +kernel
theorem dX8_unlikeValues_56 : decode cX8_unlikeValues 56 = .ok (.iload_n 2, 1) := by decide +kernel
theorem dX8_unlikeValues_57 : decode cX8_unlikeValues 57 = .ok (.invokevirtual 152, 3) := by decide +kernel
theorem dX8_unlikeValues_60 : decode cX8_unlikeValues 60 = .ok (.aload_n 0, 1) := by decide +kernel
theorem dX8_unlikeValues_61 : decode cX8_unlikeValues 61 = .ok (.iload_n 1, 1) := by decide +kernel
theorem dX8_unlikeValues_62 : decode cX8_unlikeValues 62 = .ok (.iload 4, 2) := by decide +kernel
theorem dX8_unlikeValues_64 : decode cX8_unlikeValues 64 = .ok (.iload_n 2, 1) := by decide +kernel
theorem dX8_unlikeValues_65 : decode cX8_unlikeValues 65 = .ok (.invokevirtual 152, 3) := by decide +kernel
theorem dX8_unlikeValues_68 : decode cX8_unlikeValues 68 = .ok (.if_icmp .eq 7, 3) := by decide +kernel
theorem dX8_unlikeValues_71 : decode cX8_unlikeValues 71 = .ok (.iconst 1, 1) := by decide +kernel
theorem dX8_unlikeValues_72 : decode cX8_unlikeValues 72 = .ok (.goto 4, 3) := by decide +kernel
theorem dX8_unlikeValues_75 : decode cX8_unlikeValues 75 = .ok (.iconst 0, 1) := by decide +kernel
theorem dX8_unlikeValues_76 : decode cX8_unlikeValues 76 = .ok (.istore 5, 2) := by decide +kernel
theorem dX8_unlikeValues_78 : decode cX8_unlikeValues 78 = .ok (.iinc 6 1, 3) := by decide +kernel
theorem dX8_unlikeValues_81 : decode cX8_unlikeValues 81 = .ok (.goto (-41), 3) := by decide +kernel
theorem dX8_unlikeValues_84 : decode cX8_unlikeValues 84 = .ok (.iload_n 3, 1) := by decide +kernel
theorem dX8_unlikeValues_85 : decode cX8_unlikeValues 85 = .ok (.iload 5, 2) := by decide +kernel
theorem dX8_unlikeValues_87 : decode cX8_unlikeValues 87 = .ok (.ifCond .eq 7, 3) := by decide +kernel
theorem dX8_unlikeValues_90 : decode cX8_unlikeValues 90 = .ok (.iconst 1, 1) := by decide +kernel
theorem dX8_unlikeValues_91 : decode cX8_unlikeValues 91 = .ok (.goto 4, 3) := by decide +kernel
theorem dX8_unlikeValues_94 : decode cX8_unlikeValues 94 = .ok (.iconst 0, 1) := by decide +kernel
theorem dX8_unlikeValues_95 : decode cX8_unlikeValues 95 = .ok (.iadd, 1) := by decide +kernel
theorem dX8_unlikeValues_96 : decode cX8_unlikeValues 96 = .ok (.istore_n 3, 1) := by decide +kernel
theorem dX8_unlikeValues_97 : decode cX8_unlikeValues 97 = .ok (.iinc 4 1, 3) := by decide +kernel
theorem dX8_unlikeValues_100 : decode cX8_unlikeValues 100 = .ok (.goto (-95), 3) := by decide +kernel
theorem dX8_unlikeValues_103 : decode cX8_unlikeValues 103 = .ok (.iload_n 3, 1) := by decide +kernel
theorem dX8_unlikeValues_104 : decode cX8_unlikeValues 104 = .ok (.ifCond .le 7, 3) := by decide +kernel
theorem dX8_unlikeValues_107 : decode cX8_unlikeValues 107 = .ok (.iload_n 3, 1) := by decide +kernel
theorem dX8_unlikeValues_108 : decode cX8_unlikeValues 108 = .ok (.goto 4, 3) := by decide +kernel
theorem dX8_unlikeValues_111 : decode cX8_unlikeValues 111 = .ok (.iconst 1, 1) := by decide +kernel
theorem dX8_unlikeValues_112 : decode cX8_unlikeValues 112 = .ok (.ireturn, 1) := by decide +kernel
theorem dX8_estimateOf_0 : decode cX8_estimateOf 0 = .ok (.iconst 1, 1) := by decide +kernel
theorem dX8_estimateOf_1 : decode cX8_estimateOf 1 = .ok (.istore_n 2, 1) := by decide +kernel
theorem dX8_estimateOf_2 : decode cX8_estimateOf 2 = .ok (.iconst 0, 1) := by decide +kernel
theorem dX8_estimateOf_3 : decode cX8_estimateOf 3 = .ok (.istore_n 3, 1) := by decide +kernel
theorem dX8_estimateOf_4 : decode cX8_estimateOf 4 = .ok (.iload_n 3, 1) := by decide +kernel
theorem dX8_estimateOf_5 : decode cX8_estimateOf 5 = .ok (.aload_n 0, 1) := by decide +kernel
theorem dX8_estimateOf_6 : decode cX8_estimateOf 6 = .ok (.getfield 101, 3) := by decide +kernel
theorem dX8_estimateOf_9 : decode cX8_estimateOf 9 = .ok (.if_icmp .ge 41, 3) := by decide +kernel
theorem dX8_estimateOf_12 : decode cX8_estimateOf 12 = .ok (.iload_n 2, 1) := by decide +kernel
theorem dX8_estimateOf_13 : decode cX8_estimateOf 13 = .ok (.iload_n 1, 1) := by decide +kernel
theorem dX8_estimateOf_14 : decode cX8_estimateOf 14 = .ok (.iload_n 3, 1) := by decide +kernel
theorem dX8_estimateOf_15 : decode cX8_estimateOf 15 = .ok (.ishr, 1) := by decide +kernel
theorem dX8_estimateOf_16 : decode cX8_estimateOf 16 = .ok (.iconst 1, 1) := by decide +kernel
theorem dX8_estimateOf_17 : decode cX8_estimateOf 17 = .ok (.iand, 1) := by decide +kernel
theorem dX8_estimateOf_18 : decode cX8_estimateOf 18 = .ok (.iconst 1, 1) := by decide +kernel
theorem dX8_estimateOf_19 : decode cX8_estimateOf 19 = .ok (.if_icmp .ne 22, 3) := by decide +kernel
theorem dX8_estimateOf_22 : decode cX8_estimateOf 22 = .ok (.aload_n 0, 1) := by decide +kernel
theorem dX8_estimateOf_23 : decode cX8_estimateOf 23 = .ok (.getfield 13, 3) := by decide +kernel
theorem dX8_estimateOf_26 : decode cX8_estimateOf 26 = .ok (.iload_n 3, 1) := by decide +kernel
theorem dX8_estimateOf_27 : decode cX8_estimateOf 27 = .ok (.iaload, 1) := by decide +kernel
theorem dX8_estimateOf_28 : decode cX8_estimateOf 28 = .ok (.iconst 1, 1) := by decide +kernel
theorem dX8_estimateOf_29 : decode cX8_estimateOf 29 = .ok (.if_icmp .le 12, 3) := by decide +kernel
theorem dX8_estimateOf_32 : decode cX8_estimateOf 32 = .ok (.aload_n 0, 1) := by decide +kernel
theorem dX8_estimateOf_33 : decode cX8_estimateOf 33 = .ok (.getfield 13, 3) := by decide +kernel
theorem dX8_estimateOf_36 : decode cX8_estimateOf 36 = .ok (.iload_n 3, 1) := by decide +kernel
theorem dX8_estimateOf_37 : decode cX8_estimateOf 37 = .ok (.iaload, 1) := by decide +kernel
theorem dX8_estimateOf_38 : decode cX8_estimateOf 38 = .ok (.goto 4, 3) := by decide +kernel
theorem dX8_estimateOf_41 : decode cX8_estimateOf 41 = .ok (.iconst 1, 1) := by decide +kernel
theorem dX8_estimateOf_42 : decode cX8_estimateOf 42 = .ok (.imul, 1) := by decide +kernel
theorem dX8_estimateOf_43 : decode cX8_estimateOf 43 = .ok (.istore_n 2, 1) := by decide +kernel
theorem dX8_estimateOf_44 : decode cX8_estimateOf 44 = .ok (.iinc 3 1, 3) := by decide +kernel
theorem dX8_estimateOf_47 : decode cX8_estimateOf 47 = .ok (.goto (-43), 3) := by decide +kernel
theorem dX8_estimateOf_50 : decode cX8_estimateOf 50 = .ok (.iconst 0, 1) := by decide +kernel
theorem dX8_estimateOf_51 : decode cX8_estimateOf 51 = .ok (.istore_n 3, 1) := by decide +kernel
theorem dX8_estimateOf_52 : decode cX8_estimateOf 52 = .ok (.iload_n 3, 1) := by decide +kernel
theorem dX8_estimateOf_53 : decode cX8_estimateOf 53 = .ok (.aload_n 0, 1) := by decide +kernel
theorem dX8_estimateOf_54 : decode cX8_estimateOf 54 = .ok (.getfield 250, 3) := by decide +kernel
theorem dX8_estimateOf_57 : decode cX8_estimateOf 57 = .ok (.if_icmp .ge 104, 3) := by decide +kernel
theorem dX8_estimateOf_60 : decode cX8_estimateOf 60 = .ok (.aload_n 0, 1) := by decide +kernel
theorem dX8_estimateOf_61 : decode cX8_estimateOf 61 = .ok (.getfield 45, 3) := by decide +kernel
theorem dX8_estimateOf_64 : decode cX8_estimateOf 64 = .ok (.iconst 4, 1) := by decide +kernel
theorem dX8_estimateOf_65 : decode cX8_estimateOf 65 = .ok (.iload_n 3, 1) := by decide +kernel
theorem dX8_estimateOf_66 : decode cX8_estimateOf 66 = .ok (.imul, 1) := by decide +kernel
theorem dX8_estimateOf_67 : decode cX8_estimateOf 67 = .ok (.iaload, 1) := by decide +kernel
theorem dX8_estimateOf_68 : decode cX8_estimateOf 68 = .ok (.istore 4, 2) := by decide +kernel
theorem dX8_estimateOf_70 : decode cX8_estimateOf 70 = .ok (.aload_n 0, 1) := by decide +kernel
theorem dX8_estimateOf_71 : decode cX8_estimateOf 71 = .ok (.getfield 45, 3) := by decide +kernel
theorem dX8_estimateOf_74 : decode cX8_estimateOf 74 = .ok (.iconst 4, 1) := by decide +kernel
theorem dX8_estimateOf_75 : decode cX8_estimateOf 75 = .ok (.iload_n 3, 1) := by decide +kernel
theorem dX8_estimateOf_76 : decode cX8_estimateOf 76 = .ok (.imul, 1) := by decide +kernel
theorem dX8_estimateOf_77 : decode cX8_estimateOf 77 = .ok (.iconst 2, 1) := by decide +kernel
theorem dX8_estimateOf_78 : decode cX8_estimateOf 78 = .ok (.iadd, 1) := by decide +kernel
theorem dX8_estimateOf_79 : decode cX8_estimateOf 79 = .ok (.iaload, 1) := by decide +kernel
theorem dX8_estimateOf_80 : decode cX8_estimateOf 80 = .ok (.istore 5, 2) := by decide +kernel
theorem dX8_estimateOf_82 : decode cX8_estimateOf 82 = .ok (.iload_n 1, 1) := by decide +kernel
theorem dX8_estimateOf_83 : decode cX8_estimateOf 83 = .ok (.iload 4, 2) := by decide +kernel
theorem dX8_estimateOf_85 : decode cX8_estimateOf 85 = .ok (.ishr, 1) := by decide +kernel
theorem dX8_estimateOf_86 : decode cX8_estimateOf 86 = .ok (.iconst 1, 1) := by decide +kernel
theorem dX8_estimateOf_87 : decode cX8_estimateOf 87 = .ok (.iand, 1) := by decide +kernel
theorem dX8_estimateOf_88 : decode cX8_estimateOf 88 = .ok (.iconst 1, 1) := by decide +kernel
theorem dX8_estimateOf_89 : decode cX8_estimateOf 89 = .ok (.if_icmp .ne 66, 3) := by decide +kernel
theorem dX8_estimateOf_92 : decode cX8_estimateOf 92 = .ok (.iload_n 1, 1) := by decide +kernel
theorem dX8_estimateOf_93 : decode cX8_estimateOf 93 = .ok (.iload 5, 2) := by decide +kernel
theorem dX8_estimateOf_95 : decode cX8_estimateOf 95 = .ok (.ishr, 1) := by decide +kernel
theorem dX8_estimateOf_96 : decode cX8_estimateOf 96 = .ok (.iconst 1, 1) := by decide +kernel
theorem dX8_estimateOf_97 : decode cX8_estimateOf 97 = .ok (.iand, 1) := by decide +kernel
theorem dX8_estimateOf_98 : decode cX8_estimateOf 98 = .ok (.iconst 1, 1) := by decide +kernel
theorem dX8_estimateOf_99 : decode cX8_estimateOf 99 = .ok (.if_icmp .ne 56, 3) := by decide +kernel
theorem dX8_estimateOf_102 : decode cX8_estimateOf 102 = .ok (.aload_n 0, 1) := by decide +kernel
theorem dX8_estimateOf_103 : decode cX8_estimateOf 103 = .ok (.iload 4, 2) := by decide +kernel
theorem dX8_estimateOf_105 : decode cX8_estimateOf 105 = .ok (.aload_n 0, 1) := by decide +kernel
theorem dX8_estimateOf_106 : decode cX8_estimateOf 106 = .ok (.getfield 45, 3) := by decide +kernel
theorem dX8_estimateOf_109 : decode cX8_estimateOf 109 = .ok (.iconst 4, 1) := by decide +kernel
theorem dX8_estimateOf_110 : decode cX8_estimateOf 110 = .ok (.iload_n 3, 1) := by decide +kernel
theorem dX8_estimateOf_111 : decode cX8_estimateOf 111 = .ok (.imul, 1) := by decide +kernel
theorem dX8_estimateOf_112 : decode cX8_estimateOf 112 = .ok (.iconst 1, 1) := by decide +kernel
theorem dX8_estimateOf_113 : decode cX8_estimateOf 113 = .ok (.iadd, 1) := by decide +kernel
theorem dX8_estimateOf_114 : decode cX8_estimateOf 114 = .ok (.iaload, 1) := by decide +kernel
theorem dX8_estimateOf_115 : decode cX8_estimateOf 115 = .ok (.invokevirtual 253, 3) := by decide +kernel
theorem dX8_estimateOf_118 : decode cX8_estimateOf 118 = .ok (.istore 6, 2) := by decide +kernel
theorem dX8_estimateOf_120 : decode cX8_estimateOf 120 = .ok (.aload_n 0, 1) := by decide +kernel
theorem dX8_estimateOf_121 : decode cX8_estimateOf 121 = .ok (.iload 5, 2) := by decide +kernel
theorem dX8_estimateOf_123 : decode cX8_estimateOf 123 = .ok (.aload_n 0, 1) := by decide +kernel
theorem dX8_estimateOf_124 : decode cX8_estimateOf 124 = .ok (.getfield 45, 3) := by decide +kernel
theorem dX8_estimateOf_127 : decode cX8_estimateOf 127 = .ok (.iconst 4, 1) := by decide +kernel
theorem dX8_estimateOf_128 : decode cX8_estimateOf 128 = .ok (.iload_n 3, 1) := by decide +kernel
theorem dX8_estimateOf_129 : decode cX8_estimateOf 129 = .ok (.imul, 1) := by decide +kernel
theorem dX8_estimateOf_130 : decode cX8_estimateOf 130 = .ok (.iconst 3, 1) := by decide +kernel
theorem dX8_estimateOf_131 : decode cX8_estimateOf 131 = .ok (.iadd, 1) := by decide +kernel
theorem dX8_estimateOf_132 : decode cX8_estimateOf 132 = .ok (.iaload, 1) := by decide +kernel
theorem dX8_estimateOf_133 : decode cX8_estimateOf 133 = .ok (.invokevirtual 253, 3) := by decide +kernel
theorem dX8_estimateOf_136 : decode cX8_estimateOf 136 = .ok (.istore 7, 2) := by decide +kernel
theorem dX8_estimateOf_138 : decode cX8_estimateOf 138 = .ok (.iload_n 2, 1) := by decide +kernel
theorem dX8_estimateOf_139 : decode cX8_estimateOf 139 = .ok (.iload 6, 2) := by decide +kernel
theorem dX8_estimateOf_141 : decode cX8_estimateOf 141 = .ok (.iload 7, 2) := by decide +kernel
theorem dX8_estimateOf_143 : decode cX8_estimateOf 143 = .ok (.if_icmp .le 8, 3) := by decide +kernel
theorem dX8_estimateOf_146 : decode cX8_estimateOf 146 = .ok (.iload 6, 2) := by decide +kernel
theorem dX8_estimateOf_148 : decode cX8_estimateOf 148 = .ok (.goto 5, 3) := by decide +kernel
theorem dX8_estimateOf_151 : decode cX8_estimateOf 151 = .ok (.iload 7, 2) := by decide +kernel
theorem dX8_estimateOf_153 : decode cX8_estimateOf 153 = .ok (.idiv, 1) := by decide +kernel
theorem dX8_estimateOf_154 : decode cX8_estimateOf 154 = .ok (.istore_n 2, 1) := by decide +kernel
theorem dX8_estimateOf_155 : decode cX8_estimateOf 155 = .ok (.iinc 3 1, 3) := by decide +kernel
theorem dX8_estimateOf_158 : decode cX8_estimateOf 158 = .ok (.goto (-106), 3) := by decide +kernel
theorem dX8_estimateOf_161 : decode cX8_estimateOf 161 = .ok (.iload_n 2, 1) := by decide +kernel
theorem dX8_estimateOf_162 : decode cX8_estimateOf 162 = .ok (.ifCond .le 7, 3) := by decide +kernel
theorem dX8_estimateOf_165 : decode cX8_estimateOf 165 = .ok (.iload_n 2, 1) := by decide +kernel
theorem dX8_estimateOf_166 : decode cX8_estimateOf 166 = .ok (.goto 4, 3) := by decide +kernel
theorem dX8_estimateOf_169 : decode cX8_estimateOf 169 = .ok (.iconst 1, 1) := by decide +kernel
theorem dX8_estimateOf_170 : decode cX8_estimateOf 170 = .ok (.ireturn, 1) := by decide +kernel
theorem dX8_estimate_0 : decode cX8_estimate 0 = .ok (.aload_n 0, 1) := by decide +kernel
theorem dX8_estimate_1 : decode cX8_estimate 1 = .ok (.aload_n 0, 1) := by decide +kernel
theorem dX8_estimate_2 : decode cX8_estimate 2 = .ok (.iload_n 1, 1) := by decide +kernel
theorem dX8_estimate_3 : decode cX8_estimate 3 = .ok (.invokevirtual 256, 3) := by decide +kernel
theorem dX8_estimate_6 : decode cX8_estimate 6 = .ok (.ifCond .eq 7, 3) := by decide +kernel
theorem dX8_estimate_9 : decode cX8_estimate 9 = .ok (.iconst 0, 1) := by decide +kernel
theorem dX8_estimate_10 : decode cX8_estimate 10 = .ok (.goto 4, 3) := by decide +kernel
theorem dX8_estimate_13 : decode cX8_estimate 13 = .ok (.iconst 1, 1) := by decide +kernel
theorem dX8_estimate_14 : decode cX8_estimate 14 = .ok (.invokevirtual 112, 3) := by decide +kernel
theorem dX8_estimate_17 : decode cX8_estimate 17 = .ok (.ifCond .eq 11, 3) := by decide +kernel
theorem dX8_estimate_20 : decode cX8_estimate 20 = .ok (.aload_n 0, 1) := by decide +kernel
theorem dX8_estimate_21 : decode cX8_estimate 21 = .ok (.iload_n 1, 1) := by decide +kernel
theorem dX8_estimate_22 : decode cX8_estimate 22 = .ok (.invokevirtual 259, 3) := by decide +kernel
theorem dX8_estimate_25 : decode cX8_estimate 25 = .ok (.goto 4, 3) := by decide +kernel
theorem dX8_estimate_28 : decode cX8_estimate 28 = .ok (.iconst 0, 1) := by decide +kernel
theorem dX8_estimate_29 : decode cX8_estimate 29 = .ok (.ireturn, 1) := by decide +kernel
theorem dX8_plan_0 : decode cX8_plan 0 = .ok (.iconst 1, 1) := by decide +kernel
theorem dX8_plan_1 : decode cX8_plan 1 = .ok (.istore_n 1, 1) := by decide +kernel
theorem dX8_plan_2 : decode cX8_plan 2 = .ok (.iload_n 1, 1) := by decide +kernel
theorem dX8_plan_3 : decode cX8_plan 3 = .ok (.iconst 1, 1) := by decide +kernel
theorem dX8_plan_4 : decode cX8_plan 4 = .ok (.aload_n 0, 1) := by decide +kernel
theorem dX8_plan_5 : decode cX8_plan 5 = .ok (.getfield 101, 3) := by decide +kernel
theorem dX8_plan_8 : decode cX8_plan 8 = .ok (.ishl, 1) := by decide +kernel
theorem dX8_plan_9 : decode cX8_plan 9 = .ok (.if_icmp .ge 166, 3) := by decide +kernel
theorem dX8_plan_12 : decode cX8_plan 12 = .ok (.iload_n 1, 1) := by decide +kernel
theorem dX8_plan_13 : decode cX8_plan 13 = .ok (.iload_n 1, 1) := by decide +kernel
theorem dX8_plan_14 : decode cX8_plan 14 = .ok (.ineg, 1) := by decide +kernel
theorem dX8_plan_15 : decode cX8_plan 15 = .ok (.iand, 1) := by decide +kernel
theorem dX8_plan_16 : decode cX8_plan 16 = .ok (.istore_n 2, 1) := by decide +kernel
theorem dX8_plan_17 : decode cX8_plan 17 = .ok (.aload_n 0, 1) := by decide +kernel
theorem dX8_plan_18 : decode cX8_plan 18 = .ok (.getfield 92, 3) := by decide +kernel
theorem dX8_plan_21 : decode cX8_plan 21 = .ok (.iload_n 1, 1) := by decide +kernel
theorem dX8_plan_22 : decode cX8_plan 22 = .ok (.iload_n 1, 1) := by decide +kernel
theorem dX8_plan_23 : decode cX8_plan 23 = .ok (.iastore, 1) := by decide +kernel
theorem dX8_plan_24 : decode cX8_plan 24 = .ok (.aload_n 0, 1) := by decide +kernel
theorem dX8_plan_25 : decode cX8_plan 25 = .ok (.getfield 89, 3) := by decide +kernel
theorem dX8_plan_28 : decode cX8_plan 28 = .ok (.iload_n 1, 1) := by decide +kernel
theorem dX8_plan_29 : decode cX8_plan 29 = .ok (.iconst 0, 1) := by decide +kernel
theorem dX8_plan_30 : decode cX8_plan 30 = .ok (.iastore, 1) := by decide +kernel
theorem dX8_plan_31 : decode cX8_plan 31 = .ok (.iload_n 1, 1) := by decide +kernel
theorem dX8_plan_32 : decode cX8_plan 32 = .ok (.iload_n 2, 1) := by decide +kernel
theorem dX8_plan_33 : decode cX8_plan 33 = .ok (.if_icmp .ne 7, 3) := by decide +kernel
theorem dX8_plan_36 : decode cX8_plan 36 = .ok (.iconst 1, 1) := by decide +kernel
theorem dX8_plan_37 : decode cX8_plan 37 = .ok (.goto 4, 3) := by decide +kernel
theorem dX8_plan_40 : decode cX8_plan 40 = .ok (.iconst 0, 1) := by decide +kernel
theorem dX8_plan_41 : decode cX8_plan 41 = .ok (.istore_n 3, 1) := by decide +kernel
theorem dX8_plan_42 : decode cX8_plan 42 = .ok (.iconst (-1), 1) := by decide +kernel
theorem dX8_plan_43 : decode cX8_plan 43 = .ok (.istore 4, 2) := by decide +kernel
theorem dX8_plan_45 : decode cX8_plan 45 = .ok (.iconst 1, 1) := by decide +kernel
theorem dX8_plan_46 : decode cX8_plan 46 = .ok (.istore 5, 2) := by decide +kernel
theorem dX8_plan_48 : decode cX8_plan 48 = .ok (.iload 5, 2) := by decide +kernel
theorem dX8_plan_50 : decode cX8_plan 50 = .ok (.iload_n 1, 1) := by decide +kernel
theorem dX8_plan_51 : decode cX8_plan 51 = .ok (.if_icmp .ge 96, 3) := by decide +kernel
theorem dX8_plan_54 : decode cX8_plan 54 = .ok (.iload_n 3, 1) := by decide +kernel
theorem dX8_plan_55 : decode cX8_plan 55 = .ok (.ifCond .ne 92, 3) := by decide +kernel
theorem dX8_plan_58 : decode cX8_plan 58 = .ok (.iload 5, 2) := by decide +kernel
theorem dX8_plan_60 : decode cX8_plan 60 = .ok (.iload_n 1, 1) := by decide +kernel
theorem dX8_plan_61 : decode cX8_plan 61 = .ok (.iconst (-1), 1) := by decide +kernel
theorem dX8_plan_62 : decode cX8_plan 62 = .ok (.ixor, 1) := by decide +kernel
theorem dX8_plan_63 : decode cX8_plan 63 = .ok (.iand, 1) := by decide +kernel
theorem dX8_plan_64 : decode cX8_plan 64 = .ok (.ifCond .ne 14, 3) := by decide +kernel
theorem dX8_plan_67 : decode cX8_plan 67 = .ok (.iload 5, 2) := by decide +kernel
theorem dX8_plan_69 : decode cX8_plan 69 = .ok (.iload_n 2, 1) := by decide +kernel
theorem dX8_plan_70 : decode cX8_plan 70 = .ok (.iand, 1) := by decide +kernel
theorem dX8_plan_71 : decode cX8_plan 71 = .ok (.ifCond .eq 7, 3) := by decide +kernel
theorem dX8_plan_74 : decode cX8_plan 74 = .ok (.iconst 1, 1) := by decide +kernel
theorem dX8_plan_75 : decode cX8_plan 75 = .ok (.goto 4, 3) := by decide +kernel
theorem dX8_plan_78 : decode cX8_plan 78 = .ok (.iconst 0, 1) := by decide +kernel
theorem dX8_plan_79 : decode cX8_plan 79 = .ok (.istore 6, 2) := by decide +kernel
theorem dX8_plan_81 : decode cX8_plan 81 = .ok (.iload 6, 2) := by decide +kernel
theorem dX8_plan_83 : decode cX8_plan 83 = .ok (.ifCond .eq 25, 3) := by decide +kernel
theorem dX8_plan_86 : decode cX8_plan 86 = .ok (.aload_n 0, 1) := by decide +kernel
theorem dX8_plan_87 : decode cX8_plan 87 = .ok (.getfield 89, 3) := by decide +kernel
theorem dX8_plan_90 : decode cX8_plan 90 = .ok (.iload 5, 2) := by decide +kernel
theorem dX8_plan_92 : decode cX8_plan 92 = .ok (.iaload, 1) := by decide +kernel
theorem dX8_plan_93 : decode cX8_plan 93 = .ok (.aload_n 0, 1) := by decide +kernel
theorem dX8_plan_94 : decode cX8_plan 94 = .ok (.getfield 89, 3) := by decide +kernel
theorem dX8_plan_97 : decode cX8_plan 97 = .ok (.iload_n 1, 1) := by decide +kernel
theorem dX8_plan_98 : decode cX8_plan 98 = .ok (.iload 5, 2) := by decide +kernel
theorem dX8_plan_100 : decode cX8_plan 100 = .ok (.iconst (-1), 1) := by decide +kernel
theorem dX8_plan_101 : decode cX8_plan 101 = .ok (.ixor, 1) := by decide +kernel
theorem dX8_plan_102 : decode cX8_plan 102 = .ok (.iand, 1) := by decide +kernel
theorem dX8_plan_103 : decode cX8_plan 103 = .ok (.iaload, 1) := by decide +kernel
theorem dX8_plan_104 : decode cX8_plan 104 = .ok (.iadd, 1) := by decide +kernel
theorem dX8_plan_105 : decode cX8_plan 105 = .ok (.goto 4, 3) := by decide +kernel
theorem dX8_plan_108 : decode cX8_plan 108 = .ok (.iconst 0, 1) := by decide +kernel
theorem dX8_plan_109 : decode cX8_plan 109 = .ok (.istore 7, 2) := by decide +kernel
theorem dX8_plan_111 : decode cX8_plan 111 = .ok (.iload 6, 2) := by decide +kernel
theorem dX8_plan_113 : decode cX8_plan 113 = .ok (.ifCond .eq 28, 3) := by decide +kernel
theorem dX8_plan_116 : decode cX8_plan 116 = .ok (.iload 4, 2) := by decide +kernel
theorem dX8_plan_118 : decode cX8_plan 118 = .ok (.iconst (-1), 1) := by decide +kernel
theorem dX8_plan_119 : decode cX8_plan 119 = .ok (.if_icmp .eq 10, 3) := by decide +kernel
theorem dX8_plan_122 : decode cX8_plan 122 = .ok (.iload 7, 2) := by decide +kernel
theorem dX8_plan_124 : decode cX8_plan 124 = .ok (.iload 4, 2) := by decide +kernel
theorem dX8_plan_126 : decode cX8_plan 126 = .ok (.if_icmp .ge 15, 3) := by decide +kernel
theorem dX8_plan_129 : decode cX8_plan 129 = .ok (.iload 7, 2) := by decide +kernel
theorem dX8_plan_131 : decode cX8_plan 131 = .ok (.istore 4, 2) := by decide +kernel
theorem dX8_plan_133 : decode cX8_plan 133 = .ok (.aload_n 0, 1) := by decide +kernel
theorem dX8_plan_134 : decode cX8_plan 134 = .ok (.getfield 92, 3) := by decide +kernel
theorem dX8_plan_137 : decode cX8_plan 137 = .ok (.iload_n 1, 1) := by decide +kernel
theorem dX8_plan_138 : decode cX8_plan 138 = .ok (.iload 5, 2) := by decide +kernel
theorem dX8_plan_140 : decode cX8_plan 140 = .ok (.iastore, 1) := by decide +kernel
theorem dX8_plan_141 : decode cX8_plan 141 = .ok (.iinc 5 1, 3) := by decide +kernel
theorem dX8_plan_144 : decode cX8_plan 144 = .ok (.goto (-96), 3) := by decide +kernel
theorem dX8_plan_147 : decode cX8_plan 147 = .ok (.aload_n 0, 1) := by decide +kernel
theorem dX8_plan_148 : decode cX8_plan 148 = .ok (.getfield 89, 3) := by decide +kernel
theorem dX8_plan_151 : decode cX8_plan 151 = .ok (.iload_n 1, 1) := by decide +kernel
theorem dX8_plan_152 : decode cX8_plan 152 = .ok (.iload_n 3, 1) := by decide +kernel
theorem dX8_plan_153 : decode cX8_plan 153 = .ok (.ifCond .eq 7, 3) := by decide +kernel
theorem dX8_plan_156 : decode cX8_plan 156 = .ok (.iconst 0, 1) := by decide +kernel
theorem dX8_plan_157 : decode cX8_plan 157 = .ok (.goto 11, 3) := by decide +kernel
theorem dX8_plan_160 : decode cX8_plan 160 = .ok (.iload 4, 2) := by decide +kernel
theorem dX8_plan_162 : decode cX8_plan 162 = .ok (.aload_n 0, 1) := by decide +kernel
theorem dX8_plan_163 : decode cX8_plan 163 = .ok (.iload_n 1, 1) := by decide +kernel
theorem dX8_plan_164 : decode cX8_plan 164 = .ok (.invokevirtual 259, 3) := by decide +kernel
theorem dX8_plan_167 : decode cX8_plan 167 = .ok (.iadd, 1) := by decide +kernel
theorem dX8_plan_168 : decode cX8_plan 168 = .ok (.iastore, 1) := by decide +kernel
theorem dX8_plan_169 : decode cX8_plan 169 = .ok (.iinc 1 1, 3) := by decide +kernel
theorem dX8_plan_172 : decode cX8_plan 172 = .ok (.goto (-170), 3) := by decide +kernel
theorem dX8_plan_175 : decode cX8_plan 175 = .ok (.return_, 1) := by decide +kernel
theorem dX8_cost_0 : decode cX8_cost 0 = .ok (.aload_n 0, 1) := by decide +kernel
theorem dX8_cost_1 : decode cX8_cost 1 = .ok (.invokevirtual 263, 3) := by decide +kernel
theorem dX8_cost_4 : decode cX8_cost 4 = .ok (.aload_n 0, 1) := by decide +kernel
theorem dX8_cost_5 : decode cX8_cost 5 = .ok (.aload_n 0, 1) := by decide +kernel
theorem dX8_cost_6 : decode cX8_cost 6 = .ok (.iload_n 1, 1) := by decide +kernel
theorem dX8_cost_7 : decode cX8_cost 7 = .ok (.invokevirtual 256, 3) := by decide +kernel
theorem dX8_cost_10 : decode cX8_cost 10 = .ok (.ifCond .eq 7, 3) := by decide +kernel
theorem dX8_cost_13 : decode cX8_cost 13 = .ok (.iconst 0, 1) := by decide +kernel
theorem dX8_cost_14 : decode cX8_cost 14 = .ok (.goto 4, 3) := by decide +kernel
theorem dX8_cost_17 : decode cX8_cost 17 = .ok (.iconst 1, 1) := by decide +kernel
theorem dX8_cost_18 : decode cX8_cost 18 = .ok (.invokevirtual 112, 3) := by decide +kernel
theorem dX8_cost_21 : decode cX8_cost 21 = .ok (.ifCond .eq 12, 3) := by decide +kernel
theorem dX8_cost_24 : decode cX8_cost 24 = .ok (.aload_n 0, 1) := by decide +kernel
theorem dX8_cost_25 : decode cX8_cost 25 = .ok (.getfield 89, 3) := by decide +kernel
theorem dX8_cost_28 : decode cX8_cost 28 = .ok (.iload_n 1, 1) := by decide +kernel
theorem dX8_cost_29 : decode cX8_cost 29 = .ok (.iaload, 1) := by decide +kernel
theorem dX8_cost_30 : decode cX8_cost 30 = .ok (.goto 4, 3) := by decide +kernel
theorem dX8_cost_33 : decode cX8_cost 33 = .ok (.iconst 0, 1) := by decide +kernel
theorem dX8_cost_34 : decode cX8_cost 34 = .ok (.ireturn, 1) := by decide +kernel
theorem dX8_split_0 : decode cX8_split 0 = .ok (.aload_n 0, 1) := by decide +kernel
theorem dX8_split_1 : decode cX8_split 1 = .ok (.invokevirtual 263, 3) := by decide +kernel
theorem dX8_split_4 : decode cX8_split 4 = .ok (.aload_n 0, 1) := by decide +kernel
theorem dX8_split_5 : decode cX8_split 5 = .ok (.aload_n 0, 1) := by decide +kernel
theorem dX8_split_6 : decode cX8_split 6 = .ok (.iload_n 1, 1) := by decide +kernel
theorem dX8_split_7 : decode cX8_split 7 = .ok (.invokevirtual 256, 3) := by decide +kernel
theorem dX8_split_10 : decode cX8_split 10 = .ok (.ifCond .eq 7, 3) := by decide +kernel
theorem dX8_split_13 : decode cX8_split 13 = .ok (.iconst 0, 1) := by decide +kernel
theorem dX8_split_14 : decode cX8_split 14 = .ok (.goto 4, 3) := by decide +kernel
theorem dX8_split_17 : decode cX8_split 17 = .ok (.iconst 1, 1) := by decide +kernel
theorem dX8_split_18 : decode cX8_split 18 = .ok (.invokevirtual 112, 3) := by decide +kernel
theorem dX8_split_21 : decode cX8_split 21 = .ok (.ifCond .eq 12, 3) := by decide +kernel
theorem dX8_split_24 : decode cX8_split 24 = .ok (.aload_n 0, 1) := by decide +kernel
theorem dX8_split_25 : decode cX8_split 25 = .ok (.getfield 92, 3) := by decide +kernel
theorem dX8_split_28 : decode cX8_split 28 = .ok (.iload_n 1, 1) := by decide +kernel
theorem dX8_split_29 : decode cX8_split 29 = .ok (.iaload, 1) := by decide +kernel
theorem dX8_split_30 : decode cX8_split 30 = .ok (.goto 4, 3) := by decide +kernel
theorem dX8_split_33 : decode cX8_split 33 = .ok (.iconst 0, 1) := by decide +kernel
theorem dX8_split_34 : decode cX8_split 34 = .ok (.ireturn, 1) := by decide +kernel
theorem dX8_view_0 : decode cX8_view 0 = .ok (.aload_n 0, 1) := by decide +kernel
theorem dX8_view_1 : decode cX8_view 1 = .ok (.iload_n 1, 1) := by decide +kernel
theorem dX8_view_2 : decode cX8_view 2 = .ok (.iload_n 3, 1) := by decide +kernel
theorem dX8_view_3 : decode cX8_view 3 = .ok (.invokevirtual 247, 3) := by decide +kernel
theorem dX8_view_6 : decode cX8_view 6 = .ok (.ifCond .eq 17, 3) := by decide +kernel
theorem dX8_view_9 : decode cX8_view 9 = .ok (.aload_n 0, 1) := by decide +kernel
theorem dX8_view_10 : decode cX8_view 10 = .ok (.iload_n 2, 1) := by decide +kernel
theorem dX8_view_11 : decode cX8_view 11 = .ok (.iload 4, 2) := by decide +kernel
theorem dX8_view_13 : decode cX8_view 13 = .ok (.invokevirtual 247, 3) := by decide +kernel
theorem dX8_view_16 : decode cX8_view 16 = .ok (.ifCond .eq 7, 3) := by decide +kernel
theorem dX8_view_19 : decode cX8_view 19 = .ok (.iconst 1, 1) := by decide +kernel
theorem dX8_view_20 : decode cX8_view 20 = .ok (.goto 4, 3) := by decide +kernel
theorem dX8_view_23 : decode cX8_view 23 = .ok (.iconst 0, 1) := by decide +kernel
theorem dX8_view_24 : decode cX8_view 24 = .ok (.istore 5, 2) := by decide +kernel
theorem dX8_view_26 : decode cX8_view 26 = .ok (.aload_n 0, 1) := by decide +kernel
theorem dX8_view_27 : decode cX8_view 27 = .ok (.iload 5, 2) := by decide +kernel
theorem dX8_view_29 : decode cX8_view 29 = .ok (.ifCond .ne 7, 3) := by decide +kernel
theorem dX8_view_32 : decode cX8_view 32 = .ok (.iconst 1, 1) := by decide +kernel
theorem dX8_view_33 : decode cX8_view 33 = .ok (.goto 25, 3) := by decide +kernel
theorem dX8_view_36 : decode cX8_view 36 = .ok (.iload_n 1, 1) := by decide +kernel
theorem dX8_view_37 : decode cX8_view 37 = .ok (.iload_n 2, 1) := by decide +kernel
theorem dX8_view_38 : decode cX8_view 38 = .ok (.if_icmp .ne 7, 3) := by decide +kernel
theorem dX8_view_41 : decode cX8_view 41 = .ok (.iconst 2, 1) := by decide +kernel
theorem dX8_view_42 : decode cX8_view 42 = .ok (.goto 16, 3) := by decide +kernel
theorem dX8_view_45 : decode cX8_view 45 = .ok (.aload_n 0, 1) := by decide +kernel
theorem dX8_view_46 : decode cX8_view 46 = .ok (.getfield 266, 3) := by decide +kernel
theorem dX8_view_49 : decode cX8_view 49 = .ok (.iconst 4, 1) := by decide +kernel
theorem dX8_view_50 : decode cX8_view 50 = .ok (.if_icmp .ne 7, 3) := by decide +kernel
theorem dX8_view_53 : decode cX8_view 53 = .ok (.iconst 3, 1) := by decide +kernel
theorem dX8_view_54 : decode cX8_view 54 = .ok (.goto 4, 3) := by decide +kernel
theorem dX8_view_57 : decode cX8_view 57 = .ok (.iconst 0, 1) := by decide +kernel
theorem dX8_view_58 : decode cX8_view 58 = .ok (.invokevirtual 112, 3) := by decide +kernel
theorem dX8_view_61 : decode cX8_view 61 = .ok (.ifCond .ne 5, 3) := by decide +kernel
theorem dX8_view_64 : decode cX8_view 64 = .ok (.iconst 0, 1) := by decide +kernel
theorem dX8_view_65 : decode cX8_view 65 = .ok (.ireturn, 1) := by decide +kernel
theorem dX8_view_66 : decode cX8_view 66 = .ok (.aload_n 0, 1) := by decide +kernel
theorem dX8_view_67 : decode cX8_view 67 = .ok (.getfield 48, 3) := by decide +kernel
theorem dX8_view_70 : decode cX8_view 70 = .ok (.iconst 4, 1) := by decide +kernel
theorem dX8_view_71 : decode cX8_view 71 = .ok (.aload_n 0, 1) := by decide +kernel
theorem dX8_view_72 : decode cX8_view 72 = .ok (.getfield 266, 3) := by decide +kernel
theorem dX8_view_75 : decode cX8_view 75 = .ok (.imul, 1) := by decide +kernel
theorem dX8_view_76 : decode cX8_view 76 = .ok (.iload_n 1, 1) := by decide +kernel
theorem dX8_view_77 : decode cX8_view 77 = .ok (.iastore, 1) := by decide +kernel
theorem dX8_view_78 : decode cX8_view 78 = .ok (.aload_n 0, 1) := by decide +kernel
theorem dX8_view_79 : decode cX8_view 79 = .ok (.getfield 48, 3) := by decide +kernel
theorem dX8_view_82 : decode cX8_view 82 = .ok (.iconst 4, 1) := by decide +kernel
theorem dX8_view_83 : decode cX8_view 83 = .ok (.aload_n 0, 1) := by decide +kernel
theorem dX8_view_84 : decode cX8_view 84 = .ok (.getfield 266, 3) := by decide +kernel
theorem dX8_view_87 : decode cX8_view 87 = .ok (.imul, 1) := by decide +kernel
theorem dX8_view_88 : decode cX8_view 88 = .ok (.iconst 1, 1) := by decide +kernel
theorem dX8_view_89 : decode cX8_view 89 = .ok (.iadd, 1) := by decide +kernel
theorem dX8_view_90 : decode cX8_view 90 = .ok (.iload_n 3, 1) := by decide +kernel
theorem dX8_view_91 : decode cX8_view 91 = .ok (.iastore, 1) := by decide +kernel
theorem dX8_view_92 : decode cX8_view 92 = .ok (.aload_n 0, 1) := by decide +kernel
theorem dX8_view_93 : decode cX8_view 93 = .ok (.getfield 48, 3) := by decide +kernel
theorem dX8_view_96 : decode cX8_view 96 = .ok (.iconst 4, 1) := by decide +kernel
theorem dX8_view_97 : decode cX8_view 97 = .ok (.aload_n 0, 1) := by decide +kernel
theorem dX8_view_98 : decode cX8_view 98 = .ok (.getfield 266, 3) := by decide +kernel
theorem dX8_view_101 : decode cX8_view 101 = .ok (.imul, 1) := by decide +kernel
theorem dX8_view_102 : decode cX8_view 102 = .ok (.iconst 2, 1) := by decide +kernel
theorem dX8_view_103 : decode cX8_view 103 = .ok (.iadd, 1) := by decide +kernel
theorem dX8_view_104 : decode cX8_view 104 = .ok (.iload_n 2, 1) := by decide +kernel
theorem dX8_view_105 : decode cX8_view 105 = .ok (.iastore, 1) := by decide +kernel
theorem dX8_view_106 : decode cX8_view 106 = .ok (.aload_n 0, 1) := by decide +kernel
theorem dX8_view_107 : decode cX8_view 107 = .ok (.getfield 48, 3) := by decide +kernel
theorem dX8_view_110 : decode cX8_view 110 = .ok (.iconst 4, 1) := by decide +kernel
theorem dX8_view_111 : decode cX8_view 111 = .ok (.aload_n 0, 1) := by decide +kernel
theorem dX8_view_112 : decode cX8_view 112 = .ok (.getfield 266, 3) := by decide +kernel
theorem dX8_view_115 : decode cX8_view 115 = .ok (.imul, 1) := by decide +kernel
theorem dX8_view_116 : decode cX8_view 116 = .ok (.iconst 3, 1) := by decide +kernel
theorem dX8_view_117 : decode cX8_view 117 = .ok (.iadd, 1) := by decide +kernel
theorem dX8_view_118 : decode cX8_view 118 = .ok (.iload 4, 2) := by decide +kernel
theorem dX8_view_120 : decode cX8_view 120 = .ok (.iastore, 1) := by decide +kernel
theorem dX8_view_121 : decode cX8_view 121 = .ok (.aload_n 0, 1) := by decide +kernel
theorem dX8_view_122 : decode cX8_view 122 = .ok (.dup, 1) := by decide +kernel
theorem dX8_view_123 : decode cX8_view 123 = .ok (.getfield 266, 3) := by decide +kernel
theorem dX8_view_126 : decode cX8_view 126 = .ok (.iconst 1, 1) := by decide +kernel
theorem dX8_view_127 : decode cX8_view 127 = .ok (.iadd, 1) := by decide +kernel
theorem dX8_view_128 : decode cX8_view 128 = .ok (.putfield 266, 3) := by decide +kernel
theorem dX8_view_131 : decode cX8_view 131 = .ok (.aload_n 0, 1) := by decide +kernel
theorem dX8_view_132 : decode cX8_view 132 = .ok (.getfield 266, 3) := by decide +kernel
theorem dX8_view_135 : decode cX8_view 135 = .ok (.iconst 1, 1) := by decide +kernel
theorem dX8_view_136 : decode cX8_view 136 = .ok (.isub, 1) := by decide +kernel
theorem dX8_view_137 : decode cX8_view 137 = .ok (.ireturn, 1) := by decide +kernel
theorem dX8_meet_0 : decode cX8_meet 0 = .ok (.aload_n 0, 1) := by decide +kernel
theorem dX8_meet_1 : decode cX8_meet 1 = .ok (.aload_n 0, 1) := by decide +kernel
theorem dX8_meet_2 : decode cX8_meet 2 = .ok (.getfield 48, 3) := by decide +kernel
theorem dX8_meet_5 : decode cX8_meet 5 = .ok (.iconst 4, 1) := by decide +kernel
theorem dX8_meet_6 : decode cX8_meet 6 = .ok (.iload_n 1, 1) := by decide +kernel
theorem dX8_meet_7 : decode cX8_meet 7 = .ok (.imul, 1) := by decide +kernel
theorem dX8_meet_8 : decode cX8_meet 8 = .ok (.iaload, 1) := by decide +kernel
theorem dX8_meet_9 : decode cX8_meet 9 = .ok (.iload_n 2, 1) := by decide +kernel
theorem dX8_meet_10 : decode cX8_meet 10 = .ok (.aload_n 0, 1) := by decide +kernel
theorem dX8_meet_11 : decode cX8_meet 11 = .ok (.getfield 48, 3) := by decide +kernel
theorem dX8_meet_14 : decode cX8_meet 14 = .ok (.iconst 4, 1) := by decide +kernel
theorem dX8_meet_15 : decode cX8_meet 15 = .ok (.iload_n 1, 1) := by decide +kernel
theorem dX8_meet_16 : decode cX8_meet 16 = .ok (.imul, 1) := by decide +kernel
theorem dX8_meet_17 : decode cX8_meet 17 = .ok (.iconst 1, 1) := by decide +kernel
theorem dX8_meet_18 : decode cX8_meet 18 = .ok (.iadd, 1) := by decide +kernel
theorem dX8_meet_19 : decode cX8_meet 19 = .ok (.iaload, 1) := by decide +kernel
theorem dX8_meet_20 : decode cX8_meet 20 = .ok (.invokevirtual 152, 3) := by decide +kernel
theorem dX8_meet_23 : decode cX8_meet 23 = .ok (.iconst 0, 1) := by decide +kernel
theorem dX8_meet_24 : decode cX8_meet 24 = .ok (.aload_n 0, 1) := by decide +kernel
theorem dX8_meet_25 : decode cX8_meet 25 = .ok (.aload_n 0, 1) := by decide +kernel
theorem dX8_meet_26 : decode cX8_meet 26 = .ok (.getfield 48, 3) := by decide +kernel
theorem dX8_meet_29 : decode cX8_meet 29 = .ok (.iconst 4, 1) := by decide +kernel
theorem dX8_meet_30 : decode cX8_meet 30 = .ok (.iload_n 1, 1) := by decide +kernel
theorem dX8_meet_31 : decode cX8_meet 31 = .ok (.imul, 1) := by decide +kernel
theorem dX8_meet_32 : decode cX8_meet 32 = .ok (.iconst 2, 1) := by decide +kernel
theorem dX8_meet_33 : decode cX8_meet 33 = .ok (.iadd, 1) := by decide +kernel
theorem dX8_meet_34 : decode cX8_meet 34 = .ok (.iaload, 1) := by decide +kernel
theorem dX8_meet_35 : decode cX8_meet 35 = .ok (.iload_n 3, 1) := by decide +kernel
theorem dX8_meet_36 : decode cX8_meet 36 = .ok (.aload_n 0, 1) := by decide +kernel
theorem dX8_meet_37 : decode cX8_meet 37 = .ok (.getfield 48, 3) := by decide +kernel
theorem dX8_meet_40 : decode cX8_meet 40 = .ok (.iconst 4, 1) := by decide +kernel
theorem dX8_meet_41 : decode cX8_meet 41 = .ok (.iload_n 1, 1) := by decide +kernel
theorem dX8_meet_42 : decode cX8_meet 42 = .ok (.imul, 1) := by decide +kernel
theorem dX8_meet_43 : decode cX8_meet 43 = .ok (.iconst 3, 1) := by decide +kernel
theorem dX8_meet_44 : decode cX8_meet 44 = .ok (.iadd, 1) := by decide +kernel
theorem dX8_meet_45 : decode cX8_meet 45 = .ok (.iaload, 1) := by decide +kernel
theorem dX8_meet_46 : decode cX8_meet 46 = .ok (.invokevirtual 152, 3) := by decide +kernel
theorem dX8_meet_49 : decode cX8_meet 49 = .ok (.invokestatic 155, 3) := by decide +kernel
theorem dX8_meet_52 : decode cX8_meet 52 = .ok (.ireturn, 1) := by decide +kernel
theorem dX8_isRowSame_0 : decode cX8_isRowSame 0 = .ok (.iconst 1, 1) := by decide +kernel
theorem dX8_isRowSame_1 : decode cX8_isRowSame 1 = .ok (.istore 4, 2) := by decide +kernel
theorem dX8_isRowSame_3 : decode cX8_isRowSame 3 = .ok (.iconst 0, 1) := by decide +kernel
theorem dX8_isRowSame_4 : decode cX8_isRowSame 4 = .ok (.istore 5, 2) := by decide +kernel
theorem dX8_isRowSame_6 : decode cX8_isRowSame 6 = .ok (.iload 5, 2) := by decide +kernel
theorem dX8_isRowSame_8 : decode cX8_isRowSame 8 = .ok (.aload_n 0, 1) := by decide +kernel
theorem dX8_isRowSame_9 : decode cX8_isRowSame 9 = .ok (.getfield 9, 3) := by decide +kernel
theorem dX8_isRowSame_12 : decode cX8_isRowSame 12 = .ok (.iload_n 1, 1) := by decide +kernel
theorem dX8_isRowSame_13 : decode cX8_isRowSame 13 = .ok (.iaload, 1) := by decide +kernel
theorem dX8_isRowSame_14 : decode cX8_isRowSame 14 = .ok (.if_icmp .ge 40, 3) := by decide +kernel
theorem dX8_isRowSame_17 : decode cX8_isRowSame 17 = .ok (.iload 4, 2) := by decide +kernel
theorem dX8_isRowSame_19 : decode cX8_isRowSame 19 = .ok (.ifCond .eq 26, 3) := by decide +kernel
theorem dX8_isRowSame_22 : decode cX8_isRowSame 22 = .ok (.aload_n 0, 1) := by decide +kernel
theorem dX8_isRowSame_23 : decode cX8_isRowSame 23 = .ok (.iload_n 1, 1) := by decide +kernel
theorem dX8_isRowSame_24 : decode cX8_isRowSame 24 = .ok (.iload_n 2, 1) := by decide +kernel
theorem dX8_isRowSame_25 : decode cX8_isRowSame 25 = .ok (.iload 5, 2) := by decide +kernel
theorem dX8_isRowSame_27 : decode cX8_isRowSame 27 = .ok (.invokevirtual 152, 3) := by decide +kernel
theorem dX8_isRowSame_30 : decode cX8_isRowSame 30 = .ok (.aload_n 0, 1) := by decide +kernel
theorem dX8_isRowSame_31 : decode cX8_isRowSame 31 = .ok (.iload_n 1, 1) := by decide +kernel
theorem dX8_isRowSame_32 : decode cX8_isRowSame 32 = .ok (.iload_n 3, 1) := by decide +kernel
theorem dX8_isRowSame_33 : decode cX8_isRowSame 33 = .ok (.iload 5, 2) := by decide +kernel
theorem dX8_isRowSame_35 : decode cX8_isRowSame 35 = .ok (.invokevirtual 152, 3) := by decide +kernel
theorem dX8_isRowSame_38 : decode cX8_isRowSame 38 = .ok (.if_icmp .ne 7, 3) := by decide +kernel
theorem dX8_isRowSame_41 : decode cX8_isRowSame 41 = .ok (.iconst 1, 1) := by decide +kernel
theorem dX8_isRowSame_42 : decode cX8_isRowSame 42 = .ok (.goto 4, 3) := by decide +kernel
theorem dX8_isRowSame_45 : decode cX8_isRowSame 45 = .ok (.iconst 0, 1) := by decide +kernel
theorem dX8_isRowSame_46 : decode cX8_isRowSame 46 = .ok (.istore 4, 2) := by decide +kernel
theorem dX8_isRowSame_48 : decode cX8_isRowSame 48 = .ok (.iinc 5 1, 3) := by decide +kernel
theorem dX8_isRowSame_51 : decode cX8_isRowSame 51 = .ok (.goto (-45), 3) := by decide +kernel
theorem dX8_isRowSame_54 : decode cX8_isRowSame 54 = .ok (.iload 4, 2) := by decide +kernel
theorem dX8_isRowSame_56 : decode cX8_isRowSame 56 = .ok (.ireturn, 1) := by decide +kernel
theorem dX8_alike_0 : decode cX8_alike 0 = .ok (.iconst 0, 1) := by decide +kernel
theorem dX8_alike_1 : decode cX8_alike 1 = .ok (.istore 4, 2) := by decide +kernel
theorem dX8_alike_3 : decode cX8_alike 3 = .ok (.iconst 0, 1) := by decide +kernel
theorem dX8_alike_4 : decode cX8_alike 4 = .ok (.istore 5, 2) := by decide +kernel
theorem dX8_alike_6 : decode cX8_alike 6 = .ok (.iload 5, 2) := by decide +kernel
theorem dX8_alike_8 : decode cX8_alike 8 = .ok (.iload_n 3, 1) := by decide +kernel
theorem dX8_alike_9 : decode cX8_alike 9 = .ok (.if_icmp .ge 30, 3) := by decide +kernel
theorem dX8_alike_12 : decode cX8_alike 12 = .ok (.iload 4, 2) := by decide +kernel
theorem dX8_alike_14 : decode cX8_alike 14 = .ok (.aload_n 0, 1) := by decide +kernel
theorem dX8_alike_15 : decode cX8_alike 15 = .ok (.iload_n 1, 1) := by decide +kernel
theorem dX8_alike_16 : decode cX8_alike 16 = .ok (.iload_n 2, 1) := by decide +kernel
theorem dX8_alike_17 : decode cX8_alike 17 = .ok (.iload 5, 2) := by decide +kernel
theorem dX8_alike_19 : decode cX8_alike 19 = .ok (.invokevirtual 269, 3) := by decide +kernel
theorem dX8_alike_22 : decode cX8_alike 22 = .ok (.ifCond .eq 7, 3) := by decide +kernel
theorem dX8_alike_25 : decode cX8_alike 25 = .ok (.iconst 1, 1) := by decide +kernel
theorem dX8_alike_26 : decode cX8_alike 26 = .ok (.goto 4, 3) := by decide +kernel
theorem dX8_alike_29 : decode cX8_alike 29 = .ok (.iconst 0, 1) := by decide +kernel
theorem dX8_alike_30 : decode cX8_alike 30 = .ok (.iadd, 1) := by decide +kernel
theorem dX8_alike_31 : decode cX8_alike 31 = .ok (.istore 4, 2) := by decide +kernel
theorem dX8_alike_33 : decode cX8_alike 33 = .ok (.iinc 5 1, 3) := by decide +kernel
theorem dX8_alike_36 : decode cX8_alike 36 = .ok (.goto (-30), 3) := by decide +kernel
theorem dX8_alike_39 : decode cX8_alike 39 = .ok (.iload 4, 2) := by decide +kernel
theorem dX8_alike_41 : decode cX8_alike 41 = .ok (.ireturn, 1) := by decide +kernel
theorem dX8_different_0 : decode cX8_different 0 = .ok (.aload_n 0, 1) := by decide +kernel
theorem dX8_different_1 : decode cX8_different 1 = .ok (.iload_n 1, 1) := by decide +kernel
theorem dX8_different_2 : decode cX8_different 2 = .ok (.iconst 0, 1) := by decide +kernel
theorem dX8_different_3 : decode cX8_different 3 = .ok (.aload_n 0, 1) := by decide +kernel
theorem dX8_different_4 : decode cX8_different 4 = .ok (.getfield 266, 3) := by decide +kernel
theorem dX8_different_7 : decode cX8_different 7 = .ok (.iconst 1, 1) := by decide +kernel
theorem dX8_different_8 : decode cX8_different 8 = .ok (.isub, 1) := by decide +kernel
theorem dX8_different_9 : decode cX8_different 9 = .ok (.invokestatic 104, 3) := by decide +kernel
theorem dX8_different_12 : decode cX8_different 12 = .ok (.ifCond .eq 7, 3) := by decide +kernel
theorem dX8_different_15 : decode cX8_different 15 = .ok (.iconst 0, 1) := by decide +kernel
theorem dX8_different_16 : decode cX8_different 16 = .ok (.goto 4, 3) := by decide +kernel
theorem dX8_different_19 : decode cX8_different 19 = .ok (.iconst 1, 1) := by decide +kernel
theorem dX8_different_20 : decode cX8_different 20 = .ok (.invokevirtual 112, 3) := by decide +kernel
theorem dX8_different_23 : decode cX8_different 23 = .ok (.ifCond .ne 5, 3) := by decide +kernel
theorem dX8_different_26 : decode cX8_different 26 = .ok (.iconst 0, 1) := by decide +kernel
theorem dX8_different_27 : decode cX8_different 27 = .ok (.ireturn, 1) := by decide +kernel
theorem dX8_different_28 : decode cX8_different 28 = .ok (.aload_n 0, 1) := by decide +kernel
theorem dX8_different_29 : decode cX8_different 29 = .ok (.getfield 48, 3) := by decide +kernel
theorem dX8_different_32 : decode cX8_different 32 = .ok (.iconst 4, 1) := by decide +kernel
theorem dX8_different_33 : decode cX8_different 33 = .ok (.iload_n 1, 1) := by decide +kernel
theorem dX8_different_34 : decode cX8_different 34 = .ok (.imul, 1) := by decide +kernel
theorem dX8_different_35 : decode cX8_different 35 = .ok (.iaload, 1) := by decide +kernel
theorem dX8_different_36 : decode cX8_different 36 = .ok (.istore_n 2, 1) := by decide +kernel
theorem dX8_different_37 : decode cX8_different 37 = .ok (.aload_n 0, 1) := by decide +kernel
theorem dX8_different_38 : decode cX8_different 38 = .ok (.getfield 48, 3) := by decide +kernel
theorem dX8_different_41 : decode cX8_different 41 = .ok (.iconst 4, 1) := by decide +kernel
theorem dX8_different_42 : decode cX8_different 42 = .ok (.iload_n 1, 1) := by decide +kernel
theorem dX8_different_43 : decode cX8_different 43 = .ok (.imul, 1) := by decide +kernel
theorem dX8_different_44 : decode cX8_different 44 = .ok (.iconst 2, 1) := by decide +kernel
theorem dX8_different_45 : decode cX8_different 45 = .ok (.iadd, 1) := by decide +kernel
theorem dX8_different_46 : decode cX8_different 46 = .ok (.iaload, 1) := by decide +kernel
theorem dX8_different_47 : decode cX8_different 47 = .ok (.istore_n 3, 1) := by decide +kernel
theorem dX8_different_48 : decode cX8_different 48 = .ok (.iconst 0, 1) := by decide +kernel
theorem dX8_different_49 : decode cX8_different 49 = .ok (.istore 4, 2) := by decide +kernel
theorem dX8_different_51 : decode cX8_different 51 = .ok (.iconst 0, 1) := by decide +kernel
theorem dX8_different_52 : decode cX8_different 52 = .ok (.istore 5, 2) := by decide +kernel
theorem dX8_different_54 : decode cX8_different 54 = .ok (.iload 5, 2) := by decide +kernel
theorem dX8_different_56 : decode cX8_different 56 = .ok (.aload_n 0, 1) := by decide +kernel
theorem dX8_different_57 : decode cX8_different 57 = .ok (.getfield 13, 3) := by decide +kernel
theorem dX8_different_60 : decode cX8_different 60 = .ok (.iload_n 2, 1) := by decide +kernel
theorem dX8_different_61 : decode cX8_different 61 = .ok (.iaload, 1) := by decide +kernel
theorem dX8_different_62 : decode cX8_different 62 = .ok (.if_icmp .ge 75, 3) := by decide +kernel
theorem dX8_different_65 : decode cX8_different 65 = .ok (.iconst 0, 1) := by decide +kernel
theorem dX8_different_66 : decode cX8_different 66 = .ok (.istore 6, 2) := by decide +kernel
theorem dX8_different_68 : decode cX8_different 68 = .ok (.iload 6, 2) := by decide +kernel
theorem dX8_different_70 : decode cX8_different 70 = .ok (.aload_n 0, 1) := by decide +kernel
theorem dX8_different_71 : decode cX8_different 71 = .ok (.getfield 13, 3) := by decide +kernel
theorem dX8_different_74 : decode cX8_different 74 = .ok (.iload_n 3, 1) := by decide +kernel
theorem dX8_different_75 : decode cX8_different 75 = .ok (.iaload, 1) := by decide +kernel
theorem dX8_different_76 : decode cX8_different 76 = .ok (.if_icmp .ge 55, 3) := by decide +kernel
theorem dX8_different_79 : decode cX8_different 79 = .ok (.iload 4, 2) := by decide +kernel
theorem dX8_different_81 : decode cX8_different 81 = .ok (.aload_n 0, 1) := by decide +kernel
theorem dX8_different_82 : decode cX8_different 82 = .ok (.iload_n 1, 1) := by decide +kernel
theorem dX8_different_83 : decode cX8_different 83 = .ok (.iload 5, 2) := by decide +kernel
theorem dX8_different_85 : decode cX8_different 85 = .ok (.iload 6, 2) := by decide +kernel
theorem dX8_different_87 : decode cX8_different 87 = .ok (.invokevirtual 272, 3) := by decide +kernel
theorem dX8_different_90 : decode cX8_different 90 = .ok (.ifCond .eq 31, 3) := by decide +kernel
theorem dX8_different_93 : decode cX8_different 93 = .ok (.aload_n 0, 1) := by decide +kernel
theorem dX8_different_94 : decode cX8_different 94 = .ok (.iload_n 2, 1) := by decide +kernel
theorem dX8_different_95 : decode cX8_different 95 = .ok (.iload 5, 2) := by decide +kernel
theorem dX8_different_97 : decode cX8_different 97 = .ok (.iload 5, 2) := by decide +kernel
theorem dX8_different_99 : decode cX8_different 99 = .ok (.invokevirtual 275, 3) := by decide +kernel
theorem dX8_different_102 : decode cX8_different 102 = .ok (.ifCond .ne 19, 3) := by decide +kernel
theorem dX8_different_105 : decode cX8_different 105 = .ok (.aload_n 0, 1) := by decide +kernel
theorem dX8_different_106 : decode cX8_different 106 = .ok (.iload_n 3, 1) := by decide +kernel
theorem dX8_different_107 : decode cX8_different 107 = .ok (.iload 6, 2) := by decide +kernel
theorem dX8_different_109 : decode cX8_different 109 = .ok (.iload 6, 2) := by decide +kernel
theorem dX8_different_111 : decode cX8_different 111 = .ok (.invokevirtual 275, 3) := by decide +kernel
theorem dX8_different_114 : decode cX8_different 114 = .ok (.ifCond .ne 7, 3) := by decide +kernel
theorem dX8_different_117 : decode cX8_different 117 = .ok (.iconst 1, 1) := by decide +kernel
theorem dX8_different_118 : decode cX8_different 118 = .ok (.goto 4, 3) := by decide +kernel
theorem dX8_different_121 : decode cX8_different 121 = .ok (.iconst 0, 1) := by decide +kernel
theorem dX8_different_122 : decode cX8_different 122 = .ok (.iadd, 1) := by decide +kernel
theorem dX8_different_123 : decode cX8_different 123 = .ok (.istore 4, 2) := by decide +kernel
theorem dX8_different_125 : decode cX8_different 125 = .ok (.iinc 6 1, 3) := by decide +kernel
theorem dX8_different_128 : decode cX8_different 128 = .ok (.goto (-60), 3) := by decide +kernel
theorem dX8_different_131 : decode cX8_different 131 = .ok (.iinc 5 1, 3) := by decide +kernel
theorem dX8_different_134 : decode cX8_different 134 = .ok (.goto (-80), 3) := by decide +kernel
theorem dX8_different_137 : decode cX8_different 137 = .ok (.iload 4, 2) := by decide +kernel
theorem dX8_different_139 : decode cX8_different 139 = .ok (.ireturn, 1) := by decide +kernel
theorem dX8_often_0 : decode cX8_often 0 = .ok (.iload_n 1, 1) := by decide +kernel
theorem dX8_often_1 : decode cX8_often 1 = .ok (.iconst 0, 1) := by decide +kernel
theorem dX8_often_2 : decode cX8_often 2 = .ok (.aload_n 0, 1) := by decide +kernel
theorem dX8_often_3 : decode cX8_often 3 = .ok (.getfield 266, 3) := by decide +kernel
theorem dX8_often_6 : decode cX8_often 6 = .ok (.iconst 1, 1) := by decide +kernel
theorem dX8_often_7 : decode cX8_often 7 = .ok (.isub, 1) := by decide +kernel
theorem dX8_often_8 : decode cX8_often 8 = .ok (.invokestatic 104, 3) := by decide +kernel
theorem dX8_often_11 : decode cX8_often 11 = .ok (.ifCond .eq 55, 3) := by decide +kernel
theorem dX8_often_14 : decode cX8_often 14 = .ok (.iload_n 2, 1) := by decide +kernel
theorem dX8_often_15 : decode cX8_often 15 = .ok (.iconst 0, 1) := by decide +kernel
theorem dX8_often_16 : decode cX8_often 16 = .ok (.aload_n 0, 1) := by decide +kernel
theorem dX8_often_17 : decode cX8_often 17 = .ok (.getfield 13, 3) := by decide +kernel
theorem dX8_often_20 : decode cX8_often 20 = .ok (.aload_n 0, 1) := by decide +kernel
theorem dX8_often_21 : decode cX8_often 21 = .ok (.getfield 48, 3) := by decide +kernel
theorem dX8_often_24 : decode cX8_often 24 = .ok (.iconst 4, 1) := by decide +kernel
theorem dX8_often_25 : decode cX8_often 25 = .ok (.iload_n 1, 1) := by decide +kernel
theorem dX8_often_26 : decode cX8_often 26 = .ok (.imul, 1) := by decide +kernel
theorem dX8_often_27 : decode cX8_often 27 = .ok (.iaload, 1) := by decide +kernel
theorem dX8_often_28 : decode cX8_often 28 = .ok (.iaload, 1) := by decide +kernel
theorem dX8_often_29 : decode cX8_often 29 = .ok (.iconst 1, 1) := by decide +kernel
theorem dX8_often_30 : decode cX8_often 30 = .ok (.isub, 1) := by decide +kernel
theorem dX8_often_31 : decode cX8_often 31 = .ok (.invokestatic 104, 3) := by decide +kernel
theorem dX8_often_34 : decode cX8_often 34 = .ok (.ifCond .eq 32, 3) := by decide +kernel
theorem dX8_often_37 : decode cX8_often 37 = .ok (.iload_n 3, 1) := by decide +kernel
theorem dX8_often_38 : decode cX8_often 38 = .ok (.iconst 0, 1) := by decide +kernel
theorem dX8_often_39 : decode cX8_often 39 = .ok (.aload_n 0, 1) := by decide +kernel
theorem dX8_often_40 : decode cX8_often 40 = .ok (.getfield 13, 3) := by decide +kernel
theorem dX8_often_43 : decode cX8_often 43 = .ok (.aload_n 0, 1) := by decide +kernel
theorem dX8_often_44 : decode cX8_often 44 = .ok (.getfield 48, 3) := by decide +kernel
theorem dX8_often_47 : decode cX8_often 47 = .ok (.iconst 4, 1) := by decide +kernel
theorem dX8_often_48 : decode cX8_often 48 = .ok (.iload_n 1, 1) := by decide +kernel
theorem dX8_often_49 : decode cX8_often 49 = .ok (.imul, 1) := by decide +kernel
theorem dX8_often_50 : decode cX8_often 50 = .ok (.iconst 2, 1) := by decide +kernel
theorem dX8_often_51 : decode cX8_often 51 = .ok (.iadd, 1) := by decide +kernel
theorem dX8_often_52 : decode cX8_often 52 = .ok (.iaload, 1) := by decide +kernel
theorem dX8_often_53 : decode cX8_often 53 = .ok (.iaload, 1) := by decide +kernel
theorem dX8_often_54 : decode cX8_often 54 = .ok (.iconst 1, 1) := by decide +kernel
theorem dX8_often_55 : decode cX8_often 55 = .ok (.isub, 1) := by decide +kernel
theorem dX8_often_56 : decode cX8_often 56 = .ok (.invokestatic 104, 3) := by decide +kernel
theorem dX8_often_59 : decode cX8_often 59 = .ok (.ifCond .eq 7, 3) := by decide +kernel
theorem dX8_often_62 : decode cX8_often 62 = .ok (.iconst 1, 1) := by decide +kernel
theorem dX8_often_63 : decode cX8_often 63 = .ok (.goto 4, 3) := by decide +kernel
theorem dX8_often_66 : decode cX8_often 66 = .ok (.iconst 0, 1) := by decide +kernel
theorem dX8_often_67 : decode cX8_often 67 = .ok (.istore 4, 2) := by decide +kernel
theorem dX8_often_69 : decode cX8_often 69 = .ok (.aload_n 0, 1) := by decide +kernel
theorem dX8_often_70 : decode cX8_often 70 = .ok (.iload 4, 2) := by decide +kernel
theorem dX8_often_72 : decode cX8_often 72 = .ok (.ifCond .eq 7, 3) := by decide +kernel
theorem dX8_often_75 : decode cX8_often 75 = .ok (.iconst 0, 1) := by decide +kernel
theorem dX8_often_76 : decode cX8_often 76 = .ok (.goto 4, 3) := by decide +kernel
theorem dX8_often_79 : decode cX8_often 79 = .ok (.iconst 1, 1) := by decide +kernel
theorem dX8_often_80 : decode cX8_often 80 = .ok (.invokevirtual 112, 3) := by decide +kernel
theorem dX8_often_83 : decode cX8_often 83 = .ok (.ifCond .eq 13, 3) := by decide +kernel
theorem dX8_often_86 : decode cX8_often 86 = .ok (.aload_n 0, 1) := by decide +kernel
theorem dX8_often_87 : decode cX8_often 87 = .ok (.iload_n 1, 1) := by decide +kernel
theorem dX8_often_88 : decode cX8_often 88 = .ok (.iload_n 2, 1) := by decide +kernel
theorem dX8_often_89 : decode cX8_often 89 = .ok (.iload_n 3, 1) := by decide +kernel
theorem dX8_often_90 : decode cX8_often 90 = .ok (.invokevirtual 272, 3) := by decide +kernel
theorem dX8_often_93 : decode cX8_often 93 = .ok (.ifCond .ne 5, 3) := by decide +kernel
theorem dX8_often_96 : decode cX8_often 96 = .ok (.iconst 0, 1) := by decide +kernel
theorem dX8_often_97 : decode cX8_often 97 = .ok (.ireturn, 1) := by decide +kernel
theorem dX8_often_98 : decode cX8_often 98 = .ok (.aload_n 0, 1) := by decide +kernel
theorem dX8_often_99 : decode cX8_often 99 = .ok (.aload_n 0, 1) := by decide +kernel
theorem dX8_often_100 : decode cX8_often 100 = .ok (.getfield 48, 3) := by decide +kernel
theorem dX8_often_103 : decode cX8_often 103 = .ok (.iconst 4, 1) := by decide +kernel
theorem dX8_often_104 : decode cX8_often 104 = .ok (.iload_n 1, 1) := by decide +kernel
theorem dX8_often_105 : decode cX8_often 105 = .ok (.imul, 1) := by decide +kernel
theorem dX8_often_106 : decode cX8_often 106 = .ok (.iaload, 1) := by decide +kernel
theorem dX8_often_107 : decode cX8_often 107 = .ok (.iload_n 2, 1) := by decide +kernel
theorem dX8_often_108 : decode cX8_often 108 = .ok (.aload_n 0, 1) := by decide +kernel
theorem dX8_often_109 : decode cX8_often 109 = .ok (.getfield 13, 3) := by decide +kernel
theorem dX8_often_112 : decode cX8_often 112 = .ok (.aload_n 0, 1) := by decide +kernel
theorem dX8_often_113 : decode cX8_often 113 = .ok (.getfield 48, 3) := by decide +kernel
theorem dX8_often_116 : decode cX8_often 116 = .ok (.iconst 4, 1) := by decide +kernel
theorem dX8_often_117 : decode cX8_often 117 = .ok (.iload_n 1, 1) := by decide +kernel
theorem dX8_often_118 : decode cX8_often 118 = .ok (.imul, 1) := by decide +kernel
theorem dX8_often_119 : decode cX8_often 119 = .ok (.iaload, 1) := by decide +kernel
theorem dX8_often_120 : decode cX8_often 120 = .ok (.iaload, 1) := by decide +kernel
theorem dX8_often_121 : decode cX8_often 121 = .ok (.invokevirtual 275, 3) := by decide +kernel
theorem dX8_often_124 : decode cX8_often 124 = .ok (.aload_n 0, 1) := by decide +kernel
theorem dX8_often_125 : decode cX8_often 125 = .ok (.aload_n 0, 1) := by decide +kernel
theorem dX8_often_126 : decode cX8_often 126 = .ok (.getfield 48, 3) := by decide +kernel
theorem dX8_often_129 : decode cX8_often 129 = .ok (.iconst 4, 1) := by decide +kernel
theorem dX8_often_130 : decode cX8_often 130 = .ok (.iload_n 1, 1) := by decide +kernel
theorem dX8_often_131 : decode cX8_often 131 = .ok (.imul, 1) := by decide +kernel
theorem dX8_often_132 : decode cX8_often 132 = .ok (.iconst 2, 1) := by decide +kernel
theorem dX8_often_133 : decode cX8_often 133 = .ok (.iadd, 1) := by decide +kernel
theorem dX8_often_134 : decode cX8_often 134 = .ok (.iaload, 1) := by decide +kernel
theorem dX8_often_135 : decode cX8_often 135 = .ok (.iload_n 3, 1) := by decide +kernel
theorem dX8_often_136 : decode cX8_often 136 = .ok (.aload_n 0, 1) := by decide +kernel
theorem dX8_often_137 : decode cX8_often 137 = .ok (.getfield 13, 3) := by decide +kernel
theorem dX8_often_140 : decode cX8_often 140 = .ok (.aload_n 0, 1) := by decide +kernel
theorem dX8_often_141 : decode cX8_often 141 = .ok (.getfield 48, 3) := by decide +kernel
theorem dX8_often_144 : decode cX8_often 144 = .ok (.iconst 4, 1) := by decide +kernel
theorem dX8_often_145 : decode cX8_often 145 = .ok (.iload_n 1, 1) := by decide +kernel
theorem dX8_often_146 : decode cX8_often 146 = .ok (.imul, 1) := by decide +kernel
theorem dX8_often_147 : decode cX8_often 147 = .ok (.iconst 2, 1) := by decide +kernel
theorem dX8_often_148 : decode cX8_often 148 = .ok (.iadd, 1) := by decide +kernel
theorem dX8_often_149 : decode cX8_often 149 = .ok (.iaload, 1) := by decide +kernel
theorem dX8_often_150 : decode cX8_often 150 = .ok (.iaload, 1) := by decide +kernel
theorem dX8_often_151 : decode cX8_often 151 = .ok (.invokevirtual 275, 3) := by decide +kernel
theorem dX8_often_154 : decode cX8_often 154 = .ok (.imul, 1) := by decide +kernel
theorem dX8_often_155 : decode cX8_often 155 = .ok (.ireturn, 1) := by decide +kernel
theorem dX8_reached_0 : decode cX8_reached 0 = .ok (.aload_n 0, 1) := by decide +kernel
theorem dX8_reached_1 : decode cX8_reached 1 = .ok (.getfield 95, 3) := by decide +kernel
theorem dX8_reached_4 : decode cX8_reached 4 = .ok (.iconst 0, 1) := by decide +kernel
theorem dX8_reached_5 : decode cX8_reached 5 = .ok (.invokestatic 166, 3) := by decide +kernel
theorem dX8_reached_8 : decode cX8_reached 8 = .ok (.iconst 1, 1) := by decide +kernel
theorem dX8_reached_9 : decode cX8_reached 9 = .ok (.istore_n 3, 1) := by decide +kernel
theorem dX8_reached_10 : decode cX8_reached 10 = .ok (.iload_n 3, 1) := by decide +kernel
theorem dX8_reached_11 : decode cX8_reached 11 = .ok (.ifCond .eq 186, 3) := by decide +kernel
theorem dX8_reached_14 : decode cX8_reached 14 = .ok (.iconst 0, 1) := by decide +kernel
theorem dX8_reached_15 : decode cX8_reached 15 = .ok (.istore_n 3, 1) := by decide +kernel
theorem dX8_reached_16 : decode cX8_reached 16 = .ok (.iconst 0, 1) := by decide +kernel
theorem dX8_reached_17 : decode cX8_reached 17 = .ok (.istore 4, 2) := by decide +kernel
theorem dX8_reached_19 : decode cX8_reached 19 = .ok (.iload 4, 2) := by decide +kernel
theorem dX8_reached_21 : decode cX8_reached 21 = .ok (.aload_n 0, 1) := by decide +kernel
theorem dX8_reached_22 : decode cX8_reached 22 = .ok (.getfield 13, 3) := by decide +kernel
theorem dX8_reached_25 : decode cX8_reached 25 = .ok (.iload_n 1, 1) := by decide +kernel
theorem dX8_reached_26 : decode cX8_reached 26 = .ok (.iaload, 1) := by decide +kernel
theorem dX8_reached_27 : decode cX8_reached 27 = .ok (.if_icmp .ge 167, 3) := by decide +kernel
theorem dX8_reached_30 : decode cX8_reached 30 = .ok (.aload_n 0, 1) := by decide +kernel
theorem dX8_reached_31 : decode cX8_reached 31 = .ok (.iload_n 1, 1) := by decide +kernel
theorem dX8_reached_32 : decode cX8_reached 32 = .ok (.iload 4, 2) := by decide +kernel
theorem dX8_reached_34 : decode cX8_reached 34 = .ok (.invokevirtual 278, 3) := by decide +kernel
theorem dX8_reached_37 : decode cX8_reached 37 = .ok (.ifCond .eq 25, 3) := by decide +kernel
theorem dX8_reached_40 : decode cX8_reached 40 = .ok (.aload_n 0, 1) := by decide +kernel
theorem dX8_reached_41 : decode cX8_reached 41 = .ok (.iload_n 1, 1) := by decide +kernel
theorem dX8_reached_42 : decode cX8_reached 42 = .ok (.iload 4, 2) := by decide +kernel
theorem dX8_reached_44 : decode cX8_reached 44 = .ok (.iconst 0, 1) := by decide +kernel
theorem dX8_reached_45 : decode cX8_reached 45 = .ok (.invokevirtual 152, 3) := by decide +kernel
theorem dX8_reached_48 : decode cX8_reached 48 = .ok (.aload_n 0, 1) := by decide +kernel
theorem dX8_reached_49 : decode cX8_reached 49 = .ok (.iload_n 1, 1) := by decide +kernel
theorem dX8_reached_50 : decode cX8_reached 50 = .ok (.iload_n 2, 1) := by decide +kernel
theorem dX8_reached_51 : decode cX8_reached 51 = .ok (.iconst 0, 1) := by decide +kernel
theorem dX8_reached_52 : decode cX8_reached 52 = .ok (.invokevirtual 152, 3) := by decide +kernel
theorem dX8_reached_55 : decode cX8_reached 55 = .ok (.if_icmp .ne 7, 3) := by decide +kernel
theorem dX8_reached_58 : decode cX8_reached 58 = .ok (.iconst 1, 1) := by decide +kernel
theorem dX8_reached_59 : decode cX8_reached 59 = .ok (.goto 4, 3) := by decide +kernel
theorem dX8_reached_62 : decode cX8_reached 62 = .ok (.iconst 0, 1) := by decide +kernel
theorem dX8_reached_63 : decode cX8_reached 63 = .ok (.istore 5, 2) := by decide +kernel
theorem dX8_reached_65 : decode cX8_reached 65 = .ok (.iconst 0, 1) := by decide +kernel
theorem dX8_reached_66 : decode cX8_reached 66 = .ok (.istore 6, 2) := by decide +kernel
theorem dX8_reached_68 : decode cX8_reached 68 = .ok (.iload 6, 2) := by decide +kernel
theorem dX8_reached_70 : decode cX8_reached 70 = .ok (.aload_n 0, 1) := by decide +kernel
theorem dX8_reached_71 : decode cX8_reached 71 = .ok (.getfield 13, 3) := by decide +kernel
theorem dX8_reached_74 : decode cX8_reached 74 = .ok (.iload_n 1, 1) := by decide +kernel
theorem dX8_reached_75 : decode cX8_reached 75 = .ok (.iaload, 1) := by decide +kernel
theorem dX8_reached_76 : decode cX8_reached 76 = .ok (.if_icmp .ge 60, 3) := by decide +kernel
theorem dX8_reached_79 : decode cX8_reached 79 = .ok (.iload 5, 2) := by decide +kernel
theorem dX8_reached_81 : decode cX8_reached 81 = .ok (.ifCond .ne 42, 3) := by decide +kernel
theorem dX8_reached_84 : decode cX8_reached 84 = .ok (.aload_n 0, 1) := by decide +kernel
theorem dX8_reached_85 : decode cX8_reached 85 = .ok (.getfield 95, 3) := by decide +kernel
theorem dX8_reached_88 : decode cX8_reached 88 = .ok (.iload 6, 2) := by decide +kernel
theorem dX8_reached_90 : decode cX8_reached 90 = .ok (.baload, 1) := by decide +kernel
theorem dX8_reached_91 : decode cX8_reached 91 = .ok (.ifCond .eq 36, 3) := by decide +kernel
theorem dX8_reached_94 : decode cX8_reached 94 = .ok (.aload_n 0, 1) := by decide +kernel
theorem dX8_reached_95 : decode cX8_reached 95 = .ok (.iload_n 1, 1) := by decide +kernel
theorem dX8_reached_96 : decode cX8_reached 96 = .ok (.iload 4, 2) := by decide +kernel
theorem dX8_reached_98 : decode cX8_reached 98 = .ok (.invokevirtual 278, 3) := by decide +kernel
theorem dX8_reached_101 : decode cX8_reached 101 = .ok (.ifCond .eq 26, 3) := by decide +kernel
theorem dX8_reached_104 : decode cX8_reached 104 = .ok (.aload_n 0, 1) := by decide +kernel
theorem dX8_reached_105 : decode cX8_reached 105 = .ok (.iload_n 1, 1) := by decide +kernel
theorem dX8_reached_106 : decode cX8_reached 106 = .ok (.iload 6, 2) := by decide +kernel
theorem dX8_reached_108 : decode cX8_reached 108 = .ok (.iconst 1, 1) := by decide +kernel
theorem dX8_reached_109 : decode cX8_reached 109 = .ok (.invokevirtual 152, 3) := by decide +kernel
theorem dX8_reached_112 : decode cX8_reached 112 = .ok (.aload_n 0, 1) := by decide +kernel
theorem dX8_reached_113 : decode cX8_reached 113 = .ok (.iload_n 1, 1) := by decide +kernel
theorem dX8_reached_114 : decode cX8_reached 114 = .ok (.iload 4, 2) := by decide +kernel
theorem dX8_reached_116 : decode cX8_reached 116 = .ok (.iconst 0, 1) := by decide +kernel
theorem dX8_reached_117 : decode cX8_reached 117 = .ok (.invokevirtual 152, 3) := by decide +kernel
theorem dX8_reached_120 : decode cX8_reached 120 = .ok (.if_icmp .ne 7, 3) := by decide +kernel
theorem dX8_reached_123 : decode cX8_reached 123 = .ok (.iconst 1, 1) := by decide +kernel
theorem dX8_reached_124 : decode cX8_reached 124 = .ok (.goto 4, 3) := by decide +kernel
theorem dX8_reached_127 : decode cX8_reached 127 = .ok (.iconst 0, 1) := by decide +kernel
theorem dX8_reached_128 : decode cX8_reached 128 = .ok (.istore 5, 2) := by decide +kernel
theorem dX8_reached_130 : decode cX8_reached 130 = .ok (.iinc 6 1, 3) := by decide +kernel
theorem dX8_reached_133 : decode cX8_reached 133 = .ok (.goto (-65), 3) := by decide +kernel
theorem dX8_reached_136 : decode cX8_reached 136 = .ok (.iload_n 3, 1) := by decide +kernel
theorem dX8_reached_137 : decode cX8_reached 137 = .ok (.ifCond .ne 18, 3) := by decide +kernel
theorem dX8_reached_140 : decode cX8_reached 140 = .ok (.iload 5, 2) := by decide +kernel
theorem dX8_reached_142 : decode cX8_reached 142 = .ok (.ifCond .eq 17, 3) := by decide +kernel
theorem dX8_reached_145 : decode cX8_reached 145 = .ok (.aload_n 0, 1) := by decide +kernel
theorem dX8_reached_146 : decode cX8_reached 146 = .ok (.getfield 95, 3) := by decide +kernel
theorem dX8_reached_149 : decode cX8_reached 149 = .ok (.iload 4, 2) := by decide +kernel
theorem dX8_reached_151 : decode cX8_reached 151 = .ok (.baload, 1) := by decide +kernel
theorem dX8_reached_152 : decode cX8_reached 152 = .ok (.ifCond .ne 7, 3) := by decide +kernel
theorem dX8_reached_155 : decode cX8_reached 155 = .ok (.iconst 1, 1) := by decide +kernel
theorem dX8_reached_156 : decode cX8_reached 156 = .ok (.goto 4, 3) := by decide +kernel
theorem dX8_reached_159 : decode cX8_reached 159 = .ok (.iconst 0, 1) := by decide +kernel
theorem dX8_reached_160 : decode cX8_reached 160 = .ok (.istore_n 3, 1) := by decide +kernel
theorem dX8_reached_161 : decode cX8_reached 161 = .ok (.aload_n 0, 1) := by decide +kernel
theorem dX8_reached_162 : decode cX8_reached 162 = .ok (.getfield 95, 3) := by decide +kernel
theorem dX8_reached_165 : decode cX8_reached 165 = .ok (.iload 4, 2) := by decide +kernel
theorem dX8_reached_167 : decode cX8_reached 167 = .ok (.aload_n 0, 1) := by decide +kernel
theorem dX8_reached_168 : decode cX8_reached 168 = .ok (.getfield 95, 3) := by decide +kernel
theorem dX8_reached_171 : decode cX8_reached 171 = .ok (.iload 4, 2) := by decide +kernel
theorem dX8_reached_173 : decode cX8_reached 173 = .ok (.baload, 1) := by decide +kernel
theorem dX8_reached_174 : decode cX8_reached 174 = .ok (.ifCond .ne 8, 3) := by decide +kernel
theorem dX8_reached_177 : decode cX8_reached 177 = .ok (.iload 5, 2) := by decide +kernel
theorem dX8_reached_179 : decode cX8_reached 179 = .ok (.ifCond .eq 7, 3) := by decide +kernel
theorem dX8_reached_182 : decode cX8_reached 182 = .ok (.iconst 1, 1) := by decide +kernel
theorem dX8_reached_183 : decode cX8_reached 183 = .ok (.goto 4, 3) := by decide +kernel
theorem dX8_reached_186 : decode cX8_reached 186 = .ok (.iconst 0, 1) := by decide +kernel
theorem dX8_reached_187 : decode cX8_reached 187 = .ok (.bastore, 1) := by decide +kernel
theorem dX8_reached_188 : decode cX8_reached 188 = .ok (.iinc 4 1, 3) := by decide +kernel
theorem dX8_reached_191 : decode cX8_reached 191 = .ok (.goto (-172), 3) := by decide +kernel
theorem dX8_reached_194 : decode cX8_reached 194 = .ok (.goto (-184), 3) := by decide +kernel
theorem dX8_reached_197 : decode cX8_reached 197 = .ok (.iconst 0, 1) := by decide +kernel
theorem dX8_reached_198 : decode cX8_reached 198 = .ok (.istore 4, 2) := by decide +kernel
theorem dX8_reached_200 : decode cX8_reached 200 = .ok (.iconst 0, 1) := by decide +kernel
theorem dX8_reached_201 : decode cX8_reached 201 = .ok (.istore 5, 2) := by decide +kernel
theorem dX8_reached_203 : decode cX8_reached 203 = .ok (.iload 5, 2) := by decide +kernel
theorem dX8_reached_205 : decode cX8_reached 205 = .ok (.aload_n 0, 1) := by decide +kernel
theorem dX8_reached_206 : decode cX8_reached 206 = .ok (.getfield 13, 3) := by decide +kernel
theorem dX8_reached_209 : decode cX8_reached 209 = .ok (.iload_n 1, 1) := by decide +kernel
theorem dX8_reached_210 : decode cX8_reached 210 = .ok (.iaload, 1) := by decide +kernel
theorem dX8_reached_211 : decode cX8_reached 211 = .ok (.if_icmp .ge 90, 3) := by decide +kernel
theorem dX8_reached_214 : decode cX8_reached 214 = .ok (.aload_n 0, 1) := by decide +kernel
theorem dX8_reached_215 : decode cX8_reached 215 = .ok (.getfield 95, 3) := by decide +kernel
theorem dX8_reached_218 : decode cX8_reached 218 = .ok (.iload 5, 2) := by decide +kernel
theorem dX8_reached_220 : decode cX8_reached 220 = .ok (.baload, 1) := by decide +kernel
theorem dX8_reached_221 : decode cX8_reached 221 = .ok (.istore 6, 2) := by decide +kernel
theorem dX8_reached_223 : decode cX8_reached 223 = .ok (.iconst 0, 1) := by decide +kernel
theorem dX8_reached_224 : decode cX8_reached 224 = .ok (.istore 7, 2) := by decide +kernel
theorem dX8_reached_226 : decode cX8_reached 226 = .ok (.iload 7, 2) := by decide +kernel
theorem dX8_reached_228 : decode cX8_reached 228 = .ok (.iload 5, 2) := by decide +kernel
theorem dX8_reached_230 : decode cX8_reached 230 = .ok (.if_icmp .ge 50, 3) := by decide +kernel
theorem dX8_reached_233 : decode cX8_reached 233 = .ok (.iload 6, 2) := by decide +kernel
theorem dX8_reached_235 : decode cX8_reached 235 = .ok (.ifCond .eq 36, 3) := by decide +kernel
theorem dX8_reached_238 : decode cX8_reached 238 = .ok (.aload_n 0, 1) := by decide +kernel
theorem dX8_reached_239 : decode cX8_reached 239 = .ok (.getfield 95, 3) := by decide +kernel
theorem dX8_reached_242 : decode cX8_reached 242 = .ok (.iload 7, 2) := by decide +kernel
theorem dX8_reached_244 : decode cX8_reached 244 = .ok (.baload, 1) := by decide +kernel
theorem dX8_reached_245 : decode cX8_reached 245 = .ok (.ifCond .eq 22, 3) := by decide +kernel
theorem dX8_reached_248 : decode cX8_reached 248 = .ok (.aload_n 0, 1) := by decide +kernel
theorem dX8_reached_249 : decode cX8_reached 249 = .ok (.iload_n 1, 1) := by decide +kernel
theorem dX8_reached_250 : decode cX8_reached 250 = .ok (.iload 7, 2) := by decide +kernel
theorem dX8_reached_252 : decode cX8_reached 252 = .ok (.iconst 1, 1) := by decide +kernel
theorem dX8_reached_253 : decode cX8_reached 253 = .ok (.invokevirtual 152, 3) := by decide +kernel
theorem dX8_reached_256 : decode cX8_reached 256 = .ok (.aload_n 0, 1) := by decide +kernel
theorem dX8_reached_257 : decode cX8_reached 257 = .ok (.iload_n 1, 1) := by decide +kernel
theorem dX8_reached_258 : decode cX8_reached 258 = .ok (.iload 5, 2) := by decide +kernel
theorem dX8_reached_260 : decode cX8_reached 260 = .ok (.iconst 1, 1) := by decide +kernel
theorem dX8_reached_261 : decode cX8_reached 261 = .ok (.invokevirtual 152, 3) := by decide +kernel
theorem dX8_reached_264 : decode cX8_reached 264 = .ok (.if_icmp .eq 7, 3) := by decide +kernel
theorem dX8_reached_267 : decode cX8_reached 267 = .ok (.iconst 1, 1) := by decide +kernel
theorem dX8_reached_268 : decode cX8_reached 268 = .ok (.goto 4, 3) := by decide +kernel
theorem dX8_reached_271 : decode cX8_reached 271 = .ok (.iconst 0, 1) := by decide +kernel
theorem dX8_reached_272 : decode cX8_reached 272 = .ok (.istore 6, 2) := by decide +kernel
theorem dX8_reached_274 : decode cX8_reached 274 = .ok (.iinc 7 1, 3) := by decide +kernel
theorem dX8_reached_277 : decode cX8_reached 277 = .ok (.goto (-51), 3) := by decide +kernel
theorem dX8_reached_280 : decode cX8_reached 280 = .ok (.iload 4, 2) := by decide +kernel
theorem dX8_reached_282 : decode cX8_reached 282 = .ok (.iload 6, 2) := by decide +kernel
theorem dX8_reached_284 : decode cX8_reached 284 = .ok (.ifCond .eq 7, 3) := by decide +kernel
theorem dX8_reached_287 : decode cX8_reached 287 = .ok (.iconst 1, 1) := by decide +kernel
theorem dX8_reached_288 : decode cX8_reached 288 = .ok (.goto 4, 3) := by decide +kernel
theorem dX8_reached_291 : decode cX8_reached 291 = .ok (.iconst 0, 1) := by decide +kernel
theorem dX8_reached_292 : decode cX8_reached 292 = .ok (.iadd, 1) := by decide +kernel
theorem dX8_reached_293 : decode cX8_reached 293 = .ok (.istore 4, 2) := by decide +kernel
theorem dX8_reached_295 : decode cX8_reached 295 = .ok (.iinc 5 1, 3) := by decide +kernel
theorem dX8_reached_298 : decode cX8_reached 298 = .ok (.goto (-95), 3) := by decide +kernel
theorem dX8_reached_301 : decode cX8_reached 301 = .ok (.iload 4, 2) := by decide +kernel
theorem dX8_reached_303 : decode cX8_reached 303 = .ok (.ireturn, 1) := by decide +kernel
theorem dX8_isKnown_0 : decode cX8_isKnown 0 = .ok (.aload_n 0, 1) := by decide +kernel
theorem dX8_isKnown_1 : decode cX8_isKnown 1 = .ok (.iload_n 1, 1) := by decide +kernel
theorem dX8_isKnown_2 : decode cX8_isKnown 2 = .ok (.iload_n 2, 1) := by decide +kernel
theorem dX8_isKnown_3 : decode cX8_isKnown 3 = .ok (.iconst 0, 1) := by decide +kernel
theorem dX8_isKnown_4 : decode cX8_isKnown 4 = .ok (.invokevirtual 152, 3) := by decide +kernel
theorem dX8_isKnown_7 : decode cX8_isKnown 7 = .ok (.sipush (-1000), 3) := by decide +kernel
theorem dX8_isKnown_10 : decode cX8_isKnown 10 = .ok (.if_icmp .eq 20, 3) := by decide +kernel
theorem dX8_isKnown_13 : decode cX8_isKnown 13 = .ok (.aload_n 0, 1) := by decide +kernel
theorem dX8_isKnown_14 : decode cX8_isKnown 14 = .ok (.iload_n 1, 1) := by decide +kernel
theorem dX8_isKnown_15 : decode cX8_isKnown 15 = .ok (.iload_n 2, 1) := by decide +kernel
theorem dX8_isKnown_16 : decode cX8_isKnown 16 = .ok (.iconst 1, 1) := by decide +kernel
theorem dX8_isKnown_17 : decode cX8_isKnown 17 = .ok (.invokevirtual 152, 3) := by decide +kernel
theorem dX8_isKnown_20 : decode cX8_isKnown 20 = .ok (.sipush (-1000), 3) := by decide +kernel
theorem dX8_isKnown_23 : decode cX8_isKnown 23 = .ok (.if_icmp .eq 7, 3) := by decide +kernel
theorem dX8_isKnown_26 : decode cX8_isKnown 26 = .ok (.iconst 1, 1) := by decide +kernel
theorem dX8_isKnown_27 : decode cX8_isKnown 27 = .ok (.goto 4, 3) := by decide +kernel
theorem dX8_isKnown_30 : decode cX8_isKnown 30 = .ok (.iconst 0, 1) := by decide +kernel
theorem dX8_isKnown_31 : decode cX8_isKnown 31 = .ok (.ireturn, 1) := by decide +kernel
theorem dX8_ways_0 : decode cX8_ways 0 = .ok (.aload_n 0, 1) := by decide +kernel
theorem dX8_ways_1 : decode cX8_ways 1 = .ok (.iload_n 1, 1) := by decide +kernel
theorem dX8_ways_2 : decode cX8_ways 2 = .ok (.invokevirtual 108, 3) := by decide +kernel
theorem dX8_ways_5 : decode cX8_ways 5 = .ok (.istore_n 2, 1) := by decide +kernel
theorem dX8_ways_6 : decode cX8_ways 6 = .ok (.aload_n 0, 1) := by decide +kernel
theorem dX8_ways_7 : decode cX8_ways 7 = .ok (.iload_n 2, 1) := by decide +kernel
theorem dX8_ways_8 : decode cX8_ways 8 = .ok (.ifCond .ne 7, 3) := by decide +kernel
theorem dX8_ways_11 : decode cX8_ways 11 = .ok (.iconst 1, 1) := by decide +kernel
theorem dX8_ways_12 : decode cX8_ways 12 = .ok (.goto 18, 3) := by decide +kernel
theorem dX8_ways_15 : decode cX8_ways 15 = .ok (.aload_n 0, 1) := by decide +kernel
theorem dX8_ways_16 : decode cX8_ways 16 = .ok (.getfield 9, 3) := by decide +kernel
theorem dX8_ways_19 : decode cX8_ways 19 = .ok (.iload_n 1, 1) := by decide +kernel
theorem dX8_ways_20 : decode cX8_ways 20 = .ok (.iaload, 1) := by decide +kernel
theorem dX8_ways_21 : decode cX8_ways 21 = .ok (.iconst 2, 1) := by decide +kernel
theorem dX8_ways_22 : decode cX8_ways 22 = .ok (.if_icmp .ge 7, 3) := by decide +kernel
theorem dX8_ways_25 : decode cX8_ways 25 = .ok (.iconst 2, 1) := by decide +kernel
theorem dX8_ways_26 : decode cX8_ways 26 = .ok (.goto 4, 3) := by decide +kernel
theorem dX8_ways_29 : decode cX8_ways 29 = .ok (.iconst 0, 1) := by decide +kernel
theorem dX8_ways_30 : decode cX8_ways 30 = .ok (.invokevirtual 112, 3) := by decide +kernel
theorem dX8_ways_33 : decode cX8_ways 33 = .ok (.ifCond .ne 5, 3) := by decide +kernel
theorem dX8_ways_36 : decode cX8_ways 36 = .ok (.iconst 0, 1) := by decide +kernel
theorem dX8_ways_37 : decode cX8_ways 37 = .ok (.ireturn, 1) := by decide +kernel
theorem dX8_ways_38 : decode cX8_ways 38 = .ok (.iconst 0, 1) := by decide +kernel
theorem dX8_ways_39 : decode cX8_ways 39 = .ok (.istore_n 3, 1) := by decide +kernel
theorem dX8_ways_40 : decode cX8_ways 40 = .ok (.iconst 0, 1) := by decide +kernel
theorem dX8_ways_41 : decode cX8_ways 41 = .ok (.istore 4, 2) := by decide +kernel
theorem dX8_ways_43 : decode cX8_ways 43 = .ok (.iload 4, 2) := by decide +kernel
theorem dX8_ways_45 : decode cX8_ways 45 = .ok (.aload_n 0, 1) := by decide +kernel
theorem dX8_ways_46 : decode cX8_ways 46 = .ok (.getfield 13, 3) := by decide +kernel
theorem dX8_ways_49 : decode cX8_ways 49 = .ok (.iload_n 1, 1) := by decide +kernel
theorem dX8_ways_50 : decode cX8_ways 50 = .ok (.iaload, 1) := by decide +kernel
theorem dX8_ways_51 : decode cX8_ways 51 = .ok (.if_icmp .ge 94, 3) := by decide +kernel
theorem dX8_ways_54 : decode cX8_ways 54 = .ok (.aload_n 0, 1) := by decide +kernel
theorem dX8_ways_55 : decode cX8_ways 55 = .ok (.iload_n 1, 1) := by decide +kernel
theorem dX8_ways_56 : decode cX8_ways 56 = .ok (.iload 4, 2) := by decide +kernel
theorem dX8_ways_58 : decode cX8_ways 58 = .ok (.invokevirtual 278, 3) := by decide +kernel
theorem dX8_ways_61 : decode cX8_ways 61 = .ok (.istore 5, 2) := by decide +kernel
theorem dX8_ways_63 : decode cX8_ways 63 = .ok (.iconst 0, 1) := by decide +kernel
theorem dX8_ways_64 : decode cX8_ways 64 = .ok (.istore 6, 2) := by decide +kernel
theorem dX8_ways_66 : decode cX8_ways 66 = .ok (.iload 6, 2) := by decide +kernel
theorem dX8_ways_68 : decode cX8_ways 68 = .ok (.iload 4, 2) := by decide +kernel
theorem dX8_ways_70 : decode cX8_ways 70 = .ok (.if_icmp .ge 50, 3) := by decide +kernel
theorem dX8_ways_73 : decode cX8_ways 73 = .ok (.iload 5, 2) := by decide +kernel
theorem dX8_ways_75 : decode cX8_ways 75 = .ok (.ifCond .eq 36, 3) := by decide +kernel
theorem dX8_ways_78 : decode cX8_ways 78 = .ok (.aload_n 0, 1) := by decide +kernel
theorem dX8_ways_79 : decode cX8_ways 79 = .ok (.iload_n 1, 1) := by decide +kernel
theorem dX8_ways_80 : decode cX8_ways 80 = .ok (.iload 6, 2) := by decide +kernel
theorem dX8_ways_82 : decode cX8_ways 82 = .ok (.invokevirtual 278, 3) := by decide +kernel
theorem dX8_ways_85 : decode cX8_ways 85 = .ok (.ifCond .eq 22, 3) := by decide +kernel
theorem dX8_ways_88 : decode cX8_ways 88 = .ok (.aload_n 0, 1) := by decide +kernel
theorem dX8_ways_89 : decode cX8_ways 89 = .ok (.iload_n 1, 1) := by decide +kernel
theorem dX8_ways_90 : decode cX8_ways 90 = .ok (.iload 6, 2) := by decide +kernel
theorem dX8_ways_92 : decode cX8_ways 92 = .ok (.iconst 0, 1) := by decide +kernel
theorem dX8_ways_93 : decode cX8_ways 93 = .ok (.invokevirtual 152, 3) := by decide +kernel
theorem dX8_ways_96 : decode cX8_ways 96 = .ok (.aload_n 0, 1) := by decide +kernel
theorem dX8_ways_97 : decode cX8_ways 97 = .ok (.iload_n 1, 1) := by decide +kernel
theorem dX8_ways_98 : decode cX8_ways 98 = .ok (.iload 4, 2) := by decide +kernel
theorem dX8_ways_100 : decode cX8_ways 100 = .ok (.iconst 0, 1) := by decide +kernel
theorem dX8_ways_101 : decode cX8_ways 101 = .ok (.invokevirtual 152, 3) := by decide +kernel
theorem dX8_ways_104 : decode cX8_ways 104 = .ok (.if_icmp .eq 7, 3) := by decide +kernel
theorem dX8_ways_107 : decode cX8_ways 107 = .ok (.iconst 1, 1) := by decide +kernel
theorem dX8_ways_108 : decode cX8_ways 108 = .ok (.goto 4, 3) := by decide +kernel
theorem dX8_ways_111 : decode cX8_ways 111 = .ok (.iconst 0, 1) := by decide +kernel
theorem dX8_ways_112 : decode cX8_ways 112 = .ok (.istore 5, 2) := by decide +kernel
theorem dX8_ways_114 : decode cX8_ways 114 = .ok (.iinc 6 1, 3) := by decide +kernel
theorem dX8_ways_117 : decode cX8_ways 117 = .ok (.goto (-51), 3) := by decide +kernel
theorem dX8_ways_120 : decode cX8_ways 120 = .ok (.iload_n 3, 1) := by decide +kernel
theorem dX8_ways_121 : decode cX8_ways 121 = .ok (.iload 5, 2) := by decide +kernel
theorem dX8_ways_123 : decode cX8_ways 123 = .ok (.ifCond .eq 13, 3) := by decide +kernel
theorem dX8_ways_126 : decode cX8_ways 126 = .ok (.aload_n 0, 1) := by decide +kernel
theorem dX8_ways_127 : decode cX8_ways 127 = .ok (.iload_n 1, 1) := by decide +kernel
theorem dX8_ways_128 : decode cX8_ways 128 = .ok (.iload 4, 2) := by decide +kernel
theorem dX8_ways_130 : decode cX8_ways 130 = .ok (.invokevirtual 281, 3) := by decide +kernel
theorem dX8_ways_133 : decode cX8_ways 133 = .ok (.goto 4, 3) := by decide +kernel
theorem dX8_ways_136 : decode cX8_ways 136 = .ok (.iconst 0, 1) := by decide +kernel
theorem dX8_ways_137 : decode cX8_ways 137 = .ok (.iadd, 1) := by decide +kernel
theorem dX8_ways_138 : decode cX8_ways 138 = .ok (.istore_n 3, 1) := by decide +kernel
theorem dX8_ways_139 : decode cX8_ways 139 = .ok (.iinc 4 1, 3) := by decide +kernel
theorem dX8_ways_142 : decode cX8_ways 142 = .ok (.goto (-99), 3) := by decide +kernel
theorem dX8_ways_145 : decode cX8_ways 145 = .ok (.iload_n 3, 1) := by decide +kernel
theorem dX8_ways_146 : decode cX8_ways 146 = .ok (.ireturn, 1) := by decide +kernel
