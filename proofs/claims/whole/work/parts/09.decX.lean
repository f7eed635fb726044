theorem d_Kind_reaches_0 : decode c_Kind_reaches 0 = .ok (.aload_n 1, 1) := by decide +kernel
theorem d_Kind_reaches_1 : decode c_Kind_reaches 1 = .ok (.getfield 21, 3) := by decide +kernel
theorem d_Kind_reaches_4 : decode c_Kind_reaches 4 = .ok (.ireturn, 1) := by decide +kernel
theorem d_Kind_wears_0 : decode c_Kind_wears 0 = .ok (.iconst 1, 1) := by decide +kernel
theorem d_Kind_wears_1 : decode c_Kind_wears 1 = .ok (.iconst 2, 1) := by decide +kernel
theorem d_Kind_wears_2 : decode c_Kind_wears 2 = .ok (.iload_n 2, 1) := by decide +kernel
theorem d_Kind_wears_3 : decode c_Kind_wears 3 = .ok (.imul, 1) := by decide +kernel
theorem d_Kind_wears_4 : decode c_Kind_wears 4 = .ok (.iadd, 1) := by decide +kernel
theorem d_Kind_wears_5 : decode c_Kind_wears 5 = .ok (.ireturn, 1) := by decide +kernel
theorem d_Kind_breeds_0 : decode c_Kind_breeds 0 = .ok (.iconst 1, 1) := by decide +kernel
theorem d_Kind_breeds_1 : decode c_Kind_breeds 1 = .ok (.ireturn, 1) := by decide +kernel
theorem d_Kind_gains_0 : decode c_Kind_gains 0 = .ok (.bipush 10, 2) := by decide +kernel
theorem d_Kind_gains_2 : decode c_Kind_gains 2 = .ok (.ireturn, 1) := by decide +kernel
theorem d_Mat_reaches_0 : decode c_Mat_reaches 0 = .ok (.iconst 2, 1) := by decide +kernel
theorem d_Mat_reaches_1 : decode c_Mat_reaches 1 = .ok (.ireturn, 1) := by decide +kernel
theorem d_Mat_wears_0 : decode c_Mat_wears 0 = .ok (.iconst 0, 1) := by decide +kernel
theorem d_Mat_wears_1 : decode c_Mat_wears 1 = .ok (.ireturn, 1) := by decide +kernel
theorem d_Mat_breeds_0 : decode c_Mat_breeds 0 = .ok (.iconst 0, 1) := by decide +kernel
theorem d_Mat_breeds_1 : decode c_Mat_breeds 1 = .ok (.ireturn, 1) := by decide +kernel
theorem d_Mat_gains_0 : decode c_Mat_gains 0 = .ok (.iconst 0, 1) := by decide +kernel
theorem d_Mat_gains_1 : decode c_Mat_gains 1 = .ok (.ireturn, 1) := by decide +kernel
theorem d_Tape_tokenBegunBy_0 : decode c_Tape_tokenBegunBy 0 = .ok (.iload_n 0, 1) := by decide +kernel
theorem d_Tape_tokenBegunBy_1 : decode c_Tape_tokenBegunBy 1 = .ok (.bipush 97, 2) := by decide +kernel
theorem d_Tape_tokenBegunBy_3 : decode c_Tape_tokenBegunBy 3 = .ok (.if_icmp .lt 11, 3) := by decide +kernel
theorem d_Tape_tokenBegunBy_6 : decode c_Tape_tokenBegunBy 6 = .ok (.iload_n 0, 1) := by decide +kernel
theorem d_Tape_tokenBegunBy_7 : decode c_Tape_tokenBegunBy 7 = .ok (.bipush 122, 2) := by decide +kernel
theorem d_Tape_tokenBegunBy_9 : decode c_Tape_tokenBegunBy 9 = .ok (.if_icmp .gt 5, 3) := by decide +kernel
theorem d_Tape_tokenBegunBy_12 : decode c_Tape_tokenBegunBy 12 = .ok (.iconst 1, 1) := by decide +kernel
theorem d_Tape_tokenBegunBy_13 : decode c_Tape_tokenBegunBy 13 = .ok (.ireturn, 1) := by decide +kernel
theorem d_Tape_tokenBegunBy_14 : decode c_Tape_tokenBegunBy 14 = .ok (.iload_n 0, 1) := by decide +kernel
theorem d_Tape_tokenBegunBy_15 : decode c_Tape_tokenBegunBy 15 = .ok (.bipush 48, 2) := by decide +kernel
theorem d_Tape_tokenBegunBy_17 : decode c_Tape_tokenBegunBy 17 = .ok (.if_icmp .lt 11, 3) := by decide +kernel
theorem d_Tape_tokenBegunBy_20 : decode c_Tape_tokenBegunBy 20 = .ok (.iload_n 0, 1) := by decide +kernel
theorem d_Tape_tokenBegunBy_21 : decode c_Tape_tokenBegunBy 21 = .ok (.bipush 57, 2) := by decide +kernel
theorem d_Tape_tokenBegunBy_23 : decode c_Tape_tokenBegunBy 23 = .ok (.if_icmp .gt 5, 3) := by decide +kernel
theorem d_Tape_tokenBegunBy_26 : decode c_Tape_tokenBegunBy 26 = .ok (.iconst 2, 1) := by decide +kernel
theorem d_Tape_tokenBegunBy_27 : decode c_Tape_tokenBegunBy 27 = .ok (.ireturn, 1) := by decide +kernel
theorem d_Tape_tokenBegunBy_28 : decode c_Tape_tokenBegunBy 28 = .ok (.iload_n 0, 1) := by decide +kernel
theorem d_Tape_tokenBegunBy_29 : decode c_Tape_tokenBegunBy 29 = .ok (.bipush 59, 2) := by decide +kernel
theorem d_Tape_tokenBegunBy_31 : decode c_Tape_tokenBegunBy 31 = .ok (.if_icmp .ne 7, 3) := by decide +kernel
theorem d_Tape_tokenBegunBy_34 : decode c_Tape_tokenBegunBy 34 = .ok (.iconst 3, 1) := by decide +kernel
theorem d_Tape_tokenBegunBy_35 : decode c_Tape_tokenBegunBy 35 = .ok (.goto 4, 3) := by decide +kernel
theorem d_Tape_tokenBegunBy_38 : decode c_Tape_tokenBegunBy 38 = .ok (.iconst 4, 1) := by decide +kernel
theorem d_Tape_tokenBegunBy_39 : decode c_Tape_tokenBegunBy 39 = .ok (.ireturn, 1) := by decide +kernel
theorem d_Tape_toNextToken_0 : decode c_Tape_toNextToken 0 = .ok (.aload_n 0, 1) := by decide +kernel
theorem d_Tape_toNextToken_1 : decode c_Tape_toNextToken 1 = .ok (.aload_n 0, 1) := by decide +kernel
theorem d_Tape_toNextToken_2 : decode c_Tape_toNextToken 2 = .ok (.getfield 19, 3) := by decide +kernel
theorem d_Tape_toNextToken_5 : decode c_Tape_toNextToken 5 = .ok (.putfield 25, 3) := by decide +kernel
theorem d_Tape_toNextToken_8 : decode c_Tape_toNextToken 8 = .ok (.aload_n 0, 1) := by decide +kernel
theorem d_Tape_toNextToken_9 : decode c_Tape_toNextToken 9 = .ok (.getfield 25, 3) := by decide +kernel
theorem d_Tape_toNextToken_12 : decode c_Tape_toNextToken 12 = .ok (.aload_n 0, 1) := by decide +kernel
theorem d_Tape_toNextToken_13 : decode c_Tape_toNextToken 13 = .ok (.getfield 15, 3) := by decide +kernel
theorem d_Tape_toNextToken_16 : decode c_Tape_toNextToken 16 = .ok (.if_icmp .ge 30, 3) := by decide +kernel
theorem d_Tape_toNextToken_19 : decode c_Tape_toNextToken 19 = .ok (.aload_n 0, 1) := by decide +kernel
theorem d_Tape_toNextToken_20 : decode c_Tape_toNextToken 20 = .ok (.getfield 9, 3) := by decide +kernel
theorem d_Tape_toNextToken_23 : decode c_Tape_toNextToken 23 = .ok (.aload_n 0, 1) := by decide +kernel
theorem d_Tape_toNextToken_24 : decode c_Tape_toNextToken 24 = .ok (.getfield 25, 3) := by decide +kernel
theorem d_Tape_toNextToken_27 : decode c_Tape_toNextToken 27 = .ok (.iaload, 1) := by decide +kernel
theorem d_Tape_toNextToken_28 : decode c_Tape_toNextToken 28 = .ok (.bipush 32, 2) := by decide +kernel
theorem d_Tape_toNextToken_30 : decode c_Tape_toNextToken 30 = .ok (.if_icmp .ne 16, 3) := by decide +kernel
theorem d_Tape_toNextToken_33 : decode c_Tape_toNextToken 33 = .ok (.aload_n 0, 1) := by decide +kernel
theorem d_Tape_toNextToken_34 : decode c_Tape_toNextToken 34 = .ok (.dup, 1) := by decide +kernel
theorem d_Tape_toNextToken_35 : decode c_Tape_toNextToken 35 = .ok (.getfield 25, 3) := by decide +kernel
theorem d_Tape_toNextToken_38 : decode c_Tape_toNextToken 38 = .ok (.iconst 1, 1) := by decide +kernel
theorem d_Tape_toNextToken_39 : decode c_Tape_toNextToken 39 = .ok (.iadd, 1) := by decide +kernel
theorem d_Tape_toNextToken_40 : decode c_Tape_toNextToken 40 = .ok (.putfield 25, 3) := by decide +kernel
theorem d_Tape_toNextToken_43 : decode c_Tape_toNextToken 43 = .ok (.goto (-35), 3) := by decide +kernel
theorem d_Tape_toNextToken_46 : decode c_Tape_toNextToken 46 = .ok (.aload_n 0, 1) := by decide +kernel
theorem d_Tape_toNextToken_47 : decode c_Tape_toNextToken 47 = .ok (.aload_n 0, 1) := by decide +kernel
theorem d_Tape_toNextToken_48 : decode c_Tape_toNextToken 48 = .ok (.getfield 25, 3) := by decide +kernel
theorem d_Tape_toNextToken_51 : decode c_Tape_toNextToken 51 = .ok (.aload_n 0, 1) := by decide +kernel
theorem d_Tape_toNextToken_52 : decode c_Tape_toNextToken 52 = .ok (.getfield 15, 3) := by decide +kernel
theorem d_Tape_toNextToken_55 : decode c_Tape_toNextToken 55 = .ok (.if_icmp .ge 18, 3) := by decide +kernel
theorem d_Tape_toNextToken_58 : decode c_Tape_toNextToken 58 = .ok (.aload_n 0, 1) := by decide +kernel
theorem d_Tape_toNextToken_59 : decode c_Tape_toNextToken 59 = .ok (.getfield 9, 3) := by decide +kernel
theorem d_Tape_toNextToken_62 : decode c_Tape_toNextToken 62 = .ok (.aload_n 0, 1) := by decide +kernel
theorem d_Tape_toNextToken_63 : decode c_Tape_toNextToken 63 = .ok (.getfield 25, 3) := by decide +kernel
theorem d_Tape_toNextToken_66 : decode c_Tape_toNextToken 66 = .ok (.iaload, 1) := by decide +kernel
theorem d_Tape_toNextToken_67 : decode c_Tape_toNextToken 67 = .ok (.invokestatic 28, 3) := by decide +kernel
theorem d_Tape_toNextToken_70 : decode c_Tape_toNextToken 70 = .ok (.goto 4, 3) := by decide +kernel
theorem d_Tape_toNextToken_73 : decode c_Tape_toNextToken 73 = .ok (.iconst 0, 1) := by decide +kernel
theorem d_Tape_toNextToken_74 : decode c_Tape_toNextToken 74 = .ok (.putfield 32, 3) := by decide +kernel
theorem d_Tape_toNextToken_77 : decode c_Tape_toNextToken 77 = .ok (.aload_n 0, 1) := by decide +kernel
theorem d_Tape_toNextToken_78 : decode c_Tape_toNextToken 78 = .ok (.getfield 32, 3) := by decide +kernel
theorem d_Tape_toNextToken_81 : decode c_Tape_toNextToken 81 = .ok (.iconst 1, 1) := by decide +kernel
theorem d_Tape_toNextToken_82 : decode c_Tape_toNextToken 82 = .ok (.if_icmp .eq 11, 3) := by decide +kernel
theorem d_Tape_toNextToken_85 : decode c_Tape_toNextToken 85 = .ok (.aload_n 0, 1) := by decide +kernel
theorem d_Tape_toNextToken_86 : decode c_Tape_toNextToken 86 = .ok (.getfield 32, 3) := by decide +kernel
theorem d_Tape_toNextToken_89 : decode c_Tape_toNextToken 89 = .ok (.iconst 2, 1) := by decide +kernel
theorem d_Tape_toNextToken_90 : decode c_Tape_toNextToken 90 = .ok (.if_icmp .ne 7, 3) := by decide +kernel
theorem d_Tape_toNextToken_93 : decode c_Tape_toNextToken 93 = .ok (.iconst 1, 1) := by decide +kernel
theorem d_Tape_toNextToken_94 : decode c_Tape_toNextToken 94 = .ok (.goto 4, 3) := by decide +kernel
theorem d_Tape_toNextToken_97 : decode c_Tape_toNextToken 97 = .ok (.iconst 0, 1) := by decide +kernel
theorem d_Tape_toNextToken_98 : decode c_Tape_toNextToken 98 = .ok (.istore_n 1, 1) := by decide +kernel
theorem d_Tape_toNextToken_99 : decode c_Tape_toNextToken 99 = .ok (.aload_n 0, 1) := by decide +kernel
theorem d_Tape_toNextToken_100 : decode c_Tape_toNextToken 100 = .ok (.iload_n 1, 1) := by decide +kernel
theorem d_Tape_toNextToken_101 : decode c_Tape_toNextToken 101 = .ok (.ifCond .eq 10, 3) := by decide +kernel
theorem d_Tape_toNextToken_104 : decode c_Tape_toNextToken 104 = .ok (.aload_n 0, 1) := by decide +kernel
theorem d_Tape_toNextToken_105 : decode c_Tape_toNextToken 105 = .ok (.getfield 25, 3) := by decide +kernel
theorem d_Tape_toNextToken_108 : decode c_Tape_toNextToken 108 = .ok (.goto 16, 3) := by decide +kernel
theorem d_Tape_toNextToken_111 : decode c_Tape_toNextToken 111 = .ok (.aload_n 0, 1) := by decide +kernel
theorem d_Tape_toNextToken_112 : decode c_Tape_toNextToken 112 = .ok (.getfield 15, 3) := by decide +kernel
theorem d_Tape_toNextToken_115 : decode c_Tape_toNextToken 115 = .ok (.aload_n 0, 1) := by decide +kernel
theorem d_Tape_toNextToken_116 : decode c_Tape_toNextToken 116 = .ok (.getfield 25, 3) := by decide +kernel
theorem d_Tape_toNextToken_119 : decode c_Tape_toNextToken 119 = .ok (.iconst 1, 1) := by decide +kernel
theorem d_Tape_toNextToken_120 : decode c_Tape_toNextToken 120 = .ok (.iadd, 1) := by decide +kernel
theorem d_Tape_toNextToken_121 : decode c_Tape_toNextToken 121 = .ok (.invokestatic 35, 3) := by decide +kernel
theorem d_Tape_toNextToken_124 : decode c_Tape_toNextToken 124 = .ok (.putfield 19, 3) := by decide +kernel
theorem d_Tape_toNextToken_127 : decode c_Tape_toNextToken 127 = .ok (.aload_n 0, 1) := by decide +kernel
theorem d_Tape_toNextToken_128 : decode c_Tape_toNextToken 128 = .ok (.iconst 0, 1) := by decide +kernel
theorem d_Tape_toNextToken_129 : decode c_Tape_toNextToken 129 = .ok (.putfield 41, 3) := by decide +kernel
theorem d_Tape_toNextToken_132 : decode c_Tape_toNextToken 132 = .ok (.iload_n 1, 1) := by decide +kernel
theorem d_Tape_toNextToken_133 : decode c_Tape_toNextToken 133 = .ok (.ifCond .eq 84, 3) := by decide +kernel
theorem d_Tape_toNextToken_136 : decode c_Tape_toNextToken 136 = .ok (.aload_n 0, 1) := by decide +kernel
theorem d_Tape_toNextToken_137 : decode c_Tape_toNextToken 137 = .ok (.getfield 19, 3) := by decide +kernel
theorem d_Tape_toNextToken_140 : decode c_Tape_toNextToken 140 = .ok (.aload_n 0, 1) := by decide +kernel
theorem d_Tape_toNextToken_141 : decode c_Tape_toNextToken 141 = .ok (.getfield 15, 3) := by decide +kernel
theorem d_Tape_toNextToken_144 : decode c_Tape_toNextToken 144 = .ok (.if_icmp .ge 73, 3) := by decide +kernel
theorem d_Tape_toNextToken_147 : decode c_Tape_toNextToken 147 = .ok (.aload_n 0, 1) := by decide +kernel
theorem d_Tape_toNextToken_148 : decode c_Tape_toNextToken 148 = .ok (.getfield 9, 3) := by decide +kernel
theorem d_Tape_toNextToken_151 : decode c_Tape_toNextToken 151 = .ok (.aload_n 0, 1) := by decide +kernel
theorem d_Tape_toNextToken_152 : decode c_Tape_toNextToken 152 = .ok (.getfield 19, 3) := by decide +kernel
theorem d_Tape_toNextToken_155 : decode c_Tape_toNextToken 155 = .ok (.iaload, 1) := by decide +kernel
theorem d_Tape_toNextToken_156 : decode c_Tape_toNextToken 156 = .ok (.invokestatic 28, 3) := by decide +kernel
theorem d_Tape_toNextToken_159 : decode c_Tape_toNextToken 159 = .ok (.aload_n 0, 1) := by decide +kernel
theorem d_Tape_toNextToken_160 : decode c_Tape_toNextToken 160 = .ok (.getfield 32, 3) := by decide +kernel
theorem d_Tape_toNextToken_163 : decode c_Tape_toNextToken 163 = .ok (.if_icmp .ne 54, 3) := by decide +kernel
theorem d_Tape_toNextToken_166 : decode c_Tape_toNextToken 166 = .ok (.aload_n 0, 1) := by decide +kernel
theorem d_Tape_toNextToken_167 : decode c_Tape_toNextToken 167 = .ok (.getfield 32, 3) := by decide +kernel
theorem d_Tape_toNextToken_170 : decode c_Tape_toNextToken 170 = .ok (.iconst 2, 1) := by decide +kernel
theorem d_Tape_toNextToken_171 : decode c_Tape_toNextToken 171 = .ok (.if_icmp .ne 33, 3) := by decide +kernel
theorem d_Tape_toNextToken_174 : decode c_Tape_toNextToken 174 = .ok (.aload_n 0, 1) := by decide +kernel
theorem d_Tape_toNextToken_175 : decode c_Tape_toNextToken 175 = .ok (.sipush 1000, 3) := by decide +kernel
theorem d_Tape_toNextToken_178 : decode c_Tape_toNextToken 178 = .ok (.bipush 10, 2) := by decide +kernel
theorem d_Tape_toNextToken_180 : decode c_Tape_toNextToken 180 = .ok (.aload_n 0, 1) := by decide +kernel
theorem d_Tape_toNextToken_181 : decode c_Tape_toNextToken 181 = .ok (.getfield 41, 3) := by decide +kernel
theorem d_Tape_toNextToken_184 : decode c_Tape_toNextToken 184 = .ok (.imul, 1) := by decide +kernel
theorem d_Tape_toNextToken_185 : decode c_Tape_toNextToken 185 = .ok (.aload_n 0, 1) := by decide +kernel
theorem d_Tape_toNextToken_186 : decode c_Tape_toNextToken 186 = .ok (.getfield 9, 3) := by decide +kernel
theorem d_Tape_toNextToken_189 : decode c_Tape_toNextToken 189 = .ok (.aload_n 0, 1) := by decide +kernel
theorem d_Tape_toNextToken_190 : decode c_Tape_toNextToken 190 = .ok (.getfield 19, 3) := by decide +kernel
theorem d_Tape_toNextToken_193 : decode c_Tape_toNextToken 193 = .ok (.iaload, 1) := by decide +kernel
theorem d_Tape_toNextToken_194 : decode c_Tape_toNextToken 194 = .ok (.iadd, 1) := by decide +kernel
theorem d_Tape_toNextToken_195 : decode c_Tape_toNextToken 195 = .ok (.bipush 48, 2) := by decide +kernel
theorem d_Tape_toNextToken_197 : decode c_Tape_toNextToken 197 = .ok (.isub, 1) := by decide +kernel
theorem d_Tape_toNextToken_198 : decode c_Tape_toNextToken 198 = .ok (.invokestatic 35, 3) := by decide +kernel
theorem d_Tape_toNextToken_201 : decode c_Tape_toNextToken 201 = .ok (.putfield 41, 3) := by decide +kernel
theorem d_Tape_toNextToken_204 : decode c_Tape_toNextToken 204 = .ok (.aload_n 0, 1) := by decide +kernel
theorem d_Tape_toNextToken_205 : decode c_Tape_toNextToken 205 = .ok (.dup, 1) := by decide +kernel
theorem d_Tape_toNextToken_206 : decode c_Tape_toNextToken 206 = .ok (.getfield 19, 3) := by decide +kernel
theorem d_Tape_toNextToken_209 : decode c_Tape_toNextToken 209 = .ok (.iconst 1, 1) := by decide +kernel
theorem d_Tape_toNextToken_210 : decode c_Tape_toNextToken 210 = .ok (.iadd, 1) := by decide +kernel
theorem d_Tape_toNextToken_211 : decode c_Tape_toNextToken 211 = .ok (.putfield 19, 3) := by decide +kernel
theorem d_Tape_toNextToken_214 : decode c_Tape_toNextToken 214 = .ok (.goto (-82), 3) := by decide +kernel
theorem d_Tape_toNextToken_217 : decode c_Tape_toNextToken 217 = .ok (.return_, 1) := by decide +kernel
theorem d_Tape_toFirstToken_0 : decode c_Tape_toFirstToken 0 = .ok (.aload_n 0, 1) := by decide +kernel
theorem d_Tape_toFirstToken_1 : decode c_Tape_toFirstToken 1 = .ok (.iconst 0, 1) := by decide +kernel
theorem d_Tape_toFirstToken_2 : decode c_Tape_toFirstToken 2 = .ok (.putfield 19, 3) := by decide +kernel
theorem d_Tape_toFirstToken_5 : decode c_Tape_toFirstToken 5 = .ok (.aload_n 0, 1) := by decide +kernel
theorem d_Tape_toFirstToken_6 : decode c_Tape_toFirstToken 6 = .ok (.invokevirtual 22, 3) := by decide +kernel
theorem d_Tape_toFirstToken_9 : decode c_Tape_toFirstToken 9 = .ok (.return_, 1) := by decide +kernel
theorem d_Tape_isWord_0 : decode c_Tape_isWord 0 = .ok (.aload_n 0, 1) := by decide +kernel
theorem d_Tape_isWord_1 : decode c_Tape_isWord 1 = .ok (.getfield 32, 3) := by decide +kernel
theorem d_Tape_isWord_4 : decode c_Tape_isWord 4 = .ok (.iconst 1, 1) := by decide +kernel
theorem d_Tape_isWord_5 : decode c_Tape_isWord 5 = .ok (.if_icmp .ne 19, 3) := by decide +kernel
theorem d_Tape_isWord_8 : decode c_Tape_isWord 8 = .ok (.aload_n 0, 1) := by decide +kernel
theorem d_Tape_isWord_9 : decode c_Tape_isWord 9 = .ok (.getfield 19, 3) := by decide +kernel
theorem d_Tape_isWord_12 : decode c_Tape_isWord 12 = .ok (.aload_n 0, 1) := by decide +kernel
theorem d_Tape_isWord_13 : decode c_Tape_isWord 13 = .ok (.getfield 25, 3) := by decide +kernel
theorem d_Tape_isWord_16 : decode c_Tape_isWord 16 = .ok (.isub, 1) := by decide +kernel
theorem d_Tape_isWord_17 : decode c_Tape_isWord 17 = .ok (.aload_n 1, 1) := by decide +kernel
theorem d_Tape_isWord_18 : decode c_Tape_isWord 18 = .ok (.invokevirtual 44, 3) := by decide +kernel
theorem d_Tape_isWord_21 : decode c_Tape_isWord 21 = .ok (.if_icmp .eq 5, 3) := by decide +kernel
theorem d_Tape_isWord_24 : decode c_Tape_isWord 24 = .ok (.iconst 0, 1) := by decide +kernel
theorem d_Tape_isWord_25 : decode c_Tape_isWord 25 = .ok (.ireturn, 1) := by decide +kernel
theorem d_Tape_isWord_26 : decode c_Tape_isWord 26 = .ok (.iconst 0, 1) := by decide +kernel
theorem d_Tape_isWord_27 : decode c_Tape_isWord 27 = .ok (.istore_n 2, 1) := by decide +kernel
theorem d_Tape_isWord_28 : decode c_Tape_isWord 28 = .ok (.iload_n 2, 1) := by decide +kernel
theorem d_Tape_isWord_29 : decode c_Tape_isWord 29 = .ok (.aload_n 1, 1) := by decide +kernel
theorem d_Tape_isWord_30 : decode c_Tape_isWord 30 = .ok (.invokevirtual 44, 3) := by decide +kernel
theorem d_Tape_isWord_33 : decode c_Tape_isWord 33 = .ok (.if_icmp .ge 30, 3) := by decide +kernel
theorem d_Tape_isWord_36 : decode c_Tape_isWord 36 = .ok (.aload_n 0, 1) := by decide +kernel
theorem d_Tape_isWord_37 : decode c_Tape_isWord 37 = .ok (.getfield 9, 3) := by decide +kernel
theorem d_Tape_isWord_40 : decode c_Tape_isWord 40 = .ok (.aload_n 0, 1) := by decide +kernel
theorem d_Tape_isWord_41 : decode c_Tape_isWord 41 = .ok (.getfield 25, 3) := by decide +kernel
theorem d_Tape_isWord_44 : decode c_Tape_isWord 44 = .ok (.iload_n 2, 1) := by decide +kernel
theorem d_Tape_isWord_45 : decode c_Tape_isWord 45 = .ok (.iadd, 1) := by decide +kernel
theorem d_Tape_isWord_46 : decode c_Tape_isWord 46 = .ok (.iaload, 1) := by decide +kernel
theorem d_Tape_isWord_47 : decode c_Tape_isWord 47 = .ok (.aload_n 1, 1) := by decide +kernel
theorem d_Tape_isWord_48 : decode c_Tape_isWord 48 = .ok (.iload_n 2, 1) := by decide +kernel
theorem d_Tape_isWord_49 : decode c_Tape_isWord 49 = .ok (.invokevirtual 49, 3) := by decide +kernel
theorem d_Tape_isWord_52 : decode c_Tape_isWord 52 = .ok (.if_icmp .eq 5, 3) := by decide +kernel
theorem d_Tape_isWord_55 : decode c_Tape_isWord 55 = .ok (.iconst 0, 1) := by decide +kernel
theorem d_Tape_isWord_56 : decode c_Tape_isWord 56 = .ok (.ireturn, 1) := by decide +kernel
theorem d_Tape_isWord_57 : decode c_Tape_isWord 57 = .ok (.iinc 2 1, 3) := by decide +kernel
theorem d_Tape_isWord_60 : decode c_Tape_isWord 60 = .ok (.goto (-32), 3) := by decide +kernel
theorem d_Tape_isWord_63 : decode c_Tape_isWord 63 = .ok (.iconst 1, 1) := by decide +kernel
theorem d_Tape_isWord_64 : decode c_Tape_isWord 64 = .ok (.ireturn, 1) := by decide +kernel
theorem d_Tape_passesWord_0 : decode c_Tape_passesWord 0 = .ok (.aload_n 0, 1) := by decide +kernel
theorem d_Tape_passesWord_1 : decode c_Tape_passesWord 1 = .ok (.aload_n 1, 1) := by decide +kernel
theorem d_Tape_passesWord_2 : decode c_Tape_passesWord 2 = .ok (.invokevirtual 53, 3) := by decide +kernel
theorem d_Tape_passesWord_5 : decode c_Tape_passesWord 5 = .ok (.ifCond .ne 5, 3) := by decide +kernel
theorem d_Tape_passesWord_8 : decode c_Tape_passesWord 8 = .ok (.iconst 0, 1) := by decide +kernel
theorem d_Tape_passesWord_9 : decode c_Tape_passesWord 9 = .ok (.ireturn, 1) := by decide +kernel
theorem d_Tape_passesWord_10 : decode c_Tape_passesWord 10 = .ok (.aload_n 0, 1) := by decide +kernel
theorem d_Tape_passesWord_11 : decode c_Tape_passesWord 11 = .ok (.invokevirtual 22, 3) := by decide +kernel
theorem d_Tape_passesWord_14 : decode c_Tape_passesWord 14 = .ok (.iconst 1, 1) := by decide +kernel
theorem d_Tape_passesWord_15 : decode c_Tape_passesWord 15 = .ok (.ireturn, 1) := by decide +kernel
theorem d_Tape_numberHere_0 : decode c_Tape_numberHere 0 = .ok (.aload_n 0, 1) := by decide +kernel
theorem d_Tape_numberHere_1 : decode c_Tape_numberHere 1 = .ok (.getfield 32, 3) := by decide +kernel
theorem d_Tape_numberHere_4 : decode c_Tape_numberHere 4 = .ok (.iconst 2, 1) := by decide +kernel
theorem d_Tape_numberHere_5 : decode c_Tape_numberHere 5 = .ok (.if_icmp .ne 26, 3) := by decide +kernel
theorem d_Tape_numberHere_8 : decode c_Tape_numberHere 8 = .ok (.aload_n 0, 1) := by decide +kernel
theorem d_Tape_numberHere_9 : decode c_Tape_numberHere 9 = .ok (.getfield 41, 3) := by decide +kernel
theorem d_Tape_numberHere_12 : decode c_Tape_numberHere 12 = .ok (.iload_n 1, 1) := by decide +kernel
theorem d_Tape_numberHere_13 : decode c_Tape_numberHere 13 = .ok (.if_icmp .lt 18, 3) := by decide +kernel
theorem d_Tape_numberHere_16 : decode c_Tape_numberHere 16 = .ok (.aload_n 0, 1) := by decide +kernel
theorem d_Tape_numberHere_17 : decode c_Tape_numberHere 17 = .ok (.getfield 41, 3) := by decide +kernel
theorem d_Tape_numberHere_20 : decode c_Tape_numberHere 20 = .ok (.iload_n 2, 1) := by decide +kernel
theorem d_Tape_numberHere_21 : decode c_Tape_numberHere 21 = .ok (.if_icmp .gt 10, 3) := by decide +kernel
theorem d_Tape_numberHere_24 : decode c_Tape_numberHere 24 = .ok (.aload_n 0, 1) := by decide +kernel
theorem d_Tape_numberHere_25 : decode c_Tape_numberHere 25 = .ok (.getfield 41, 3) := by decide +kernel
theorem d_Tape_numberHere_28 : decode c_Tape_numberHere 28 = .ok (.goto 5, 3) := by decide +kernel
theorem d_Tape_numberHere_31 : decode c_Tape_numberHere 31 = .ok (.bipush (-2), 2) := by decide +kernel
theorem d_Tape_numberHere_33 : decode c_Tape_numberHere 33 = .ok (.ireturn, 1) := by decide +kernel
theorem d_Rug_isOut_0 : decode c_Rug_isOut 0 = .ok (.aload_n 0, 1) := by decide +kernel
theorem d_Rug_isOut_1 : decode c_Rug_isOut 1 = .ok (.getfield 15, 3) := by decide +kernel
theorem d_Rug_isOut_4 : decode c_Rug_isOut 4 = .ok (.ifCond .lt 7, 3) := by decide +kernel
theorem d_Rug_isOut_7 : decode c_Rug_isOut 7 = .ok (.iconst 1, 1) := by decide +kernel
theorem d_Rug_isOut_8 : decode c_Rug_isOut 8 = .ok (.goto 4, 3) := by decide +kernel
theorem d_Rug_isOut_11 : decode c_Rug_isOut 11 = .ok (.iconst 0, 1) := by decide +kernel
theorem d_Rug_isOut_12 : decode c_Rug_isOut 12 = .ok (.ireturn, 1) := by decide +kernel
theorem d_Rug_putAway_0 : decode c_Rug_putAway 0 = .ok (.aload_n 0, 1) := by decide +kernel
theorem d_Rug_putAway_1 : decode c_Rug_putAway 1 = .ok (.iconst (-1), 1) := by decide +kernel
theorem d_Rug_putAway_2 : decode c_Rug_putAway 2 = .ok (.putfield 15, 3) := by decide +kernel
theorem d_Rug_putAway_5 : decode c_Rug_putAway 5 = .ok (.aload_n 0, 1) := by decide +kernel
theorem d_Rug_putAway_6 : decode c_Rug_putAway 6 = .ok (.iconst 0, 1) := by decide +kernel
theorem d_Rug_putAway_7 : decode c_Rug_putAway 7 = .ok (.putfield 34, 3) := by decide +kernel
theorem d_Rug_putAway_10 : decode c_Rug_putAway 10 = .ok (.return_, 1) := by decide +kernel
theorem d_PalaceReader_readUp_0 : decode c_PalaceReader_readUp 0 = .ok (.aload_n 0, 1) := by decide +kernel
theorem d_PalaceReader_readUp_1 : decode c_PalaceReader_readUp 1 = .ok (.iconst 0, 1) := by decide +kernel
theorem d_PalaceReader_readUp_2 : decode c_PalaceReader_readUp 2 = .ok (.aload_n 1, 1) := by decide +kernel
theorem d_PalaceReader_readUp_3 : decode c_PalaceReader_readUp 3 = .ok (.getfield 61, 3) := by decide +kernel
theorem d_PalaceReader_readUp_6 : decode c_PalaceReader_readUp 6 = .ok (.iconst 1, 1) := by decide +kernel
theorem d_PalaceReader_readUp_7 : decode c_PalaceReader_readUp 7 = .ok (.isub, 1) := by decide +kernel
theorem d_PalaceReader_readUp_8 : decode c_PalaceReader_readUp 8 = .ok (.invokevirtual 66, 3) := by decide +kernel
theorem d_PalaceReader_readUp_11 : decode c_PalaceReader_readUp 11 = .ok (.istore_n 2, 1) := by decide +kernel
theorem d_PalaceReader_readUp_12 : decode c_PalaceReader_readUp 12 = .ok (.iload_n 2, 1) := by decide +kernel
theorem d_PalaceReader_readUp_13 : decode c_PalaceReader_readUp 13 = .ok (.ifCond .lt 15, 3) := by decide +kernel
theorem d_PalaceReader_readUp_16 : decode c_PalaceReader_readUp 16 = .ok (.aload_n 1, 1) := by decide +kernel
theorem d_PalaceReader_readUp_17 : decode c_PalaceReader_readUp 17 = .ok (.getfield 70, 3) := by decide +kernel
theorem d_PalaceReader_readUp_20 : decode c_PalaceReader_readUp 20 = .ok (.iload_n 2, 1) := by decide +kernel
theorem d_PalaceReader_readUp_21 : decode c_PalaceReader_readUp 21 = .ok (.aaload, 1) := by decide +kernel
theorem d_PalaceReader_readUp_22 : decode c_PalaceReader_readUp 22 = .ok (.invokevirtual 74, 3) := by decide +kernel
theorem d_PalaceReader_readUp_25 : decode c_PalaceReader_readUp 25 = .ok (.ifCond .ne 5, 3) := by decide +kernel
theorem d_PalaceReader_readUp_28 : decode c_PalaceReader_readUp 28 = .ok (.iconst 0, 1) := by decide +kernel
theorem d_PalaceReader_readUp_29 : decode c_PalaceReader_readUp 29 = .ok (.ireturn, 1) := by decide +kernel
theorem d_PalaceReader_readUp_30 : decode c_PalaceReader_readUp 30 = .ok (.aload_n 1, 1) := by decide +kernel
theorem d_PalaceReader_readUp_31 : decode c_PalaceReader_readUp 31 = .ok (.getfield 70, 3) := by decide +kernel
theorem d_PalaceReader_readUp_34 : decode c_PalaceReader_readUp 34 = .ok (.iload_n 2, 1) := by decide +kernel
theorem d_PalaceReader_readUp_35 : decode c_PalaceReader_readUp 35 = .ok (.aaload, 1) := by decide +kernel
theorem d_PalaceReader_readUp_36 : decode c_PalaceReader_readUp 36 = .ok (.invokevirtual 80, 3) := by decide +kernel
theorem d_PalaceReader_readUp_39 : decode c_PalaceReader_readUp 39 = .ok (.aload_n 0, 1) := by decide +kernel
theorem d_PalaceReader_readUp_40 : decode c_PalaceReader_readUp 40 = .ok (.invokevirtual 24, 3) := by decide +kernel
theorem d_PalaceReader_readUp_43 : decode c_PalaceReader_readUp 43 = .ok (.iconst 1, 1) := by decide +kernel
theorem d_PalaceReader_readUp_44 : decode c_PalaceReader_readUp 44 = .ok (.ireturn, 1) := by decide +kernel
theorem d_Tape_passNumber_0 : decode c_Tape_passNumber 0 = .ok (.aload_n 0, 1) := by decide +kernel
theorem d_Tape_passNumber_1 : decode c_Tape_passNumber 1 = .ok (.iload_n 1, 1) := by decide +kernel
theorem d_Tape_passNumber_2 : decode c_Tape_passNumber 2 = .ok (.iload_n 2, 1) := by decide +kernel
theorem d_Tape_passNumber_3 : decode c_Tape_passNumber 3 = .ok (.invokevirtual 57, 3) := by decide +kernel
theorem d_Tape_passNumber_6 : decode c_Tape_passNumber 6 = .ok (.istore_n 3, 1) := by decide +kernel
theorem d_Tape_passNumber_7 : decode c_Tape_passNumber 7 = .ok (.iload_n 3, 1) := by decide +kernel
theorem d_Tape_passNumber_8 : decode c_Tape_passNumber 8 = .ok (.bipush (-2), 2) := by decide +kernel
theorem d_Tape_passNumber_10 : decode c_Tape_passNumber 10 = .ok (.if_icmp .eq 7, 3) := by decide +kernel
theorem d_Tape_passNumber_13 : decode c_Tape_passNumber 13 = .ok (.aload_n 0, 1) := by decide +kernel
theorem d_Tape_passNumber_14 : decode c_Tape_passNumber 14 = .ok (.invokevirtual 22, 3) := by decide +kernel
theorem d_Tape_passNumber_17 : decode c_Tape_passNumber 17 = .ok (.iload_n 3, 1) := by decide +kernel
theorem d_Tape_passNumber_18 : decode c_Tape_passNumber 18 = .ok (.ireturn, 1) := by decide +kernel
theorem d_PalaceReader_readPlace_0 : decode c_PalaceReader_readPlace 0 = .ok (.aload_n 0, 1) := by decide +kernel
theorem d_PalaceReader_readPlace_1 : decode c_PalaceReader_readPlace 1 = .ok (.iconst 0, 1) := by decide +kernel
theorem d_PalaceReader_readPlace_2 : decode c_PalaceReader_readPlace 2 = .ok (.bipush 6, 2) := by decide +kernel
theorem d_PalaceReader_readPlace_4 : decode c_PalaceReader_readPlace 4 = .ok (.invokevirtual 83, 3) := by decide +kernel
theorem d_PalaceReader_readPlace_7 : decode c_PalaceReader_readPlace 7 = .ok (.istore_n 3, 1) := by decide +kernel
theorem d_PalaceReader_readPlace_8 : decode c_PalaceReader_readPlace 8 = .ok (.iload_n 3, 1) := by decide +kernel
theorem d_PalaceReader_readPlace_9 : decode c_PalaceReader_readPlace 9 = .ok (.ifCond .ge 5, 3) := by decide +kernel
theorem d_PalaceReader_readPlace_12 : decode c_PalaceReader_readPlace 12 = .ok (.iconst 0, 1) := by decide +kernel
theorem d_PalaceReader_readPlace_13 : decode c_PalaceReader_readPlace 13 = .ok (.ireturn, 1) := by decide +kernel
theorem d_PalaceReader_readPlace_14 : decode c_PalaceReader_readPlace 14 = .ok (.aload_n 1, 1) := by decide +kernel
theorem d_PalaceReader_readPlace_15 : decode c_PalaceReader_readPlace 15 = .ok (.getfield 86, 3) := by decide +kernel
theorem d_PalaceReader_readPlace_18 : decode c_PalaceReader_readPlace 18 = .ok (.iload_n 3, 1) := by decide +kernel
theorem d_PalaceReader_readPlace_19 : decode c_PalaceReader_readPlace 19 = .ok (.iload_n 2, 1) := by decide +kernel
theorem d_PalaceReader_readPlace_20 : decode c_PalaceReader_readPlace 20 = .ok (.iastore, 1) := by decide +kernel
theorem d_PalaceReader_readPlace_21 : decode c_PalaceReader_readPlace 21 = .ok (.iconst 1, 1) := by decide +kernel
theorem d_PalaceReader_readPlace_22 : decode c_PalaceReader_readPlace 22 = .ok (.ireturn, 1) := by decide +kernel
theorem d_Rug_begin_0 : decode c_Rug_begin 0 = .ok (.aload_n 0, 1) := by decide +kernel
theorem d_Rug_begin_1 : decode c_Rug_begin 1 = .ok (.aload_n 1, 1) := by decide +kernel
theorem d_Rug_begin_2 : decode c_Rug_begin 2 = .ok (.putfield 9, 3) := by decide +kernel
theorem d_Rug_begin_5 : decode c_Rug_begin 5 = .ok (.aload_n 0, 1) := by decide +kernel
theorem d_Rug_begin_6 : decode c_Rug_begin 6 = .ok (.iload_n 2, 1) := by decide +kernel
theorem d_Rug_begin_7 : decode c_Rug_begin 7 = .ok (.putfield 19, 3) := by decide +kernel
theorem d_Rug_begin_10 : decode c_Rug_begin 10 = .ok (.aload_n 0, 1) := by decide +kernel
theorem d_Rug_begin_11 : decode c_Rug_begin 11 = .ok (.bipush 8, 2) := by decide +kernel
theorem d_Rug_begin_13 : decode c_Rug_begin 13 = .ok (.putfield 22, 3) := by decide +kernel
theorem d_Rug_begin_16 : decode c_Rug_begin 16 = .ok (.aload_n 0, 1) := by decide +kernel
theorem d_Rug_begin_17 : decode c_Rug_begin 17 = .ok (.bipush 50, 2) := by decide +kernel
theorem d_Rug_begin_19 : decode c_Rug_begin 19 = .ok (.putfield 25, 3) := by decide +kernel
theorem d_Rug_begin_22 : decode c_Rug_begin 22 = .ok (.aload_n 0, 1) := by decide +kernel
theorem d_Rug_begin_23 : decode c_Rug_begin 23 = .ok (.iconst 0, 1) := by decide +kernel
theorem d_Rug_begin_24 : decode c_Rug_begin 24 = .ok (.putfield 28, 3) := by decide +kernel
theorem d_Rug_begin_27 : decode c_Rug_begin 27 = .ok (.aload_n 0, 1) := by decide +kernel
theorem d_Rug_begin_28 : decode c_Rug_begin 28 = .ok (.invokevirtual 31, 3) := by decide +kernel
theorem d_Rug_begin_31 : decode c_Rug_begin 31 = .ok (.return_, 1) := by decide +kernel
theorem d_World_addRug_0 : decode c_World_addRug 0 = .ok (.aload_n 0, 1) := by decide +kernel
theorem d_World_addRug_1 : decode c_World_addRug 1 = .ok (.getfield 31, 3) := by decide +kernel
theorem d_World_addRug_4 : decode c_World_addRug 4 = .ok (.bipush 8, 2) := by decide +kernel
theorem d_World_addRug_6 : decode c_World_addRug 6 = .ok (.if_icmp .lt 5, 3) := by decide +kernel
theorem d_World_addRug_9 : decode c_World_addRug 9 = .ok (.iconst (-1), 1) := by decide +kernel
theorem d_World_addRug_10 : decode c_World_addRug 10 = .ok (.ireturn, 1) := by decide +kernel
theorem d_World_addRug_11 : decode c_World_addRug 11 = .ok (.aload_n 0, 1) := by decide +kernel
theorem d_World_addRug_12 : decode c_World_addRug 12 = .ok (.getfield 11, 3) := by decide +kernel
theorem d_World_addRug_15 : decode c_World_addRug 15 = .ok (.aload_n 0, 1) := by decide +kernel
theorem d_World_addRug_16 : decode c_World_addRug 16 = .ok (.getfield 31, 3) := by decide +kernel
theorem d_World_addRug_19 : decode c_World_addRug 19 = .ok (.aaload, 1) := by decide +kernel
theorem d_World_addRug_20 : decode c_World_addRug 20 = .ok (.aload_n 1, 1) := by decide +kernel
theorem d_World_addRug_21 : decode c_World_addRug 21 = .ok (.iload_n 2, 1) := by decide +kernel
theorem d_World_addRug_22 : decode c_World_addRug 22 = .ok (.invokevirtual 51, 3) := by decide +kernel
theorem d_World_addRug_25 : decode c_World_addRug 25 = .ok (.aload_n 0, 1) := by decide +kernel
theorem d_World_addRug_26 : decode c_World_addRug 26 = .ok (.dup, 1) := by decide +kernel
theorem d_World_addRug_27 : decode c_World_addRug 27 = .ok (.getfield 31, 3) := by decide +kernel
theorem d_World_addRug_30 : decode c_World_addRug 30 = .ok (.iconst 1, 1) := by decide +kernel
theorem d_World_addRug_31 : decode c_World_addRug 31 = .ok (.iadd, 1) := by decide +kernel
theorem d_World_addRug_32 : decode c_World_addRug 32 = .ok (.putfield 31, 3) := by decide +kernel
theorem d_World_addRug_35 : decode c_World_addRug 35 = .ok (.aload_n 0, 1) := by decide +kernel
theorem d_World_addRug_36 : decode c_World_addRug 36 = .ok (.getfield 31, 3) := by decide +kernel
theorem d_World_addRug_39 : decode c_World_addRug 39 = .ok (.iconst 1, 1) := by decide +kernel
theorem d_World_addRug_40 : decode c_World_addRug 40 = .ok (.isub, 1) := by decide +kernel
theorem d_World_addRug_41 : decode c_World_addRug 41 = .ok (.ireturn, 1) := by decide +kernel
theorem d_World_layOut_0 : decode c_World_layOut 0 = .ok (.aload_n 0, 1) := by decide +kernel
theorem d_World_layOut_1 : decode c_World_layOut 1 = .ok (.ldc 55, 2) := by decide +kernel
theorem d_World_layOut_3 : decode c_World_layOut 3 = .ok (.aload_n 0, 1) := by decide +kernel
theorem d_World_layOut_4 : decode c_World_layOut 4 = .ok (.getfield 48, 3) := by decide +kernel
theorem d_World_layOut_7 : decode c_World_layOut 7 = .ok (.iconst 1, 1) := by decide +kernel
theorem d_World_layOut_8 : decode c_World_layOut 8 = .ok (.iadd, 1) := by decide +kernel
theorem d_World_layOut_9 : decode c_World_layOut 9 = .ok (.invokestatic 56, 3) := by decide +kernel
theorem d_World_layOut_12 : decode c_World_layOut 12 = .ok (.putfield 48, 3) := by decide +kernel
theorem d_World_layOut_15 : decode c_World_layOut 15 = .ok (.aload_n 1, 1) := by decide +kernel
theorem d_World_layOut_16 : decode c_World_layOut 16 = .ok (.aload_n 0, 1) := by decide +kernel
theorem d_World_layOut_17 : decode c_World_layOut 17 = .ok (.getfield 48, 3) := by decide +kernel
theorem d_World_layOut_20 : decode c_World_layOut 20 = .ok (.putfield 62, 3) := by decide +kernel
theorem d_World_layOut_23 : decode c_World_layOut 23 = .ok (.aload_n 1, 1) := by decide +kernel
theorem d_World_layOut_24 : decode c_World_layOut 24 = .ok (.iload_n 2, 1) := by decide +kernel
theorem d_World_layOut_25 : decode c_World_layOut 25 = .ok (.putfield 65, 3) := by decide +kernel
theorem d_World_layOut_28 : decode c_World_layOut 28 = .ok (.return_, 1) := by decide +kernel
theorem d_PalaceReader_readRug_0 : decode c_PalaceReader_readRug 0 = .ok (.aload_n 1, 1) := by decide +kernel
theorem d_PalaceReader_readRug_1 : decode c_PalaceReader_readRug 1 = .ok (.aload_n 2, 1) := by decide +kernel
theorem d_PalaceReader_readRug_2 : decode c_PalaceReader_readRug 2 = .ok (.iconst 0, 1) := by decide +kernel
theorem d_PalaceReader_readRug_3 : decode c_PalaceReader_readRug 3 = .ok (.invokevirtual 89, 3) := by decide +kernel
theorem d_PalaceReader_readRug_6 : decode c_PalaceReader_readRug 6 = .ok (.istore_n 3, 1) := by decide +kernel
theorem d_PalaceReader_readRug_7 : decode c_PalaceReader_readRug 7 = .ok (.iload_n 3, 1) := by decide +kernel
theorem d_PalaceReader_readRug_8 : decode c_PalaceReader_readRug 8 = .ok (.ifCond .ge 5, 3) := by decide +kernel
theorem d_PalaceReader_readRug_11 : decode c_PalaceReader_readRug 11 = .ok (.iconst 0, 1) := by decide +kernel
theorem d_PalaceReader_readRug_12 : decode c_PalaceReader_readRug 12 = .ok (.ireturn, 1) := by decide +kernel
theorem d_PalaceReader_readRug_13 : decode c_PalaceReader_readRug 13 = .ok (.aload_n 1, 1) := by decide +kernel
theorem d_PalaceReader_readRug_14 : decode c_PalaceReader_readRug 14 = .ok (.getfield 70, 3) := by decide +kernel
theorem d_PalaceReader_readRug_17 : decode c_PalaceReader_readRug 17 = .ok (.iload_n 3, 1) := by decide +kernel
theorem d_PalaceReader_readRug_18 : decode c_PalaceReader_readRug 18 = .ok (.aaload, 1) := by decide +kernel
theorem d_PalaceReader_readRug_19 : decode c_PalaceReader_readRug 19 = .ok (.astore 4, 2) := by decide +kernel
theorem d_PalaceReader_readRug_21 : decode c_PalaceReader_readRug 21 = .ok (.aload_n 0, 1) := by decide +kernel
theorem d_PalaceReader_readRug_22 : decode c_PalaceReader_readRug 22 = .ok (.invokevirtual 24, 3) := by decide +kernel
theorem d_PalaceReader_readRug_25 : decode c_PalaceReader_readRug 25 = .ok (.aload 4, 2) := by decide +kernel
theorem d_PalaceReader_readRug_27 : decode c_PalaceReader_readRug 27 = .ok (.aload_n 0, 1) := by decide +kernel
theorem d_PalaceReader_readRug_28 : decode c_PalaceReader_readRug 28 = .ok (.iconst 0, 1) := by decide +kernel
theorem d_PalaceReader_readRug_29 : decode c_PalaceReader_readRug 29 = .ok (.iconst 3, 1) := by decide +kernel
theorem d_PalaceReader_readRug_30 : decode c_PalaceReader_readRug 30 = .ok (.invokevirtual 83, 3) := by decide +kernel
theorem d_PalaceReader_readRug_33 : decode c_PalaceReader_readRug 33 = .ok (.putfield 93, 3) := by decide +kernel
theorem d_PalaceReader_readRug_36 : decode c_PalaceReader_readRug 36 = .ok (.aload 4, 2) := by decide +kernel
theorem d_PalaceReader_readRug_38 : decode c_PalaceReader_readRug 38 = .ok (.getfield 93, 3) := by decide +kernel
theorem d_PalaceReader_readRug_41 : decode c_PalaceReader_readRug 41 = .ok (.bipush (-2), 2) := by decide +kernel
theorem d_PalaceReader_readRug_43 : decode c_PalaceReader_readRug 43 = .ok (.if_icmp .ne 5, 3) := by decide +kernel
theorem d_PalaceReader_readRug_46 : decode c_PalaceReader_readRug 46 = .ok (.iconst 0, 1) := by decide +kernel
theorem d_PalaceReader_readRug_47 : decode c_PalaceReader_readRug 47 = .ok (.ireturn, 1) := by decide +kernel
theorem d_PalaceReader_readRug_48 : decode c_PalaceReader_readRug 48 = .ok (.aload 4, 2) := by decide +kernel
theorem d_PalaceReader_readRug_50 : decode c_PalaceReader_readRug 50 = .ok (.aload_n 0, 1) := by decide +kernel
theorem d_PalaceReader_readRug_51 : decode c_PalaceReader_readRug 51 = .ok (.ldc 96, 2) := by decide +kernel
theorem d_PalaceReader_readRug_53 : decode c_PalaceReader_readRug 53 = .ok (.invokevirtual 32, 3) := by decide +kernel
theorem d_PalaceReader_readRug_56 : decode c_PalaceReader_readRug 56 = .ok (.ifCond .eq 13, 3) := by decide +kernel
theorem d_PalaceReader_readRug_59 : decode c_PalaceReader_readRug 59 = .ok (.aload_n 0, 1) := by decide +kernel
theorem d_PalaceReader_readRug_60 : decode c_PalaceReader_readRug 60 = .ok (.iconst 1, 1) := by decide +kernel
theorem d_PalaceReader_readRug_61 : decode c_PalaceReader_readRug 61 = .ok (.bipush 20, 2) := by decide +kernel
theorem d_PalaceReader_readRug_63 : decode c_PalaceReader_readRug 63 = .ok (.invokevirtual 83, 3) := by decide +kernel
theorem d_PalaceReader_readRug_66 : decode c_PalaceReader_readRug 66 = .ok (.goto 5, 3) := by decide +kernel
theorem d_PalaceReader_readRug_69 : decode c_PalaceReader_readRug 69 = .ok (.bipush 8, 2) := by decide +kernel
theorem d_PalaceReader_readRug_71 : decode c_PalaceReader_readRug 71 = .ok (.putfield 98, 3) := by decide +kernel
theorem d_PalaceReader_readRug_74 : decode c_PalaceReader_readRug 74 = .ok (.aload 4, 2) := by decide +kernel
theorem d_PalaceReader_readRug_76 : decode c_PalaceReader_readRug 76 = .ok (.getfield 98, 3) := by decide +kernel
theorem d_PalaceReader_readRug_79 : decode c_PalaceReader_readRug 79 = .ok (.bipush (-2), 2) := by decide +kernel
theorem d_PalaceReader_readRug_81 : decode c_PalaceReader_readRug 81 = .ok (.if_icmp .ne 5, 3) := by decide +kernel
theorem d_PalaceReader_readRug_84 : decode c_PalaceReader_readRug 84 = .ok (.iconst 0, 1) := by decide +kernel
theorem d_PalaceReader_readRug_85 : decode c_PalaceReader_readRug 85 = .ok (.ireturn, 1) := by decide +kernel
theorem d_PalaceReader_readRug_86 : decode c_PalaceReader_readRug 86 = .ok (.aload 4, 2) := by decide +kernel
theorem d_PalaceReader_readRug_88 : decode c_PalaceReader_readRug 88 = .ok (.aload_n 0, 1) := by decide +kernel
theorem d_PalaceReader_readRug_89 : decode c_PalaceReader_readRug 89 = .ok (.ldc 101, 2) := by decide +kernel
theorem d_PalaceReader_readRug_91 : decode c_PalaceReader_readRug 91 = .ok (.invokevirtual 32, 3) := by decide +kernel
theorem d_PalaceReader_readRug_94 : decode c_PalaceReader_readRug 94 = .ok (.ifCond .eq 13, 3) := by decide +kernel
theorem d_PalaceReader_readRug_97 : decode c_PalaceReader_readRug 97 = .ok (.aload_n 0, 1) := by decide +kernel
theorem d_PalaceReader_readRug_98 : decode c_PalaceReader_readRug 98 = .ok (.iconst 0, 1) := by decide +kernel
theorem d_PalaceReader_readRug_99 : decode c_PalaceReader_readRug 99 = .ok (.bipush 99, 2) := by decide +kernel
theorem d_PalaceReader_readRug_101 : decode c_PalaceReader_readRug 101 = .ok (.invokevirtual 83, 3) := by decide +kernel
theorem d_PalaceReader_readRug_104 : decode c_PalaceReader_readRug 104 = .ok (.goto 5, 3) := by decide +kernel
theorem d_PalaceReader_readRug_107 : decode c_PalaceReader_readRug 107 = .ok (.bipush 50, 2) := by decide +kernel
theorem d_PalaceReader_readRug_109 : decode c_PalaceReader_readRug 109 = .ok (.putfield 103, 3) := by decide +kernel
theorem d_PalaceReader_readRug_112 : decode c_PalaceReader_readRug 112 = .ok (.aload 4, 2) := by decide +kernel
theorem d_PalaceReader_readRug_114 : decode c_PalaceReader_readRug 114 = .ok (.getfield 103, 3) := by decide +kernel
theorem d_PalaceReader_readRug_117 : decode c_PalaceReader_readRug 117 = .ok (.bipush (-2), 2) := by decide +kernel
theorem d_PalaceReader_readRug_119 : decode c_PalaceReader_readRug 119 = .ok (.if_icmp .ne 5, 3) := by decide +kernel
theorem d_PalaceReader_readRug_122 : decode c_PalaceReader_readRug 122 = .ok (.iconst 0, 1) := by decide +kernel
theorem d_PalaceReader_readRug_123 : decode c_PalaceReader_readRug 123 = .ok (.ireturn, 1) := by decide +kernel
theorem d_PalaceReader_readRug_124 : decode c_PalaceReader_readRug 124 = .ok (.aload_n 0, 1) := by decide +kernel
theorem d_PalaceReader_readRug_125 : decode c_PalaceReader_readRug 125 = .ok (.ldc 105, 2) := by decide +kernel
theorem d_PalaceReader_readRug_127 : decode c_PalaceReader_readRug 127 = .ok (.invokevirtual 32, 3) := by decide +kernel
theorem d_PalaceReader_readRug_130 : decode c_PalaceReader_readRug 130 = .ok (.ifCond .eq 13, 3) := by decide +kernel
theorem d_PalaceReader_readRug_133 : decode c_PalaceReader_readRug 133 = .ok (.aload_n 0, 1) := by decide +kernel
theorem d_PalaceReader_readRug_134 : decode c_PalaceReader_readRug 134 = .ok (.iconst 0, 1) := by decide +kernel
theorem d_PalaceReader_readRug_135 : decode c_PalaceReader_readRug 135 = .ok (.bipush 39, 2) := by decide +kernel
theorem d_PalaceReader_readRug_137 : decode c_PalaceReader_readRug 137 = .ok (.invokevirtual 83, 3) := by decide +kernel
theorem d_PalaceReader_readRug_140 : decode c_PalaceReader_readRug 140 = .ok (.goto 4, 3) := by decide +kernel
theorem d_PalaceReader_readRug_143 : decode c_PalaceReader_readRug 143 = .ok (.iconst (-1), 1) := by decide +kernel
theorem d_PalaceReader_readRug_144 : decode c_PalaceReader_readRug 144 = .ok (.istore 5, 2) := by decide +kernel
theorem d_PalaceReader_readRug_146 : decode c_PalaceReader_readRug 146 = .ok (.iload 5, 2) := by decide +kernel
theorem d_PalaceReader_readRug_148 : decode c_PalaceReader_readRug 148 = .ok (.ifCond .lt 11, 3) := by decide +kernel
theorem d_PalaceReader_readRug_151 : decode c_PalaceReader_readRug 151 = .ok (.aload_n 1, 1) := by decide +kernel
theorem d_PalaceReader_readRug_152 : decode c_PalaceReader_readRug 152 = .ok (.aload 4, 2) := by decide +kernel
theorem d_PalaceReader_readRug_154 : decode c_PalaceReader_readRug 154 = .ok (.iload 5, 2) := by decide +kernel
theorem d_PalaceReader_readRug_156 : decode c_PalaceReader_readRug 156 = .ok (.invokevirtual 107, 3) := by decide +kernel
theorem d_PalaceReader_readRug_159 : decode c_PalaceReader_readRug 159 = .ok (.iload 5, 2) := by decide +kernel
theorem d_PalaceReader_readRug_161 : decode c_PalaceReader_readRug 161 = .ok (.bipush (-2), 2) := by decide +kernel
theorem d_PalaceReader_readRug_163 : decode c_PalaceReader_readRug 163 = .ok (.if_icmp .eq 7, 3) := by decide +kernel
theorem d_PalaceReader_readRug_166 : decode c_PalaceReader_readRug 166 = .ok (.iconst 1, 1) := by decide +kernel
theorem d_PalaceReader_readRug_167 : decode c_PalaceReader_readRug 167 = .ok (.goto 4, 3) := by decide +kernel
theorem d_PalaceReader_readRug_170 : decode c_PalaceReader_readRug 170 = .ok (.iconst 0, 1) := by decide +kernel
theorem d_PalaceReader_readRug_171 : decode c_PalaceReader_readRug 171 = .ok (.ireturn, 1) := by decide +kernel
theorem d_PalaceReader_readItem_0 : decode c_PalaceReader_readItem 0 = .ok (.aload_n 0, 1) := by decide +kernel
theorem d_PalaceReader_readItem_1 : decode c_PalaceReader_readItem 1 = .ok (.ldc 30, 2) := by decide +kernel
theorem d_PalaceReader_readItem_3 : decode c_PalaceReader_readItem 3 = .ok (.invokevirtual 32, 3) := by decide +kernel
theorem d_PalaceReader_readItem_6 : decode c_PalaceReader_readItem 6 = .ok (.ifCond .eq 9, 3) := by decide +kernel
theorem d_PalaceReader_readItem_9 : decode c_PalaceReader_readItem 9 = .ok (.aload_n 0, 1) := by decide +kernel
theorem d_PalaceReader_readItem_10 : decode c_PalaceReader_readItem 10 = .ok (.aload_n 1, 1) := by decide +kernel
theorem d_PalaceReader_readItem_11 : decode c_PalaceReader_readItem 11 = .ok (.invokestatic 36, 3) := by decide +kernel
theorem d_PalaceReader_readItem_14 : decode c_PalaceReader_readItem 14 = .ok (.ireturn, 1) := by decide +kernel
theorem d_PalaceReader_readItem_15 : decode c_PalaceReader_readItem 15 = .ok (.aload_n 0, 1) := by decide +kernel
theorem d_PalaceReader_readItem_16 : decode c_PalaceReader_readItem 16 = .ok (.ldc 40, 2) := by decide +kernel
theorem d_PalaceReader_readItem_18 : decode c_PalaceReader_readItem 18 = .ok (.invokevirtual 32, 3) := by decide +kernel
theorem d_PalaceReader_readItem_21 : decode c_PalaceReader_readItem 21 = .ok (.ifCond .eq 10, 3) := by decide +kernel
theorem d_PalaceReader_readItem_24 : decode c_PalaceReader_readItem 24 = .ok (.aload_n 0, 1) := by decide +kernel
theorem d_PalaceReader_readItem_25 : decode c_PalaceReader_readItem 25 = .ok (.aload_n 1, 1) := by decide +kernel
theorem d_PalaceReader_readItem_26 : decode c_PalaceReader_readItem 26 = .ok (.iconst 1, 1) := by decide +kernel
theorem d_PalaceReader_readItem_27 : decode c_PalaceReader_readItem 27 = .ok (.invokestatic 42, 3) := by decide +kernel
theorem d_PalaceReader_readItem_30 : decode c_PalaceReader_readItem 30 = .ok (.ireturn, 1) := by decide +kernel
theorem d_PalaceReader_readItem_31 : decode c_PalaceReader_readItem 31 = .ok (.aload_n 0, 1) := by decide +kernel
theorem d_PalaceReader_readItem_32 : decode c_PalaceReader_readItem 32 = .ok (.ldc 46, 2) := by decide +kernel
theorem d_PalaceReader_readItem_34 : decode c_PalaceReader_readItem 34 = .ok (.invokevirtual 32, 3) := by decide +kernel
theorem d_PalaceReader_readItem_37 : decode c_PalaceReader_readItem 37 = .ok (.ifCond .eq 10, 3) := by decide +kernel
theorem d_PalaceReader_readItem_40 : decode c_PalaceReader_readItem 40 = .ok (.aload_n 0, 1) := by decide +kernel
theorem d_PalaceReader_readItem_41 : decode c_PalaceReader_readItem 41 = .ok (.aload_n 1, 1) := by decide +kernel
theorem d_PalaceReader_readItem_42 : decode c_PalaceReader_readItem 42 = .ok (.iconst 0, 1) := by decide +kernel
theorem d_PalaceReader_readItem_43 : decode c_PalaceReader_readItem 43 = .ok (.invokestatic 42, 3) := by decide +kernel
theorem d_PalaceReader_readItem_46 : decode c_PalaceReader_readItem 46 = .ok (.ireturn, 1) := by decide +kernel
theorem d_PalaceReader_readItem_47 : decode c_PalaceReader_readItem 47 = .ok (.iconst 0, 1) := by decide +kernel
theorem d_PalaceReader_readItem_48 : decode c_PalaceReader_readItem 48 = .ok (.istore_n 3, 1) := by decide +kernel
theorem d_PalaceReader_readItem_49 : decode c_PalaceReader_readItem 49 = .ok (.iload_n 3, 1) := by decide +kernel
theorem d_PalaceReader_readItem_50 : decode c_PalaceReader_readItem 50 = .ok (.aload_n 2, 1) := by decide +kernel
theorem d_PalaceReader_readItem_51 : decode c_PalaceReader_readItem 51 = .ok (.arraylength, 1) := by decide +kernel
theorem d_PalaceReader_readItem_52 : decode c_PalaceReader_readItem 52 = .ok (.if_icmp .ge 31, 3) := by decide +kernel
theorem d_PalaceReader_readItem_55 : decode c_PalaceReader_readItem 55 = .ok (.aload_n 0, 1) := by decide +kernel
theorem d_PalaceReader_readItem_56 : decode c_PalaceReader_readItem 56 = .ok (.aload_n 2, 1) := by decide +kernel
theorem d_PalaceReader_readItem_57 : decode c_PalaceReader_readItem 57 = .ok (.iload_n 3, 1) := by decide +kernel
theorem d_PalaceReader_readItem_58 : decode c_PalaceReader_readItem 58 = .ok (.aaload, 1) := by decide +kernel
theorem d_PalaceReader_readItem_59 : decode c_PalaceReader_readItem 59 = .ok (.getfield 48, 3) := by decide +kernel
theorem d_PalaceReader_readItem_62 : decode c_PalaceReader_readItem 62 = .ok (.invokevirtual 54, 3) := by decide +kernel
theorem d_PalaceReader_readItem_65 : decode c_PalaceReader_readItem 65 = .ok (.ifCond .eq 12, 3) := by decide +kernel
theorem d_PalaceReader_readItem_68 : decode c_PalaceReader_readItem 68 = .ok (.aload_n 0, 1) := by decide +kernel
theorem d_PalaceReader_readItem_69 : decode c_PalaceReader_readItem 69 = .ok (.aload_n 1, 1) := by decide +kernel
theorem d_PalaceReader_readItem_70 : decode c_PalaceReader_readItem 70 = .ok (.aload_n 2, 1) := by decide +kernel
theorem d_PalaceReader_readItem_71 : decode c_PalaceReader_readItem 71 = .ok (.iload_n 3, 1) := by decide +kernel
theorem d_PalaceReader_readItem_72 : decode c_PalaceReader_readItem 72 = .ok (.aaload, 1) := by decide +kernel
theorem d_PalaceReader_readItem_73 : decode c_PalaceReader_readItem 73 = .ok (.invokestatic 57, 3) := by decide +kernel
theorem d_PalaceReader_readItem_76 : decode c_PalaceReader_readItem 76 = .ok (.ireturn, 1) := by decide +kernel
theorem d_PalaceReader_readItem_77 : decode c_PalaceReader_readItem 77 = .ok (.iinc 3 1, 3) := by decide +kernel
theorem d_PalaceReader_readItem_80 : decode c_PalaceReader_readItem 80 = .ok (.goto (-31), 3) := by decide +kernel
theorem d_PalaceReader_readItem_83 : decode c_PalaceReader_readItem 83 = .ok (.iconst 0, 1) := by decide +kernel
theorem d_PalaceReader_readItem_84 : decode c_PalaceReader_readItem 84 = .ok (.ireturn, 1) := by decide +kernel
theorem d_PalaceReader_tell_0 : decode c_PalaceReader_tell 0 = .ok (.aload_n 0, 1) := by decide +kernel
theorem d_PalaceReader_tell_1 : decode c_PalaceReader_tell 1 = .ok (.invokevirtual 9, 3) := by decide +kernel
theorem d_PalaceReader_tell_4 : decode c_PalaceReader_tell 4 = .ok (.iconst 1, 1) := by decide +kernel
theorem d_PalaceReader_tell_5 : decode c_PalaceReader_tell 5 = .ok (.istore_n 3, 1) := by decide +kernel
theorem d_PalaceReader_tell_6 : decode c_PalaceReader_tell 6 = .ok (.iload_n 3, 1) := by decide +kernel
theorem d_PalaceReader_tell_7 : decode c_PalaceReader_tell 7 = .ok (.bipush 120, 2) := by decide +kernel
theorem d_PalaceReader_tell_9 : decode c_PalaceReader_tell 9 = .ok (.if_icmp .gt 45, 3) := by decide +kernel
theorem d_PalaceReader_tell_12 : decode c_PalaceReader_tell 12 = .ok (.aload_n 0, 1) := by decide +kernel
theorem d_PalaceReader_tell_13 : decode c_PalaceReader_tell 13 = .ok (.aload_n 1, 1) := by decide +kernel
theorem d_PalaceReader_tell_14 : decode c_PalaceReader_tell 14 = .ok (.aload_n 2, 1) := by decide +kernel
theorem d_PalaceReader_tell_15 : decode c_PalaceReader_tell 15 = .ok (.invokestatic 14, 3) := by decide +kernel
theorem d_PalaceReader_tell_18 : decode c_PalaceReader_tell 18 = .ok (.ifCond .ne 6, 3) := by decide +kernel
theorem d_PalaceReader_tell_21 : decode c_PalaceReader_tell 21 = .ok (.goto 33, 3) := by decide +kernel
theorem d_PalaceReader_tell_24 : decode c_PalaceReader_tell 24 = .ok (.aload_n 0, 1) := by decide +kernel
theorem d_PalaceReader_tell_25 : decode c_PalaceReader_tell 25 = .ok (.getfield 20, 3) := by decide +kernel
theorem d_PalaceReader_tell_28 : decode c_PalaceReader_tell 28 = .ok (.ifCond .ne 5, 3) := by decide +kernel
theorem d_PalaceReader_tell_31 : decode c_PalaceReader_tell 31 = .ok (.iload_n 3, 1) := by decide +kernel
theorem d_PalaceReader_tell_32 : decode c_PalaceReader_tell 32 = .ok (.ireturn, 1) := by decide +kernel
theorem d_PalaceReader_tell_33 : decode c_PalaceReader_tell 33 = .ok (.aload_n 0, 1) := by decide +kernel
theorem d_PalaceReader_tell_34 : decode c_PalaceReader_tell 34 = .ok (.getfield 20, 3) := by decide +kernel
theorem d_PalaceReader_tell_37 : decode c_PalaceReader_tell 37 = .ok (.iconst 3, 1) := by decide +kernel
theorem d_PalaceReader_tell_38 : decode c_PalaceReader_tell 38 = .ok (.if_icmp .eq 6, 3) := by decide +kernel
theorem d_PalaceReader_tell_41 : decode c_PalaceReader_tell 41 = .ok (.goto 13, 3) := by decide +kernel
theorem d_PalaceReader_tell_44 : decode c_PalaceReader_tell 44 = .ok (.aload_n 0, 1) := by decide +kernel
theorem d_PalaceReader_tell_45 : decode c_PalaceReader_tell 45 = .ok (.invokevirtual 24, 3) := by decide +kernel
theorem d_PalaceReader_tell_48 : decode c_PalaceReader_tell 48 = .ok (.iinc 3 1, 3) := by decide +kernel
theorem d_PalaceReader_tell_51 : decode c_PalaceReader_tell 51 = .ok (.goto (-45), 3) := by decide +kernel
theorem d_PalaceReader_tell_54 : decode c_PalaceReader_tell 54 = .ok (.iconst (-1), 1) := by decide +kernel
theorem d_PalaceReader_tell_55 : decode c_PalaceReader_tell 55 = .ok (.aload_n 0, 1) := by decide +kernel
theorem d_PalaceReader_tell_56 : decode c_PalaceReader_tell 56 = .ok (.getfield 27, 3) := by decide +kernel
theorem d_PalaceReader_tell_59 : decode c_PalaceReader_tell 59 = .ok (.isub, 1) := by decide +kernel
theorem d_PalaceReader_tell_60 : decode c_PalaceReader_tell 60 = .ok (.ireturn, 1) := by decide +kernel
theorem d_Rug_become_0 : decode c_Rug_become 0 = .ok (.aload_n 0, 1) := by decide +kernel
theorem d_Rug_become_1 : decode c_Rug_become 1 = .ok (.aload_n 1, 1) := by decide +kernel
theorem d_Rug_become_2 : decode c_Rug_become 2 = .ok (.getfield 9, 3) := by decide +kernel
theorem d_Rug_become_5 : decode c_Rug_become 5 = .ok (.putfield 9, 3) := by decide +kernel
theorem d_Rug_become_8 : decode c_Rug_become 8 = .ok (.aload_n 0, 1) := by decide +kernel
theorem d_Rug_become_9 : decode c_Rug_become 9 = .ok (.aload_n 1, 1) := by decide +kernel
theorem d_Rug_become_10 : decode c_Rug_become 10 = .ok (.getfield 19, 3) := by decide +kernel
theorem d_Rug_become_13 : decode c_Rug_become 13 = .ok (.putfield 19, 3) := by decide +kernel
theorem d_Rug_become_16 : decode c_Rug_become 16 = .ok (.aload_n 0, 1) := by decide +kernel
theorem d_Rug_become_17 : decode c_Rug_become 17 = .ok (.aload_n 1, 1) := by decide +kernel
theorem d_Rug_become_18 : decode c_Rug_become 18 = .ok (.getfield 22, 3) := by decide +kernel
theorem d_Rug_become_21 : decode c_Rug_become 21 = .ok (.putfield 22, 3) := by decide +kernel
theorem d_Rug_become_24 : decode c_Rug_become 24 = .ok (.aload_n 0, 1) := by decide +kernel
theorem d_Rug_become_25 : decode c_Rug_become 25 = .ok (.aload_n 1, 1) := by decide +kernel
theorem d_Rug_become_26 : decode c_Rug_become 26 = .ok (.getfield 25, 3) := by decide +kernel
theorem d_Rug_become_29 : decode c_Rug_become 29 = .ok (.putfield 25, 3) := by decide +kernel
theorem d_Rug_become_32 : decode c_Rug_become 32 = .ok (.aload_n 0, 1) := by decide +kernel
theorem d_Rug_become_33 : decode c_Rug_become 33 = .ok (.aload_n 1, 1) := by decide +kernel
theorem d_Rug_become_34 : decode c_Rug_become 34 = .ok (.getfield 28, 3) := by decide +kernel
theorem d_Rug_become_37 : decode c_Rug_become 37 = .ok (.putfield 28, 3) := by decide +kernel
theorem d_Rug_become_40 : decode c_Rug_become 40 = .ok (.aload_n 0, 1) := by decide +kernel
theorem d_Rug_become_41 : decode c_Rug_become 41 = .ok (.aload_n 1, 1) := by decide +kernel
theorem d_Rug_become_42 : decode c_Rug_become 42 = .ok (.getfield 15, 3) := by decide +kernel
theorem d_Rug_become_45 : decode c_Rug_become 45 = .ok (.putfield 15, 3) := by decide +kernel
theorem d_Rug_become_48 : decode c_Rug_become 48 = .ok (.aload_n 0, 1) := by decide +kernel
theorem d_Rug_become_49 : decode c_Rug_become 49 = .ok (.aload_n 1, 1) := by decide +kernel
theorem d_Rug_become_50 : decode c_Rug_become 50 = .ok (.getfield 34, 3) := by decide +kernel
theorem d_Rug_become_53 : decode c_Rug_become 53 = .ok (.putfield 34, 3) := by decide +kernel
theorem d_Rug_become_56 : decode c_Rug_become 56 = .ok (.return_, 1) := by decide +kernel
theorem d_Rug_valueOf_0 : decode c_Rug_valueOf 0 = .ok (.iload_n 1, 1) := by decide +kernel
theorem d_Rug_valueOf_1 : decode c_Rug_valueOf 1 = .ok (.tableswitch 42 1 3 #[27, 32, 37], 27) := by decide +kernel
theorem d_Rug_valueOf_28 : decode c_Rug_valueOf 28 = .ok (.aload_n 0, 1) := by decide +kernel
theorem d_Rug_valueOf_29 : decode c_Rug_valueOf 29 = .ok (.getfield 19, 3) := by decide +kernel
theorem d_Rug_valueOf_32 : decode c_Rug_valueOf 32 = .ok (.ireturn, 1) := by decide +kernel
theorem d_Rug_valueOf_33 : decode c_Rug_valueOf 33 = .ok (.aload_n 0, 1) := by decide +kernel
theorem d_Rug_valueOf_34 : decode c_Rug_valueOf 34 = .ok (.getfield 22, 3) := by decide +kernel
theorem d_Rug_valueOf_37 : decode c_Rug_valueOf 37 = .ok (.ireturn, 1) := by decide +kernel
theorem d_Rug_valueOf_38 : decode c_Rug_valueOf 38 = .ok (.aload_n 0, 1) := by decide +kernel
theorem d_Rug_valueOf_39 : decode c_Rug_valueOf 39 = .ok (.getfield 25, 3) := by decide +kernel
theorem d_Rug_valueOf_42 : decode c_Rug_valueOf 42 = .ok (.ireturn, 1) := by decide +kernel
theorem d_Rug_valueOf_43 : decode c_Rug_valueOf 43 = .ok (.aload_n 0, 1) := by decide +kernel
theorem d_Rug_valueOf_44 : decode c_Rug_valueOf 44 = .ok (.getfield 28, 3) := by decide +kernel
theorem d_Rug_valueOf_47 : decode c_Rug_valueOf 47 = .ok (.ireturn, 1) := by decide +kernel
theorem d_Rug_putValue_0 : decode c_Rug_putValue 0 = .ok (.iload_n 1, 1) := by decide +kernel
theorem d_Rug_putValue_1 : decode c_Rug_putValue 1 = .ok (.tableswitch 51 1 3 #[27, 35, 43], 27) := by decide +kernel
theorem d_Rug_putValue_28 : decode c_Rug_putValue 28 = .ok (.aload_n 0, 1) := by decide +kernel
theorem d_Rug_putValue_29 : decode c_Rug_putValue 29 = .ok (.iload_n 2, 1) := by decide +kernel
theorem d_Rug_putValue_30 : decode c_Rug_putValue 30 = .ok (.putfield 19, 3) := by decide +kernel
theorem d_Rug_putValue_33 : decode c_Rug_putValue 33 = .ok (.goto 24, 3) := by decide +kernel
theorem d_Rug_putValue_36 : decode c_Rug_putValue 36 = .ok (.aload_n 0, 1) := by decide +kernel
theorem d_Rug_putValue_37 : decode c_Rug_putValue 37 = .ok (.iload_n 2, 1) := by decide +kernel
theorem d_Rug_putValue_38 : decode c_Rug_putValue 38 = .ok (.putfield 22, 3) := by decide +kernel
theorem d_Rug_putValue_41 : decode c_Rug_putValue 41 = .ok (.goto 16, 3) := by decide +kernel
theorem d_Rug_putValue_44 : decode c_Rug_putValue 44 = .ok (.aload_n 0, 1) := by decide +kernel
theorem d_Rug_putValue_45 : decode c_Rug_putValue 45 = .ok (.iload_n 2, 1) := by decide +kernel
theorem d_Rug_putValue_46 : decode c_Rug_putValue 46 = .ok (.putfield 25, 3) := by decide +kernel
theorem d_Rug_putValue_49 : decode c_Rug_putValue 49 = .ok (.goto 8, 3) := by decide +kernel
theorem d_Rug_putValue_52 : decode c_Rug_putValue 52 = .ok (.aload_n 0, 1) := by decide +kernel
theorem d_Rug_putValue_53 : decode c_Rug_putValue 53 = .ok (.iload_n 2, 1) := by decide +kernel
theorem d_Rug_putValue_54 : decode c_Rug_putValue 54 = .ok (.putfield 28, 3) := by decide +kernel
theorem d_Rug_putValue_57 : decode c_Rug_putValue 57 = .ok (.return_, 1) := by decide +kernel
theorem d_Runner_reaches_0 : decode c_Runner_reaches 0 = .ok (.iconst 2, 1) := by decide +kernel
theorem d_Runner_reaches_1 : decode c_Runner_reaches 1 = .ok (.aload_n 1, 1) := by decide +kernel
theorem d_Runner_reaches_2 : decode c_Runner_reaches 2 = .ok (.getfield 7, 3) := by decide +kernel
theorem d_Runner_reaches_5 : decode c_Runner_reaches 5 = .ok (.imul, 1) := by decide +kernel
theorem d_Runner_reaches_6 : decode c_Runner_reaches 6 = .ok (.ireturn, 1) := by decide +kernel
theorem d_Stair_reaches_0 : decode c_Stair_reaches 0 = .ok (.iconst 1, 1) := by decide +kernel
theorem d_Stair_reaches_1 : decode c_Stair_reaches 1 = .ok (.aload_n 0, 1) := by decide +kernel
theorem d_Stair_reaches_2 : decode c_Stair_reaches 2 = .ok (.aload_n 1, 1) := by decide +kernel
theorem d_Stair_reaches_3 : decode c_Stair_reaches 3 = .ok (.invokespecial 7, 3) := by decide +kernel
theorem d_Stair_reaches_6 : decode c_Stair_reaches 6 = .ok (.iconst 3, 1) := by decide +kernel
theorem d_Stair_reaches_7 : decode c_Stair_reaches 7 = .ok (.isub, 1) := by decide +kernel
theorem d_Stair_reaches_8 : decode c_Stair_reaches 8 = .ok (.invokestatic 11, 3) := by decide +kernel
theorem d_Stair_reaches_11 : decode c_Stair_reaches 11 = .ok (.ireturn, 1) := by decide +kernel
theorem d_Shag_reaches_0 : decode c_Shag_reaches 0 = .ok (.aload_n 0, 1) := by decide +kernel
theorem d_Shag_reaches_1 : decode c_Shag_reaches 1 = .ok (.aload_n 1, 1) := by decide +kernel
theorem d_Shag_reaches_2 : decode c_Shag_reaches 2 = .ok (.invokespecial 7, 3) := by decide +kernel
theorem d_Shag_reaches_5 : decode c_Shag_reaches 5 = .ok (.istore_n 2, 1) := by decide +kernel
theorem d_Shag_reaches_6 : decode c_Shag_reaches 6 = .ok (.aload_n 1, 1) := by decide +kernel
theorem d_Shag_reaches_7 : decode c_Shag_reaches 7 = .ok (.getfield 11, 3) := by decide +kernel
theorem d_Shag_reaches_10 : decode c_Shag_reaches 10 = .ok (.bipush 20, 2) := by decide +kernel
theorem d_Shag_reaches_12 : decode c_Shag_reaches 12 = .ok (.if_icmp .ge 13, 3) := by decide +kernel
theorem d_Shag_reaches_15 : decode c_Shag_reaches 15 = .ok (.iconst 1, 1) := by decide +kernel
theorem d_Shag_reaches_16 : decode c_Shag_reaches 16 = .ok (.iload_n 2, 1) := by decide +kernel
theorem d_Shag_reaches_17 : decode c_Shag_reaches 17 = .ok (.iconst 2, 1) := by decide +kernel
theorem d_Shag_reaches_18 : decode c_Shag_reaches 18 = .ok (.idiv, 1) := by decide +kernel
theorem d_Shag_reaches_19 : decode c_Shag_reaches 19 = .ok (.invokestatic 19, 3) := by decide +kernel
theorem d_Shag_reaches_22 : decode c_Shag_reaches 22 = .ok (.goto 4, 3) := by decide +kernel
theorem d_Shag_reaches_25 : decode c_Shag_reaches 25 = .ok (.iload_n 2, 1) := by decide +kernel
theorem d_Shag_reaches_26 : decode c_Shag_reaches 26 = .ok (.ireturn, 1) := by decide +kernel
theorem d_Rug_yardsCovered_0 : decode c_Rug_yardsCovered 0 = .ok (.aload_n 0, 1) := by decide +kernel
theorem d_Rug_yardsCovered_1 : decode c_Rug_yardsCovered 1 = .ok (.invokevirtual 37, 3) := by decide +kernel
theorem d_Rug_yardsCovered_4 : decode c_Rug_yardsCovered 4 = .ok (.ifCond .eq 24, 3) := by decide +kernel
theorem d_Rug_yardsCovered_7 : decode c_Rug_yardsCovered 7 = .ok (.aload_n 0, 1) := by decide +kernel
theorem d_Rug_yardsCovered_8 : decode c_Rug_yardsCovered 8 = .ok (.getfield 9, 3) := by decide +kernel
theorem d_Rug_yardsCovered_11 : decode c_Rug_yardsCovered 11 = .ok (.aload_n 0, 1) := by decide +kernel
theorem d_Rug_yardsCovered_12 : decode c_Rug_yardsCovered 12 = .ok (.invokevirtual 41, 3) := by decide +kernel
theorem d_Rug_yardsCovered_15 : decode c_Rug_yardsCovered 15 = .ok (.bipush 40, 2) := by decide +kernel
theorem d_Rug_yardsCovered_17 : decode c_Rug_yardsCovered 17 = .ok (.aload_n 0, 1) := by decide +kernel
theorem d_Rug_yardsCovered_18 : decode c_Rug_yardsCovered 18 = .ok (.getfield 15, 3) := by decide +kernel
theorem d_Rug_yardsCovered_21 : decode c_Rug_yardsCovered 21 = .ok (.isub, 1) := by decide +kernel
theorem d_Rug_yardsCovered_22 : decode c_Rug_yardsCovered 22 = .ok (.invokestatic 47, 3) := by decide +kernel
theorem d_Rug_yardsCovered_25 : decode c_Rug_yardsCovered 25 = .ok (.goto 4, 3) := by decide +kernel
theorem d_Rug_yardsCovered_28 : decode c_Rug_yardsCovered 28 = .ok (.iconst 0, 1) := by decide +kernel
theorem d_Rug_yardsCovered_29 : decode c_Rug_yardsCovered 29 = .ok (.ireturn, 1) := by decide +kernel
theorem d_Rug_covers_0 : decode c_Rug_covers 0 = .ok (.aload_n 0, 1) := by decide +kernel
theorem d_Rug_covers_1 : decode c_Rug_covers 1 = .ok (.invokevirtual 37, 3) := by decide +kernel
theorem d_Rug_covers_4 : decode c_Rug_covers 4 = .ok (.ifCond .eq 28, 3) := by decide +kernel
theorem d_Rug_covers_7 : decode c_Rug_covers 7 = .ok (.iload_n 1, 1) := by decide +kernel
theorem d_Rug_covers_8 : decode c_Rug_covers 8 = .ok (.aload_n 0, 1) := by decide +kernel
theorem d_Rug_covers_9 : decode c_Rug_covers 9 = .ok (.getfield 15, 3) := by decide +kernel
theorem d_Rug_covers_12 : decode c_Rug_covers 12 = .ok (.if_icmp .lt 20, 3) := by decide +kernel
theorem d_Rug_covers_15 : decode c_Rug_covers 15 = .ok (.iload_n 1, 1) := by decide +kernel
theorem d_Rug_covers_16 : decode c_Rug_covers 16 = .ok (.aload_n 0, 1) := by decide +kernel
theorem d_Rug_covers_17 : decode c_Rug_covers 17 = .ok (.getfield 15, 3) := by decide +kernel
theorem d_Rug_covers_20 : decode c_Rug_covers 20 = .ok (.aload_n 0, 1) := by decide +kernel
theorem d_Rug_covers_21 : decode c_Rug_covers 21 = .ok (.invokevirtual 53, 3) := by decide +kernel
theorem d_Rug_covers_24 : decode c_Rug_covers 24 = .ok (.iadd, 1) := by decide +kernel
theorem d_Rug_covers_25 : decode c_Rug_covers 25 = .ok (.if_icmp .ge 7, 3) := by decide +kernel
theorem d_Rug_covers_28 : decode c_Rug_covers 28 = .ok (.iconst 1, 1) := by decide +kernel
theorem d_Rug_covers_29 : decode c_Rug_covers 29 = .ok (.goto 4, 3) := by decide +kernel
theorem d_Rug_covers_32 : decode c_Rug_covers 32 = .ok (.iconst 0, 1) := by decide +kernel
theorem d_Rug_covers_33 : decode c_Rug_covers 33 = .ok (.ireturn, 1) := by decide +kernel
theorem d_Rug_span_0 : decode c_Rug_span 0 = .ok (.aload_n 0, 1) := by decide +kernel
theorem d_Rug_span_1 : decode c_Rug_span 1 = .ok (.invokevirtual 37, 3) := by decide +kernel
theorem d_Rug_span_4 : decode c_Rug_span 4 = .ok (.ifCond .eq 19, 3) := by decide +kernel
theorem d_Rug_span_7 : decode c_Rug_span 7 = .ok (.lconst 1, 1) := by decide +kernel
theorem d_Rug_span_8 : decode c_Rug_span 8 = .ok (.aload_n 0, 1) := by decide +kernel
theorem d_Rug_span_9 : decode c_Rug_span 9 = .ok (.invokevirtual 53, 3) := by decide +kernel
theorem d_Rug_span_12 : decode c_Rug_span 12 = .ok (.lshl, 1) := by decide +kernel
theorem d_Rug_span_13 : decode c_Rug_span 13 = .ok (.lconst 1, 1) := by decide +kernel
theorem d_Rug_span_14 : decode c_Rug_span 14 = .ok (.lsub, 1) := by decide +kernel
theorem d_Rug_span_15 : decode c_Rug_span 15 = .ok (.aload_n 0, 1) := by decide +kernel
theorem d_Rug_span_16 : decode c_Rug_span 16 = .ok (.getfield 15, 3) := by decide +kernel
theorem d_Rug_span_19 : decode c_Rug_span 19 = .ok (.lshl, 1) := by decide +kernel
theorem d_Rug_span_20 : decode c_Rug_span 20 = .ok (.goto 4, 3) := by decide +kernel
theorem d_Rug_span_23 : decode c_Rug_span 23 = .ok (.lconst 0, 1) := by decide +kernel
theorem d_Rug_span_24 : decode c_Rug_span 24 = .ok (.lreturn, 1) := by decide +kernel
theorem d_Runner_wears_0 : decode c_Runner_wears 0 = .ok (.aload_n 0, 1) := by decide +kernel
theorem d_Runner_wears_1 : decode c_Runner_wears 1 = .ok (.aload_n 1, 1) := by decide +kernel
theorem d_Runner_wears_2 : decode c_Runner_wears 2 = .ok (.iload_n 2, 1) := by decide +kernel
theorem d_Runner_wears_3 : decode c_Runner_wears 3 = .ok (.invokespecial 13, 3) := by decide +kernel
theorem d_Runner_wears_6 : decode c_Runner_wears 6 = .ok (.iconst 1, 1) := by decide +kernel
theorem d_Runner_wears_7 : decode c_Runner_wears 7 = .ok (.iadd, 1) := by decide +kernel
theorem d_Runner_wears_8 : decode c_Runner_wears 8 = .ok (.ireturn, 1) := by decide +kernel
theorem d_Velvet_wears_0 : decode c_Velvet_wears 0 = .ok (.aload_n 0, 1) := by decide +kernel
theorem d_Velvet_wears_1 : decode c_Velvet_wears 1 = .ok (.aload_n 1, 1) := by decide +kernel
theorem d_Velvet_wears_2 : decode c_Velvet_wears 2 = .ok (.iload_n 2, 1) := by decide +kernel
theorem d_Velvet_wears_3 : decode c_Velvet_wears 3 = .ok (.invokespecial 7, 3) := by decide +kernel
theorem d_Velvet_wears_6 : decode c_Velvet_wears 6 = .ok (.iconst 2, 1) := by decide +kernel
theorem d_Velvet_wears_7 : decode c_Velvet_wears 7 = .ok (.idiv, 1) := by decide +kernel
theorem d_Velvet_wears_8 : decode c_Velvet_wears 8 = .ok (.ireturn, 1) := by decide +kernel
theorem d_Stair_wears_0 : decode c_Stair_wears 0 = .ok (.aload_n 0, 1) := by decide +kernel
theorem d_Stair_wears_1 : decode c_Stair_wears 1 = .ok (.aload_n 1, 1) := by decide +kernel
theorem d_Stair_wears_2 : decode c_Stair_wears 2 = .ok (.iload_n 2, 1) := by decide +kernel
theorem d_Stair_wears_3 : decode c_Stair_wears 3 = .ok (.invokespecial 17, 3) := by decide +kernel
theorem d_Stair_wears_6 : decode c_Stair_wears 6 = .ok (.aload_n 1, 1) := by decide +kernel
theorem d_Stair_wears_7 : decode c_Stair_wears 7 = .ok (.getfield 21, 3) := by decide +kernel
theorem d_Stair_wears_10 : decode c_Stair_wears 10 = .ok (.iadd, 1) := by decide +kernel
theorem d_Stair_wears_11 : decode c_Stair_wears 11 = .ok (.ireturn, 1) := by decide +kernel
theorem d_Shag_wears_0 : decode c_Shag_wears 0 = .ok (.aload_n 0, 1) := by decide +kernel
theorem d_Shag_wears_1 : decode c_Shag_wears 1 = .ok (.aload_n 1, 1) := by decide +kernel
theorem d_Shag_wears_2 : decode c_Shag_wears 2 = .ok (.iload_n 2, 1) := by decide +kernel
theorem d_Shag_wears_3 : decode c_Shag_wears 3 = .ok (.invokespecial 25, 3) := by decide +kernel
theorem d_Shag_wears_6 : decode c_Shag_wears 6 = .ok (.iload_n 2, 1) := by decide +kernel
theorem d_Shag_wears_7 : decode c_Shag_wears 7 = .ok (.iadd, 1) := by decide +kernel
theorem d_Shag_wears_8 : decode c_Shag_wears 8 = .ok (.ireturn, 1) := by decide +kernel
theorem d_Velvet_breeds_0 : decode c_Velvet_breeds 0 = .ok (.aload_n 0, 1) := by decide +kernel
theorem d_Velvet_breeds_1 : decode c_Velvet_breeds 1 = .ok (.iload_n 1, 1) := by decide +kernel
theorem d_Velvet_breeds_2 : decode c_Velvet_breeds 2 = .ok (.invokespecial 11, 3) := by decide +kernel
theorem d_Velvet_breeds_5 : decode c_Velvet_breeds 5 = .ok (.iconst 1, 1) := by decide +kernel
theorem d_Velvet_breeds_6 : decode c_Velvet_breeds 6 = .ok (.iadd, 1) := by decide +kernel
theorem d_Velvet_breeds_7 : decode c_Velvet_breeds 7 = .ok (.ireturn, 1) := by decide +kernel
theorem d_Shag_breeds_0 : decode c_Shag_breeds 0 = .ok (.iload_n 1, 1) := by decide +kernel
theorem d_Shag_breeds_1 : decode c_Shag_breeds 1 = .ok (.iconst 1, 1) := by decide +kernel
theorem d_Shag_breeds_2 : decode c_Shag_breeds 2 = .ok (.if_icmp .ne 7, 3) := by decide +kernel
theorem d_Shag_breeds_5 : decode c_Shag_breeds 5 = .ok (.iconst 0, 1) := by decide +kernel
theorem d_Shag_breeds_6 : decode c_Shag_breeds 6 = .ok (.goto 8, 3) := by decide +kernel
theorem d_Shag_breeds_9 : decode c_Shag_breeds 9 = .ok (.aload_n 0, 1) := by decide +kernel
theorem d_Shag_breeds_10 : decode c_Shag_breeds 10 = .ok (.iload_n 1, 1) := by decide +kernel
theorem d_Shag_breeds_11 : decode c_Shag_breeds 11 = .ok (.invokespecial 29, 3) := by decide +kernel
theorem d_Shag_breeds_14 : decode c_Shag_breeds 14 = .ok (.ireturn, 1) := by decide +kernel
theorem d_Rug_passDay_0 : decode c_Rug_passDay 0 = .ok (.aload_n 0, 1) := by decide +kernel
theorem d_Rug_passDay_1 : decode c_Rug_passDay 1 = .ok (.invokevirtual 37, 3) := by decide +kernel
theorem d_Rug_passDay_4 : decode c_Rug_passDay 4 = .ok (.ifCond .eq 39, 3) := by decide +kernel
theorem d_Rug_passDay_7 : decode c_Rug_passDay 7 = .ok (.aload_n 0, 1) := by decide +kernel
theorem d_Rug_passDay_8 : decode c_Rug_passDay 8 = .ok (.iconst 0, 1) := by decide +kernel
theorem d_Rug_passDay_9 : decode c_Rug_passDay 9 = .ok (.aload_n 0, 1) := by decide +kernel
theorem d_Rug_passDay_10 : decode c_Rug_passDay 10 = .ok (.getfield 25, 3) := by decide +kernel
theorem d_Rug_passDay_13 : decode c_Rug_passDay 13 = .ok (.aload_n 0, 1) := by decide +kernel
theorem d_Rug_passDay_14 : decode c_Rug_passDay 14 = .ok (.getfield 9, 3) := by decide +kernel
theorem d_Rug_passDay_17 : decode c_Rug_passDay 17 = .ok (.aload_n 0, 1) := by decide +kernel
theorem d_Rug_passDay_18 : decode c_Rug_passDay 18 = .ok (.iload_n 1, 1) := by decide +kernel
theorem d_Rug_passDay_19 : decode c_Rug_passDay 19 = .ok (.invokevirtual 57, 3) := by decide +kernel
theorem d_Rug_passDay_22 : decode c_Rug_passDay 22 = .ok (.isub, 1) := by decide +kernel
theorem d_Rug_passDay_23 : decode c_Rug_passDay 23 = .ok (.invokestatic 61, 3) := by decide +kernel
theorem d_Rug_passDay_26 : decode c_Rug_passDay 26 = .ok (.putfield 25, 3) := by decide +kernel
theorem d_Rug_passDay_29 : decode c_Rug_passDay 29 = .ok (.aload_n 0, 1) := by decide +kernel
theorem d_Rug_passDay_30 : decode c_Rug_passDay 30 = .ok (.getfield 25, 3) := by decide +kernel
theorem d_Rug_passDay_33 : decode c_Rug_passDay 33 = .ok (.ifCond .ne 51, 3) := by decide +kernel
theorem d_Rug_passDay_36 : decode c_Rug_passDay 36 = .ok (.aload_n 0, 1) := by decide +kernel
theorem d_Rug_passDay_37 : decode c_Rug_passDay 37 = .ok (.invokevirtual 31, 3) := by decide +kernel
theorem d_Rug_passDay_40 : decode c_Rug_passDay 40 = .ok (.goto 44, 3) := by decide +kernel
theorem d_Rug_passDay_43 : decode c_Rug_passDay 43 = .ok (.aload_n 0, 1) := by decide +kernel
theorem d_Rug_passDay_44 : decode c_Rug_passDay 44 = .ok (.bipush 9, 2) := by decide +kernel
theorem d_Rug_passDay_46 : decode c_Rug_passDay 46 = .ok (.aload_n 0, 1) := by decide +kernel
theorem d_Rug_passDay_47 : decode c_Rug_passDay 47 = .ok (.getfield 28, 3) := by decide +kernel
theorem d_Rug_passDay_50 : decode c_Rug_passDay 50 = .ok (.aload_n 0, 1) := by decide +kernel
theorem d_Rug_passDay_51 : decode c_Rug_passDay 51 = .ok (.getfield 9, 3) := by decide +kernel
theorem d_Rug_passDay_54 : decode c_Rug_passDay 54 = .ok (.iload_n 1, 1) := by decide +kernel
theorem d_Rug_passDay_55 : decode c_Rug_passDay 55 = .ok (.invokevirtual 64, 3) := by decide +kernel
theorem d_Rug_passDay_58 : decode c_Rug_passDay 58 = .ok (.iadd, 1) := by decide +kernel
theorem d_Rug_passDay_59 : decode c_Rug_passDay 59 = .ok (.invokestatic 47, 3) := by decide +kernel
theorem d_Rug_passDay_62 : decode c_Rug_passDay 62 = .ok (.putfield 28, 3) := by decide +kernel
theorem d_Rug_passDay_65 : decode c_Rug_passDay 65 = .ok (.aload_n 0, 1) := by decide +kernel
theorem d_Rug_passDay_66 : decode c_Rug_passDay 66 = .ok (.iconst 0, 1) := by decide +kernel
theorem d_Rug_passDay_67 : decode c_Rug_passDay 67 = .ok (.aload_n 0, 1) := by decide +kernel
theorem d_Rug_passDay_68 : decode c_Rug_passDay 68 = .ok (.getfield 25, 3) := by decide +kernel
theorem d_Rug_passDay_71 : decode c_Rug_passDay 71 = .ok (.aload_n 0, 1) := by decide +kernel
theorem d_Rug_passDay_72 : decode c_Rug_passDay 72 = .ok (.getfield 28, 3) := by decide +kernel
theorem d_Rug_passDay_75 : decode c_Rug_passDay 75 = .ok (.iconst 3, 1) := by decide +kernel
theorem d_Rug_passDay_76 : decode c_Rug_passDay 76 = .ok (.idiv, 1) := by decide +kernel
theorem d_Rug_passDay_77 : decode c_Rug_passDay 77 = .ok (.isub, 1) := by decide +kernel
theorem d_Rug_passDay_78 : decode c_Rug_passDay 78 = .ok (.invokestatic 61, 3) := by decide +kernel
theorem d_Rug_passDay_81 : decode c_Rug_passDay 81 = .ok (.putfield 25, 3) := by decide +kernel
theorem d_Rug_passDay_84 : decode c_Rug_passDay 84 = .ok (.return_, 1) := by decide +kernel
theorem d_Runner_gains_0 : decode c_Runner_gains 0 = .ok (.aload_n 0, 1) := by decide +kernel
theorem d_Runner_gains_1 : decode c_Runner_gains 1 = .ok (.aload_n 1, 1) := by decide +kernel
theorem d_Runner_gains_2 : decode c_Runner_gains 2 = .ok (.invokespecial 17, 3) := by decide +kernel
theorem d_Runner_gains_5 : decode c_Runner_gains 5 = .ok (.aload_n 1, 1) := by decide +kernel
theorem d_Runner_gains_6 : decode c_Runner_gains 6 = .ok (.getfield 21, 3) := by decide +kernel
theorem d_Runner_gains_9 : decode c_Runner_gains 9 = .ok (.isub, 1) := by decide +kernel
theorem d_Runner_gains_10 : decode c_Runner_gains 10 = .ok (.ireturn, 1) := by decide +kernel
theorem d_Velvet_gains_0 : decode c_Velvet_gains 0 = .ok (.aload_n 0, 1) := by decide +kernel
theorem d_Velvet_gains_1 : decode c_Velvet_gains 1 = .ok (.aload_n 1, 1) := by decide +kernel
theorem d_Velvet_gains_2 : decode c_Velvet_gains 2 = .ok (.invokespecial 15, 3) := by decide +kernel
theorem d_Velvet_gains_5 : decode c_Velvet_gains 5 = .ok (.iconst 4, 1) := by decide +kernel
theorem d_Velvet_gains_6 : decode c_Velvet_gains 6 = .ok (.isub, 1) := by decide +kernel
theorem d_Velvet_gains_7 : decode c_Velvet_gains 7 = .ok (.ireturn, 1) := by decide +kernel
theorem d_Shag_gains_0 : decode c_Shag_gains 0 = .ok (.iconst 2, 1) := by decide +kernel
theorem d_Shag_gains_1 : decode c_Shag_gains 1 = .ok (.aload_n 0, 1) := by decide +kernel
theorem d_Shag_gains_2 : decode c_Shag_gains 2 = .ok (.aload_n 1, 1) := by decide +kernel
theorem d_Shag_gains_3 : decode c_Shag_gains 3 = .ok (.invokespecial 33, 3) := by decide +kernel
theorem d_Shag_gains_6 : decode c_Shag_gains 6 = .ok (.imul, 1) := by decide +kernel
theorem d_Shag_gains_7 : decode c_Shag_gains 7 = .ok (.ireturn, 1) := by decide +kernel
theorem d_Sheet_begin_0 : decode c_Sheet_begin 0 = .ok (.aload_n 0, 1) := by decide +kernel
theorem d_Sheet_begin_1 : decode c_Sheet_begin 1 = .ok (.iload_n 1, 1) := by decide +kernel
theorem d_Sheet_begin_2 : decode c_Sheet_begin 2 = .ok (.putfield 15, 3) := by decide +kernel
theorem d_Sheet_begin_5 : decode c_Sheet_begin 5 = .ok (.aload_n 0, 1) := by decide +kernel
theorem d_Sheet_begin_6 : decode c_Sheet_begin 6 = .ok (.iload_n 2, 1) := by decide +kernel
theorem d_Sheet_begin_7 : decode c_Sheet_begin 7 = .ok (.putfield 19, 3) := by decide +kernel
theorem d_Sheet_begin_10 : decode c_Sheet_begin 10 = .ok (.iconst 0, 1) := by decide +kernel
theorem d_Sheet_begin_11 : decode c_Sheet_begin 11 = .ok (.istore_n 3, 1) := by decide +kernel
theorem d_Sheet_begin_12 : decode c_Sheet_begin 12 = .ok (.iload_n 3, 1) := by decide +kernel
theorem d_Sheet_begin_13 : decode c_Sheet_begin 13 = .ok (.bipush 40, 2) := by decide +kernel
theorem d_Sheet_begin_15 : decode c_Sheet_begin 15 = .ok (.if_icmp .ge 16, 3) := by decide +kernel
theorem d_Sheet_begin_18 : decode c_Sheet_begin 18 = .ok (.aload_n 0, 1) := by decide +kernel
theorem d_Sheet_begin_19 : decode c_Sheet_begin 19 = .ok (.getfield 9, 3) := by decide +kernel
theorem d_Sheet_begin_22 : decode c_Sheet_begin 22 = .ok (.iload_n 3, 1) := by decide +kernel
theorem d_Sheet_begin_23 : decode c_Sheet_begin 23 = .ok (.lconst 0, 1) := by decide +kernel
theorem d_Sheet_begin_24 : decode c_Sheet_begin 24 = .ok (.lastore, 1) := by decide +kernel
theorem d_Sheet_begin_25 : decode c_Sheet_begin 25 = .ok (.iinc 3 1, 3) := by decide +kernel
theorem d_Sheet_begin_28 : decode c_Sheet_begin 28 = .ok (.goto (-16), 3) := by decide +kernel
theorem d_Sheet_begin_31 : decode c_Sheet_begin 31 = .ok (.return_, 1) := by decide +kernel
theorem d_Sheet_isMissing_0 : decode c_Sheet_isMissing 0 = .ok (.aload_n 0, 1) := by decide +kernel
theorem d_Sheet_isMissing_1 : decode c_Sheet_isMissing 1 = .ok (.getfield 15, 3) := by decide +kernel
theorem d_Sheet_isMissing_4 : decode c_Sheet_isMissing 4 = .ok (.ifCond .ne 7, 3) := by decide +kernel
theorem d_Sheet_isMissing_7 : decode c_Sheet_isMissing 7 = .ok (.iconst 1, 1) := by decide +kernel
theorem d_Sheet_isMissing_8 : decode c_Sheet_isMissing 8 = .ok (.goto 4, 3) := by decide +kernel
theorem d_Sheet_isMissing_11 : decode c_Sheet_isMissing 11 = .ok (.iconst 0, 1) := by decide +kernel
theorem d_Sheet_isMissing_12 : decode c_Sheet_isMissing 12 = .ok (.ireturn, 1) := by decide +kernel
theorem d_Sheet_hasRow_0 : decode c_Sheet_hasRow 0 = .ok (.iload_n 1, 1) := by decide +kernel
theorem d_Sheet_hasRow_1 : decode c_Sheet_hasRow 1 = .ok (.ifCond .lt 29, 3) := by decide +kernel
theorem d_Sheet_hasRow_4 : decode c_Sheet_hasRow 4 = .ok (.iload_n 2, 1) := by decide +kernel
theorem d_Sheet_hasRow_5 : decode c_Sheet_hasRow 5 = .ok (.ifCond .lt 25, 3) := by decide +kernel
theorem d_Sheet_hasRow_8 : decode c_Sheet_hasRow 8 = .ok (.iload_n 1, 1) := by decide +kernel
theorem d_Sheet_hasRow_9 : decode c_Sheet_hasRow 9 = .ok (.aload_n 0, 1) := by decide +kernel
theorem d_Sheet_hasRow_10 : decode c_Sheet_hasRow 10 = .ok (.getfield 19, 3) := by decide +kernel
theorem d_Sheet_hasRow_13 : decode c_Sheet_hasRow 13 = .ok (.if_icmp .gt 17, 3) := by decide +kernel
theorem d_Sheet_hasRow_16 : decode c_Sheet_hasRow 16 = .ok (.iload_n 2, 1) := by decide +kernel
theorem d_Sheet_hasRow_17 : decode c_Sheet_hasRow 17 = .ok (.aload_n 0, 1) := by decide +kernel
theorem d_Sheet_hasRow_18 : decode c_Sheet_hasRow 18 = .ok (.getfield 19, 3) := by decide +kernel
theorem d_Sheet_hasRow_21 : decode c_Sheet_hasRow 21 = .ok (.iload_n 1, 1) := by decide +kernel
theorem d_Sheet_hasRow_22 : decode c_Sheet_hasRow 22 = .ok (.isub, 1) := by decide +kernel
theorem d_Sheet_hasRow_23 : decode c_Sheet_hasRow 23 = .ok (.if_icmp .gt 7, 3) := by decide +kernel
theorem d_Sheet_hasRow_26 : decode c_Sheet_hasRow 26 = .ok (.iconst 1, 1) := by decide +kernel
theorem d_Sheet_hasRow_27 : decode c_Sheet_hasRow 27 = .ok (.goto 4, 3) := by decide +kernel
theorem d_Sheet_hasRow_30 : decode c_Sheet_hasRow 30 = .ok (.iconst 0, 1) := by decide +kernel
theorem d_Sheet_hasRow_31 : decode c_Sheet_hasRow 31 = .ok (.ireturn, 1) := by decide +kernel
theorem d_Sheet_putNumber_0 : decode c_Sheet_putNumber 0 = .ok (.iload_n 1, 1) := by decide +kernel
theorem d_Sheet_putNumber_1 : decode c_Sheet_putNumber 1 = .ok (.ifCond .lt 11, 3) := by decide +kernel
theorem d_Sheet_putNumber_4 : decode c_Sheet_putNumber 4 = .ok (.iload_n 1, 1) := by decide +kernel
theorem d_Sheet_putNumber_5 : decode c_Sheet_putNumber 5 = .ok (.aload_n 0, 1) := by decide +kernel
theorem d_Sheet_putNumber_6 : decode c_Sheet_putNumber 6 = .ok (.getfield 19, 3) := by decide +kernel
theorem d_Sheet_putNumber_9 : decode c_Sheet_putNumber 9 = .ok (.if_icmp .lt 4, 3) := by decide +kernel
theorem d_Sheet_putNumber_12 : decode c_Sheet_putNumber 12 = .ok (.return_, 1) := by decide +kernel
theorem d_Sheet_putNumber_13 : decode c_Sheet_putNumber 13 = .ok (.aload_n 0, 1) := by decide +kernel
theorem d_Sheet_putNumber_14 : decode c_Sheet_putNumber 14 = .ok (.getfield 15, 3) := by decide +kernel
theorem d_Sheet_putNumber_17 : decode c_Sheet_putNumber 17 = .ok (.bipush 8, 2) := by decide +kernel
theorem d_Sheet_putNumber_19 : decode c_Sheet_putNumber 19 = .ok (.if_icmp .ne 16, 3) := by decide +kernel
theorem d_Sheet_putNumber_22 : decode c_Sheet_putNumber 22 = .ok (.aload_n 0, 1) := by decide +kernel
theorem d_Sheet_putNumber_23 : decode c_Sheet_putNumber 23 = .ok (.getfield 9, 3) := by decide +kernel
theorem d_Sheet_putNumber_26 : decode c_Sheet_putNumber 26 = .ok (.iload_n 1, 1) := by decide +kernel
theorem d_Sheet_putNumber_27 : decode c_Sheet_putNumber 27 = .ok (.lload_n 2, 1) := by decide +kernel
theorem d_Sheet_putNumber_28 : decode c_Sheet_putNumber 28 = .ok (.l2i, 1) := by decide +kernel
theorem d_Sheet_putNumber_29 : decode c_Sheet_putNumber 29 = .ok (.i2b, 1) := by decide +kernel
theorem d_Sheet_putNumber_30 : decode c_Sheet_putNumber 30 = .ok (.i2l, 1) := by decide +kernel
theorem d_Sheet_putNumber_31 : decode c_Sheet_putNumber 31 = .ok (.lastore, 1) := by decide +kernel
theorem d_Sheet_putNumber_32 : decode c_Sheet_putNumber 32 = .ok (.goto 32, 3) := by decide +kernel
theorem d_Sheet_putNumber_35 : decode c_Sheet_putNumber 35 = .ok (.aload_n 0, 1) := by decide +kernel
theorem d_Sheet_putNumber_36 : decode c_Sheet_putNumber 36 = .ok (.getfield 15, 3) := by decide +kernel
theorem d_Sheet_putNumber_39 : decode c_Sheet_putNumber 39 = .ok (.bipush 16, 2) := by decide +kernel
theorem d_Sheet_putNumber_41 : decode c_Sheet_putNumber 41 = .ok (.if_icmp .ne 16, 3) := by decide +kernel
theorem d_Sheet_putNumber_44 : decode c_Sheet_putNumber 44 = .ok (.aload_n 0, 1) := by decide +kernel
theorem d_Sheet_putNumber_45 : decode c_Sheet_putNumber 45 = .ok (.getfield 9, 3) := by decide +kernel
theorem d_Sheet_putNumber_48 : decode c_Sheet_putNumber 48 = .ok (.iload_n 1, 1) := by decide +kernel
theorem d_Sheet_putNumber_49 : decode c_Sheet_putNumber 49 = .ok (.lload_n 2, 1) := by decide +kernel
theorem d_Sheet_putNumber_50 : decode c_Sheet_putNumber 50 = .ok (.l2i, 1) := by decide +kernel
theorem d_Sheet_putNumber_51 : decode c_Sheet_putNumber 51 = .ok (.i2s, 1) := by decide +kernel
theorem d_Sheet_putNumber_52 : decode c_Sheet_putNumber 52 = .ok (.i2l, 1) := by decide +kernel
theorem d_Sheet_putNumber_53 : decode c_Sheet_putNumber 53 = .ok (.lastore, 1) := by decide +kernel
theorem d_Sheet_putNumber_54 : decode c_Sheet_putNumber 54 = .ok (.goto 10, 3) := by decide +kernel
theorem d_Sheet_putNumber_57 : decode c_Sheet_putNumber 57 = .ok (.aload_n 0, 1) := by decide +kernel
theorem d_Sheet_putNumber_58 : decode c_Sheet_putNumber 58 = .ok (.getfield 9, 3) := by decide +kernel
theorem d_Sheet_putNumber_61 : decode c_Sheet_putNumber 61 = .ok (.iload_n 1, 1) := by decide +kernel
theorem d_Sheet_putNumber_62 : decode c_Sheet_putNumber 62 = .ok (.lload_n 2, 1) := by decide +kernel
theorem d_Sheet_putNumber_63 : decode c_Sheet_putNumber 63 = .ok (.lastore, 1) := by decide +kernel
theorem d_Sheet_putNumber_64 : decode c_Sheet_putNumber 64 = .ok (.return_, 1) := by decide +kernel
theorem d_Tape_addByte_0 : decode c_Tape_addByte 0 = .ok (.aload_n 0, 1) := by decide +kernel
theorem d_Tape_addByte_1 : decode c_Tape_addByte 1 = .ok (.getfield 15, 3) := by decide +kernel
theorem d_Tape_addByte_4 : decode c_Tape_addByte 4 = .ok (.bipush 120, 2) := by decide +kernel
theorem d_Tape_addByte_6 : decode c_Tape_addByte 6 = .ok (.if_icmp .ge 23, 3) := by decide +kernel
theorem d_Tape_addByte_9 : decode c_Tape_addByte 9 = .ok (.aload_n 0, 1) := by decide +kernel
theorem d_Tape_addByte_10 : decode c_Tape_addByte 10 = .ok (.getfield 9, 3) := by decide +kernel
theorem d_Tape_addByte_13 : decode c_Tape_addByte 13 = .ok (.aload_n 0, 1) := by decide +kernel
theorem d_Tape_addByte_14 : decode c_Tape_addByte 14 = .ok (.getfield 15, 3) := by decide +kernel
theorem d_Tape_addByte_17 : decode c_Tape_addByte 17 = .ok (.iload_n 1, 1) := by decide +kernel
theorem d_Tape_addByte_18 : decode c_Tape_addByte 18 = .ok (.iastore, 1) := by decide +kernel
theorem d_Tape_addByte_19 : decode c_Tape_addByte 19 = .ok (.aload_n 0, 1) := by decide +kernel
theorem d_Tape_addByte_20 : decode c_Tape_addByte 20 = .ok (.dup, 1) := by decide +kernel
theorem d_Tape_addByte_21 : decode c_Tape_addByte 21 = .ok (.getfield 15, 3) := by decide +kernel
theorem d_Tape_addByte_24 : decode c_Tape_addByte 24 = .ok (.iconst 1, 1) := by decide +kernel
theorem d_Tape_addByte_25 : decode c_Tape_addByte 25 = .ok (.iadd, 1) := by decide +kernel
theorem d_Tape_addByte_26 : decode c_Tape_addByte 26 = .ok (.putfield 15, 3) := by decide +kernel
theorem d_Tape_addByte_29 : decode c_Tape_addByte 29 = .ok (.return_, 1) := by decide +kernel
theorem d_World_become_0 : decode c_World_become 0 = .ok (.iconst 0, 1) := by decide +kernel
theorem d_World_become_1 : decode c_World_become 1 = .ok (.istore_n 2, 1) := by decide +kernel
theorem d_World_become_2 : decode c_World_become 2 = .ok (.iload_n 2, 1) := by decide +kernel
theorem d_World_become_3 : decode c_World_become 3 = .ok (.aload_n 1, 1) := by decide +kernel
theorem d_World_become_4 : decode c_World_become 4 = .ok (.getfield 31, 3) := by decide +kernel
theorem d_World_become_7 : decode c_World_become 7 = .ok (.if_icmp .ge 24, 3) := by decide +kernel
theorem d_World_become_10 : decode c_World_become 10 = .ok (.aload_n 0, 1) := by decide +kernel
theorem d_World_become_11 : decode c_World_become 11 = .ok (.getfield 11, 3) := by decide +kernel
theorem d_World_become_14 : decode c_World_become 14 = .ok (.iload_n 2, 1) := by decide +kernel
theorem d_World_become_15 : decode c_World_become 15 = .ok (.aaload, 1) := by decide +kernel
theorem d_World_become_16 : decode c_World_become 16 = .ok (.aload_n 1, 1) := by decide +kernel
theorem d_World_become_17 : decode c_World_become 17 = .ok (.getfield 11, 3) := by decide +kernel
theorem d_World_become_20 : decode c_World_become 20 = .ok (.iload_n 2, 1) := by decide +kernel
theorem d_World_become_21 : decode c_World_become 21 = .ok (.aaload, 1) := by decide +kernel
theorem d_World_become_22 : decode c_World_become 22 = .ok (.invokevirtual 35, 3) := by decide +kernel
theorem d_World_become_25 : decode c_World_become 25 = .ok (.iinc 2 1, 3) := by decide +kernel
theorem d_World_become_28 : decode c_World_become 28 = .ok (.goto (-26), 3) := by decide +kernel
theorem d_World_become_31 : decode c_World_become 31 = .ok (.aload_n 1, 1) := by decide +kernel
theorem d_World_become_32 : decode c_World_become 32 = .ok (.getfield 20, 3) := by decide +kernel
theorem d_World_become_35 : decode c_World_become 35 = .ok (.iconst 0, 1) := by decide +kernel
theorem d_World_become_36 : decode c_World_become 36 = .ok (.aload_n 0, 1) := by decide +kernel
theorem d_World_become_37 : decode c_World_become 37 = .ok (.getfield 20, 3) := by decide +kernel
theorem d_World_become_40 : decode c_World_become 40 = .ok (.iconst 0, 1) := by decide +kernel
theorem d_World_become_41 : decode c_World_become 41 = .ok (.bipush 7, 2) := by decide +kernel
theorem d_World_become_43 : decode c_World_become 43 = .ok (.invokestatic 39, 3) := by decide +kernel
theorem d_World_become_46 : decode c_World_become 46 = .ok (.aload_n 0, 1) := by decide +kernel
theorem d_World_become_47 : decode c_World_become 47 = .ok (.aload_n 1, 1) := by decide +kernel
theorem d_World_become_48 : decode c_World_become 48 = .ok (.getfield 31, 3) := by decide +kernel
theorem d_World_become_51 : decode c_World_become 51 = .ok (.putfield 31, 3) := by decide +kernel
theorem d_World_become_54 : decode c_World_become 54 = .ok (.aload_n 0, 1) := by decide +kernel
theorem d_World_become_55 : decode c_World_become 55 = .ok (.aload_n 1, 1) := by decide +kernel
theorem d_World_become_56 : decode c_World_become 56 = .ok (.getfield 45, 3) := by decide +kernel
theorem d_World_become_59 : decode c_World_become 59 = .ok (.putfield 45, 3) := by decide +kernel
theorem d_World_become_62 : decode c_World_become 62 = .ok (.aload_n 0, 1) := by decide +kernel
theorem d_World_become_63 : decode c_World_become 63 = .ok (.aload_n 1, 1) := by decide +kernel
theorem d_World_become_64 : decode c_World_become 64 = .ok (.getfield 48, 3) := by decide +kernel
theorem d_World_become_67 : decode c_World_become 67 = .ok (.putfield 48, 3) := by decide +kernel
theorem d_World_become_70 : decode c_World_become 70 = .ok (.return_, 1) := by decide +kernel
theorem d_Math_floorMod_7cf53_0 : decode c_Math_floorMod_7cf53 0 = .ok (.iload_n 0, 1) := by decide +kernel
theorem d_Math_floorMod_7cf53_1 : decode c_Math_floorMod_7cf53 1 = .ok (.iload_n 1, 1) := by decide +kernel
theorem d_Math_floorMod_7cf53_2 : decode c_Math_floorMod_7cf53 2 = .ok (.irem, 1) := by decide +kernel
theorem d_Math_floorMod_7cf53_3 : decode c_Math_floorMod_7cf53 3 = .ok (.istore_n 2, 1) := by decide +kernel
theorem d_Math_floorMod_7cf53_4 : decode c_Math_floorMod_7cf53 4 = .ok (.iload_n 0, 1) := by decide +kernel
theorem d_Math_floorMod_7cf53_5 : decode c_Math_floorMod_7cf53 5 = .ok (.iload_n 1, 1) := by decide +kernel
theorem d_Math_floorMod_7cf53_6 : decode c_Math_floorMod_7cf53 6 = .ok (.ixor, 1) := by decide +kernel
theorem d_Math_floorMod_7cf53_7 : decode c_Math_floorMod_7cf53 7 = .ok (.ifCond .ge 11, 3) := by decide +kernel
theorem d_Math_floorMod_7cf53_10 : decode c_Math_floorMod_7cf53 10 = .ok (.iload_n 2, 1) := by decide +kernel
theorem d_Math_floorMod_7cf53_11 : decode c_Math_floorMod_7cf53 11 = .ok (.ifCond .eq 7, 3) := by decide +kernel
theorem d_Math_floorMod_7cf53_14 : decode c_Math_floorMod_7cf53 14 = .ok (.iload_n 2, 1) := by decide +kernel
theorem d_Math_floorMod_7cf53_15 : decode c_Math_floorMod_7cf53 15 = .ok (.iload_n 1, 1) := by decide +kernel
theorem d_Math_floorMod_7cf53_16 : decode c_Math_floorMod_7cf53 16 = .ok (.iadd, 1) := by decide +kernel
theorem d_Math_floorMod_7cf53_17 : decode c_Math_floorMod_7cf53 17 = .ok (.ireturn, 1) := by decide +kernel
theorem d_Math_floorMod_7cf53_18 : decode c_Math_floorMod_7cf53 18 = .ok (.iload_n 2, 1) := by decide +kernel
theorem d_Math_floorMod_7cf53_19 : decode c_Math_floorMod_7cf53 19 = .ok (.ireturn, 1) := by decide +kernel
theorem d_World_wetAhead_0 : decode c_World_wetAhead 0 = .ok (.aload_n 0, 1) := by decide +kernel
theorem d_World_wetAhead_1 : decode c_World_wetAhead 1 = .ok (.getfield 20, 3) := by decide +kernel
theorem d_World_wetAhead_4 : decode c_World_wetAhead 4 = .ok (.aload_n 0, 1) := by decide +kernel
theorem d_World_wetAhead_5 : decode c_World_wetAhead 5 = .ok (.getfield 45, 3) := by decide +kernel
theorem d_World_wetAhead_8 : decode c_World_wetAhead 8 = .ok (.iload_n 1, 1) := by decide +kernel
theorem d_World_wetAhead_9 : decode c_World_wetAhead 9 = .ok (.iadd, 1) := by decide +kernel
theorem d_World_wetAhead_10 : decode c_World_wetAhead 10 = .ok (.bipush 7, 2) := by decide +kernel
theorem d_World_wetAhead_12 : decode c_World_wetAhead 12 = .ok (.invokestatic 68, 3) := by decide +kernel
theorem d_World_wetAhead_15 : decode c_World_wetAhead 15 = .ok (.iaload, 1) := by decide +kernel
theorem d_World_wetAhead_16 : decode c_World_wetAhead 16 = .ok (.ireturn, 1) := by decide +kernel
theorem d_World_passDays_0 : decode c_World_passDays 0 = .ok (.iconst 0, 1) := by decide +kernel
theorem d_World_passDays_1 : decode c_World_passDays 1 = .ok (.istore_n 2, 1) := by decide +kernel
theorem d_World_passDays_2 : decode c_World_passDays 2 = .ok (.iload_n 2, 1) := by decide +kernel
theorem d_World_passDays_3 : decode c_World_passDays 3 = .ok (.iload_n 1, 1) := by decide +kernel
theorem d_World_passDays_4 : decode c_World_passDays 4 = .ok (.if_icmp .ge 54, 3) := by decide +kernel
theorem d_World_passDays_7 : decode c_World_passDays 7 = .ok (.aload_n 0, 1) := by decide +kernel
theorem d_World_passDays_8 : decode c_World_passDays 8 = .ok (.iconst 0, 1) := by decide +kernel
theorem d_World_passDays_9 : decode c_World_passDays 9 = .ok (.invokevirtual 71, 3) := by decide +kernel
theorem d_World_passDays_12 : decode c_World_passDays 12 = .ok (.istore_n 3, 1) := by decide +kernel
theorem d_World_passDays_13 : decode c_World_passDays 13 = .ok (.iconst 0, 1) := by decide +kernel
theorem d_World_passDays_14 : decode c_World_passDays 14 = .ok (.istore 4, 2) := by decide +kernel
theorem d_World_passDays_16 : decode c_World_passDays 16 = .ok (.iload 4, 2) := by decide +kernel
theorem d_World_passDays_18 : decode c_World_passDays 18 = .ok (.aload_n 0, 1) := by decide +kernel
theorem d_World_passDays_19 : decode c_World_passDays 19 = .ok (.getfield 31, 3) := by decide +kernel
theorem d_World_passDays_22 : decode c_World_passDays 22 = .ok (.if_icmp .ge 20, 3) := by decide +kernel
theorem d_World_passDays_25 : decode c_World_passDays 25 = .ok (.aload_n 0, 1) := by decide +kernel
theorem d_World_passDays_26 : decode c_World_passDays 26 = .ok (.getfield 11, 3) := by decide +kernel
theorem d_World_passDays_29 : decode c_World_passDays 29 = .ok (.iload 4, 2) := by decide +kernel
theorem d_World_passDays_31 : decode c_World_passDays 31 = .ok (.aaload, 1) := by decide +kernel
theorem d_World_passDays_32 : decode c_World_passDays 32 = .ok (.iload_n 3, 1) := by decide +kernel
theorem d_World_passDays_33 : decode c_World_passDays 33 = .ok (.invokevirtual 75, 3) := by decide +kernel
theorem d_World_passDays_36 : decode c_World_passDays 36 = .ok (.iinc 4 1, 3) := by decide +kernel
theorem d_World_passDays_39 : decode c_World_passDays 39 = .ok (.goto (-23), 3) := by decide +kernel
theorem d_World_passDays_42 : decode c_World_passDays 42 = .ok (.aload_n 0, 1) := by decide +kernel
theorem d_World_passDays_43 : decode c_World_passDays 43 = .ok (.dup, 1) := by decide +kernel
theorem d_World_passDays_44 : decode c_World_passDays 44 = .ok (.getfield 45, 3) := by decide +kernel
theorem d_World_passDays_47 : decode c_World_passDays 47 = .ok (.iconst 1, 1) := by decide +kernel
theorem d_World_passDays_48 : decode c_World_passDays 48 = .ok (.iadd, 1) := by decide +kernel
theorem d_World_passDays_49 : decode c_World_passDays 49 = .ok (.putfield 45, 3) := by decide +kernel
theorem d_World_passDays_52 : decode c_World_passDays 52 = .ok (.iinc 2 1, 3) := by decide +kernel
theorem d_World_passDays_55 : decode c_World_passDays 55 = .ok (.goto (-53), 3) := by decide +kernel
theorem d_World_passDays_58 : decode c_World_passDays 58 = .ok (.return_, 1) := by decide +kernel
theorem d_World_topAt_0 : decode c_World_topAt 0 = .ok (.iconst (-1), 1) := by decide +kernel
theorem d_World_topAt_1 : decode c_World_topAt 1 = .ok (.istore_n 2, 1) := by decide +kernel
theorem d_World_topAt_2 : decode c_World_topAt 2 = .ok (.iconst 0, 1) := by decide +kernel
theorem d_World_topAt_3 : decode c_World_topAt 3 = .ok (.istore_n 3, 1) := by decide +kernel
theorem d_World_topAt_4 : decode c_World_topAt 4 = .ok (.iload_n 3, 1) := by decide +kernel
theorem d_World_topAt_5 : decode c_World_topAt 5 = .ok (.aload_n 0, 1) := by decide +kernel
theorem d_World_topAt_6 : decode c_World_topAt 6 = .ok (.getfield 31, 3) := by decide +kernel
theorem d_World_topAt_9 : decode c_World_topAt 9 = .ok (.if_icmp .ge 49, 3) := by decide +kernel
theorem d_World_topAt_12 : decode c_World_topAt 12 = .ok (.aload_n 0, 1) := by decide +kernel
theorem d_World_topAt_13 : decode c_World_topAt 13 = .ok (.getfield 11, 3) := by decide +kernel
theorem d_World_topAt_16 : decode c_World_topAt 16 = .ok (.iload_n 3, 1) := by decide +kernel
theorem d_World_topAt_17 : decode c_World_topAt 17 = .ok (.aaload, 1) := by decide +kernel
theorem d_World_topAt_18 : decode c_World_topAt 18 = .ok (.iload_n 1, 1) := by decide +kernel
theorem d_World_topAt_19 : decode c_World_topAt 19 = .ok (.invokevirtual 79, 3) := by decide +kernel
theorem d_World_topAt_22 : decode c_World_topAt 22 = .ok (.ifCond .eq 30, 3) := by decide +kernel
theorem d_World_topAt_25 : decode c_World_topAt 25 = .ok (.iload_n 2, 1) := by decide +kernel
theorem d_World_topAt_26 : decode c_World_topAt 26 = .ok (.ifCond .lt 24, 3) := by decide +kernel
theorem d_World_topAt_29 : decode c_World_topAt 29 = .ok (.aload_n 0, 1) := by decide +kernel
theorem d_World_topAt_30 : decode c_World_topAt 30 = .ok (.getfield 11, 3) := by decide +kernel
theorem d_World_topAt_33 : decode c_World_topAt 33 = .ok (.iload_n 3, 1) := by decide +kernel
theorem d_World_topAt_34 : decode c_World_topAt 34 = .ok (.aaload, 1) := by decide +kernel
theorem d_World_topAt_35 : decode c_World_topAt 35 = .ok (.getfield 62, 3) := by decide +kernel
theorem d_World_topAt_38 : decode c_World_topAt 38 = .ok (.aload_n 0, 1) := by decide +kernel
theorem d_World_topAt_39 : decode c_World_topAt 39 = .ok (.getfield 11, 3) := by decide +kernel
theorem d_World_topAt_42 : decode c_World_topAt 42 = .ok (.iload_n 2, 1) := by decide +kernel
theorem d_World_topAt_43 : decode c_World_topAt 43 = .ok (.aaload, 1) := by decide +kernel
theorem d_World_topAt_44 : decode c_World_topAt 44 = .ok (.getfield 62, 3) := by decide +kernel
theorem d_World_topAt_47 : decode c_World_topAt 47 = .ok (.if_icmp .le 5, 3) := by decide +kernel
theorem d_World_topAt_50 : decode c_World_topAt 50 = .ok (.iload_n 3, 1) := by decide +kernel
theorem d_World_topAt_51 : decode c_World_topAt 51 = .ok (.istore_n 2, 1) := by decide +kernel
theorem d_World_topAt_52 : decode c_World_topAt 52 = .ok (.iinc 3 1, 3) := by decide +kernel
theorem d_World_topAt_55 : decode c_World_topAt 55 = .ok (.goto (-51), 3) := by decide +kernel
theorem d_World_topAt_58 : decode c_World_topAt 58 = .ok (.iload_n 2, 1) := by decide +kernel
theorem d_World_topAt_59 : decode c_World_topAt 59 = .ok (.ireturn, 1) := by decide +kernel
theorem d_World_ownerAt_0 : decode c_World_ownerAt 0 = .ok (.aload_n 0, 1) := by decide +kernel
theorem d_World_ownerAt_1 : decode c_World_ownerAt 1 = .ok (.iload_n 1, 1) := by decide +kernel
theorem d_World_ownerAt_2 : decode c_World_ownerAt 2 = .ok (.invokevirtual 83, 3) := by decide +kernel
theorem d_World_ownerAt_5 : decode c_World_ownerAt 5 = .ok (.istore_n 2, 1) := by decide +kernel
theorem d_World_ownerAt_6 : decode c_World_ownerAt 6 = .ok (.iload_n 2, 1) := by decide +kernel
theorem d_World_ownerAt_7 : decode c_World_ownerAt 7 = .ok (.ifCond .ge 7, 3) := by decide +kernel
theorem d_World_ownerAt_10 : decode c_World_ownerAt 10 = .ok (.iconst (-1), 1) := by decide +kernel
theorem d_World_ownerAt_11 : decode c_World_ownerAt 11 = .ok (.goto 12, 3) := by decide +kernel
theorem d_World_ownerAt_14 : decode c_World_ownerAt 14 = .ok (.aload_n 0, 1) := by decide +kernel
theorem d_World_ownerAt_15 : decode c_World_ownerAt 15 = .ok (.getfield 11, 3) := by decide +kernel
theorem d_World_ownerAt_18 : decode c_World_ownerAt 18 = .ok (.iload_n 2, 1) := by decide +kernel
theorem d_World_ownerAt_19 : decode c_World_ownerAt 19 = .ok (.aaload, 1) := by decide +kernel
theorem d_World_ownerAt_20 : decode c_World_ownerAt 20 = .ok (.getfield 86, 3) := by decide +kernel
theorem d_World_ownerAt_23 : decode c_World_ownerAt 23 = .ok (.ireturn, 1) := by decide +kernel
theorem d_World_setAt_0 : decode c_World_setAt 0 = .ok (.iconst 0, 1) := by decide +kernel
theorem d_World_setAt_1 : decode c_World_setAt 1 = .ok (.istore_n 2, 1) := by decide +kernel
theorem d_World_setAt_2 : decode c_World_setAt 2 = .ok (.iconst 0, 1) := by decide +kernel
theorem d_World_setAt_3 : decode c_World_setAt 3 = .ok (.istore_n 3, 1) := by decide +kernel
theorem d_World_setAt_4 : decode c_World_setAt 4 = .ok (.iload_n 3, 1) := by decide +kernel
theorem d_World_setAt_5 : decode c_World_setAt 5 = .ok (.aload_n 0, 1) := by decide +kernel
theorem d_World_setAt_6 : decode c_World_setAt 6 = .ok (.getfield 31, 3) := by decide +kernel
theorem d_World_setAt_9 : decode c_World_setAt 9 = .ok (.if_icmp .ge 28, 3) := by decide +kernel
theorem d_World_setAt_12 : decode c_World_setAt 12 = .ok (.aload_n 0, 1) := by decide +kernel
theorem d_World_setAt_13 : decode c_World_setAt 13 = .ok (.getfield 11, 3) := by decide +kernel
theorem d_World_setAt_16 : decode c_World_setAt 16 = .ok (.iload_n 3, 1) := by decide +kernel
theorem d_World_setAt_17 : decode c_World_setAt 17 = .ok (.aaload, 1) := by decide +kernel
theorem d_World_setAt_18 : decode c_World_setAt 18 = .ok (.iload_n 1, 1) := by decide +kernel
theorem d_World_setAt_19 : decode c_World_setAt 19 = .ok (.invokevirtual 79, 3) := by decide +kernel
theorem d_World_setAt_22 : decode c_World_setAt 22 = .ok (.ifCond .eq 9, 3) := by decide +kernel
theorem d_World_setAt_25 : decode c_World_setAt 25 = .ok (.iload_n 2, 1) := by decide +kernel
theorem d_World_setAt_26 : decode c_World_setAt 26 = .ok (.iconst 1, 1) := by decide +kernel
theorem d_World_setAt_27 : decode c_World_setAt 27 = .ok (.iload_n 3, 1) := by decide +kernel
theorem d_World_setAt_28 : decode c_World_setAt 28 = .ok (.ishl, 1) := by decide +kernel
theorem d_World_setAt_29 : decode c_World_setAt 29 = .ok (.ior, 1) := by decide +kernel
theorem d_World_setAt_30 : decode c_World_setAt 30 = .ok (.istore_n 2, 1) := by decide +kernel
theorem d_World_setAt_31 : decode c_World_setAt 31 = .ok (.iinc 3 1, 3) := by decide +kernel
theorem d_World_setAt_34 : decode c_World_setAt 34 = .ok (.goto (-30), 3) := by decide +kernel
theorem d_World_setAt_37 : decode c_World_setAt 37 = .ok (.iload_n 2, 1) := by decide +kernel
theorem d_World_setAt_38 : decode c_World_setAt 38 = .ok (.ireturn, 1) := by decide +kernel
theorem d_World_setOut_0 : decode c_World_setOut 0 = .ok (.iconst 0, 1) := by decide +kernel
theorem d_World_setOut_1 : decode c_World_setOut 1 = .ok (.istore_n 1, 1) := by decide +kernel
theorem d_World_setOut_2 : decode c_World_setOut 2 = .ok (.iconst 0, 1) := by decide +kernel
theorem d_World_setOut_3 : decode c_World_setOut 3 = .ok (.istore_n 2, 1) := by decide +kernel
theorem d_World_setOut_4 : decode c_World_setOut 4 = .ok (.iload_n 2, 1) := by decide +kernel
theorem d_World_setOut_5 : decode c_World_setOut 5 = .ok (.aload_n 0, 1) := by decide +kernel
theorem d_World_setOut_6 : decode c_World_setOut 6 = .ok (.getfield 31, 3) := by decide +kernel
theorem d_World_setOut_9 : decode c_World_setOut 9 = .ok (.if_icmp .ge 27, 3) := by decide +kernel
theorem d_World_setOut_12 : decode c_World_setOut 12 = .ok (.aload_n 0, 1) := by decide +kernel
theorem d_World_setOut_13 : decode c_World_setOut 13 = .ok (.getfield 11, 3) := by decide +kernel
theorem d_World_setOut_16 : decode c_World_setOut 16 = .ok (.iload_n 2, 1) := by decide +kernel
theorem d_World_setOut_17 : decode c_World_setOut 17 = .ok (.aaload, 1) := by decide +kernel
theorem d_World_setOut_18 : decode c_World_setOut 18 = .ok (.invokevirtual 89, 3) := by decide +kernel
theorem d_World_setOut_21 : decode c_World_setOut 21 = .ok (.ifCond .eq 9, 3) := by decide +kernel
theorem d_World_setOut_24 : decode c_World_setOut 24 = .ok (.iload_n 1, 1) := by decide +kernel
theorem d_World_setOut_25 : decode c_World_setOut 25 = .ok (.iconst 1, 1) := by decide +kernel
theorem d_World_setOut_26 : decode c_World_setOut 26 = .ok (.iload_n 2, 1) := by decide +kernel
theorem d_World_setOut_27 : decode c_World_setOut 27 = .ok (.ishl, 1) := by decide +kernel
theorem d_World_setOut_28 : decode c_World_setOut 28 = .ok (.ior, 1) := by decide +kernel
theorem d_World_setOut_29 : decode c_World_setOut 29 = .ok (.istore_n 1, 1) := by decide +kernel
theorem d_World_setOut_30 : decode c_World_setOut 30 = .ok (.iinc 2 1, 3) := by decide +kernel
theorem d_World_setOut_33 : decode c_World_setOut 33 = .ok (.goto (-29), 3) := by decide +kernel
theorem d_World_setOut_36 : decode c_World_setOut 36 = .ok (.iload_n 1, 1) := by decide +kernel
theorem d_World_setOut_37 : decode c_World_setOut 37 = .ok (.ireturn, 1) := by decide +kernel
theorem d_World_allPiles_0 : decode c_World_allPiles 0 = .ok (.iconst 0, 1) := by decide +kernel
theorem d_World_allPiles_1 : decode c_World_allPiles 1 = .ok (.istore_n 1, 1) := by decide +kernel
theorem d_World_allPiles_2 : decode c_World_allPiles 2 = .ok (.iconst 0, 1) := by decide +kernel
theorem d_World_allPiles_3 : decode c_World_allPiles 3 = .ok (.istore_n 2, 1) := by decide +kernel
theorem d_World_allPiles_4 : decode c_World_allPiles 4 = .ok (.iload_n 2, 1) := by decide +kernel
theorem d_World_allPiles_5 : decode c_World_allPiles 5 = .ok (.aload_n 0, 1) := by decide +kernel
theorem d_World_allPiles_6 : decode c_World_allPiles 6 = .ok (.getfield 31, 3) := by decide +kernel
theorem d_World_allPiles_9 : decode c_World_allPiles 9 = .ok (.if_icmp .ge 21, 3) := by decide +kernel
theorem d_World_allPiles_12 : decode c_World_allPiles 12 = .ok (.iload_n 1, 1) := by decide +kernel
theorem d_World_allPiles_13 : decode c_World_allPiles 13 = .ok (.aload_n 0, 1) := by decide +kernel
theorem d_World_allPiles_14 : decode c_World_allPiles 14 = .ok (.getfield 11, 3) := by decide +kernel
theorem d_World_allPiles_17 : decode c_World_allPiles 17 = .ok (.iload_n 2, 1) := by decide +kernel
theorem d_World_allPiles_18 : decode c_World_allPiles 18 = .ok (.aaload, 1) := by decide +kernel
theorem d_World_allPiles_19 : decode c_World_allPiles 19 = .ok (.getfield 93, 3) := by decide +kernel
theorem d_World_allPiles_22 : decode c_World_allPiles 22 = .ok (.iadd, 1) := by decide +kernel
theorem d_World_allPiles_23 : decode c_World_allPiles 23 = .ok (.istore_n 1, 1) := by decide +kernel
theorem d_World_allPiles_24 : decode c_World_allPiles 24 = .ok (.iinc 2 1, 3) := by decide +kernel
theorem d_World_allPiles_27 : decode c_World_allPiles 27 = .ok (.goto (-23), 3) := by decide +kernel
theorem d_World_allPiles_30 : decode c_World_allPiles 30 = .ok (.iload_n 1, 1) := by decide +kernel
theorem d_World_allPiles_31 : decode c_World_allPiles 31 = .ok (.ireturn, 1) := by decide +kernel
theorem d_World_allMoths_0 : decode c_World_allMoths 0 = .ok (.iconst 0, 1) := by decide +kernel
theorem d_World_allMoths_1 : decode c_World_allMoths 1 = .ok (.istore_n 1, 1) := by decide +kernel
theorem d_World_allMoths_2 : decode c_World_allMoths 2 = .ok (.iconst 0, 1) := by decide +kernel
theorem d_World_allMoths_3 : decode c_World_allMoths 3 = .ok (.istore_n 2, 1) := by decide +kernel
theorem d_World_allMoths_4 : decode c_World_allMoths 4 = .ok (.iload_n 2, 1) := by decide +kernel
theorem d_World_allMoths_5 : decode c_World_allMoths 5 = .ok (.aload_n 0, 1) := by decide +kernel
theorem d_World_allMoths_6 : decode c_World_allMoths 6 = .ok (.getfield 31, 3) := by decide +kernel
theorem d_World_allMoths_9 : decode c_World_allMoths 9 = .ok (.if_icmp .ge 21, 3) := by decide +kernel
theorem d_World_allMoths_12 : decode c_World_allMoths 12 = .ok (.iload_n 1, 1) := by decide +kernel
theorem d_World_allMoths_13 : decode c_World_allMoths 13 = .ok (.aload_n 0, 1) := by decide +kernel
theorem d_World_allMoths_14 : decode c_World_allMoths 14 = .ok (.getfield 11, 3) := by decide +kernel
theorem d_World_allMoths_17 : decode c_World_allMoths 17 = .ok (.iload_n 2, 1) := by decide +kernel
theorem d_World_allMoths_18 : decode c_World_allMoths 18 = .ok (.aaload, 1) := by decide +kernel
theorem d_World_allMoths_19 : decode c_World_allMoths 19 = .ok (.getfield 96, 3) := by decide +kernel
theorem d_World_allMoths_22 : decode c_World_allMoths 22 = .ok (.iadd, 1) := by decide +kernel
theorem d_World_allMoths_23 : decode c_World_allMoths 23 = .ok (.istore_n 1, 1) := by decide +kernel
theorem d_World_allMoths_24 : decode c_World_allMoths 24 = .ok (.iinc 2 1, 3) := by decide +kernel
theorem d_World_allMoths_27 : decode c_World_allMoths 27 = .ok (.goto (-23), 3) := by decide +kernel
theorem d_World_allMoths_30 : decode c_World_allMoths 30 = .ok (.iload_n 1, 1) := by decide +kernel
theorem d_World_allMoths_31 : decode c_World_allMoths 31 = .ok (.ireturn, 1) := by decide +kernel
theorem d_World_addLayer_0 : decode c_World_addLayer 0 = .ok (.aload_n 0, 1) := by decide +kernel
theorem d_World_addLayer_1 : decode c_World_addLayer 1 = .ok (.getfield 105, 3) := by decide +kernel
theorem d_World_addLayer_4 : decode c_World_addLayer 4 = .ok (.istore_n 2, 1) := by decide +kernel
theorem d_World_addLayer_5 : decode c_World_addLayer 5 = .ok (.iload_n 2, 1) := by decide +kernel
theorem d_World_addLayer_6 : decode c_World_addLayer 6 = .ok (.ifCond .le 51, 3) := by decide +kernel
theorem d_World_addLayer_9 : decode c_World_addLayer 9 = .ok (.aload_n 0, 1) := by decide +kernel
theorem d_World_addLayer_10 : decode c_World_addLayer 10 = .ok (.getfield 11, 3) := by decide +kernel
theorem d_World_addLayer_13 : decode c_World_addLayer 13 = .ok (.aload_n 0, 1) := by decide +kernel
theorem d_World_addLayer_14 : decode c_World_addLayer 14 = .ok (.getfield 24, 3) := by decide +kernel
theorem d_World_addLayer_17 : decode c_World_addLayer 17 = .ok (.iload_n 2, 1) := by decide +kernel
theorem d_World_addLayer_18 : decode c_World_addLayer 18 = .ok (.iconst 1, 1) := by decide +kernel
theorem d_World_addLayer_19 : decode c_World_addLayer 19 = .ok (.isub, 1) := by decide +kernel
theorem d_World_addLayer_20 : decode c_World_addLayer 20 = .ok (.iaload, 1) := by decide +kernel
theorem d_World_addLayer_21 : decode c_World_addLayer 21 = .ok (.aaload, 1) := by decide +kernel
theorem d_World_addLayer_22 : decode c_World_addLayer 22 = .ok (.getfield 62, 3) := by decide +kernel
theorem d_World_addLayer_25 : decode c_World_addLayer 25 = .ok (.aload_n 0, 1) := by decide +kernel
theorem d_World_addLayer_26 : decode c_World_addLayer 26 = .ok (.getfield 11, 3) := by decide +kernel
theorem d_World_addLayer_29 : decode c_World_addLayer 29 = .ok (.iload_n 1, 1) := by decide +kernel
theorem d_World_addLayer_30 : decode c_World_addLayer 30 = .ok (.aaload, 1) := by decide +kernel
theorem d_World_addLayer_31 : decode c_World_addLayer 31 = .ok (.getfield 62, 3) := by decide +kernel
theorem d_World_addLayer_34 : decode c_World_addLayer 34 = .ok (.if_icmp .ge 23, 3) := by decide +kernel
theorem d_World_addLayer_37 : decode c_World_addLayer 37 = .ok (.aload_n 0, 1) := by decide +kernel
theorem d_World_addLayer_38 : decode c_World_addLayer 38 = .ok (.getfield 24, 3) := by decide +kernel
theorem d_World_addLayer_41 : decode c_World_addLayer 41 = .ok (.iload_n 2, 1) := by decide +kernel
theorem d_World_addLayer_42 : decode c_World_addLayer 42 = .ok (.aload_n 0, 1) := by decide +kernel
theorem d_World_addLayer_43 : decode c_World_addLayer 43 = .ok (.getfield 24, 3) := by decide +kernel
theorem d_World_addLayer_46 : decode c_World_addLayer 46 = .ok (.iload_n 2, 1) := by decide +kernel
theorem d_World_addLayer_47 : decode c_World_addLayer 47 = .ok (.iconst 1, 1) := by decide +kernel
theorem d_World_addLayer_48 : decode c_World_addLayer 48 = .ok (.isub, 1) := by decide +kernel
theorem d_World_addLayer_49 : decode c_World_addLayer 49 = .ok (.iaload, 1) := by decide +kernel
theorem d_World_addLayer_50 : decode c_World_addLayer 50 = .ok (.iastore, 1) := by decide +kernel
theorem d_World_addLayer_51 : decode c_World_addLayer 51 = .ok (.iinc 2 (-1), 3) := by decide +kernel
theorem d_World_addLayer_54 : decode c_World_addLayer 54 = .ok (.goto (-49), 3) := by decide +kernel
theorem d_World_addLayer_57 : decode c_World_addLayer 57 = .ok (.aload_n 0, 1) := by decide +kernel
theorem d_World_addLayer_58 : decode c_World_addLayer 58 = .ok (.getfield 24, 3) := by decide +kernel
theorem d_World_addLayer_61 : decode c_World_addLayer 61 = .ok (.iload_n 2, 1) := by decide +kernel
theorem d_World_addLayer_62 : decode c_World_addLayer 62 = .ok (.iload_n 1, 1) := by decide +kernel
theorem d_World_addLayer_63 : decode c_World_addLayer 63 = .ok (.iastore, 1) := by decide +kernel
theorem d_World_addLayer_64 : decode c_World_addLayer 64 = .ok (.aload_n 0, 1) := by decide +kernel
theorem d_World_addLayer_65 : decode c_World_addLayer 65 = .ok (.dup, 1) := by decide +kernel
theorem d_World_addLayer_66 : decode c_World_addLayer 66 = .ok (.getfield 105, 3) := by decide +kernel
theorem d_World_addLayer_69 : decode c_World_addLayer 69 = .ok (.iconst 1, 1) := by decide +kernel
theorem d_World_addLayer_70 : decode c_World_addLayer 70 = .ok (.iadd, 1) := by decide +kernel
theorem d_World_addLayer_71 : decode c_World_addLayer 71 = .ok (.putfield 105, 3) := by decide +kernel
theorem d_World_addLayer_74 : decode c_World_addLayer 74 = .ok (.return_, 1) := by decide +kernel
theorem d_World_survey_0 : decode c_World_survey 0 = .ok (.aload_n 0, 1) := by decide +kernel
theorem d_World_survey_1 : decode c_World_survey 1 = .ok (.iconst 0, 1) := by decide +kernel
theorem d_World_survey_2 : decode c_World_survey 2 = .ok (.putfield 105, 3) := by decide +kernel
theorem d_World_survey_5 : decode c_World_survey 5 = .ok (.iconst 0, 1) := by decide +kernel
theorem d_World_survey_6 : decode c_World_survey 6 = .ok (.istore_n 1, 1) := by decide +kernel
theorem d_World_survey_7 : decode c_World_survey 7 = .ok (.iload_n 1, 1) := by decide +kernel
theorem d_World_survey_8 : decode c_World_survey 8 = .ok (.aload_n 0, 1) := by decide +kernel
theorem d_World_survey_9 : decode c_World_survey 9 = .ok (.getfield 31, 3) := by decide +kernel
theorem d_World_survey_12 : decode c_World_survey 12 = .ok (.if_icmp .ge 41, 3) := by decide +kernel
theorem d_World_survey_15 : decode c_World_survey 15 = .ok (.aload_n 0, 1) := by decide +kernel
theorem d_World_survey_16 : decode c_World_survey 16 = .ok (.getfield 11, 3) := by decide +kernel
theorem d_World_survey_19 : decode c_World_survey 19 = .ok (.iload_n 1, 1) := by decide +kernel
theorem d_World_survey_20 : decode c_World_survey 20 = .ok (.aaload, 1) := by decide +kernel
theorem d_World_survey_21 : decode c_World_survey 21 = .ok (.invokevirtual 89, 3) := by decide +kernel
theorem d_World_survey_24 : decode c_World_survey 24 = .ok (.ifCond .eq 23, 3) := by decide +kernel
theorem d_World_survey_27 : decode c_World_survey 27 = .ok (.aload_n 0, 1) := by decide +kernel
theorem d_World_survey_28 : decode c_World_survey 28 = .ok (.getfield 27, 3) := by decide +kernel
theorem d_World_survey_31 : decode c_World_survey 31 = .ok (.iload_n 1, 1) := by decide +kernel
theorem d_World_survey_32 : decode c_World_survey 32 = .ok (.aload_n 0, 1) := by decide +kernel
theorem d_World_survey_33 : decode c_World_survey 33 = .ok (.getfield 11, 3) := by decide +kernel
theorem d_World_survey_36 : decode c_World_survey 36 = .ok (.iload_n 1, 1) := by decide +kernel
theorem d_World_survey_37 : decode c_World_survey 37 = .ok (.aaload, 1) := by decide +kernel
theorem d_World_survey_38 : decode c_World_survey 38 = .ok (.invokevirtual 108, 3) := by decide +kernel
theorem d_World_survey_41 : decode c_World_survey 41 = .ok (.lastore, 1) := by decide +kernel
theorem d_World_survey_42 : decode c_World_survey 42 = .ok (.aload_n 0, 1) := by decide +kernel
theorem d_World_survey_43 : decode c_World_survey 43 = .ok (.iload_n 1, 1) := by decide +kernel
theorem d_World_survey_44 : decode c_World_survey 44 = .ok (.invokevirtual 112, 3) := by decide +kernel
theorem d_World_survey_47 : decode c_World_survey 47 = .ok (.iinc 1 1, 3) := by decide +kernel
theorem d_World_survey_50 : decode c_World_survey 50 = .ok (.goto (-43), 3) := by decide +kernel
theorem d_World_survey_53 : decode c_World_survey 53 = .ok (.return_, 1) := by decide +kernel
theorem d_Long_bitCount_95d88_0 : decode c_Long_bitCount_95d88 0 = .ok (.lload_n 0, 1) := by decide +kernel
theorem d_Long_bitCount_95d88_1 : decode c_Long_bitCount_95d88 1 = .ok (.lload_n 0, 1) := by decide +kernel
theorem d_Long_bitCount_95d88_2 : decode c_Long_bitCount_95d88 2 = .ok (.iconst 1, 1) := by decide +kernel
theorem d_Long_bitCount_95d88_3 : decode c_Long_bitCount_95d88 3 = .ok (.lushr, 1) := by decide +kernel
theorem d_Long_bitCount_95d88_4 : decode c_Long_bitCount_95d88 4 = .ok (.ldc2_w 314, 3) := by decide +kernel
theorem d_Long_bitCount_95d88_7 : decode c_Long_bitCount_95d88 7 = .ok (.land, 1) := by decide +kernel
theorem d_Long_bitCount_95d88_8 : decode c_Long_bitCount_95d88 8 = .ok (.lsub, 1) := by decide +kernel
theorem d_Long_bitCount_95d88_9 : decode c_Long_bitCount_95d88 9 = .ok (.lstore_n 0, 1) := by decide +kernel
theorem d_Long_bitCount_95d88_10 : decode c_Long_bitCount_95d88 10 = .ok (.lload_n 0, 1) := by decide +kernel
theorem d_Long_bitCount_95d88_11 : decode c_Long_bitCount_95d88 11 = .ok (.ldc2_w 316, 3) := by decide +kernel
theorem d_Long_bitCount_95d88_14 : decode c_Long_bitCount_95d88 14 = .ok (.land, 1) := by decide +kernel
theorem d_Long_bitCount_95d88_15 : decode c_Long_bitCount_95d88 15 = .ok (.lload_n 0, 1) := by decide +kernel
theorem d_Long_bitCount_95d88_16 : decode c_Long_bitCount_95d88 16 = .ok (.iconst 2, 1) := by decide +kernel
theorem d_Long_bitCount_95d88_17 : decode c_Long_bitCount_95d88 17 = .ok (.lushr, 1) := by decide +kernel
theorem d_Long_bitCount_95d88_18 : decode c_Long_bitCount_95d88 18 = .ok (.ldc2_w 316, 3) := by decide +kernel
theorem d_Long_bitCount_95d88_21 : decode c_Long_bitCount_95d88 21 = .ok (.land, 1) := by decide +kernel
theorem d_Long_bitCount_95d88_22 : decode c_Long_bitCount_95d88 22 = .ok (.ladd, 1) := by decide +kernel
theorem d_Long_bitCount_95d88_23 : decode c_Long_bitCount_95d88 23 = .ok (.lstore_n 0, 1) := by decide +kernel
theorem d_Long_bitCount_95d88_24 : decode c_Long_bitCount_95d88 24 = .ok (.lload_n 0, 1) := by decide +kernel
theorem d_Long_bitCount_95d88_25 : decode c_Long_bitCount_95d88 25 = .ok (.lload_n 0, 1) := by decide +kernel
theorem d_Long_bitCount_95d88_26 : decode c_Long_bitCount_95d88 26 = .ok (.iconst 4, 1) := by decide +kernel
theorem d_Long_bitCount_95d88_27 : decode c_Long_bitCount_95d88 27 = .ok (.lushr, 1) := by decide +kernel
theorem d_Long_bitCount_95d88_28 : decode c_Long_bitCount_95d88 28 = .ok (.ladd, 1) := by decide +kernel
theorem d_Long_bitCount_95d88_29 : decode c_Long_bitCount_95d88 29 = .ok (.ldc2_w 318, 3) := by decide +kernel
theorem d_Long_bitCount_95d88_32 : decode c_Long_bitCount_95d88 32 = .ok (.land, 1) := by decide +kernel
theorem d_Long_bitCount_95d88_33 : decode c_Long_bitCount_95d88 33 = .ok (.lstore_n 0, 1) := by decide +kernel
theorem d_Long_bitCount_95d88_34 : decode c_Long_bitCount_95d88 34 = .ok (.lload_n 0, 1) := by decide +kernel
theorem d_Long_bitCount_95d88_35 : decode c_Long_bitCount_95d88 35 = .ok (.lload_n 0, 1) := by decide +kernel
theorem d_Long_bitCount_95d88_36 : decode c_Long_bitCount_95d88 36 = .ok (.bipush 8, 2) := by decide +kernel
theorem d_Long_bitCount_95d88_38 : decode c_Long_bitCount_95d88 38 = .ok (.lushr, 1) := by decide +kernel
theorem d_Long_bitCount_95d88_39 : decode c_Long_bitCount_95d88 39 = .ok (.ladd, 1) := by decide +kernel
theorem d_Long_bitCount_95d88_40 : decode c_Long_bitCount_95d88 40 = .ok (.lstore_n 0, 1) := by decide +kernel
theorem d_Long_bitCount_95d88_41 : decode c_Long_bitCount_95d88 41 = .ok (.lload_n 0, 1) := by decide +kernel
theorem d_Long_bitCount_95d88_42 : decode c_Long_bitCount_95d88 42 = .ok (.lload_n 0, 1) := by decide +kernel
theorem d_Long_bitCount_95d88_43 : decode c_Long_bitCount_95d88 43 = .ok (.bipush 16, 2) := by decide +kernel
theorem d_Long_bitCount_95d88_45 : decode c_Long_bitCount_95d88 45 = .ok (.lushr, 1) := by decide +kernel
theorem d_Long_bitCount_95d88_46 : decode c_Long_bitCount_95d88 46 = .ok (.ladd, 1) := by decide +kernel
theorem d_Long_bitCount_95d88_47 : decode c_Long_bitCount_95d88 47 = .ok (.lstore_n 0, 1) := by decide +kernel
theorem d_Long_bitCount_95d88_48 : decode c_Long_bitCount_95d88 48 = .ok (.lload_n 0, 1) := by decide +kernel
theorem d_Long_bitCount_95d88_49 : decode c_Long_bitCount_95d88 49 = .ok (.lload_n 0, 1) := by decide +kernel
theorem d_Long_bitCount_95d88_50 : decode c_Long_bitCount_95d88 50 = .ok (.bipush 32, 2) := by decide +kernel
theorem d_Long_bitCount_95d88_52 : decode c_Long_bitCount_95d88 52 = .ok (.lushr, 1) := by decide +kernel
theorem d_Long_bitCount_95d88_53 : decode c_Long_bitCount_95d88 53 = .ok (.ladd, 1) := by decide +kernel
theorem d_Long_bitCount_95d88_54 : decode c_Long_bitCount_95d88 54 = .ok (.lstore_n 0, 1) := by decide +kernel
theorem d_Long_bitCount_95d88_55 : decode c_Long_bitCount_95d88 55 = .ok (.lload_n 0, 1) := by decide +kernel
theorem d_Long_bitCount_95d88_56 : decode c_Long_bitCount_95d88 56 = .ok (.l2i, 1) := by decide +kernel
theorem d_Long_bitCount_95d88_57 : decode c_Long_bitCount_95d88 57 = .ok (.bipush 127, 2) := by decide +kernel
theorem d_Long_bitCount_95d88_59 : decode c_Long_bitCount_95d88 59 = .ok (.iand, 1) := by decide +kernel
theorem d_Long_bitCount_95d88_60 : decode c_Long_bitCount_95d88 60 = .ok (.ireturn, 1) := by decide +kernel
theorem d_World_yardsWithout_0 : decode c_World_yardsWithout 0 = .ok (.lconst 0, 1) := by decide +kernel
theorem d_World_yardsWithout_1 : decode c_World_yardsWithout 1 = .ok (.lstore_n 3, 1) := by decide +kernel
theorem d_World_yardsWithout_2 : decode c_World_yardsWithout 2 = .ok (.lconst 0, 1) := by decide +kernel
theorem d_World_yardsWithout_3 : decode c_World_yardsWithout 3 = .ok (.lstore 5, 2) := by decide +kernel
theorem d_World_yardsWithout_5 : decode c_World_yardsWithout 5 = .ok (.iconst 0, 1) := by decide +kernel
theorem d_World_yardsWithout_6 : decode c_World_yardsWithout 6 = .ok (.istore 7, 2) := by decide +kernel
theorem d_World_yardsWithout_8 : decode c_World_yardsWithout 8 = .ok (.iload 7, 2) := by decide +kernel
theorem d_World_yardsWithout_10 : decode c_World_yardsWithout 10 = .ok (.aload_n 0, 1) := by decide +kernel
theorem d_World_yardsWithout_11 : decode c_World_yardsWithout 11 = .ok (.getfield 105, 3) := by decide +kernel
theorem d_World_yardsWithout_14 : decode c_World_yardsWithout 14 = .ok (.if_icmp .ge 68, 3) := by decide +kernel
theorem d_World_yardsWithout_17 : decode c_World_yardsWithout 17 = .ok (.aload_n 0, 1) := by decide +kernel
theorem d_World_yardsWithout_18 : decode c_World_yardsWithout 18 = .ok (.getfield 24, 3) := by decide +kernel
theorem d_World_yardsWithout_21 : decode c_World_yardsWithout 21 = .ok (.iload 7, 2) := by decide +kernel
theorem d_World_yardsWithout_23 : decode c_World_yardsWithout 23 = .ok (.iaload, 1) := by decide +kernel
theorem d_World_yardsWithout_24 : decode c_World_yardsWithout 24 = .ok (.istore 8, 2) := by decide +kernel
theorem d_World_yardsWithout_26 : decode c_World_yardsWithout 26 = .ok (.iload_n 2, 1) := by decide +kernel
theorem d_World_yardsWithout_27 : decode c_World_yardsWithout 27 = .ok (.iload 8, 2) := by decide +kernel
theorem d_World_yardsWithout_29 : decode c_World_yardsWithout 29 = .ok (.ishr, 1) := by decide +kernel
theorem d_World_yardsWithout_30 : decode c_World_yardsWithout 30 = .ok (.iconst 1, 1) := by decide +kernel
theorem d_World_yardsWithout_31 : decode c_World_yardsWithout 31 = .ok (.iand, 1) := by decide +kernel
theorem d_World_yardsWithout_32 : decode c_World_yardsWithout 32 = .ok (.ifCond .ne 44, 3) := by decide +kernel
theorem d_World_yardsWithout_35 : decode c_World_yardsWithout 35 = .ok (.aload_n 0, 1) := by decide +kernel
theorem d_World_yardsWithout_36 : decode c_World_yardsWithout 36 = .ok (.getfield 27, 3) := by decide +kernel
theorem d_World_yardsWithout_39 : decode c_World_yardsWithout 39 = .ok (.iload 8, 2) := by decide +kernel
theorem d_World_yardsWithout_41 : decode c_World_yardsWithout 41 = .ok (.laload, 1) := by decide +kernel
theorem d_World_yardsWithout_42 : decode c_World_yardsWithout 42 = .ok (.lload_n 3, 1) := by decide +kernel
theorem d_World_yardsWithout_43 : decode c_World_yardsWithout 43 = .ok (.ldc2_w 115, 3) := by decide +kernel
theorem d_World_yardsWithout_46 : decode c_World_yardsWithout 46 = .ok (.lxor, 1) := by decide +kernel
theorem d_World_yardsWithout_47 : decode c_World_yardsWithout 47 = .ok (.land, 1) := by decide +kernel
theorem d_World_yardsWithout_48 : decode c_World_yardsWithout 48 = .ok (.lstore 9, 2) := by decide +kernel
theorem d_World_yardsWithout_50 : decode c_World_yardsWithout 50 = .ok (.lload_n 3, 1) := by decide +kernel
theorem d_World_yardsWithout_51 : decode c_World_yardsWithout 51 = .ok (.lload 9, 2) := by decide +kernel
theorem d_World_yardsWithout_53 : decode c_World_yardsWithout 53 = .ok (.lor, 1) := by decide +kernel
theorem d_World_yardsWithout_54 : decode c_World_yardsWithout 54 = .ok (.lstore_n 3, 1) := by decide +kernel
theorem d_World_yardsWithout_55 : decode c_World_yardsWithout 55 = .ok (.aload_n 0, 1) := by decide +kernel
theorem d_World_yardsWithout_56 : decode c_World_yardsWithout 56 = .ok (.getfield 11, 3) := by decide +kernel
theorem d_World_yardsWithout_59 : decode c_World_yardsWithout 59 = .ok (.iload 8, 2) := by decide +kernel
theorem d_World_yardsWithout_61 : decode c_World_yardsWithout 61 = .ok (.aaload, 1) := by decide +kernel
theorem d_World_yardsWithout_62 : decode c_World_yardsWithout 62 = .ok (.getfield 86, 3) := by decide +kernel
theorem d_World_yardsWithout_65 : decode c_World_yardsWithout 65 = .ok (.iload_n 1, 1) := by decide +kernel
theorem d_World_yardsWithout_66 : decode c_World_yardsWithout 66 = .ok (.if_icmp .ne 10, 3) := by decide +kernel
theorem d_World_yardsWithout_69 : decode c_World_yardsWithout 69 = .ok (.lload 5, 2) := by decide +kernel
theorem d_World_yardsWithout_71 : decode c_World_yardsWithout 71 = .ok (.lload 9, 2) := by decide +kernel
theorem d_World_yardsWithout_73 : decode c_World_yardsWithout 73 = .ok (.lor, 1) := by decide +kernel
theorem d_World_yardsWithout_74 : decode c_World_yardsWithout 74 = .ok (.lstore 5, 2) := by decide +kernel
theorem d_World_yardsWithout_76 : decode c_World_yardsWithout 76 = .ok (.iinc 7 1, 3) := by decide +kernel
theorem d_World_yardsWithout_79 : decode c_World_yardsWithout 79 = .ok (.goto (-71), 3) := by decide +kernel
theorem d_World_yardsWithout_82 : decode c_World_yardsWithout 82 = .ok (.iload_n 1, 1) := by decide +kernel
theorem d_World_yardsWithout_83 : decode c_World_yardsWithout 83 = .ok (.iconst (-1), 1) := by decide +kernel
theorem d_World_yardsWithout_84 : decode c_World_yardsWithout 84 = .ok (.if_icmp .ne 13, 3) := by decide +kernel
theorem d_World_yardsWithout_87 : decode c_World_yardsWithout 87 = .ok (.bipush 40, 2) := by decide +kernel
theorem d_World_yardsWithout_89 : decode c_World_yardsWithout 89 = .ok (.lload_n 3, 1) := by decide +kernel
theorem d_World_yardsWithout_90 : decode c_World_yardsWithout 90 = .ok (.invokestatic 117, 3) := by decide +kernel
theorem d_World_yardsWithout_93 : decode c_World_yardsWithout 93 = .ok (.isub, 1) := by decide +kernel
theorem d_World_yardsWithout_94 : decode c_World_yardsWithout 94 = .ok (.goto 8, 3) := by decide +kernel
theorem d_World_yardsWithout_97 : decode c_World_yardsWithout 97 = .ok (.lload 5, 2) := by decide +kernel
theorem d_World_yardsWithout_99 : decode c_World_yardsWithout 99 = .ok (.invokestatic 117, 3) := by decide +kernel
theorem d_World_yardsWithout_102 : decode c_World_yardsWithout 102 = .ok (.ireturn, 1) := by decide +kernel
theorem d_World_yardsOf_0 : decode c_World_yardsOf 0 = .ok (.aload_n 0, 1) := by decide +kernel
theorem d_World_yardsOf_1 : decode c_World_yardsOf 1 = .ok (.invokevirtual 99, 3) := by decide +kernel
theorem d_World_yardsOf_4 : decode c_World_yardsOf 4 = .ok (.aload_n 0, 1) := by decide +kernel
theorem d_World_yardsOf_5 : decode c_World_yardsOf 5 = .ok (.iload_n 1, 1) := by decide +kernel
theorem d_World_yardsOf_6 : decode c_World_yardsOf 6 = .ok (.iconst 0, 1) := by decide +kernel
theorem d_World_yardsOf_7 : decode c_World_yardsOf 7 = .ok (.invokevirtual 102, 3) := by decide +kernel
theorem d_World_yardsOf_10 : decode c_World_yardsOf 10 = .ok (.ireturn, 1) := by decide +kernel
theorem d_X_within_0 : decode c_X_within 0 = .ok (.iload_n 0, 1) := by decide +kernel
theorem d_X_within_1 : decode c_X_within 1 = .ok (.iload_n 1, 1) := by decide +kernel
theorem d_X_within_2 : decode c_X_within 2 = .ok (.if_icmp .lt 12, 3) := by decide +kernel
theorem d_X_within_5 : decode c_X_within 5 = .ok (.iload_n 0, 1) := by decide +kernel
theorem d_X_within_6 : decode c_X_within 6 = .ok (.iload_n 2, 1) := by decide +kernel
theorem d_X_within_7 : decode c_X_within 7 = .ok (.if_icmp .gt 7, 3) := by decide +kernel
theorem d_X_within_10 : decode c_X_within 10 = .ok (.iconst 1, 1) := by decide +kernel
theorem d_X_within_11 : decode c_X_within 11 = .ok (.goto 4, 3) := by decide +kernel
theorem d_X_within_14 : decode c_X_within 14 = .ok (.iconst 0, 1) := by decide +kernel
theorem d_X_within_15 : decode c_X_within 15 = .ok (.ireturn, 1) := by decide +kernel
theorem d_X_found_0 : decode c_X_found 0 = .ok (.ldc 89, 2) := by decide +kernel
theorem d_X_found_2 : decode c_X_found 2 = .ok (.iload_n 1, 1) := by decide +kernel
theorem d_X_found_3 : decode c_X_found 3 = .ok (.isub, 1) := by decide +kernel
theorem d_X_found_4 : decode c_X_found 4 = .ok (.istore_n 2, 1) := by decide +kernel
theorem d_X_found_5 : decode c_X_found 5 = .ok (.iload_n 2, 1) := by decide +kernel
theorem d_X_found_6 : decode c_X_found 6 = .ok (.iconst 0, 1) := by decide +kernel
theorem d_X_found_7 : decode c_X_found 7 = .ok (.bipush 6, 2) := by decide +kernel
theorem d_X_found_9 : decode c_X_found 9 = .ok (.invokestatic 85, 3) := by decide +kernel
theorem d_X_found_12 : decode c_X_found 12 = .ok (.ifCond .eq 13, 3) := by decide +kernel
theorem d_X_found_15 : decode c_X_found 15 = .ok (.aload_n 0, 1) := by decide +kernel
theorem d_X_found_16 : decode c_X_found 16 = .ok (.getfield 81, 3) := by decide +kernel
theorem d_X_found_19 : decode c_X_found 19 = .ok (.iload_n 2, 1) := by decide +kernel
theorem d_X_found_20 : decode c_X_found 20 = .ok (.dup2, 1) := by decide +kernel
theorem d_X_found_21 : decode c_X_found 21 = .ok (.iaload, 1) := by decide +kernel
theorem d_X_found_22 : decode c_X_found 22 = .ok (.iconst 1, 1) := by decide +kernel
theorem d_X_found_23 : decode c_X_found 23 = .ok (.iadd, 1) := by decide +kernel
theorem d_X_found_24 : decode c_X_found 24 = .ok (.iastore, 1) := by decide +kernel
theorem d_X_found_25 : decode c_X_found 25 = .ok (.iload_n 1, 1) := by decide +kernel
theorem d_X_found_26 : decode c_X_found 26 = .ok (.ireturn, 1) := by decide +kernel
theorem d_X_rain_0 : decode c_X_rain 0 = .ok (.iload_n 1, 1) := by decide +kernel
theorem d_X_rain_1 : decode c_X_rain 1 = .ok (.iconst 0, 1) := by decide +kernel
theorem d_X_rain_2 : decode c_X_rain 2 = .ok (.bipush 6, 2) := by decide +kernel
theorem d_X_rain_4 : decode c_X_rain 4 = .ok (.invokestatic 85, 3) := by decide +kernel
theorem d_X_rain_7 : decode c_X_rain 7 = .ok (.ifCond .eq 12, 3) := by decide +kernel
theorem d_X_rain_10 : decode c_X_rain 10 = .ok (.iload_n 2, 1) := by decide +kernel
theorem d_X_rain_11 : decode c_X_rain 11 = .ok (.iconst 0, 1) := by decide +kernel
theorem d_X_rain_12 : decode c_X_rain 12 = .ok (.iconst 1, 1) := by decide +kernel
theorem d_X_rain_13 : decode c_X_rain 13 = .ok (.invokestatic 85, 3) := by decide +kernel
theorem d_X_rain_16 : decode c_X_rain 16 = .ok (.ifCond .ne 10, 3) := by decide +kernel
theorem d_X_rain_19 : decode c_X_rain 19 = .ok (.aload_n 0, 1) := by decide +kernel
theorem d_X_rain_20 : decode c_X_rain 20 = .ok (.ldc 89, 2) := by decide +kernel
theorem d_X_rain_22 : decode c_X_rain 22 = .ok (.invokevirtual 90, 3) := by decide +kernel
theorem d_X_rain_25 : decode c_X_rain 25 = .ok (.ireturn, 1) := by decide +kernel
theorem d_X_rain_26 : decode c_X_rain 26 = .ok (.aload_n 0, 1) := by decide +kernel
theorem d_X_rain_27 : decode c_X_rain 27 = .ok (.getfield 50, 3) := by decide +kernel
theorem d_X_rain_30 : decode c_X_rain 30 = .ok (.getfield 94, 3) := by decide +kernel
theorem d_X_rain_33 : decode c_X_rain 33 = .ok (.iload_n 1, 1) := by decide +kernel
theorem d_X_rain_34 : decode c_X_rain 34 = .ok (.iaload, 1) := by decide +kernel
theorem d_X_rain_35 : decode c_X_rain 35 = .ok (.istore_n 3, 1) := by decide +kernel
theorem d_X_rain_36 : decode c_X_rain 36 = .ok (.aload_n 0, 1) := by decide +kernel
theorem d_X_rain_37 : decode c_X_rain 37 = .ok (.getfield 50, 3) := by decide +kernel
theorem d_X_rain_40 : decode c_X_rain 40 = .ok (.getfield 94, 3) := by decide +kernel
theorem d_X_rain_43 : decode c_X_rain 43 = .ok (.iload_n 1, 1) := by decide +kernel
theorem d_X_rain_44 : decode c_X_rain 44 = .ok (.iload_n 2, 1) := by decide +kernel
theorem d_X_rain_45 : decode c_X_rain 45 = .ok (.iastore, 1) := by decide +kernel
theorem d_X_rain_46 : decode c_X_rain 46 = .ok (.iload_n 3, 1) := by decide +kernel
theorem d_X_rain_47 : decode c_X_rain 47 = .ok (.ireturn, 1) := by decide +kernel
theorem d_X_yard_0 : decode c_X_yard 0 = .ok (.iload_n 1, 1) := by decide +kernel
theorem d_X_yard_1 : decode c_X_yard 1 = .ok (.iconst 0, 1) := by decide +kernel
theorem d_X_yard_2 : decode c_X_yard 2 = .ok (.bipush 39, 2) := by decide +kernel
theorem d_X_yard_4 : decode c_X_yard 4 = .ok (.invokestatic 85, 3) := by decide +kernel
theorem d_X_yard_7 : decode c_X_yard 7 = .ok (.ifCond .eq 12, 3) := by decide +kernel
theorem d_X_yard_10 : decode c_X_yard 10 = .ok (.iload_n 2, 1) := by decide +kernel
theorem d_X_yard_11 : decode c_X_yard 11 = .ok (.iconst 0, 1) := by decide +kernel
theorem d_X_yard_12 : decode c_X_yard 12 = .ok (.iconst 2, 1) := by decide +kernel
theorem d_X_yard_13 : decode c_X_yard 13 = .ok (.invokestatic 85, 3) := by decide +kernel
theorem d_X_yard_16 : decode c_X_yard 16 = .ok (.ifCond .ne 10, 3) := by decide +kernel
theorem d_X_yard_19 : decode c_X_yard 19 = .ok (.aload_n 0, 1) := by decide +kernel
theorem d_X_yard_20 : decode c_X_yard 20 = .ok (.ldc 89, 2) := by decide +kernel
theorem d_X_yard_22 : decode c_X_yard 22 = .ok (.invokevirtual 90, 3) := by decide +kernel
theorem d_X_yard_25 : decode c_X_yard 25 = .ok (.ireturn, 1) := by decide +kernel
theorem d_X_yard_26 : decode c_X_yard 26 = .ok (.iload_n 2, 1) := by decide +kernel
theorem d_X_yard_27 : decode c_X_yard 27 = .ok (.ifCond .ne 12, 3) := by decide +kernel
theorem d_X_yard_30 : decode c_X_yard 30 = .ok (.aload_n 0, 1) := by decide +kernel
theorem d_X_yard_31 : decode c_X_yard 31 = .ok (.getfield 50, 3) := by decide +kernel
theorem d_X_yard_34 : decode c_X_yard 34 = .ok (.iload_n 1, 1) := by decide +kernel
theorem d_X_yard_35 : decode c_X_yard 35 = .ok (.invokevirtual 97, 3) := by decide +kernel
theorem d_X_yard_38 : decode c_X_yard 38 = .ok (.ireturn, 1) := by decide +kernel
theorem d_X_yard_39 : decode c_X_yard 39 = .ok (.iload_n 2, 1) := by decide +kernel
theorem d_X_yard_40 : decode c_X_yard 40 = .ok (.iconst 1, 1) := by decide +kernel
theorem d_X_yard_41 : decode c_X_yard 41 = .ok (.if_icmp .ne 14, 3) := by decide +kernel
theorem d_X_yard_44 : decode c_X_yard 44 = .ok (.aload_n 0, 1) := by decide +kernel
theorem d_X_yard_45 : decode c_X_yard 45 = .ok (.getfield 50, 3) := by decide +kernel
theorem d_X_yard_48 : decode c_X_yard 48 = .ok (.iload_n 1, 1) := by decide +kernel
theorem d_X_yard_49 : decode c_X_yard 49 = .ok (.invokevirtual 100, 3) := by decide +kernel
theorem d_X_yard_52 : decode c_X_yard 52 = .ok (.goto 11, 3) := by decide +kernel
theorem d_X_yard_55 : decode c_X_yard 55 = .ok (.aload_n 0, 1) := by decide +kernel
theorem d_X_yard_56 : decode c_X_yard 56 = .ok (.getfield 50, 3) := by decide +kernel
theorem d_X_yard_59 : decode c_X_yard 59 = .ok (.iload_n 1, 1) := by decide +kernel
theorem d_X_yard_60 : decode c_X_yard 60 = .ok (.invokevirtual 103, 3) := by decide +kernel
theorem d_X_yard_63 : decode c_X_yard 63 = .ok (.ireturn, 1) := by decide +kernel
theorem d_X_owns_0 : decode c_X_owns 0 = .ok (.iload_n 1, 1) := by decide +kernel
theorem d_X_owns_1 : decode c_X_owns 1 = .ok (.iconst (-1), 1) := by decide +kernel
theorem d_X_owns_2 : decode c_X_owns 2 = .ok (.iconst 3, 1) := by decide +kernel
theorem d_X_owns_3 : decode c_X_owns 3 = .ok (.invokestatic 85, 3) := by decide +kernel
theorem d_X_owns_6 : decode c_X_owns 6 = .ok (.ifCond .ne 10, 3) := by decide +kernel
theorem d_X_owns_9 : decode c_X_owns 9 = .ok (.aload_n 0, 1) := by decide +kernel
theorem d_X_owns_10 : decode c_X_owns 10 = .ok (.ldc 89, 2) := by decide +kernel
theorem d_X_owns_12 : decode c_X_owns 12 = .ok (.invokevirtual 90, 3) := by decide +kernel
theorem d_X_owns_15 : decode c_X_owns 15 = .ok (.ireturn, 1) := by decide +kernel
theorem d_X_owns_16 : decode c_X_owns 16 = .ok (.aload_n 0, 1) := by decide +kernel
theorem d_X_owns_17 : decode c_X_owns 17 = .ok (.getfield 50, 3) := by decide +kernel
theorem d_X_owns_20 : decode c_X_owns 20 = .ok (.iload_n 1, 1) := by decide +kernel
theorem d_X_owns_21 : decode c_X_owns 21 = .ok (.invokevirtual 106, 3) := by decide +kernel
theorem d_X_owns_24 : decode c_X_owns 24 = .ok (.ireturn, 1) := by decide +kernel
theorem d_X_borders_0 : decode c_X_borders 0 = .ok (.iconst 0, 1) := by decide +kernel
theorem d_X_borders_1 : decode c_X_borders 1 = .ok (.istore_n 1, 1) := by decide +kernel
theorem d_X_borders_2 : decode c_X_borders 2 = .ok (.iconst 0, 1) := by decide +kernel
theorem d_X_borders_3 : decode c_X_borders 3 = .ok (.istore_n 2, 1) := by decide +kernel
theorem d_X_borders_4 : decode c_X_borders 4 = .ok (.iload_n 2, 1) := by decide +kernel
theorem d_X_borders_5 : decode c_X_borders 5 = .ok (.bipush 39, 2) := by decide +kernel
theorem d_X_borders_7 : decode c_X_borders 7 = .ok (.if_icmp .ge 33, 3) := by decide +kernel
theorem d_X_borders_10 : decode c_X_borders 10 = .ok (.aload_n 0, 1) := by decide +kernel
theorem d_X_borders_11 : decode c_X_borders 11 = .ok (.getfield 50, 3) := by decide +kernel
theorem d_X_borders_14 : decode c_X_borders 14 = .ok (.iload_n 2, 1) := by decide +kernel
theorem d_X_borders_15 : decode c_X_borders 15 = .ok (.invokevirtual 97, 3) := by decide +kernel
theorem d_X_borders_18 : decode c_X_borders 18 = .ok (.aload_n 0, 1) := by decide +kernel
theorem d_X_borders_19 : decode c_X_borders 19 = .ok (.getfield 50, 3) := by decide +kernel
theorem d_X_borders_22 : decode c_X_borders 22 = .ok (.iload_n 2, 1) := by decide +kernel
theorem d_X_borders_23 : decode c_X_borders 23 = .ok (.iconst 1, 1) := by decide +kernel
theorem d_X_borders_24 : decode c_X_borders 24 = .ok (.iadd, 1) := by decide +kernel
theorem d_X_borders_25 : decode c_X_borders 25 = .ok (.invokevirtual 97, 3) := by decide +kernel
theorem d_X_borders_28 : decode c_X_borders 28 = .ok (.if_icmp .eq 6, 3) := by decide +kernel
theorem d_X_borders_31 : decode c_X_borders 31 = .ok (.iinc 1 1, 3) := by decide +kernel
theorem d_X_borders_34 : decode c_X_borders 34 = .ok (.iinc 2 1, 3) := by decide +kernel
theorem d_X_borders_37 : decode c_X_borders 37 = .ok (.goto (-33), 3) := by decide +kernel
theorem d_X_borders_40 : decode c_X_borders 40 = .ok (.iload_n 1, 1) := by decide +kernel
theorem d_X_borders_41 : decode c_X_borders 41 = .ok (.ireturn, 1) := by decide +kernel
theorem d_X_walk_0 : decode c_X_walk 0 = .ok (.iload_n 1, 1) := by decide +kernel
theorem d_X_walk_1 : decode c_X_walk 1 = .ok (.iconst 0, 1) := by decide +kernel
theorem d_X_walk_2 : decode c_X_walk 2 = .ok (.bipush 39, 2) := by decide +kernel
theorem d_X_walk_4 : decode c_X_walk 4 = .ok (.invokestatic 85, 3) := by decide +kernel
theorem d_X_walk_7 : decode c_X_walk 7 = .ok (.ifCond .ne 10, 3) := by decide +kernel
theorem d_X_walk_10 : decode c_X_walk 10 = .ok (.aload_n 0, 1) := by decide +kernel
theorem d_X_walk_11 : decode c_X_walk 11 = .ok (.ldc 89, 2) := by decide +kernel
theorem d_X_walk_13 : decode c_X_walk 13 = .ok (.invokevirtual 90, 3) := by decide +kernel
theorem d_X_walk_16 : decode c_X_walk 16 = .ok (.ireturn, 1) := by decide +kernel
theorem d_X_walk_17 : decode c_X_walk 17 = .ok (.aload_n 0, 1) := by decide +kernel
theorem d_X_walk_18 : decode c_X_walk 18 = .ok (.getfield 50, 3) := by decide +kernel
theorem d_X_walk_21 : decode c_X_walk 21 = .ok (.iload_n 1, 1) := by decide +kernel
theorem d_X_walk_22 : decode c_X_walk 22 = .ok (.invokevirtual 97, 3) := by decide +kernel
theorem d_X_walk_25 : decode c_X_walk 25 = .ok (.istore_n 2, 1) := by decide +kernel
theorem d_X_walk_26 : decode c_X_walk 26 = .ok (.iload_n 1, 1) := by decide +kernel
theorem d_X_walk_27 : decode c_X_walk 27 = .ok (.istore_n 3, 1) := by decide +kernel
theorem d_X_walk_28 : decode c_X_walk 28 = .ok (.iload_n 3, 1) := by decide +kernel
theorem d_X_walk_29 : decode c_X_walk 29 = .ok (.bipush 39, 2) := by decide +kernel
theorem d_X_walk_31 : decode c_X_walk 31 = .ok (.if_icmp .ge 23, 3) := by decide +kernel
theorem d_X_walk_34 : decode c_X_walk 34 = .ok (.aload_n 0, 1) := by decide +kernel
theorem d_X_walk_35 : decode c_X_walk 35 = .ok (.getfield 50, 3) := by decide +kernel
theorem d_X_walk_38 : decode c_X_walk 38 = .ok (.iload_n 3, 1) := by decide +kernel
theorem d_X_walk_39 : decode c_X_walk 39 = .ok (.iconst 1, 1) := by decide +kernel
theorem d_X_walk_40 : decode c_X_walk 40 = .ok (.iadd, 1) := by decide +kernel
theorem d_X_walk_41 : decode c_X_walk 41 = .ok (.invokevirtual 97, 3) := by decide +kernel
theorem d_X_walk_44 : decode c_X_walk 44 = .ok (.iload_n 2, 1) := by decide +kernel
theorem d_X_walk_45 : decode c_X_walk 45 = .ok (.if_icmp .ne 9, 3) := by decide +kernel
theorem d_X_walk_48 : decode c_X_walk 48 = .ok (.iinc 3 1, 3) := by decide +kernel
theorem d_X_walk_51 : decode c_X_walk 51 = .ok (.goto (-23), 3) := by decide +kernel
theorem d_X_walk_54 : decode c_X_walk 54 = .ok (.iload_n 1, 1) := by decide +kernel
theorem d_X_walk_55 : decode c_X_walk 55 = .ok (.istore 4, 2) := by decide +kernel
theorem d_X_walk_57 : decode c_X_walk 57 = .ok (.iload 4, 2) := by decide +kernel
theorem d_X_walk_59 : decode c_X_walk 59 = .ok (.ifCond .le 24, 3) := by decide +kernel
theorem d_X_walk_62 : decode c_X_walk 62 = .ok (.aload_n 0, 1) := by decide +kernel
theorem d_X_walk_63 : decode c_X_walk 63 = .ok (.getfield 50, 3) := by decide +kernel
theorem d_X_walk_66 : decode c_X_walk 66 = .ok (.iload 4, 2) := by decide +kernel
theorem d_X_walk_68 : decode c_X_walk 68 = .ok (.iconst 1, 1) := by decide +kernel
theorem d_X_walk_69 : decode c_X_walk 69 = .ok (.isub, 1) := by decide +kernel
theorem d_X_walk_70 : decode c_X_walk 70 = .ok (.invokevirtual 97, 3) := by decide +kernel
theorem d_X_walk_73 : decode c_X_walk 73 = .ok (.iload_n 2, 1) := by decide +kernel
theorem d_X_walk_74 : decode c_X_walk 74 = .ok (.if_icmp .ne 9, 3) := by decide +kernel
theorem d_X_walk_77 : decode c_X_walk 77 = .ok (.iinc 4 (-1), 3) := by decide +kernel
theorem d_X_walk_80 : decode c_X_walk 80 = .ok (.goto (-23), 3) := by decide +kernel
theorem d_X_walk_83 : decode c_X_walk 83 = .ok (.iload_n 3, 1) := by decide +kernel
theorem d_X_walk_84 : decode c_X_walk 84 = .ok (.iload 4, 2) := by decide +kernel
theorem d_X_walk_86 : decode c_X_walk 86 = .ok (.isub, 1) := by decide +kernel
theorem d_X_walk_87 : decode c_X_walk 87 = .ok (.iconst 1, 1) := by decide +kernel
theorem d_X_walk_88 : decode c_X_walk 88 = .ok (.iadd, 1) := by decide +kernel
theorem d_X_walk_89 : decode c_X_walk 89 = .ok (.ireturn, 1) := by decide +kernel
theorem d_X_now_0 : decode c_X_now 0 = .ok (.iload_n 1, 1) := by decide +kernel
theorem d_X_now_1 : decode c_X_now 1 = .ok (.tableswitch 76 0 4 #[35, 43, 52, 60, 68], 35) := by decide +kernel
theorem d_X_now_36 : decode c_X_now 36 = .ok (.aload_n 0, 1) := by decide +kernel
theorem d_X_now_37 : decode c_X_now 37 = .ok (.getfield 50, 3) := by decide +kernel
theorem d_X_now_40 : decode c_X_now 40 = .ok (.getfield 109, 3) := by decide +kernel
theorem d_X_now_43 : decode c_X_now 43 = .ok (.ireturn, 1) := by decide +kernel
theorem d_X_now_44 : decode c_X_now 44 = .ok (.aload_n 0, 1) := by decide +kernel
theorem d_X_now_45 : decode c_X_now 45 = .ok (.getfield 50, 3) := by decide +kernel
theorem d_X_now_48 : decode c_X_now 48 = .ok (.iconst 0, 1) := by decide +kernel
theorem d_X_now_49 : decode c_X_now 49 = .ok (.invokevirtual 113, 3) := by decide +kernel
theorem d_X_now_52 : decode c_X_now 52 = .ok (.ireturn, 1) := by decide +kernel
theorem d_X_now_53 : decode c_X_now 53 = .ok (.aload_n 0, 1) := by decide +kernel
theorem d_X_now_54 : decode c_X_now 54 = .ok (.getfield 50, 3) := by decide +kernel
theorem d_X_now_57 : decode c_X_now 57 = .ok (.getfield 116, 3) := by decide +kernel
theorem d_X_now_60 : decode c_X_now 60 = .ok (.ireturn, 1) := by decide +kernel
theorem d_X_now_61 : decode c_X_now 61 = .ok (.aload_n 0, 1) := by decide +kernel
theorem d_X_now_62 : decode c_X_now 62 = .ok (.getfield 50, 3) := by decide +kernel
theorem d_X_now_65 : decode c_X_now 65 = .ok (.invokevirtual 119, 3) := by decide +kernel
theorem d_X_now_68 : decode c_X_now 68 = .ok (.ireturn, 1) := by decide +kernel
theorem d_X_now_69 : decode c_X_now 69 = .ok (.aload_n 0, 1) := by decide +kernel
theorem d_X_now_70 : decode c_X_now 70 = .ok (.getfield 50, 3) := by decide +kernel
theorem d_X_now_73 : decode c_X_now 73 = .ok (.invokevirtual 123, 3) := by decide +kernel
theorem d_X_now_76 : decode c_X_now 76 = .ok (.ireturn, 1) := by decide +kernel
theorem d_X_now_77 : decode c_X_now 77 = .ok (.aload_n 0, 1) := by decide +kernel
theorem d_X_now_78 : decode c_X_now 78 = .ok (.ldc 89, 2) := by decide +kernel
theorem d_X_now_80 : decode c_X_now 80 = .ok (.invokevirtual 90, 3) := by decide +kernel
theorem d_X_now_83 : decode c_X_now 83 = .ok (.ireturn, 1) := by decide +kernel
theorem d_X_carpet_0 : decode c_X_carpet 0 = .ok (.iload_n 1, 1) := by decide +kernel
theorem d_X_carpet_1 : decode c_X_carpet 1 = .ok (.iconst 0, 1) := by decide +kernel
theorem d_X_carpet_2 : decode c_X_carpet 2 = .ok (.iconst 5, 1) := by decide +kernel
theorem d_X_carpet_3 : decode c_X_carpet 3 = .ok (.invokestatic 85, 3) := by decide +kernel
theorem d_X_carpet_6 : decode c_X_carpet 6 = .ok (.ifCond .eq 12, 3) := by decide +kernel
theorem d_X_carpet_9 : decode c_X_carpet 9 = .ok (.iload_n 2, 1) := by decide +kernel
theorem d_X_carpet_10 : decode c_X_carpet 10 = .ok (.iconst 0, 1) := by decide +kernel
theorem d_X_carpet_11 : decode c_X_carpet 11 = .ok (.iconst 3, 1) := by decide +kernel
theorem d_X_carpet_12 : decode c_X_carpet 12 = .ok (.invokestatic 85, 3) := by decide +kernel
theorem d_X_carpet_15 : decode c_X_carpet 15 = .ok (.ifCond .ne 10, 3) := by decide +kernel
theorem d_X_carpet_18 : decode c_X_carpet 18 = .ok (.aload_n 0, 1) := by decide +kernel
theorem d_X_carpet_19 : decode c_X_carpet 19 = .ok (.ldc 89, 2) := by decide +kernel
theorem d_X_carpet_21 : decode c_X_carpet 21 = .ok (.invokevirtual 90, 3) := by decide +kernel
theorem d_X_carpet_24 : decode c_X_carpet 24 = .ok (.ireturn, 1) := by decide +kernel
theorem d_X_carpet_25 : decode c_X_carpet 25 = .ok (.aload_n 0, 1) := by decide +kernel
theorem d_X_carpet_26 : decode c_X_carpet 26 = .ok (.getfield 50, 3) := by decide +kernel
theorem d_X_carpet_29 : decode c_X_carpet 29 = .ok (.aload_n 0, 1) := by decide +kernel
theorem d_X_carpet_30 : decode c_X_carpet 30 = .ok (.getfield 41, 3) := by decide +kernel
theorem d_X_carpet_33 : decode c_X_carpet 33 = .ok (.iload_n 1, 1) := by decide +kernel
theorem d_X_carpet_34 : decode c_X_carpet 34 = .ok (.aaload, 1) := by decide +kernel
theorem d_X_carpet_35 : decode c_X_carpet 35 = .ok (.iload_n 2, 1) := by decide +kernel
theorem d_X_carpet_36 : decode c_X_carpet 36 = .ok (.invokevirtual 126, 3) := by decide +kernel
theorem d_X_carpet_39 : decode c_X_carpet 39 = .ok (.istore_n 3, 1) := by decide +kernel
theorem d_X_carpet_40 : decode c_X_carpet 40 = .ok (.iload_n 3, 1) := by decide +kernel
theorem d_X_carpet_41 : decode c_X_carpet 41 = .ok (.ifCond .ge 12, 3) := by decide +kernel
theorem d_X_carpet_44 : decode c_X_carpet 44 = .ok (.aload_n 0, 1) := by decide +kernel
theorem d_X_carpet_45 : decode c_X_carpet 45 = .ok (.ldc 130, 2) := by decide +kernel
theorem d_X_carpet_47 : decode c_X_carpet 47 = .ok (.invokevirtual 90, 3) := by decide +kernel
theorem d_X_carpet_50 : decode c_X_carpet 50 = .ok (.goto 4, 3) := by decide +kernel
theorem d_X_carpet_53 : decode c_X_carpet 53 = .ok (.iload_n 3, 1) := by decide +kernel
theorem d_X_carpet_54 : decode c_X_carpet 54 = .ok (.ireturn, 1) := by decide +kernel
theorem d_X_isRug_0 : decode c_X_isRug 0 = .ok (.iload_n 1, 1) := by decide +kernel
theorem d_X_isRug_1 : decode c_X_isRug 1 = .ok (.iconst 0, 1) := by decide +kernel
theorem d_X_isRug_2 : decode c_X_isRug 2 = .ok (.aload_n 0, 1) := by decide +kernel
theorem d_X_isRug_3 : decode c_X_isRug 3 = .ok (.getfield 50, 3) := by decide +kernel
theorem d_X_isRug_6 : decode c_X_isRug 6 = .ok (.getfield 235, 3) := by decide +kernel
theorem d_X_isRug_9 : decode c_X_isRug 9 = .ok (.iconst 1, 1) := by decide +kernel
theorem d_X_isRug_10 : decode c_X_isRug 10 = .ok (.isub, 1) := by decide +kernel
theorem d_X_isRug_11 : decode c_X_isRug 11 = .ok (.invokestatic 85, 3) := by decide +kernel
theorem d_X_isRug_14 : decode c_X_isRug 14 = .ok (.ireturn, 1) := by decide +kernel
theorem d_X_of_0 : decode c_X_of 0 = .ok (.aload_n 0, 1) := by decide +kernel
theorem d_X_of_1 : decode c_X_of 1 = .ok (.iload_n 1, 1) := by decide +kernel
theorem d_X_of_2 : decode c_X_of 2 = .ok (.invokevirtual 131, 3) := by decide +kernel
theorem d_X_of_5 : decode c_X_of 5 = .ok (.ifCond .ne 10, 3) := by decide +kernel
theorem d_X_of_8 : decode c_X_of 8 = .ok (.aload_n 0, 1) := by decide +kernel
theorem d_X_of_9 : decode c_X_of 9 = .ok (.ldc 89, 2) := by decide +kernel
theorem d_X_of_11 : decode c_X_of 11 = .ok (.invokevirtual 90, 3) := by decide +kernel
theorem d_X_of_14 : decode c_X_of 14 = .ok (.ireturn, 1) := by decide +kernel
theorem d_X_of_15 : decode c_X_of 15 = .ok (.aload_n 0, 1) := by decide +kernel
theorem d_X_of_16 : decode c_X_of 16 = .ok (.getfield 50, 3) := by decide +kernel
theorem d_X_of_19 : decode c_X_of 19 = .ok (.getfield 135, 3) := by decide +kernel
theorem d_X_of_22 : decode c_X_of 22 = .ok (.iload_n 1, 1) := by decide +kernel
theorem d_X_of_23 : decode c_X_of 23 = .ok (.aaload, 1) := by decide +kernel
theorem d_X_of_24 : decode c_X_of 24 = .ok (.astore_n 3, 1) := by decide +kernel
theorem d_X_of_25 : decode c_X_of 25 = .ok (.iload_n 2, 1) := by decide +kernel
theorem d_X_of_26 : decode c_X_of 26 = .ok (.tableswitch 124 0 9 #[54, 62, 62, 62, 62, 68, 73, 82, 99, 115], 54) := by decide +kernel
theorem d_X_of_80 : decode c_X_of 80 = .ok (.aload_n 3, 1) := by decide +kernel
theorem d_X_of_81 : decode c_X_of 81 = .ok (.getfield 139, 3) := by decide +kernel
theorem d_X_of_84 : decode c_X_of 84 = .ok (.getfield 143, 3) := by decide +kernel
theorem d_X_of_87 : decode c_X_of 87 = .ok (.ireturn, 1) := by decide +kernel
theorem d_X_of_88 : decode c_X_of 88 = .ok (.aload_n 3, 1) := by decide +kernel
theorem d_X_of_89 : decode c_X_of 89 = .ok (.iload_n 2, 1) := by decide +kernel
theorem d_X_of_90 : decode c_X_of 90 = .ok (.invokevirtual 146, 3) := by decide +kernel
theorem d_X_of_93 : decode c_X_of 93 = .ok (.ireturn, 1) := by decide +kernel
theorem d_X_of_94 : decode c_X_of 94 = .ok (.aload_n 3, 1) := by decide +kernel
theorem d_X_of_95 : decode c_X_of 95 = .ok (.getfield 149, 3) := by decide +kernel
theorem d_X_of_98 : decode c_X_of 98 = .ok (.ireturn, 1) := by decide +kernel
theorem d_X_of_99 : decode c_X_of 99 = .ok (.aload_n 3, 1) := by decide +kernel
theorem d_X_of_100 : decode c_X_of 100 = .ok (.getfield 139, 3) := by decide +kernel
theorem d_X_of_103 : decode c_X_of 103 = .ok (.aload_n 3, 1) := by decide +kernel
theorem d_X_of_104 : decode c_X_of 104 = .ok (.invokevirtual 152, 3) := by decide +kernel
theorem d_X_of_107 : decode c_X_of 107 = .ok (.ireturn, 1) := by decide +kernel
theorem d_X_of_108 : decode c_X_of 108 = .ok (.aload_n 3, 1) := by decide +kernel
theorem d_X_of_109 : decode c_X_of 109 = .ok (.getfield 139, 3) := by decide +kernel
theorem d_X_of_112 : decode c_X_of 112 = .ok (.aload_n 3, 1) := by decide +kernel
theorem d_X_of_113 : decode c_X_of 113 = .ok (.aload_n 0, 1) := by decide +kernel
theorem d_X_of_114 : decode c_X_of 114 = .ok (.getfield 50, 3) := by decide +kernel
theorem d_X_of_117 : decode c_X_of 117 = .ok (.iconst 0, 1) := by decide +kernel
theorem d_X_of_118 : decode c_X_of 118 = .ok (.invokevirtual 113, 3) := by decide +kernel
theorem d_X_of_121 : decode c_X_of 121 = .ok (.invokevirtual 156, 3) := by decide +kernel
theorem d_X_of_124 : decode c_X_of 124 = .ok (.ireturn, 1) := by decide +kernel
theorem d_X_of_125 : decode c_X_of 125 = .ok (.aload_n 3, 1) := by decide +kernel
theorem d_X_of_126 : decode c_X_of 126 = .ok (.getfield 139, 3) := by decide +kernel
theorem d_X_of_129 : decode c_X_of 129 = .ok (.aload_n 0, 1) := by decide +kernel
theorem d_X_of_130 : decode c_X_of 130 = .ok (.getfield 50, 3) := by decide +kernel
theorem d_X_of_133 : decode c_X_of 133 = .ok (.iconst 0, 1) := by decide +kernel
theorem d_X_of_134 : decode c_X_of 134 = .ok (.invokevirtual 113, 3) := by decide +kernel
theorem d_X_of_137 : decode c_X_of 137 = .ok (.invokevirtual 160, 3) := by decide +kernel
theorem d_X_of_140 : decode c_X_of 140 = .ok (.ireturn, 1) := by decide +kernel
theorem d_X_of_141 : decode c_X_of 141 = .ok (.aload_n 3, 1) := by decide +kernel
theorem d_X_of_142 : decode c_X_of 142 = .ok (.getfield 139, 3) := by decide +kernel
theorem d_X_of_145 : decode c_X_of 145 = .ok (.aload_n 3, 1) := by decide +kernel
theorem d_X_of_146 : decode c_X_of 146 = .ok (.invokevirtual 163, 3) := by decide +kernel
theorem d_X_of_149 : decode c_X_of 149 = .ok (.ireturn, 1) := by decide +kernel
theorem d_X_of_150 : decode c_X_of 150 = .ok (.aload_n 0, 1) := by decide +kernel
theorem d_X_of_151 : decode c_X_of 151 = .ok (.ldc 89, 2) := by decide +kernel
theorem d_X_of_153 : decode c_X_of 153 = .ok (.invokevirtual 90, 3) := by decide +kernel
theorem d_X_of_156 : decode c_X_of 156 = .ok (.ireturn, 1) := by decide +kernel
theorem d_X_maySet_0 : decode c_X_maySet 0 = .ok (.iload_n 0, 1) := by decide +kernel
theorem d_X_maySet_1 : decode c_X_maySet 1 = .ok (.tableswitch 62 1 4 #[31, 38, 46, 54], 31) := by decide +kernel
theorem d_X_maySet_32 : decode c_X_maySet 32 = .ok (.iload_n 1, 1) := by decide +kernel
theorem d_X_maySet_33 : decode c_X_maySet 33 = .ok (.iconst 0, 1) := by decide +kernel
theorem d_X_maySet_34 : decode c_X_maySet 34 = .ok (.iconst 3, 1) := by decide +kernel
theorem d_X_maySet_35 : decode c_X_maySet 35 = .ok (.invokestatic 85, 3) := by decide +kernel
theorem d_X_maySet_38 : decode c_X_maySet 38 = .ok (.ireturn, 1) := by decide +kernel
theorem d_X_maySet_39 : decode c_X_maySet 39 = .ok (.iload_n 1, 1) := by decide +kernel
theorem d_X_maySet_40 : decode c_X_maySet 40 = .ok (.iconst 1, 1) := by decide +kernel
theorem d_X_maySet_41 : decode c_X_maySet 41 = .ok (.bipush 20, 2) := by decide +kernel
theorem d_X_maySet_43 : decode c_X_maySet 43 = .ok (.invokestatic 85, 3) := by decide +kernel
theorem d_X_maySet_46 : decode c_X_maySet 46 = .ok (.ireturn, 1) := by decide +kernel
theorem d_X_maySet_47 : decode c_X_maySet 47 = .ok (.iload_n 1, 1) := by decide +kernel
theorem d_X_maySet_48 : decode c_X_maySet 48 = .ok (.iconst 0, 1) := by decide +kernel
theorem d_X_maySet_49 : decode c_X_maySet 49 = .ok (.bipush 99, 2) := by decide +kernel
theorem d_X_maySet_51 : decode c_X_maySet 51 = .ok (.invokestatic 85, 3) := by decide +kernel
theorem d_X_maySet_54 : decode c_X_maySet 54 = .ok (.ireturn, 1) := by decide +kernel
theorem d_X_maySet_55 : decode c_X_maySet 55 = .ok (.iload_n 1, 1) := by decide +kernel
theorem d_X_maySet_56 : decode c_X_maySet 56 = .ok (.iconst 0, 1) := by decide +kernel
theorem d_X_maySet_57 : decode c_X_maySet 57 = .ok (.bipush 9, 2) := by decide +kernel
theorem d_X_maySet_59 : decode c_X_maySet 59 = .ok (.invokestatic 85, 3) := by decide +kernel
theorem d_X_maySet_62 : decode c_X_maySet 62 = .ok (.ireturn, 1) := by decide +kernel
theorem d_X_maySet_63 : decode c_X_maySet 63 = .ok (.iconst 0, 1) := by decide +kernel
theorem d_X_maySet_64 : decode c_X_maySet 64 = .ok (.ireturn, 1) := by decide +kernel
theorem d_X_set_0 : decode c_X_set 0 = .ok (.aload_n 0, 1) := by decide +kernel
theorem d_X_set_1 : decode c_X_set 1 = .ok (.iload_n 1, 1) := by decide +kernel
theorem d_X_set_2 : decode c_X_set 2 = .ok (.invokevirtual 131, 3) := by decide +kernel
theorem d_X_set_5 : decode c_X_set 5 = .ok (.ifCond .eq 11, 3) := by decide +kernel
theorem d_X_set_8 : decode c_X_set 8 = .ok (.iload_n 2, 1) := by decide +kernel
theorem d_X_set_9 : decode c_X_set 9 = .ok (.iload_n 3, 1) := by decide +kernel
theorem d_X_set_10 : decode c_X_set 10 = .ok (.invokestatic 166, 3) := by decide +kernel
theorem d_X_set_13 : decode c_X_set 13 = .ok (.ifCond .ne 10, 3) := by decide +kernel
theorem d_X_set_16 : decode c_X_set 16 = .ok (.aload_n 0, 1) := by decide +kernel
theorem d_X_set_17 : decode c_X_set 17 = .ok (.ldc 89, 2) := by decide +kernel
theorem d_X_set_19 : decode c_X_set 19 = .ok (.invokevirtual 90, 3) := by decide +kernel
theorem d_X_set_22 : decode c_X_set 22 = .ok (.ireturn, 1) := by decide +kernel
theorem d_X_set_23 : decode c_X_set 23 = .ok (.aload_n 0, 1) := by decide +kernel
theorem d_X_set_24 : decode c_X_set 24 = .ok (.getfield 50, 3) := by decide +kernel
theorem d_X_set_27 : decode c_X_set 27 = .ok (.getfield 135, 3) := by decide +kernel
theorem d_X_set_30 : decode c_X_set 30 = .ok (.iload_n 1, 1) := by decide +kernel
theorem d_X_set_31 : decode c_X_set 31 = .ok (.aaload, 1) := by decide +kernel
theorem d_X_set_32 : decode c_X_set 32 = .ok (.astore 4, 2) := by decide +kernel
theorem d_X_set_34 : decode c_X_set 34 = .ok (.aload 4, 2) := by decide +kernel
theorem d_X_set_36 : decode c_X_set 36 = .ok (.iload_n 2, 1) := by decide +kernel
theorem d_X_set_37 : decode c_X_set 37 = .ok (.invokevirtual 146, 3) := by decide +kernel
theorem d_X_set_40 : decode c_X_set 40 = .ok (.istore 5, 2) := by decide +kernel
theorem d_X_set_42 : decode c_X_set 42 = .ok (.aload 4, 2) := by decide +kernel
theorem d_X_set_44 : decode c_X_set 44 = .ok (.iload_n 2, 1) := by decide +kernel
theorem d_X_set_45 : decode c_X_set 45 = .ok (.iload_n 3, 1) := by decide +kernel
theorem d_X_set_46 : decode c_X_set 46 = .ok (.invokevirtual 170, 3) := by decide +kernel
theorem d_X_set_49 : decode c_X_set 49 = .ok (.iload 5, 2) := by decide +kernel
theorem d_X_set_51 : decode c_X_set 51 = .ok (.ireturn, 1) := by decide +kernel
theorem d_X_turn_0 : decode c_X_turn 0 = .ok (.aload_n 0, 1) := by decide +kernel
theorem d_X_turn_1 : decode c_X_turn 1 = .ok (.iload_n 1, 1) := by decide +kernel
theorem d_X_turn_2 : decode c_X_turn 2 = .ok (.invokevirtual 131, 3) := by decide +kernel
theorem d_X_turn_5 : decode c_X_turn 5 = .ok (.ifCond .eq 12, 3) := by decide +kernel
theorem d_X_turn_8 : decode c_X_turn 8 = .ok (.iload_n 2, 1) := by decide +kernel
theorem d_X_turn_9 : decode c_X_turn 9 = .ok (.iconst 0, 1) := by decide +kernel
theorem d_X_turn_10 : decode c_X_turn 10 = .ok (.iconst 5, 1) := by decide +kernel
theorem d_X_turn_11 : decode c_X_turn 11 = .ok (.invokestatic 85, 3) := by decide +kernel
theorem d_X_turn_14 : decode c_X_turn 14 = .ok (.ifCond .ne 10, 3) := by decide +kernel
theorem d_X_turn_17 : decode c_X_turn 17 = .ok (.aload_n 0, 1) := by decide +kernel
theorem d_X_turn_18 : decode c_X_turn 18 = .ok (.ldc 89, 2) := by decide +kernel
theorem d_X_turn_20 : decode c_X_turn 20 = .ok (.invokevirtual 90, 3) := by decide +kernel
theorem d_X_turn_23 : decode c_X_turn 23 = .ok (.ireturn, 1) := by decide +kernel
theorem d_X_turn_24 : decode c_X_turn 24 = .ok (.aload_n 0, 1) := by decide +kernel
theorem d_X_turn_25 : decode c_X_turn 25 = .ok (.getfield 50, 3) := by decide +kernel
theorem d_X_turn_28 : decode c_X_turn 28 = .ok (.getfield 135, 3) := by decide +kernel
theorem d_X_turn_31 : decode c_X_turn 31 = .ok (.iload_n 1, 1) := by decide +kernel
theorem d_X_turn_32 : decode c_X_turn 32 = .ok (.aaload, 1) := by decide +kernel
theorem d_X_turn_33 : decode c_X_turn 33 = .ok (.astore_n 3, 1) := by decide +kernel
theorem d_X_turn_34 : decode c_X_turn 34 = .ok (.aload_n 3, 1) := by decide +kernel
theorem d_X_turn_35 : decode c_X_turn 35 = .ok (.getfield 139, 3) := by decide +kernel
theorem d_X_turn_38 : decode c_X_turn 38 = .ok (.getfield 143, 3) := by decide +kernel
theorem d_X_turn_41 : decode c_X_turn 41 = .ok (.istore 4, 2) := by decide +kernel
theorem d_X_turn_43 : decode c_X_turn 43 = .ok (.aload_n 3, 1) := by decide +kernel
theorem d_X_turn_44 : decode c_X_turn 44 = .ok (.aload_n 0, 1) := by decide +kernel
theorem d_X_turn_45 : decode c_X_turn 45 = .ok (.getfield 41, 3) := by decide +kernel
theorem d_X_turn_48 : decode c_X_turn 48 = .ok (.iload_n 2, 1) := by decide +kernel
theorem d_X_turn_49 : decode c_X_turn 49 = .ok (.aaload, 1) := by decide +kernel
theorem d_X_turn_50 : decode c_X_turn 50 = .ok (.putfield 139, 3) := by decide +kernel
theorem d_X_turn_53 : decode c_X_turn 53 = .ok (.iload 4, 2) := by decide +kernel
theorem d_X_turn_55 : decode c_X_turn 55 = .ok (.ireturn, 1) := by decide +kernel
theorem d_X_as_0 : decode c_X_as 0 = .ok (.aload_n 0, 1) := by decide +kernel
theorem d_X_as_1 : decode c_X_as 1 = .ok (.iload_n 1, 1) := by decide +kernel
theorem d_X_as_2 : decode c_X_as 2 = .ok (.invokevirtual 131, 3) := by decide +kernel
theorem d_X_as_5 : decode c_X_as 5 = .ok (.ifCond .eq 12, 3) := by decide +kernel
theorem d_X_as_8 : decode c_X_as 8 = .ok (.iload_n 2, 1) := by decide +kernel
theorem d_X_as_9 : decode c_X_as 9 = .ok (.iconst 0, 1) := by decide +kernel
theorem d_X_as_10 : decode c_X_as 10 = .ok (.iconst 5, 1) := by decide +kernel
theorem d_X_as_11 : decode c_X_as 11 = .ok (.invokestatic 85, 3) := by decide +kernel
theorem d_X_as_14 : decode c_X_as 14 = .ok (.ifCond .ne 10, 3) := by decide +kernel
theorem d_X_as_17 : decode c_X_as 17 = .ok (.aload_n 0, 1) := by decide +kernel
theorem d_X_as_18 : decode c_X_as 18 = .ok (.ldc 89, 2) := by decide +kernel
theorem d_X_as_20 : decode c_X_as 20 = .ok (.invokevirtual 90, 3) := by decide +kernel
theorem d_X_as_23 : decode c_X_as 23 = .ok (.ireturn, 1) := by decide +kernel
theorem d_X_as_24 : decode c_X_as 24 = .ok (.aload_n 0, 1) := by decide +kernel
theorem d_X_as_25 : decode c_X_as 25 = .ok (.getfield 50, 3) := by decide +kernel
theorem d_X_as_28 : decode c_X_as 28 = .ok (.getfield 135, 3) := by decide +kernel
theorem d_X_as_31 : decode c_X_as 31 = .ok (.iload_n 1, 1) := by decide +kernel
theorem d_X_as_32 : decode c_X_as 32 = .ok (.aaload, 1) := by decide +kernel
theorem d_X_as_33 : decode c_X_as 33 = .ok (.astore_n 3, 1) := by decide +kernel
theorem d_X_as_34 : decode c_X_as 34 = .ok (.aload_n 3, 1) := by decide +kernel
theorem d_X_as_35 : decode c_X_as 35 = .ok (.getfield 139, 3) := by decide +kernel
theorem d_X_as_38 : decode c_X_as 38 = .ok (.iload_n 2, 1) := by decide +kernel
theorem d_X_as_39 : decode c_X_as 39 = .ok (.invokevirtual 174, 3) := by decide +kernel
theorem d_X_as_42 : decode c_X_as 42 = .ok (.ifCond .ne 10, 3) := by decide +kernel
theorem d_X_as_45 : decode c_X_as 45 = .ok (.aload_n 0, 1) := by decide +kernel
theorem d_X_as_46 : decode c_X_as 46 = .ok (.ldc 177, 2) := by decide +kernel
theorem d_X_as_48 : decode c_X_as 48 = .ok (.invokevirtual 90, 3) := by decide +kernel
theorem d_X_as_51 : decode c_X_as 51 = .ok (.ireturn, 1) := by decide +kernel
theorem d_X_as_52 : decode c_X_as 52 = .ok (.aload_n 3, 1) := by decide +kernel
theorem d_X_as_53 : decode c_X_as 53 = .ok (.getfield 178, 3) := by decide +kernel
theorem d_X_as_56 : decode c_X_as 56 = .ok (.ireturn, 1) := by decide +kernel
theorem d_X_roll_0 : decode c_X_roll 0 = .ok (.aload_n 0, 1) := by decide +kernel
theorem d_X_roll_1 : decode c_X_roll 1 = .ok (.iload_n 1, 1) := by decide +kernel
theorem d_X_roll_2 : decode c_X_roll 2 = .ok (.invokevirtual 131, 3) := by decide +kernel
theorem d_X_roll_5 : decode c_X_roll 5 = .ok (.ifCond .eq 13, 3) := by decide +kernel
theorem d_X_roll_8 : decode c_X_roll 8 = .ok (.iload_n 2, 1) := by decide +kernel
theorem d_X_roll_9 : decode c_X_roll 9 = .ok (.iconst 0, 1) := by decide +kernel
theorem d_X_roll_10 : decode c_X_roll 10 = .ok (.bipush 39, 2) := by decide +kernel
theorem d_X_roll_12 : decode c_X_roll 12 = .ok (.invokestatic 85, 3) := by decide +kernel
theorem d_X_roll_15 : decode c_X_roll 15 = .ok (.ifCond .ne 10, 3) := by decide +kernel
theorem d_X_roll_18 : decode c_X_roll 18 = .ok (.aload_n 0, 1) := by decide +kernel
theorem d_X_roll_19 : decode c_X_roll 19 = .ok (.ldc 89, 2) := by decide +kernel
theorem d_X_roll_21 : decode c_X_roll 21 = .ok (.invokevirtual 90, 3) := by decide +kernel
theorem d_X_roll_24 : decode c_X_roll 24 = .ok (.ireturn, 1) := by decide +kernel
theorem d_X_roll_25 : decode c_X_roll 25 = .ok (.aload_n 0, 1) := by decide +kernel
theorem d_X_roll_26 : decode c_X_roll 26 = .ok (.getfield 50, 3) := by decide +kernel
theorem d_X_roll_29 : decode c_X_roll 29 = .ok (.getfield 135, 3) := by decide +kernel
theorem d_X_roll_32 : decode c_X_roll 32 = .ok (.iload_n 1, 1) := by decide +kernel
theorem d_X_roll_33 : decode c_X_roll 33 = .ok (.aaload, 1) := by decide +kernel
theorem d_X_roll_34 : decode c_X_roll 34 = .ok (.astore_n 3, 1) := by decide +kernel
theorem d_X_roll_35 : decode c_X_roll 35 = .ok (.aload_n 3, 1) := by decide +kernel
theorem d_X_roll_36 : decode c_X_roll 36 = .ok (.getfield 178, 3) := by decide +kernel
theorem d_X_roll_39 : decode c_X_roll 39 = .ok (.ifCond .ne 10, 3) := by decide +kernel
theorem d_X_roll_42 : decode c_X_roll 42 = .ok (.aload_n 0, 1) := by decide +kernel
theorem d_X_roll_43 : decode c_X_roll 43 = .ok (.ldc 181, 2) := by decide +kernel
theorem d_X_roll_45 : decode c_X_roll 45 = .ok (.invokevirtual 90, 3) := by decide +kernel
theorem d_X_roll_48 : decode c_X_roll 48 = .ok (.ireturn, 1) := by decide +kernel
theorem d_X_roll_49 : decode c_X_roll 49 = .ok (.aload_n 0, 1) := by decide +kernel
theorem d_X_roll_50 : decode c_X_roll 50 = .ok (.getfield 50, 3) := by decide +kernel
theorem d_X_roll_53 : decode c_X_roll 53 = .ok (.aload_n 3, 1) := by decide +kernel
theorem d_X_roll_54 : decode c_X_roll 54 = .ok (.iload_n 2, 1) := by decide +kernel
theorem d_X_roll_55 : decode c_X_roll 55 = .ok (.invokevirtual 182, 3) := by decide +kernel
theorem d_X_roll_58 : decode c_X_roll 58 = .ok (.aload_n 3, 1) := by decide +kernel
theorem d_X_roll_59 : decode c_X_roll 59 = .ok (.invokevirtual 186, 3) := by decide +kernel
theorem d_X_roll_62 : decode c_X_roll 62 = .ok (.ireturn, 1) := by decide +kernel
theorem d_X_up_0 : decode c_X_up 0 = .ok (.aload_n 0, 1) := by decide +kernel
theorem d_X_up_1 : decode c_X_up 1 = .ok (.iload_n 1, 1) := by decide +kernel
theorem d_X_up_2 : decode c_X_up 2 = .ok (.invokevirtual 131, 3) := by decide +kernel
theorem d_X_up_5 : decode c_X_up 5 = .ok (.ifCond .ne 10, 3) := by decide +kernel
theorem d_X_up_8 : decode c_X_up 8 = .ok (.aload_n 0, 1) := by decide +kernel
theorem d_X_up_9 : decode c_X_up 9 = .ok (.ldc 89, 2) := by decide +kernel
theorem d_X_up_11 : decode c_X_up 11 = .ok (.invokevirtual 90, 3) := by decide +kernel
theorem d_X_up_14 : decode c_X_up 14 = .ok (.ireturn, 1) := by decide +kernel
theorem d_X_up_15 : decode c_X_up 15 = .ok (.aload_n 0, 1) := by decide +kernel
theorem d_X_up_16 : decode c_X_up 16 = .ok (.getfield 50, 3) := by decide +kernel
theorem d_X_up_19 : decode c_X_up 19 = .ok (.getfield 135, 3) := by decide +kernel
theorem d_X_up_22 : decode c_X_up 22 = .ok (.iload_n 1, 1) := by decide +kernel
theorem d_X_up_23 : decode c_X_up 23 = .ok (.aaload, 1) := by decide +kernel
theorem d_X_up_24 : decode c_X_up 24 = .ok (.astore_n 2, 1) := by decide +kernel
theorem d_X_up_25 : decode c_X_up 25 = .ok (.aload_n 2, 1) := by decide +kernel
theorem d_X_up_26 : decode c_X_up 26 = .ok (.invokevirtual 189, 3) := by decide +kernel
theorem d_X_up_29 : decode c_X_up 29 = .ok (.ifCond .ne 10, 3) := by decide +kernel
theorem d_X_up_32 : decode c_X_up 32 = .ok (.aload_n 0, 1) := by decide +kernel
theorem d_X_up_33 : decode c_X_up 33 = .ok (.ldc 181, 2) := by decide +kernel
theorem d_X_up_35 : decode c_X_up 35 = .ok (.invokevirtual 90, 3) := by decide +kernel
theorem d_X_up_38 : decode c_X_up 38 = .ok (.ireturn, 1) := by decide +kernel
theorem d_X_up_39 : decode c_X_up 39 = .ok (.aload_n 2, 1) := by decide +kernel
theorem d_X_up_40 : decode c_X_up 40 = .ok (.getfield 149, 3) := by decide +kernel
theorem d_X_up_43 : decode c_X_up 43 = .ok (.istore_n 3, 1) := by decide +kernel
theorem d_X_up_44 : decode c_X_up 44 = .ok (.aload_n 2, 1) := by decide +kernel
theorem d_X_up_45 : decode c_X_up 45 = .ok (.invokevirtual 193, 3) := by decide +kernel
theorem d_X_up_48 : decode c_X_up 48 = .ok (.iload_n 3, 1) := by decide +kernel
theorem d_X_up_49 : decode c_X_up 49 = .ok (.ireturn, 1) := by decide +kernel
theorem d_X_beat_0 : decode c_X_beat 0 = .ok (.aload_n 0, 1) := by decide +kernel
theorem d_X_beat_1 : decode c_X_beat 1 = .ok (.iload_n 1, 1) := by decide +kernel
theorem d_X_beat_2 : decode c_X_beat 2 = .ok (.invokevirtual 131, 3) := by decide +kernel
theorem d_X_beat_5 : decode c_X_beat 5 = .ok (.ifCond .ne 10, 3) := by decide +kernel
theorem d_X_beat_8 : decode c_X_beat 8 = .ok (.aload_n 0, 1) := by decide +kernel
theorem d_X_beat_9 : decode c_X_beat 9 = .ok (.ldc 89, 2) := by decide +kernel
theorem d_X_beat_11 : decode c_X_beat 11 = .ok (.invokevirtual 90, 3) := by decide +kernel
theorem d_X_beat_14 : decode c_X_beat 14 = .ok (.ireturn, 1) := by decide +kernel
theorem d_X_beat_15 : decode c_X_beat 15 = .ok (.aload_n 0, 1) := by decide +kernel
theorem d_X_beat_16 : decode c_X_beat 16 = .ok (.getfield 50, 3) := by decide +kernel
theorem d_X_beat_19 : decode c_X_beat 19 = .ok (.getfield 135, 3) := by decide +kernel
theorem d_X_beat_22 : decode c_X_beat 22 = .ok (.iload_n 1, 1) := by decide +kernel
theorem d_X_beat_23 : decode c_X_beat 23 = .ok (.aaload, 1) := by decide +kernel
theorem d_X_beat_24 : decode c_X_beat 24 = .ok (.astore_n 2, 1) := by decide +kernel
theorem d_X_beat_25 : decode c_X_beat 25 = .ok (.aload_n 2, 1) := by decide +kernel
theorem d_X_beat_26 : decode c_X_beat 26 = .ok (.iconst 0, 1) := by decide +kernel
theorem d_X_beat_27 : decode c_X_beat 27 = .ok (.bipush 99, 2) := by decide +kernel
theorem d_X_beat_29 : decode c_X_beat 29 = .ok (.aload_n 2, 1) := by decide +kernel
theorem d_X_beat_30 : decode c_X_beat 30 = .ok (.getfield 178, 3) := by decide +kernel
theorem d_X_beat_33 : decode c_X_beat 33 = .ok (.aload_n 2, 1) := by decide +kernel
theorem d_X_beat_34 : decode c_X_beat 34 = .ok (.getfield 139, 3) := by decide +kernel
theorem d_X_beat_37 : decode c_X_beat 37 = .ok (.aload_n 2, 1) := by decide +kernel
theorem d_X_beat_38 : decode c_X_beat 38 = .ok (.invokevirtual 163, 3) := by decide +kernel
theorem d_X_beat_41 : decode c_X_beat 41 = .ok (.iadd, 1) := by decide +kernel
theorem d_X_beat_42 : decode c_X_beat 42 = .ok (.invokestatic 196, 3) := by decide +kernel
theorem d_X_beat_45 : decode c_X_beat 45 = .ok (.invokestatic 202, 3) := by decide +kernel
theorem d_X_beat_48 : decode c_X_beat 48 = .ok (.putfield 178, 3) := by decide +kernel
theorem d_X_beat_51 : decode c_X_beat 51 = .ok (.aload_n 2, 1) := by decide +kernel
theorem d_X_beat_52 : decode c_X_beat 52 = .ok (.iconst 0, 1) := by decide +kernel
theorem d_X_beat_53 : decode c_X_beat 53 = .ok (.putfield 205, 3) := by decide +kernel
theorem d_X_beat_56 : decode c_X_beat 56 = .ok (.aload_n 2, 1) := by decide +kernel
theorem d_X_beat_57 : decode c_X_beat 57 = .ok (.getfield 178, 3) := by decide +kernel
theorem d_X_beat_60 : decode c_X_beat 60 = .ok (.ireturn, 1) := by decide +kernel
theorem d_X_days_0 : decode c_X_days 0 = .ok (.iload_n 1, 1) := by decide +kernel
theorem d_X_days_1 : decode c_X_days 1 = .ok (.iconst 1, 1) := by decide +kernel
theorem d_X_days_2 : decode c_X_days 2 = .ok (.bipush 60, 2) := by decide +kernel
theorem d_X_days_4 : decode c_X_days 4 = .ok (.invokestatic 85, 3) := by decide +kernel
theorem d_X_days_7 : decode c_X_days 7 = .ok (.ifCond .ne 10, 3) := by decide +kernel
theorem d_X_days_10 : decode c_X_days 10 = .ok (.aload_n 0, 1) := by decide +kernel
theorem d_X_days_11 : decode c_X_days 11 = .ok (.ldc 89, 2) := by decide +kernel
theorem d_X_days_13 : decode c_X_days 13 = .ok (.invokevirtual 90, 3) := by decide +kernel
theorem d_X_days_16 : decode c_X_days 16 = .ok (.ireturn, 1) := by decide +kernel
theorem d_X_days_17 : decode c_X_days 17 = .ok (.aload_n 0, 1) := by decide +kernel
theorem d_X_days_18 : decode c_X_days 18 = .ok (.getfield 50, 3) := by decide +kernel
theorem d_X_days_21 : decode c_X_days 21 = .ok (.getfield 109, 3) := by decide +kernel
theorem d_X_days_24 : decode c_X_days 24 = .ok (.sipush 9999, 3) := by decide +kernel
theorem d_X_days_27 : decode c_X_days 27 = .ok (.iload_n 1, 1) := by decide +kernel
theorem d_X_days_28 : decode c_X_days 28 = .ok (.isub, 1) := by decide +kernel
theorem d_X_days_29 : decode c_X_days 29 = .ok (.if_icmp .le 10, 3) := by decide +kernel
theorem d_X_days_32 : decode c_X_days 32 = .ok (.aload_n 0, 1) := by decide +kernel
theorem d_X_days_33 : decode c_X_days 33 = .ok (.ldc 181, 2) := by decide +kernel
theorem d_X_days_35 : decode c_X_days 35 = .ok (.invokevirtual 90, 3) := by decide +kernel
theorem d_X_days_38 : decode c_X_days 38 = .ok (.ireturn, 1) := by decide +kernel
theorem d_X_days_39 : decode c_X_days 39 = .ok (.aload_n 0, 1) := by decide +kernel
theorem d_X_days_40 : decode c_X_days 40 = .ok (.getfield 50, 3) := by decide +kernel
theorem d_X_days_43 : decode c_X_days 43 = .ok (.iload_n 1, 1) := by decide +kernel
theorem d_X_days_44 : decode c_X_days 44 = .ok (.invokevirtual 208, 3) := by decide +kernel
theorem d_X_days_47 : decode c_X_days 47 = .ok (.aload_n 0, 1) := by decide +kernel
theorem d_X_days_48 : decode c_X_days 48 = .ok (.getfield 50, 3) := by decide +kernel
theorem d_X_days_51 : decode c_X_days 51 = .ok (.invokevirtual 119, 3) := by decide +kernel
theorem d_X_days_54 : decode c_X_days 54 = .ok (.ireturn, 1) := by decide +kernel
theorem d_X_passProbe_0 : decode c_X_passProbe 0 = .ok (.iconst 0, 1) := by decide +kernel
theorem d_X_passProbe_1 : decode c_X_passProbe 1 = .ok (.istore_n 2, 1) := by decide +kernel
theorem d_X_passProbe_2 : decode c_X_passProbe 2 = .ok (.iload_n 2, 1) := by decide +kernel
theorem d_X_passProbe_3 : decode c_X_passProbe 3 = .ok (.iload_n 1, 1) := by decide +kernel
theorem d_X_passProbe_4 : decode c_X_passProbe 4 = .ok (.if_icmp .ge 24, 3) := by decide +kernel
theorem d_X_passProbe_7 : decode c_X_passProbe 7 = .ok (.aload_n 0, 1) := by decide +kernel
theorem d_X_passProbe_8 : decode c_X_passProbe 8 = .ok (.getfield 63, 3) := by decide +kernel
theorem d_X_passProbe_11 : decode c_X_passProbe 11 = .ok (.aload_n 0, 1) := by decide +kernel
theorem d_X_passProbe_12 : decode c_X_passProbe 12 = .ok (.getfield 50, 3) := by decide +kernel
theorem d_X_passProbe_15 : decode c_X_passProbe 15 = .ok (.iload_n 2, 1) := by decide +kernel
theorem d_X_passProbe_16 : decode c_X_passProbe 16 = .ok (.invokevirtual 113, 3) := by decide +kernel
theorem d_X_passProbe_19 : decode c_X_passProbe 19 = .ok (.invokevirtual 226, 3) := by decide +kernel
theorem d_X_passProbe_22 : decode c_X_passProbe 22 = .ok (.iinc 2 1, 3) := by decide +kernel
theorem d_X_passProbe_25 : decode c_X_passProbe 25 = .ok (.goto (-23), 3) := by decide +kernel
theorem d_X_passProbe_28 : decode c_X_passProbe 28 = .ok (.return_, 1) := by decide +kernel
theorem d_X_on_0 : decode c_X_on 0 = .ok (.aload_n 0, 1) := by decide +kernel
theorem d_X_on_1 : decode c_X_on 1 = .ok (.iload_n 1, 1) := by decide +kernel
theorem d_X_on_2 : decode c_X_on 2 = .ok (.invokevirtual 131, 3) := by decide +kernel
theorem d_X_on_5 : decode c_X_on 5 = .ok (.ifCond .eq 23, 3) := by decide +kernel
theorem d_X_on_8 : decode c_X_on 8 = .ok (.iload_n 2, 1) := by decide +kernel
theorem d_X_on_9 : decode c_X_on 9 = .ok (.iconst 0, 1) := by decide +kernel
theorem d_X_on_10 : decode c_X_on 10 = .ok (.sipush 200, 3) := by decide +kernel
theorem d_X_on_13 : decode c_X_on 13 = .ok (.invokestatic 85, 3) := by decide +kernel
theorem d_X_on_16 : decode c_X_on 16 = .ok (.ifCond .eq 12, 3) := by decide +kernel
theorem d_X_on_19 : decode c_X_on 19 = .ok (.iload_n 3, 1) := by decide +kernel
theorem d_X_on_20 : decode c_X_on 20 = .ok (.iconst 0, 1) := by decide +kernel
theorem d_X_on_21 : decode c_X_on 21 = .ok (.iconst 2, 1) := by decide +kernel
theorem d_X_on_22 : decode c_X_on 22 = .ok (.invokestatic 85, 3) := by decide +kernel
theorem d_X_on_25 : decode c_X_on 25 = .ok (.ifCond .ne 10, 3) := by decide +kernel
theorem d_X_on_28 : decode c_X_on 28 = .ok (.aload_n 0, 1) := by decide +kernel
theorem d_X_on_29 : decode c_X_on 29 = .ok (.ldc 89, 2) := by decide +kernel
theorem d_X_on_31 : decode c_X_on 31 = .ok (.invokevirtual 90, 3) := by decide +kernel
theorem d_X_on_34 : decode c_X_on 34 = .ok (.ireturn, 1) := by decide +kernel
theorem d_X_on_35 : decode c_X_on 35 = .ok (.aload_n 0, 1) := by decide +kernel
theorem d_X_on_36 : decode c_X_on 36 = .ok (.getfield 63, 3) := by decide +kernel
theorem d_X_on_39 : decode c_X_on 39 = .ok (.aload_n 0, 1) := by decide +kernel
theorem d_X_on_40 : decode c_X_on 40 = .ok (.getfield 50, 3) := by decide +kernel
theorem d_X_on_43 : decode c_X_on 43 = .ok (.getfield 135, 3) := by decide +kernel
theorem d_X_on_46 : decode c_X_on 46 = .ok (.iload_n 1, 1) := by decide +kernel
theorem d_X_on_47 : decode c_X_on 47 = .ok (.aaload, 1) := by decide +kernel
theorem d_X_on_48 : decode c_X_on 48 = .ok (.invokevirtual 212, 3) := by decide +kernel
theorem d_X_on_51 : decode c_X_on 51 = .ok (.aload_n 0, 1) := by decide +kernel
theorem d_X_on_52 : decode c_X_on 52 = .ok (.iload_n 2, 1) := by decide +kernel
theorem d_X_on_53 : decode c_X_on 53 = .ok (.invokevirtual 216, 3) := by decide +kernel
theorem d_X_on_56 : decode c_X_on 56 = .ok (.iload_n 3, 1) := by decide +kernel
theorem d_X_on_57 : decode c_X_on 57 = .ok (.ifCond .ne 11, 3) := by decide +kernel
theorem d_X_on_60 : decode c_X_on 60 = .ok (.aload_n 0, 1) := by decide +kernel
theorem d_X_on_61 : decode c_X_on 61 = .ok (.getfield 63, 3) := by decide +kernel
theorem d_X_on_64 : decode c_X_on 64 = .ok (.getfield 178, 3) := by decide +kernel
theorem d_X_on_67 : decode c_X_on 67 = .ok (.ireturn, 1) := by decide +kernel
theorem d_X_on_68 : decode c_X_on 68 = .ok (.iload_n 3, 1) := by decide +kernel
theorem d_X_on_69 : decode c_X_on 69 = .ok (.iconst 1, 1) := by decide +kernel
theorem d_X_on_70 : decode c_X_on 70 = .ok (.if_icmp .ne 13, 3) := by decide +kernel
theorem d_X_on_73 : decode c_X_on 73 = .ok (.aload_n 0, 1) := by decide +kernel
theorem d_X_on_74 : decode c_X_on 74 = .ok (.getfield 63, 3) := by decide +kernel
theorem d_X_on_77 : decode c_X_on 77 = .ok (.getfield 205, 3) := by decide +kernel
theorem d_X_on_80 : decode c_X_on 80 = .ok (.goto 10, 3) := by decide +kernel
theorem d_X_on_83 : decode c_X_on 83 = .ok (.aload_n 0, 1) := by decide +kernel
theorem d_X_on_84 : decode c_X_on 84 = .ok (.getfield 63, 3) := by decide +kernel
theorem d_X_on_87 : decode c_X_on 87 = .ok (.getfield 149, 3) := by decide +kernel
theorem d_X_on_90 : decode c_X_on 90 = .ok (.ireturn, 1) := by decide +kernel
theorem d_X_ownsOn_0 : decode c_X_ownsOn 0 = .ok (.iload_n 1, 1) := by decide +kernel
theorem d_X_ownsOn_1 : decode c_X_ownsOn 1 = .ok (.iconst (-1), 1) := by decide +kernel
theorem d_X_ownsOn_2 : decode c_X_ownsOn 2 = .ok (.iconst 3, 1) := by decide +kernel
theorem d_X_ownsOn_3 : decode c_X_ownsOn 3 = .ok (.invokestatic 85, 3) := by decide +kernel
theorem d_X_ownsOn_6 : decode c_X_ownsOn 6 = .ok (.ifCond .eq 14, 3) := by decide +kernel
theorem d_X_ownsOn_9 : decode c_X_ownsOn 9 = .ok (.iload_n 2, 1) := by decide +kernel
theorem d_X_ownsOn_10 : decode c_X_ownsOn 10 = .ok (.iconst 0, 1) := by decide +kernel
theorem d_X_ownsOn_11 : decode c_X_ownsOn 11 = .ok (.sipush 200, 3) := by decide +kernel
theorem d_X_ownsOn_14 : decode c_X_ownsOn 14 = .ok (.invokestatic 85, 3) := by decide +kernel
theorem d_X_ownsOn_17 : decode c_X_ownsOn 17 = .ok (.ifCond .ne 10, 3) := by decide +kernel
theorem d_X_ownsOn_20 : decode c_X_ownsOn 20 = .ok (.aload_n 0, 1) := by decide +kernel
theorem d_X_ownsOn_21 : decode c_X_ownsOn 21 = .ok (.ldc 89, 2) := by decide +kernel
theorem d_X_ownsOn_23 : decode c_X_ownsOn 23 = .ok (.invokevirtual 90, 3) := by decide +kernel
theorem d_X_ownsOn_26 : decode c_X_ownsOn 26 = .ok (.ireturn, 1) := by decide +kernel
theorem d_X_ownsOn_27 : decode c_X_ownsOn 27 = .ok (.aload_n 0, 1) := by decide +kernel
theorem d_X_ownsOn_28 : decode c_X_ownsOn 28 = .ok (.getfield 57, 3) := by decide +kernel
theorem d_X_ownsOn_31 : decode c_X_ownsOn 31 = .ok (.aload_n 0, 1) := by decide +kernel
theorem d_X_ownsOn_32 : decode c_X_ownsOn 32 = .ok (.getfield 50, 3) := by decide +kernel
theorem d_X_ownsOn_35 : decode c_X_ownsOn 35 = .ok (.invokevirtual 219, 3) := by decide +kernel
theorem d_X_ownsOn_38 : decode c_X_ownsOn 38 = .ok (.aload_n 0, 1) := by decide +kernel
theorem d_X_ownsOn_39 : decode c_X_ownsOn 39 = .ok (.getfield 57, 3) := by decide +kernel
theorem d_X_ownsOn_42 : decode c_X_ownsOn 42 = .ok (.iload_n 2, 1) := by decide +kernel
theorem d_X_ownsOn_43 : decode c_X_ownsOn 43 = .ok (.invokevirtual 208, 3) := by decide +kernel
theorem d_X_ownsOn_46 : decode c_X_ownsOn 46 = .ok (.aload_n 0, 1) := by decide +kernel
theorem d_X_ownsOn_47 : decode c_X_ownsOn 47 = .ok (.getfield 57, 3) := by decide +kernel
theorem d_X_ownsOn_50 : decode c_X_ownsOn 50 = .ok (.iload_n 1, 1) := by decide +kernel
theorem d_X_ownsOn_51 : decode c_X_ownsOn 51 = .ok (.invokevirtual 106, 3) := by decide +kernel
theorem d_X_ownsOn_54 : decode c_X_ownsOn 54 = .ok (.ireturn, 1) := by decide +kernel
theorem d_X_daysProbeLies_0 : decode c_X_daysProbeLies 0 = .ok (.iconst 0, 1) := by decide +kernel
theorem d_X_daysProbeLies_1 : decode c_X_daysProbeLies 1 = .ok (.istore_n 1, 1) := by decide +kernel
theorem d_X_daysProbeLies_2 : decode c_X_daysProbeLies 2 = .ok (.iload_n 1, 1) := by decide +kernel
theorem d_X_daysProbeLies_3 : decode c_X_daysProbeLies 3 = .ok (.sipush 400, 3) := by decide +kernel
theorem d_X_daysProbeLies_6 : decode c_X_daysProbeLies 6 = .ok (.if_icmp .gt 36, 3) := by decide +kernel
theorem d_X_daysProbeLies_9 : decode c_X_daysProbeLies 9 = .ok (.aload_n 0, 1) := by decide +kernel
theorem d_X_daysProbeLies_10 : decode c_X_daysProbeLies 10 = .ok (.getfield 63, 3) := by decide +kernel
theorem d_X_daysProbeLies_13 : decode c_X_daysProbeLies 13 = .ok (.invokevirtual 189, 3) := by decide +kernel
theorem d_X_daysProbeLies_16 : decode c_X_daysProbeLies 16 = .ok (.ifCond .ne 5, 3) := by decide +kernel
theorem d_X_daysProbeLies_19 : decode c_X_daysProbeLies 19 = .ok (.iload_n 1, 1) := by decide +kernel
theorem d_X_daysProbeLies_20 : decode c_X_daysProbeLies 20 = .ok (.ireturn, 1) := by decide +kernel
theorem d_X_daysProbeLies_21 : decode c_X_daysProbeLies 21 = .ok (.aload_n 0, 1) := by decide +kernel
theorem d_X_daysProbeLies_22 : decode c_X_daysProbeLies 22 = .ok (.getfield 63, 3) := by decide +kernel
theorem d_X_daysProbeLies_25 : decode c_X_daysProbeLies 25 = .ok (.aload_n 0, 1) := by decide +kernel
theorem d_X_daysProbeLies_26 : decode c_X_daysProbeLies 26 = .ok (.getfield 50, 3) := by decide +kernel
theorem d_X_daysProbeLies_29 : decode c_X_daysProbeLies 29 = .ok (.iload_n 1, 1) := by decide +kernel
theorem d_X_daysProbeLies_30 : decode c_X_daysProbeLies 30 = .ok (.invokevirtual 113, 3) := by decide +kernel
theorem d_X_daysProbeLies_33 : decode c_X_daysProbeLies 33 = .ok (.invokevirtual 226, 3) := by decide +kernel
theorem d_X_daysProbeLies_36 : decode c_X_daysProbeLies 36 = .ok (.iinc 1 1, 3) := by decide +kernel
theorem d_X_daysProbeLies_39 : decode c_X_daysProbeLies 39 = .ok (.goto (-37), 3) := by decide +kernel
theorem d_X_daysProbeLies_42 : decode c_X_daysProbeLies 42 = .ok (.sipush 401, 3) := by decide +kernel
theorem d_X_daysProbeLies_45 : decode c_X_daysProbeLies 45 = .ok (.ireturn, 1) := by decide +kernel
theorem d_X_ends_0 : decode c_X_ends 0 = .ok (.aload_n 0, 1) := by decide +kernel
theorem d_X_ends_1 : decode c_X_ends 1 = .ok (.iload_n 1, 1) := by decide +kernel
theorem d_X_ends_2 : decode c_X_ends 2 = .ok (.invokevirtual 131, 3) := by decide +kernel
theorem d_X_ends_5 : decode c_X_ends 5 = .ok (.ifCond .ne 10, 3) := by decide +kernel
theorem d_X_ends_8 : decode c_X_ends 8 = .ok (.aload_n 0, 1) := by decide +kernel
theorem d_X_ends_9 : decode c_X_ends 9 = .ok (.ldc 89, 2) := by decide +kernel
theorem d_X_ends_11 : decode c_X_ends 11 = .ok (.invokevirtual 90, 3) := by decide +kernel
theorem d_X_ends_14 : decode c_X_ends 14 = .ok (.ireturn, 1) := by decide +kernel
theorem d_X_ends_15 : decode c_X_ends 15 = .ok (.aload_n 0, 1) := by decide +kernel
theorem d_X_ends_16 : decode c_X_ends 16 = .ok (.getfield 63, 3) := by decide +kernel
theorem d_X_ends_19 : decode c_X_ends 19 = .ok (.aload_n 0, 1) := by decide +kernel
theorem d_X_ends_20 : decode c_X_ends 20 = .ok (.getfield 50, 3) := by decide +kernel
theorem d_X_ends_23 : decode c_X_ends 23 = .ok (.getfield 135, 3) := by decide +kernel
theorem d_X_ends_26 : decode c_X_ends 26 = .ok (.iload_n 1, 1) := by decide +kernel
theorem d_X_ends_27 : decode c_X_ends 27 = .ok (.aaload, 1) := by decide +kernel
theorem d_X_ends_28 : decode c_X_ends 28 = .ok (.invokevirtual 212, 3) := by decide +kernel
theorem d_X_ends_31 : decode c_X_ends 31 = .ok (.aload_n 0, 1) := by decide +kernel
theorem d_X_ends_32 : decode c_X_ends 32 = .ok (.invokevirtual 222, 3) := by decide +kernel
theorem d_X_ends_35 : decode c_X_ends 35 = .ok (.istore_n 2, 1) := by decide +kernel
theorem d_X_ends_36 : decode c_X_ends 36 = .ok (.iload_n 2, 1) := by decide +kernel
theorem d_X_ends_37 : decode c_X_ends 37 = .ok (.sipush 400, 3) := by decide +kernel
theorem d_X_ends_40 : decode c_X_ends 40 = .ok (.if_icmp .le 12, 3) := by decide +kernel
theorem d_X_ends_43 : decode c_X_ends 43 = .ok (.aload_n 0, 1) := by decide +kernel
theorem d_X_ends_44 : decode c_X_ends 44 = .ok (.ldc 225, 2) := by decide +kernel
theorem d_X_ends_46 : decode c_X_ends 46 = .ok (.invokevirtual 90, 3) := by decide +kernel
theorem d_X_ends_49 : decode c_X_ends 49 = .ok (.goto 4, 3) := by decide +kernel
theorem d_X_ends_52 : decode c_X_ends 52 = .ok (.iload_n 2, 1) := by decide +kernel
theorem d_X_ends_53 : decode c_X_ends 53 = .ok (.ireturn, 1) := by decide +kernel
theorem d_X_bare_0 : decode c_X_bare 0 = .ok (.aload_n 0, 1) := by decide +kernel
theorem d_X_bare_1 : decode c_X_bare 1 = .ok (.iload_n 1, 1) := by decide +kernel
theorem d_X_bare_2 : decode c_X_bare 2 = .ok (.invokevirtual 131, 3) := by decide +kernel
theorem d_X_bare_5 : decode c_X_bare 5 = .ok (.ifCond .ne 10, 3) := by decide +kernel
theorem d_X_bare_8 : decode c_X_bare 8 = .ok (.aload_n 0, 1) := by decide +kernel
theorem d_X_bare_9 : decode c_X_bare 9 = .ok (.ldc 89, 2) := by decide +kernel
theorem d_X_bare_11 : decode c_X_bare 11 = .ok (.invokevirtual 90, 3) := by decide +kernel
theorem d_X_bare_14 : decode c_X_bare 14 = .ok (.ireturn, 1) := by decide +kernel
theorem d_X_bare_15 : decode c_X_bare 15 = .ok (.aload_n 0, 1) := by decide +kernel
theorem d_X_bare_16 : decode c_X_bare 16 = .ok (.getfield 63, 3) := by decide +kernel
theorem d_X_bare_19 : decode c_X_bare 19 = .ok (.aload_n 0, 1) := by decide +kernel
theorem d_X_bare_20 : decode c_X_bare 20 = .ok (.getfield 50, 3) := by decide +kernel
theorem d_X_bare_23 : decode c_X_bare 23 = .ok (.getfield 135, 3) := by decide +kernel
theorem d_X_bare_26 : decode c_X_bare 26 = .ok (.iload_n 1, 1) := by decide +kernel
theorem d_X_bare_27 : decode c_X_bare 27 = .ok (.aaload, 1) := by decide +kernel
theorem d_X_bare_28 : decode c_X_bare 28 = .ok (.invokevirtual 212, 3) := by decide +kernel
theorem d_X_bare_31 : decode c_X_bare 31 = .ok (.iconst 0, 1) := by decide +kernel
theorem d_X_bare_32 : decode c_X_bare 32 = .ok (.istore_n 2, 1) := by decide +kernel
theorem d_X_bare_33 : decode c_X_bare 33 = .ok (.iload_n 2, 1) := by decide +kernel
theorem d_X_bare_34 : decode c_X_bare 34 = .ok (.sipush 400, 3) := by decide +kernel
theorem d_X_bare_37 : decode c_X_bare 37 = .ok (.if_icmp .gt 36, 3) := by decide +kernel
theorem d_X_bare_40 : decode c_X_bare 40 = .ok (.aload_n 0, 1) := by decide +kernel
theorem d_X_bare_41 : decode c_X_bare 41 = .ok (.getfield 63, 3) := by decide +kernel
theorem d_X_bare_44 : decode c_X_bare 44 = .ok (.getfield 178, 3) := by decide +kernel
theorem d_X_bare_47 : decode c_X_bare 47 = .ok (.ifCond .ne 5, 3) := by decide +kernel
theorem d_X_bare_50 : decode c_X_bare 50 = .ok (.iload_n 2, 1) := by decide +kernel
theorem d_X_bare_51 : decode c_X_bare 51 = .ok (.ireturn, 1) := by decide +kernel
theorem d_X_bare_52 : decode c_X_bare 52 = .ok (.aload_n 0, 1) := by decide +kernel
theorem d_X_bare_53 : decode c_X_bare 53 = .ok (.getfield 63, 3) := by decide +kernel
theorem d_X_bare_56 : decode c_X_bare 56 = .ok (.aload_n 0, 1) := by decide +kernel
theorem d_X_bare_57 : decode c_X_bare 57 = .ok (.getfield 50, 3) := by decide +kernel
theorem d_X_bare_60 : decode c_X_bare 60 = .ok (.iload_n 2, 1) := by decide +kernel
theorem d_X_bare_61 : decode c_X_bare 61 = .ok (.invokevirtual 113, 3) := by decide +kernel
theorem d_X_bare_64 : decode c_X_bare 64 = .ok (.invokevirtual 226, 3) := by decide +kernel
theorem d_X_bare_67 : decode c_X_bare 67 = .ok (.iinc 2 1, 3) := by decide +kernel
theorem d_X_bare_70 : decode c_X_bare 70 = .ok (.goto (-37), 3) := by decide +kernel
theorem d_X_bare_73 : decode c_X_bare 73 = .ok (.aload_n 0, 1) := by decide +kernel
theorem d_X_bare_74 : decode c_X_bare 74 = .ok (.ldc 225, 2) := by decide +kernel
theorem d_X_bare_76 : decode c_X_bare 76 = .ok (.invokevirtual 90, 3) := by decide +kernel
theorem d_X_bare_79 : decode c_X_bare 79 = .ok (.ireturn, 1) := by decide +kernel
theorem d_X_changes_0 : decode c_X_changes 0 = .ok (.iload_n 1, 1) := by decide +kernel
theorem d_X_changes_1 : decode c_X_changes 1 = .ok (.iconst 0, 1) := by decide +kernel
theorem d_X_changes_2 : decode c_X_changes 2 = .ok (.bipush 39, 2) := by decide +kernel
theorem d_X_changes_4 : decode c_X_changes 4 = .ok (.invokestatic 85, 3) := by decide +kernel
theorem d_X_changes_7 : decode c_X_changes 7 = .ok (.ifCond .ne 10, 3) := by decide +kernel
theorem d_X_changes_10 : decode c_X_changes 10 = .ok (.aload_n 0, 1) := by decide +kernel
theorem d_X_changes_11 : decode c_X_changes 11 = .ok (.ldc 89, 2) := by decide +kernel
theorem d_X_changes_13 : decode c_X_changes 13 = .ok (.invokevirtual 90, 3) := by decide +kernel
theorem d_X_changes_16 : decode c_X_changes 16 = .ok (.ireturn, 1) := by decide +kernel
theorem d_X_changes_17 : decode c_X_changes 17 = .ok (.aload_n 0, 1) := by decide +kernel
theorem d_X_changes_18 : decode c_X_changes 18 = .ok (.getfield 50, 3) := by decide +kernel
theorem d_X_changes_21 : decode c_X_changes 21 = .ok (.iload_n 1, 1) := by decide +kernel
theorem d_X_changes_22 : decode c_X_changes 22 = .ok (.invokevirtual 97, 3) := by decide +kernel
theorem d_X_changes_25 : decode c_X_changes 25 = .ok (.istore_n 2, 1) := by decide +kernel
theorem d_X_changes_26 : decode c_X_changes 26 = .ok (.aload_n 0, 1) := by decide +kernel
theorem d_X_changes_27 : decode c_X_changes 27 = .ok (.getfield 57, 3) := by decide +kernel
theorem d_X_changes_30 : decode c_X_changes 30 = .ok (.aload_n 0, 1) := by decide +kernel
theorem d_X_changes_31 : decode c_X_changes 31 = .ok (.getfield 50, 3) := by decide +kernel
theorem d_X_changes_34 : decode c_X_changes 34 = .ok (.invokevirtual 219, 3) := by decide +kernel
theorem d_X_changes_37 : decode c_X_changes 37 = .ok (.iconst 1, 1) := by decide +kernel
theorem d_X_changes_38 : decode c_X_changes 38 = .ok (.istore_n 3, 1) := by decide +kernel
theorem d_X_changes_39 : decode c_X_changes 39 = .ok (.iload_n 3, 1) := by decide +kernel
theorem d_X_changes_40 : decode c_X_changes 40 = .ok (.sipush 400, 3) := by decide +kernel
theorem d_X_changes_43 : decode c_X_changes 43 = .ok (.if_icmp .gt 31, 3) := by decide +kernel
theorem d_X_changes_46 : decode c_X_changes 46 = .ok (.aload_n 0, 1) := by decide +kernel
theorem d_X_changes_47 : decode c_X_changes 47 = .ok (.getfield 57, 3) := by decide +kernel
theorem d_X_changes_50 : decode c_X_changes 50 = .ok (.iconst 1, 1) := by decide +kernel
theorem d_X_changes_51 : decode c_X_changes 51 = .ok (.invokevirtual 208, 3) := by decide +kernel
theorem d_X_changes_54 : decode c_X_changes 54 = .ok (.aload_n 0, 1) := by decide +kernel
theorem d_X_changes_55 : decode c_X_changes 55 = .ok (.getfield 57, 3) := by decide +kernel
theorem d_X_changes_58 : decode c_X_changes 58 = .ok (.iload_n 1, 1) := by decide +kernel
theorem d_X_changes_59 : decode c_X_changes 59 = .ok (.invokevirtual 97, 3) := by decide +kernel
theorem d_X_changes_62 : decode c_X_changes 62 = .ok (.iload_n 2, 1) := by decide +kernel
theorem d_X_changes_63 : decode c_X_changes 63 = .ok (.if_icmp .eq 5, 3) := by decide +kernel
theorem d_X_changes_66 : decode c_X_changes 66 = .ok (.iload_n 3, 1) := by decide +kernel
theorem d_X_changes_67 : decode c_X_changes 67 = .ok (.ireturn, 1) := by decide +kernel
theorem d_X_changes_68 : decode c_X_changes 68 = .ok (.iinc 3 1, 3) := by decide +kernel
theorem d_X_changes_71 : decode c_X_changes 71 = .ok (.goto (-32), 3) := by decide +kernel
theorem d_X_changes_74 : decode c_X_changes 74 = .ok (.aload_n 0, 1) := by decide +kernel
theorem d_X_changes_75 : decode c_X_changes 75 = .ok (.ldc 225, 2) := by decide +kernel
theorem d_X_changes_77 : decode c_X_changes 77 = .ok (.invokevirtual 90, 3) := by decide +kernel
theorem d_X_changes_80 : decode c_X_changes 80 = .ok (.ireturn, 1) := by decide +kernel
theorem d_X_bestYardInTrial_0 : decode c_X_bestYardInTrial 0 = .ok (.iconst 0, 1) := by decide +kernel
theorem d_X_bestYardInTrial_1 : decode c_X_bestYardInTrial 1 = .ok (.istore_n 2, 1) := by decide +kernel
theorem d_X_bestYardInTrial_2 : decode c_X_bestYardInTrial 2 = .ok (.iconst (-1), 1) := by decide +kernel
theorem d_X_bestYardInTrial_3 : decode c_X_bestYardInTrial 3 = .ok (.istore_n 3, 1) := by decide +kernel
theorem d_X_bestYardInTrial_4 : decode c_X_bestYardInTrial 4 = .ok (.iconst 0, 1) := by decide +kernel
theorem d_X_bestYardInTrial_5 : decode c_X_bestYardInTrial 5 = .ok (.istore 4, 2) := by decide +kernel
theorem d_X_bestYardInTrial_7 : decode c_X_bestYardInTrial 7 = .ok (.iload 4, 2) := by decide +kernel
theorem d_X_bestYardInTrial_9 : decode c_X_bestYardInTrial 9 = .ok (.bipush 40, 2) := by decide +kernel
theorem d_X_bestYardInTrial_11 : decode c_X_bestYardInTrial 11 = .ok (.if_icmp .ge 48, 3) := by decide +kernel
theorem d_X_bestYardInTrial_14 : decode c_X_bestYardInTrial 14 = .ok (.aload_n 1, 1) := by decide +kernel
theorem d_X_bestYardInTrial_15 : decode c_X_bestYardInTrial 15 = .ok (.iload 4, 2) := by decide +kernel
theorem d_X_bestYardInTrial_17 : decode c_X_bestYardInTrial 17 = .ok (.putfield 149, 3) := by decide +kernel
theorem d_X_bestYardInTrial_20 : decode c_X_bestYardInTrial 20 = .ok (.aload_n 0, 1) := by decide +kernel
theorem d_X_bestYardInTrial_21 : decode c_X_bestYardInTrial 21 = .ok (.getfield 57, 3) := by decide +kernel
theorem d_X_bestYardInTrial_24 : decode c_X_bestYardInTrial 24 = .ok (.invokevirtual 232, 3) := by decide +kernel
theorem d_X_bestYardInTrial_27 : decode c_X_bestYardInTrial 27 = .ok (.aload_n 0, 1) := by decide +kernel
theorem d_X_bestYardInTrial_28 : decode c_X_bestYardInTrial 28 = .ok (.getfield 57, 3) := by decide +kernel
theorem d_X_bestYardInTrial_31 : decode c_X_bestYardInTrial 31 = .ok (.aload_n 1, 1) := by decide +kernel
theorem d_X_bestYardInTrial_32 : decode c_X_bestYardInTrial 32 = .ok (.getfield 309, 3) := by decide +kernel
theorem d_X_bestYardInTrial_35 : decode c_X_bestYardInTrial 35 = .ok (.iconst 0, 1) := by decide +kernel
theorem d_X_bestYardInTrial_36 : decode c_X_bestYardInTrial 36 = .ok (.invokevirtual 238, 3) := by decide +kernel
theorem d_X_bestYardInTrial_39 : decode c_X_bestYardInTrial 39 = .ok (.istore 5, 2) := by decide +kernel
theorem d_X_bestYardInTrial_41 : decode c_X_bestYardInTrial 41 = .ok (.iload 5, 2) := by decide +kernel
theorem d_X_bestYardInTrial_43 : decode c_X_bestYardInTrial 43 = .ok (.iload_n 3, 1) := by decide +kernel
theorem d_X_bestYardInTrial_44 : decode c_X_bestYardInTrial 44 = .ok (.if_icmp .le 9, 3) := by decide +kernel
theorem d_X_bestYardInTrial_47 : decode c_X_bestYardInTrial 47 = .ok (.iload 5, 2) := by decide +kernel
theorem d_X_bestYardInTrial_49 : decode c_X_bestYardInTrial 49 = .ok (.istore_n 3, 1) := by decide +kernel
theorem d_X_bestYardInTrial_50 : decode c_X_bestYardInTrial 50 = .ok (.iload 4, 2) := by decide +kernel
theorem d_X_bestYardInTrial_52 : decode c_X_bestYardInTrial 52 = .ok (.istore_n 2, 1) := by decide +kernel
theorem d_X_bestYardInTrial_53 : decode c_X_bestYardInTrial 53 = .ok (.iinc 4 1, 3) := by decide +kernel
theorem d_X_bestYardInTrial_56 : decode c_X_bestYardInTrial 56 = .ok (.goto (-49), 3) := by decide +kernel
theorem d_X_bestYardInTrial_59 : decode c_X_bestYardInTrial 59 = .ok (.iload_n 2, 1) := by decide +kernel
theorem d_X_bestYardInTrial_60 : decode c_X_bestYardInTrial 60 = .ok (.ireturn, 1) := by decide +kernel
theorem d_X_best_0 : decode c_X_best 0 = .ok (.aload_n 0, 1) := by decide +kernel
theorem d_X_best_1 : decode c_X_best 1 = .ok (.iload_n 1, 1) := by decide +kernel
theorem d_X_best_2 : decode c_X_best 2 = .ok (.invokevirtual 131, 3) := by decide +kernel
theorem d_X_best_5 : decode c_X_best 5 = .ok (.ifCond .eq 13, 3) := by decide +kernel
theorem d_X_best_8 : decode c_X_best 8 = .ok (.iload_n 2, 1) := by decide +kernel
theorem d_X_best_9 : decode c_X_best 9 = .ok (.iconst 0, 1) := by decide +kernel
theorem d_X_best_10 : decode c_X_best 10 = .ok (.bipush 60, 2) := by decide +kernel
theorem d_X_best_12 : decode c_X_best 12 = .ok (.invokestatic 85, 3) := by decide +kernel
theorem d_X_best_15 : decode c_X_best 15 = .ok (.ifCond .ne 10, 3) := by decide +kernel
theorem d_X_best_18 : decode c_X_best 18 = .ok (.aload_n 0, 1) := by decide +kernel
theorem d_X_best_19 : decode c_X_best 19 = .ok (.ldc 89, 2) := by decide +kernel
theorem d_X_best_21 : decode c_X_best 21 = .ok (.invokevirtual 90, 3) := by decide +kernel
theorem d_X_best_24 : decode c_X_best 24 = .ok (.ireturn, 1) := by decide +kernel
theorem d_X_best_25 : decode c_X_best 25 = .ok (.aload_n 0, 1) := by decide +kernel
theorem d_X_best_26 : decode c_X_best 26 = .ok (.getfield 50, 3) := by decide +kernel
theorem d_X_best_29 : decode c_X_best 29 = .ok (.getfield 135, 3) := by decide +kernel
theorem d_X_best_32 : decode c_X_best 32 = .ok (.iload_n 1, 1) := by decide +kernel
theorem d_X_best_33 : decode c_X_best 33 = .ok (.aaload, 1) := by decide +kernel
theorem d_X_best_34 : decode c_X_best 34 = .ok (.getfield 178, 3) := by decide +kernel
theorem d_X_best_37 : decode c_X_best 37 = .ok (.ifCond .ne 10, 3) := by decide +kernel
theorem d_X_best_40 : decode c_X_best 40 = .ok (.aload_n 0, 1) := by decide +kernel
theorem d_X_best_41 : decode c_X_best 41 = .ok (.ldc 181, 2) := by decide +kernel
theorem d_X_best_43 : decode c_X_best 43 = .ok (.invokevirtual 90, 3) := by decide +kernel
theorem d_X_best_46 : decode c_X_best 46 = .ok (.ireturn, 1) := by decide +kernel
theorem d_X_best_47 : decode c_X_best 47 = .ok (.aload_n 0, 1) := by decide +kernel
theorem d_X_best_48 : decode c_X_best 48 = .ok (.getfield 57, 3) := by decide +kernel
theorem d_X_best_51 : decode c_X_best 51 = .ok (.aload_n 0, 1) := by decide +kernel
theorem d_X_best_52 : decode c_X_best 52 = .ok (.getfield 50, 3) := by decide +kernel
theorem d_X_best_55 : decode c_X_best 55 = .ok (.invokevirtual 219, 3) := by decide +kernel
theorem d_X_best_58 : decode c_X_best 58 = .ok (.aload_n 0, 1) := by decide +kernel
theorem d_X_best_59 : decode c_X_best 59 = .ok (.getfield 57, 3) := by decide +kernel
theorem d_X_best_62 : decode c_X_best 62 = .ok (.getfield 135, 3) := by decide +kernel
theorem d_X_best_65 : decode c_X_best 65 = .ok (.iload_n 1, 1) := by decide +kernel
theorem d_X_best_66 : decode c_X_best 66 = .ok (.aaload, 1) := by decide +kernel
theorem d_X_best_67 : decode c_X_best 67 = .ok (.astore_n 3, 1) := by decide +kernel
theorem d_X_best_68 : decode c_X_best 68 = .ok (.aload_n 0, 1) := by decide +kernel
theorem d_X_best_69 : decode c_X_best 69 = .ok (.getfield 57, 3) := by decide +kernel
theorem d_X_best_72 : decode c_X_best 72 = .ok (.aload_n 3, 1) := by decide +kernel
theorem d_X_best_73 : decode c_X_best 73 = .ok (.iconst 0, 1) := by decide +kernel
theorem d_X_best_74 : decode c_X_best 74 = .ok (.invokevirtual 182, 3) := by decide +kernel
theorem d_X_best_77 : decode c_X_best 77 = .ok (.aload_n 0, 1) := by decide +kernel
theorem d_X_best_78 : decode c_X_best 78 = .ok (.getfield 57, 3) := by decide +kernel
theorem d_X_best_81 : decode c_X_best 81 = .ok (.iload_n 2, 1) := by decide +kernel
theorem d_X_best_82 : decode c_X_best 82 = .ok (.invokevirtual 208, 3) := by decide +kernel
theorem d_X_best_85 : decode c_X_best 85 = .ok (.aload_n 3, 1) := by decide +kernel
theorem d_X_best_86 : decode c_X_best 86 = .ok (.invokevirtual 189, 3) := by decide +kernel
theorem d_X_best_89 : decode c_X_best 89 = .ok (.ifCond .eq 11, 3) := by decide +kernel
theorem d_X_best_92 : decode c_X_best 92 = .ok (.aload_n 0, 1) := by decide +kernel
theorem d_X_best_93 : decode c_X_best 93 = .ok (.aload_n 3, 1) := by decide +kernel
theorem d_X_best_94 : decode c_X_best 94 = .ok (.invokevirtual 229, 3) := by decide +kernel
theorem d_X_best_97 : decode c_X_best 97 = .ok (.goto 4, 3) := by decide +kernel
theorem d_X_best_100 : decode c_X_best 100 = .ok (.iconst 0, 1) := by decide +kernel
theorem d_X_best_101 : decode c_X_best 101 = .ok (.ireturn, 1) := by decide +kernel
theorem d_X_take_0 : decode c_X_take 0 = .ok (.iload_n 1, 1) := by decide +kernel
theorem d_X_take_1 : decode c_X_take 1 = .ok (.iconst 0, 1) := by decide +kernel
theorem d_X_take_2 : decode c_X_take 2 = .ok (.iconst 3, 1) := by decide +kernel
theorem d_X_take_3 : decode c_X_take 3 = .ok (.invokestatic 85, 3) := by decide +kernel
theorem d_X_take_6 : decode c_X_take 6 = .ok (.ifCond .eq 13, 3) := by decide +kernel
theorem d_X_take_9 : decode c_X_take 9 = .ok (.iload_n 2, 1) := by decide +kernel
theorem d_X_take_10 : decode c_X_take 10 = .ok (.iconst 0, 1) := by decide +kernel
theorem d_X_take_11 : decode c_X_take 11 = .ok (.bipush 60, 2) := by decide +kernel
theorem d_X_take_13 : decode c_X_take 13 = .ok (.invokestatic 85, 3) := by decide +kernel
theorem d_X_take_16 : decode c_X_take 16 = .ok (.ifCond .ne 10, 3) := by decide +kernel
theorem d_X_take_19 : decode c_X_take 19 = .ok (.aload_n 0, 1) := by decide +kernel
theorem d_X_take_20 : decode c_X_take 20 = .ok (.ldc 89, 2) := by decide +kernel
theorem d_X_take_22 : decode c_X_take 22 = .ok (.invokevirtual 90, 3) := by decide +kernel
theorem d_X_take_25 : decode c_X_take 25 = .ok (.ireturn, 1) := by decide +kernel
theorem d_X_take_26 : decode c_X_take 26 = .ok (.aload_n 0, 1) := by decide +kernel
theorem d_X_take_27 : decode c_X_take 27 = .ok (.getfield 57, 3) := by decide +kernel
theorem d_X_take_30 : decode c_X_take 30 = .ok (.aload_n 0, 1) := by decide +kernel
theorem d_X_take_31 : decode c_X_take 31 = .ok (.getfield 50, 3) := by decide +kernel
theorem d_X_take_34 : decode c_X_take 34 = .ok (.invokevirtual 219, 3) := by decide +kernel
theorem d_X_take_37 : decode c_X_take 37 = .ok (.aload_n 0, 1) := by decide +kernel
theorem d_X_take_38 : decode c_X_take 38 = .ok (.getfield 57, 3) := by decide +kernel
theorem d_X_take_41 : decode c_X_take 41 = .ok (.iload_n 2, 1) := by decide +kernel
theorem d_X_take_42 : decode c_X_take 42 = .ok (.invokevirtual 208, 3) := by decide +kernel
theorem d_X_take_45 : decode c_X_take 45 = .ok (.aload_n 0, 1) := by decide +kernel
theorem d_X_take_46 : decode c_X_take 46 = .ok (.getfield 57, 3) := by decide +kernel
theorem d_X_take_49 : decode c_X_take 49 = .ok (.invokevirtual 232, 3) := by decide +kernel
theorem d_X_take_52 : decode c_X_take 52 = .ok (.iconst (-1), 1) := by decide +kernel
theorem d_X_take_53 : decode c_X_take 53 = .ok (.istore_n 3, 1) := by decide +kernel
theorem d_X_take_54 : decode c_X_take 54 = .ok (.iconst (-1), 1) := by decide +kernel
theorem d_X_take_55 : decode c_X_take 55 = .ok (.istore 4, 2) := by decide +kernel
theorem d_X_take_57 : decode c_X_take 57 = .ok (.iconst 0, 1) := by decide +kernel
theorem d_X_take_58 : decode c_X_take 58 = .ok (.istore 5, 2) := by decide +kernel
theorem d_X_take_60 : decode c_X_take 60 = .ok (.iload 5, 2) := by decide +kernel
theorem d_X_take_62 : decode c_X_take 62 = .ok (.aload_n 0, 1) := by decide +kernel
theorem d_X_take_63 : decode c_X_take 63 = .ok (.getfield 50, 3) := by decide +kernel
theorem d_X_take_66 : decode c_X_take 66 = .ok (.getfield 235, 3) := by decide +kernel
theorem d_X_take_69 : decode c_X_take 69 = .ok (.if_icmp .ge 53, 3) := by decide +kernel
theorem d_X_take_72 : decode c_X_take 72 = .ok (.aload_n 0, 1) := by decide +kernel
theorem d_X_take_73 : decode c_X_take 73 = .ok (.getfield 50, 3) := by decide +kernel
theorem d_X_take_76 : decode c_X_take 76 = .ok (.getfield 135, 3) := by decide +kernel
theorem d_X_take_79 : decode c_X_take 79 = .ok (.iload 5, 2) := by decide +kernel
theorem d_X_take_81 : decode c_X_take 81 = .ok (.aaload, 1) := by decide +kernel
theorem d_X_take_82 : decode c_X_take 82 = .ok (.invokevirtual 189, 3) := by decide +kernel
theorem d_X_take_85 : decode c_X_take 85 = .ok (.ifCond .eq 31, 3) := by decide +kernel
theorem d_X_take_88 : decode c_X_take 88 = .ok (.aload_n 0, 1) := by decide +kernel
theorem d_X_take_89 : decode c_X_take 89 = .ok (.getfield 57, 3) := by decide +kernel
theorem d_X_take_92 : decode c_X_take 92 = .ok (.iload_n 1, 1) := by decide +kernel
theorem d_X_take_93 : decode c_X_take 93 = .ok (.iconst 1, 1) := by decide +kernel
theorem d_X_take_94 : decode c_X_take 94 = .ok (.iload 5, 2) := by decide +kernel
theorem d_X_take_96 : decode c_X_take 96 = .ok (.ishl, 1) := by decide +kernel
theorem d_X_take_97 : decode c_X_take 97 = .ok (.invokevirtual 238, 3) := by decide +kernel
theorem d_X_take_100 : decode c_X_take 100 = .ok (.istore 6, 2) := by decide +kernel
theorem d_X_take_102 : decode c_X_take 102 = .ok (.iload 6, 2) := by decide +kernel
theorem d_X_take_104 : decode c_X_take 104 = .ok (.iload 4, 2) := by decide +kernel
theorem d_X_take_106 : decode c_X_take 106 = .ok (.if_icmp .le 10, 3) := by decide +kernel
theorem d_X_take_109 : decode c_X_take 109 = .ok (.iload 6, 2) := by decide +kernel
theorem d_X_take_111 : decode c_X_take 111 = .ok (.istore 4, 2) := by decide +kernel
theorem d_X_take_113 : decode c_X_take 113 = .ok (.iload 5, 2) := by decide +kernel
theorem d_X_take_115 : decode c_X_take 115 = .ok (.istore_n 3, 1) := by decide +kernel
theorem d_X_take_116 : decode c_X_take 116 = .ok (.iinc 5 1, 3) := by decide +kernel
theorem d_X_take_119 : decode c_X_take 119 = .ok (.goto (-59), 3) := by decide +kernel
theorem d_X_take_122 : decode c_X_take 122 = .ok (.iload_n 3, 1) := by decide +kernel
theorem d_X_take_123 : decode c_X_take 123 = .ok (.ifCond .ge 12, 3) := by decide +kernel
theorem d_X_take_126 : decode c_X_take 126 = .ok (.aload_n 0, 1) := by decide +kernel
theorem d_X_take_127 : decode c_X_take 127 = .ok (.ldc 225, 2) := by decide +kernel
theorem d_X_take_129 : decode c_X_take 129 = .ok (.invokevirtual 90, 3) := by decide +kernel
theorem d_X_take_132 : decode c_X_take 132 = .ok (.goto 4, 3) := by decide +kernel
theorem d_X_take_135 : decode c_X_take 135 = .ok (.iload_n 3, 1) := by decide +kernel
theorem d_X_take_136 : decode c_X_take 136 = .ok (.ireturn, 1) := by decide +kernel
theorem d_X_kind_0 : decode c_X_kind 0 = .ok (.aload_n 0, 1) := by decide +kernel
theorem d_X_kind_1 : decode c_X_kind 1 = .ok (.iload_n 1, 1) := by decide +kernel
theorem d_X_kind_2 : decode c_X_kind 2 = .ok (.invokevirtual 131, 3) := by decide +kernel
theorem d_X_kind_5 : decode c_X_kind 5 = .ok (.ifCond .ne 10, 3) := by decide +kernel
theorem d_X_kind_8 : decode c_X_kind 8 = .ok (.aload_n 0, 1) := by decide +kernel
theorem d_X_kind_9 : decode c_X_kind 9 = .ok (.ldc 89, 2) := by decide +kernel
theorem d_X_kind_11 : decode c_X_kind 11 = .ok (.invokevirtual 90, 3) := by decide +kernel
theorem d_X_kind_14 : decode c_X_kind 14 = .ok (.ireturn, 1) := by decide +kernel
theorem d_X_kind_15 : decode c_X_kind 15 = .ok (.iconst 0, 1) := by decide +kernel
theorem d_X_kind_16 : decode c_X_kind 16 = .ok (.istore_n 2, 1) := by decide +kernel
theorem d_X_kind_17 : decode c_X_kind 17 = .ok (.iconst (-1), 1) := by decide +kernel
theorem d_X_kind_18 : decode c_X_kind 18 = .ok (.istore_n 3, 1) := by decide +kernel
theorem d_X_kind_19 : decode c_X_kind 19 = .ok (.iconst 0, 1) := by decide +kernel
theorem d_X_kind_20 : decode c_X_kind 20 = .ok (.istore 4, 2) := by decide +kernel
theorem d_X_kind_22 : decode c_X_kind 22 = .ok (.iload 4, 2) := by decide +kernel
theorem d_X_kind_24 : decode c_X_kind 24 = .ok (.bipush 6, 2) := by decide +kernel
theorem d_X_kind_26 : decode c_X_kind 26 = .ok (.if_icmp .ge 57, 3) := by decide +kernel
theorem d_X_kind_29 : decode c_X_kind 29 = .ok (.aload_n 0, 1) := by decide +kernel
theorem d_X_kind_30 : decode c_X_kind 30 = .ok (.getfield 63, 3) := by decide +kernel
theorem d_X_kind_33 : decode c_X_kind 33 = .ok (.aload_n 0, 1) := by decide +kernel
theorem d_X_kind_34 : decode c_X_kind 34 = .ok (.getfield 50, 3) := by decide +kernel
theorem d_X_kind_37 : decode c_X_kind 37 = .ok (.getfield 135, 3) := by decide +kernel
theorem d_X_kind_40 : decode c_X_kind 40 = .ok (.iload_n 1, 1) := by decide +kernel
theorem d_X_kind_41 : decode c_X_kind 41 = .ok (.aaload, 1) := by decide +kernel
theorem d_X_kind_42 : decode c_X_kind 42 = .ok (.invokevirtual 212, 3) := by decide +kernel
theorem d_X_kind_45 : decode c_X_kind 45 = .ok (.aload_n 0, 1) := by decide +kernel
theorem d_X_kind_46 : decode c_X_kind 46 = .ok (.getfield 63, 3) := by decide +kernel
theorem d_X_kind_49 : decode c_X_kind 49 = .ok (.aload_n 0, 1) := by decide +kernel
theorem d_X_kind_50 : decode c_X_kind 50 = .ok (.getfield 41, 3) := by decide +kernel
theorem d_X_kind_53 : decode c_X_kind 53 = .ok (.iload 4, 2) := by decide +kernel
theorem d_X_kind_55 : decode c_X_kind 55 = .ok (.aaload, 1) := by decide +kernel
theorem d_X_kind_56 : decode c_X_kind 56 = .ok (.putfield 139, 3) := by decide +kernel
theorem d_X_kind_59 : decode c_X_kind 59 = .ok (.aload_n 0, 1) := by decide +kernel
theorem d_X_kind_60 : decode c_X_kind 60 = .ok (.invokevirtual 222, 3) := by decide +kernel
theorem d_X_kind_63 : decode c_X_kind 63 = .ok (.istore 5, 2) := by decide +kernel
theorem d_X_kind_65 : decode c_X_kind 65 = .ok (.iload 5, 2) := by decide +kernel
theorem d_X_kind_67 : decode c_X_kind 67 = .ok (.iload_n 3, 1) := by decide +kernel
theorem d_X_kind_68 : decode c_X_kind 68 = .ok (.if_icmp .le 9, 3) := by decide +kernel
theorem d_X_kind_71 : decode c_X_kind 71 = .ok (.iload 5, 2) := by decide +kernel
theorem d_X_kind_73 : decode c_X_kind 73 = .ok (.istore_n 3, 1) := by decide +kernel
theorem d_X_kind_74 : decode c_X_kind 74 = .ok (.iload 4, 2) := by decide +kernel
theorem d_X_kind_76 : decode c_X_kind 76 = .ok (.istore_n 2, 1) := by decide +kernel
theorem d_X_kind_77 : decode c_X_kind 77 = .ok (.iinc 4 1, 3) := by decide +kernel
theorem d_X_kind_80 : decode c_X_kind 80 = .ok (.goto (-58), 3) := by decide +kernel
theorem d_X_kind_83 : decode c_X_kind 83 = .ok (.iload_n 2, 1) := by decide +kernel
theorem d_X_kind_84 : decode c_X_kind 84 = .ok (.ireturn, 1) := by decide +kernel
theorem d_X_enough_0 : decode c_X_enough 0 = .ok (.aload_n 0, 1) := by decide +kernel
theorem d_X_enough_1 : decode c_X_enough 1 = .ok (.iload_n 1, 1) := by decide +kernel
theorem d_X_enough_2 : decode c_X_enough 2 = .ok (.invokevirtual 131, 3) := by decide +kernel
theorem d_X_enough_5 : decode c_X_enough 5 = .ok (.ifCond .eq 13, 3) := by decide +kernel
theorem d_X_enough_8 : decode c_X_enough 8 = .ok (.iload_n 2, 1) := by decide +kernel
theorem d_X_enough_9 : decode c_X_enough 9 = .ok (.iconst 1, 1) := by decide +kernel
theorem d_X_enough_10 : decode c_X_enough 10 = .ok (.bipush 60, 2) := by decide +kernel
theorem d_X_enough_12 : decode c_X_enough 12 = .ok (.invokestatic 85, 3) := by decide +kernel
theorem d_X_enough_15 : decode c_X_enough 15 = .ok (.ifCond .ne 10, 3) := by decide +kernel
theorem d_X_enough_18 : decode c_X_enough 18 = .ok (.aload_n 0, 1) := by decide +kernel
theorem d_X_enough_19 : decode c_X_enough 19 = .ok (.ldc 89, 2) := by decide +kernel
theorem d_X_enough_21 : decode c_X_enough 21 = .ok (.invokevirtual 90, 3) := by decide +kernel
theorem d_X_enough_24 : decode c_X_enough 24 = .ok (.ireturn, 1) := by decide +kernel
theorem d_X_enough_25 : decode c_X_enough 25 = .ok (.iconst 0, 1) := by decide +kernel
theorem d_X_enough_26 : decode c_X_enough 26 = .ok (.istore_n 3, 1) := by decide +kernel
theorem d_X_enough_27 : decode c_X_enough 27 = .ok (.iload_n 3, 1) := by decide +kernel
theorem d_X_enough_28 : decode c_X_enough 28 = .ok (.bipush 99, 2) := by decide +kernel
theorem d_X_enough_30 : decode c_X_enough 30 = .ok (.if_icmp .gt 50, 3) := by decide +kernel
theorem d_X_enough_33 : decode c_X_enough 33 = .ok (.aload_n 0, 1) := by decide +kernel
theorem d_X_enough_34 : decode c_X_enough 34 = .ok (.getfield 63, 3) := by decide +kernel
theorem d_X_enough_37 : decode c_X_enough 37 = .ok (.aload_n 0, 1) := by decide +kernel
theorem d_X_enough_38 : decode c_X_enough 38 = .ok (.getfield 50, 3) := by decide +kernel
theorem d_X_enough_41 : decode c_X_enough 41 = .ok (.getfield 135, 3) := by decide +kernel
theorem d_X_enough_44 : decode c_X_enough 44 = .ok (.iload_n 1, 1) := by decide +kernel
theorem d_X_enough_45 : decode c_X_enough 45 = .ok (.aaload, 1) := by decide +kernel
theorem d_X_enough_46 : decode c_X_enough 46 = .ok (.invokevirtual 212, 3) := by decide +kernel
theorem d_X_enough_49 : decode c_X_enough 49 = .ok (.aload_n 0, 1) := by decide +kernel
theorem d_X_enough_50 : decode c_X_enough 50 = .ok (.getfield 63, 3) := by decide +kernel
theorem d_X_enough_53 : decode c_X_enough 53 = .ok (.iload_n 3, 1) := by decide +kernel
theorem d_X_enough_54 : decode c_X_enough 54 = .ok (.putfield 178, 3) := by decide +kernel
theorem d_X_enough_57 : decode c_X_enough 57 = .ok (.aload_n 0, 1) := by decide +kernel
theorem d_X_enough_58 : decode c_X_enough 58 = .ok (.iload_n 2, 1) := by decide +kernel
theorem d_X_enough_59 : decode c_X_enough 59 = .ok (.invokevirtual 216, 3) := by decide +kernel
theorem d_X_enough_62 : decode c_X_enough 62 = .ok (.aload_n 0, 1) := by decide +kernel
theorem d_X_enough_63 : decode c_X_enough 63 = .ok (.getfield 63, 3) := by decide +kernel
theorem d_X_enough_66 : decode c_X_enough 66 = .ok (.invokevirtual 189, 3) := by decide +kernel
theorem d_X_enough_69 : decode c_X_enough 69 = .ok (.ifCond .eq 5, 3) := by decide +kernel
theorem d_X_enough_72 : decode c_X_enough 72 = .ok (.iload_n 3, 1) := by decide +kernel
theorem d_X_enough_73 : decode c_X_enough 73 = .ok (.ireturn, 1) := by decide +kernel
theorem d_X_enough_74 : decode c_X_enough 74 = .ok (.iinc 3 1, 3) := by decide +kernel
theorem d_X_enough_77 : decode c_X_enough 77 = .ok (.goto (-50), 3) := by decide +kernel
theorem d_X_enough_80 : decode c_X_enough 80 = .ok (.aload_n 0, 1) := by decide +kernel
theorem d_X_enough_81 : decode c_X_enough 81 = .ok (.ldc 225, 2) := by decide +kernel
theorem d_X_enough_83 : decode c_X_enough 83 = .ok (.invokevirtual 90, 3) := by decide +kernel
theorem d_X_enough_86 : decode c_X_enough 86 = .ok (.ireturn, 1) := by decide +kernel
theorem d_X_weather_0 : decode c_X_weather 0 = .ok (.iload_n 1, 1) := by decide +kernel
theorem d_X_weather_1 : decode c_X_weather 1 = .ok (.iconst 1, 1) := by decide +kernel
theorem d_X_weather_2 : decode c_X_weather 2 = .ok (.bipush 60, 2) := by decide +kernel
theorem d_X_weather_4 : decode c_X_weather 4 = .ok (.invokestatic 85, 3) := by decide +kernel
theorem d_X_weather_7 : decode c_X_weather 7 = .ok (.ifCond .ne 10, 3) := by decide +kernel
theorem d_X_weather_10 : decode c_X_weather 10 = .ok (.aload_n 0, 1) := by decide +kernel
theorem d_X_weather_11 : decode c_X_weather 11 = .ok (.ldc 89, 2) := by decide +kernel
theorem d_X_weather_13 : decode c_X_weather 13 = .ok (.invokevirtual 90, 3) := by decide +kernel
theorem d_X_weather_16 : decode c_X_weather 16 = .ok (.ireturn, 1) := by decide +kernel
theorem d_X_weather_17 : decode c_X_weather 17 = .ok (.iconst 0, 1) := by decide +kernel
theorem d_X_weather_18 : decode c_X_weather 18 = .ok (.istore_n 2, 1) := by decide +kernel
theorem d_X_weather_19 : decode c_X_weather 19 = .ok (.iconst (-1), 1) := by decide +kernel
theorem d_X_weather_20 : decode c_X_weather 20 = .ok (.istore_n 3, 1) := by decide +kernel
theorem d_X_weather_21 : decode c_X_weather 21 = .ok (.iconst 0, 1) := by decide +kernel
theorem d_X_weather_22 : decode c_X_weather 22 = .ok (.istore 4, 2) := by decide +kernel
theorem d_X_weather_24 : decode c_X_weather 24 = .ok (.iload 4, 2) := by decide +kernel
theorem d_X_weather_26 : decode c_X_weather 26 = .ok (.bipush 7, 2) := by decide +kernel
theorem d_X_weather_28 : decode c_X_weather 28 = .ok (.if_icmp .ge 71, 3) := by decide +kernel
theorem d_X_weather_31 : decode c_X_weather 31 = .ok (.aload_n 0, 1) := by decide +kernel
theorem d_X_weather_32 : decode c_X_weather 32 = .ok (.getfield 57, 3) := by decide +kernel
theorem d_X_weather_35 : decode c_X_weather 35 = .ok (.aload_n 0, 1) := by decide +kernel
theorem d_X_weather_36 : decode c_X_weather 36 = .ok (.getfield 50, 3) := by decide +kernel
theorem d_X_weather_39 : decode c_X_weather 39 = .ok (.invokevirtual 219, 3) := by decide +kernel
theorem d_X_weather_42 : decode c_X_weather 42 = .ok (.aload_n 0, 1) := by decide +kernel
theorem d_X_weather_43 : decode c_X_weather 43 = .ok (.getfield 57, 3) := by decide +kernel
theorem d_X_weather_46 : decode c_X_weather 46 = .ok (.getfield 94, 3) := by decide +kernel
theorem d_X_weather_49 : decode c_X_weather 49 = .ok (.iload 4, 2) := by decide +kernel
theorem d_X_weather_51 : decode c_X_weather 51 = .ok (.iconst 1, 1) := by decide +kernel
theorem d_X_weather_52 : decode c_X_weather 52 = .ok (.aload_n 0, 1) := by decide +kernel
theorem d_X_weather_53 : decode c_X_weather 53 = .ok (.getfield 57, 3) := by decide +kernel
theorem d_X_weather_56 : decode c_X_weather 56 = .ok (.getfield 94, 3) := by decide +kernel
theorem d_X_weather_59 : decode c_X_weather 59 = .ok (.iload 4, 2) := by decide +kernel
theorem d_X_weather_61 : decode c_X_weather 61 = .ok (.iaload, 1) := by decide +kernel
theorem d_X_weather_62 : decode c_X_weather 62 = .ok (.isub, 1) := by decide +kernel
theorem d_X_weather_63 : decode c_X_weather 63 = .ok (.iastore, 1) := by decide +kernel
theorem d_X_weather_64 : decode c_X_weather 64 = .ok (.aload_n 0, 1) := by decide +kernel
theorem d_X_weather_65 : decode c_X_weather 65 = .ok (.getfield 57, 3) := by decide +kernel
theorem d_X_weather_68 : decode c_X_weather 68 = .ok (.iload_n 1, 1) := by decide +kernel
theorem d_X_weather_69 : decode c_X_weather 69 = .ok (.invokevirtual 208, 3) := by decide +kernel
theorem d_X_weather_72 : decode c_X_weather 72 = .ok (.aload_n 0, 1) := by decide +kernel
theorem d_X_weather_73 : decode c_X_weather 73 = .ok (.getfield 57, 3) := by decide +kernel
theorem d_X_weather_76 : decode c_X_weather 76 = .ok (.invokevirtual 123, 3) := by decide +kernel
theorem d_X_weather_79 : decode c_X_weather 79 = .ok (.istore 5, 2) := by decide +kernel
theorem d_X_weather_81 : decode c_X_weather 81 = .ok (.iload 5, 2) := by decide +kernel
theorem d_X_weather_83 : decode c_X_weather 83 = .ok (.iload_n 3, 1) := by decide +kernel
theorem d_X_weather_84 : decode c_X_weather 84 = .ok (.if_icmp .le 9, 3) := by decide +kernel
theorem d_X_weather_87 : decode c_X_weather 87 = .ok (.iload 5, 2) := by decide +kernel
theorem d_X_weather_89 : decode c_X_weather 89 = .ok (.istore_n 3, 1) := by decide +kernel
theorem d_X_weather_90 : decode c_X_weather 90 = .ok (.iload 4, 2) := by decide +kernel
theorem d_X_weather_92 : decode c_X_weather 92 = .ok (.istore_n 2, 1) := by decide +kernel
theorem d_X_weather_93 : decode c_X_weather 93 = .ok (.iinc 4 1, 3) := by decide +kernel
theorem d_X_weather_96 : decode c_X_weather 96 = .ok (.goto (-72), 3) := by decide +kernel
theorem d_X_weather_99 : decode c_X_weather 99 = .ok (.iload_n 2, 1) := by decide +kernel
theorem d_X_weather_100 : decode c_X_weather 100 = .ok (.ireturn, 1) := by decide +kernel
theorem d_Integer_bitCount_0f7a4_0 : decode c_Integer_bitCount_0f7a4 0 = .ok (.iload_n 0, 1) := by decide +kernel
theorem d_Integer_bitCount_0f7a4_1 : decode c_Integer_bitCount_0f7a4 1 = .ok (.iload_n 0, 1) := by decide +kernel
theorem d_Integer_bitCount_0f7a4_2 : decode c_Integer_bitCount_0f7a4 2 = .ok (.iconst 1, 1) := by decide +kernel
theorem d_Integer_bitCount_0f7a4_3 : decode c_Integer_bitCount_0f7a4 3 = .ok (.iushr, 1) := by decide +kernel
theorem d_Integer_bitCount_0f7a4_4 : decode c_Integer_bitCount_0f7a4 4 = .ok (.ldc_w 265, 3) := by decide +kernel
theorem d_Integer_bitCount_0f7a4_7 : decode c_Integer_bitCount_0f7a4 7 = .ok (.iand, 1) := by decide +kernel
theorem d_Integer_bitCount_0f7a4_8 : decode c_Integer_bitCount_0f7a4 8 = .ok (.isub, 1) := by decide +kernel
theorem d_Integer_bitCount_0f7a4_9 : decode c_Integer_bitCount_0f7a4 9 = .ok (.istore_n 0, 1) := by decide +kernel
theorem d_Integer_bitCount_0f7a4_10 : decode c_Integer_bitCount_0f7a4 10 = .ok (.iload_n 0, 1) := by decide +kernel
theorem d_Integer_bitCount_0f7a4_11 : decode c_Integer_bitCount_0f7a4 11 = .ok (.ldc_w 266, 3) := by decide +kernel
theorem d_Integer_bitCount_0f7a4_14 : decode c_Integer_bitCount_0f7a4 14 = .ok (.iand, 1) := by decide +kernel
theorem d_Integer_bitCount_0f7a4_15 : decode c_Integer_bitCount_0f7a4 15 = .ok (.iload_n 0, 1) := by decide +kernel
theorem d_Integer_bitCount_0f7a4_16 : decode c_Integer_bitCount_0f7a4 16 = .ok (.iconst 2, 1) := by decide +kernel
theorem d_Integer_bitCount_0f7a4_17 : decode c_Integer_bitCount_0f7a4 17 = .ok (.iushr, 1) := by decide +kernel
theorem d_Integer_bitCount_0f7a4_18 : decode c_Integer_bitCount_0f7a4 18 = .ok (.ldc_w 266, 3) := by decide +kernel
theorem d_Integer_bitCount_0f7a4_21 : decode c_Integer_bitCount_0f7a4 21 = .ok (.iand, 1) := by decide +kernel
theorem d_Integer_bitCount_0f7a4_22 : decode c_Integer_bitCount_0f7a4 22 = .ok (.iadd, 1) := by decide +kernel
theorem d_Integer_bitCount_0f7a4_23 : decode c_Integer_bitCount_0f7a4 23 = .ok (.istore_n 0, 1) := by decide +kernel
theorem d_Integer_bitCount_0f7a4_24 : decode c_Integer_bitCount_0f7a4 24 = .ok (.iload_n 0, 1) := by decide +kernel
theorem d_Integer_bitCount_0f7a4_25 : decode c_Integer_bitCount_0f7a4 25 = .ok (.iload_n 0, 1) := by decide +kernel
theorem d_Integer_bitCount_0f7a4_26 : decode c_Integer_bitCount_0f7a4 26 = .ok (.iconst 4, 1) := by decide +kernel
theorem d_Integer_bitCount_0f7a4_27 : decode c_Integer_bitCount_0f7a4 27 = .ok (.iushr, 1) := by decide +kernel
theorem d_Integer_bitCount_0f7a4_28 : decode c_Integer_bitCount_0f7a4 28 = .ok (.iadd, 1) := by decide +kernel
theorem d_Integer_bitCount_0f7a4_29 : decode c_Integer_bitCount_0f7a4 29 = .ok (.ldc_w 267, 3) := by decide +kernel
theorem d_Integer_bitCount_0f7a4_32 : decode c_Integer_bitCount_0f7a4 32 = .ok (.iand, 1) := by decide +kernel
theorem d_Integer_bitCount_0f7a4_33 : decode c_Integer_bitCount_0f7a4 33 = .ok (.istore_n 0, 1) := by decide +kernel
theorem d_Integer_bitCount_0f7a4_34 : decode c_Integer_bitCount_0f7a4 34 = .ok (.iload_n 0, 1) := by decide +kernel
theorem d_Integer_bitCount_0f7a4_35 : decode c_Integer_bitCount_0f7a4 35 = .ok (.iload_n 0, 1) := by decide +kernel
theorem d_Integer_bitCount_0f7a4_36 : decode c_Integer_bitCount_0f7a4 36 = .ok (.bipush 8, 2) := by decide +kernel
theorem d_Integer_bitCount_0f7a4_38 : decode c_Integer_bitCount_0f7a4 38 = .ok (.iushr, 1) := by decide +kernel
theorem d_Integer_bitCount_0f7a4_39 : decode c_Integer_bitCount_0f7a4 39 = .ok (.iadd, 1) := by decide +kernel
theorem d_Integer_bitCount_0f7a4_40 : decode c_Integer_bitCount_0f7a4 40 = .ok (.istore_n 0, 1) := by decide +kernel
theorem d_Integer_bitCount_0f7a4_41 : decode c_Integer_bitCount_0f7a4 41 = .ok (.iload_n 0, 1) := by decide +kernel
theorem d_Integer_bitCount_0f7a4_42 : decode c_Integer_bitCount_0f7a4 42 = .ok (.iload_n 0, 1) := by decide +kernel
theorem d_Integer_bitCount_0f7a4_43 : decode c_Integer_bitCount_0f7a4 43 = .ok (.bipush 16, 2) := by decide +kernel
theorem d_Integer_bitCount_0f7a4_45 : decode c_Integer_bitCount_0f7a4 45 = .ok (.iushr, 1) := by decide +kernel
theorem d_Integer_bitCount_0f7a4_46 : decode c_Integer_bitCount_0f7a4 46 = .ok (.iadd, 1) := by decide +kernel
theorem d_Integer_bitCount_0f7a4_47 : decode c_Integer_bitCount_0f7a4 47 = .ok (.istore_n 0, 1) := by decide +kernel
theorem d_Integer_bitCount_0f7a4_48 : decode c_Integer_bitCount_0f7a4 48 = .ok (.iload_n 0, 1) := by decide +kernel
theorem d_Integer_bitCount_0f7a4_49 : decode c_Integer_bitCount_0f7a4 49 = .ok (.bipush 63, 2) := by decide +kernel
theorem d_Integer_bitCount_0f7a4_51 : decode c_Integer_bitCount_0f7a4 51 = .ok (.iand, 1) := by decide +kernel
theorem d_Integer_bitCount_0f7a4_52 : decode c_Integer_bitCount_0f7a4 52 = .ok (.ireturn, 1) := by decide +kernel
theorem d_X_fewest_0 : decode c_X_fewest 0 = .ok (.iload_n 1, 1) := by decide +kernel
theorem d_X_fewest_1 : decode c_X_fewest 1 = .ok (.iconst 0, 1) := by decide +kernel
theorem d_X_fewest_2 : decode c_X_fewest 2 = .ok (.iconst 3, 1) := by decide +kernel
theorem d_X_fewest_3 : decode c_X_fewest 3 = .ok (.invokestatic 85, 3) := by decide +kernel
theorem d_X_fewest_6 : decode c_X_fewest 6 = .ok (.ifCond .eq 13, 3) := by decide +kernel
theorem d_X_fewest_9 : decode c_X_fewest 9 = .ok (.iload_n 2, 1) := by decide +kernel
theorem d_X_fewest_10 : decode c_X_fewest 10 = .ok (.iconst 0, 1) := by decide +kernel
theorem d_X_fewest_11 : decode c_X_fewest 11 = .ok (.bipush 40, 2) := by decide +kernel
theorem d_X_fewest_13 : decode c_X_fewest 13 = .ok (.invokestatic 85, 3) := by decide +kernel
theorem d_X_fewest_16 : decode c_X_fewest 16 = .ok (.ifCond .ne 10, 3) := by decide +kernel
theorem d_X_fewest_19 : decode c_X_fewest 19 = .ok (.aload_n 0, 1) := by decide +kernel
theorem d_X_fewest_20 : decode c_X_fewest 20 = .ok (.ldc 89, 2) := by decide +kernel
theorem d_X_fewest_22 : decode c_X_fewest 22 = .ok (.invokevirtual 90, 3) := by decide +kernel
theorem d_X_fewest_25 : decode c_X_fewest 25 = .ok (.ireturn, 1) := by decide +kernel
theorem d_X_fewest_26 : decode c_X_fewest 26 = .ok (.aload_n 0, 1) := by decide +kernel
theorem d_X_fewest_27 : decode c_X_fewest 27 = .ok (.getfield 50, 3) := by decide +kernel
theorem d_X_fewest_30 : decode c_X_fewest 30 = .ok (.invokevirtual 119, 3) := by decide +kernel
theorem d_X_fewest_33 : decode c_X_fewest 33 = .ok (.istore_n 3, 1) := by decide +kernel
theorem d_X_fewest_34 : decode c_X_fewest 34 = .ok (.aload_n 0, 1) := by decide +kernel
theorem d_X_fewest_35 : decode c_X_fewest 35 = .ok (.getfield 50, 3) := by decide +kernel
theorem d_X_fewest_38 : decode c_X_fewest 38 = .ok (.invokevirtual 232, 3) := by decide +kernel
theorem d_X_fewest_41 : decode c_X_fewest 41 = .ok (.iconst (-1), 1) := by decide +kernel
theorem d_X_fewest_42 : decode c_X_fewest 42 = .ok (.istore 4, 2) := by decide +kernel
theorem d_X_fewest_44 : decode c_X_fewest 44 = .ok (.bipush 9, 2) := by decide +kernel
theorem d_X_fewest_46 : decode c_X_fewest 46 = .ok (.istore 5, 2) := by decide +kernel
theorem d_X_fewest_48 : decode c_X_fewest 48 = .ok (.iconst 0, 1) := by decide +kernel
theorem d_X_fewest_49 : decode c_X_fewest 49 = .ok (.istore 6, 2) := by decide +kernel
theorem d_X_fewest_51 : decode c_X_fewest 51 = .ok (.iload 6, 2) := by decide +kernel
theorem d_X_fewest_53 : decode c_X_fewest 53 = .ok (.sipush 256, 3) := by decide +kernel
theorem d_X_fewest_56 : decode c_X_fewest 56 = .ok (.if_icmp .ge 65, 3) := by decide +kernel
theorem d_X_fewest_59 : decode c_X_fewest 59 = .ok (.iload 6, 2) := by decide +kernel
theorem d_X_fewest_61 : decode c_X_fewest 61 = .ok (.iload_n 3, 1) := by decide +kernel
theorem d_X_fewest_62 : decode c_X_fewest 62 = .ok (.iconst (-1), 1) := by decide +kernel
theorem d_X_fewest_63 : decode c_X_fewest 63 = .ok (.ixor, 1) := by decide +kernel
theorem d_X_fewest_64 : decode c_X_fewest 64 = .ok (.iand, 1) := by decide +kernel
theorem d_X_fewest_65 : decode c_X_fewest 65 = .ok (.ifCond .ne 7, 3) := by decide +kernel
theorem d_X_fewest_68 : decode c_X_fewest 68 = .ok (.iconst 1, 1) := by decide +kernel
theorem d_X_fewest_69 : decode c_X_fewest 69 = .ok (.goto 4, 3) := by decide +kernel
theorem d_X_fewest_72 : decode c_X_fewest 72 = .ok (.iconst 0, 1) := by decide +kernel
theorem d_X_fewest_73 : decode c_X_fewest 73 = .ok (.istore 7, 2) := by decide +kernel
theorem d_X_fewest_75 : decode c_X_fewest 75 = .ok (.iload 7, 2) := by decide +kernel
theorem d_X_fewest_77 : decode c_X_fewest 77 = .ok (.ifCond .eq 38, 3) := by decide +kernel
theorem d_X_fewest_80 : decode c_X_fewest 80 = .ok (.iload 6, 2) := by decide +kernel
theorem d_X_fewest_82 : decode c_X_fewest 82 = .ok (.invokestatic 241, 3) := by decide +kernel
theorem d_X_fewest_85 : decode c_X_fewest 85 = .ok (.iload 5, 2) := by decide +kernel
theorem d_X_fewest_87 : decode c_X_fewest 87 = .ok (.if_icmp .ge 28, 3) := by decide +kernel
theorem d_X_fewest_90 : decode c_X_fewest 90 = .ok (.aload_n 0, 1) := by decide +kernel
theorem d_X_fewest_91 : decode c_X_fewest 91 = .ok (.getfield 50, 3) := by decide +kernel
theorem d_X_fewest_94 : decode c_X_fewest 94 = .ok (.iload_n 1, 1) := by decide +kernel
theorem d_X_fewest_95 : decode c_X_fewest 95 = .ok (.iload 6, 2) := by decide +kernel
theorem d_X_fewest_97 : decode c_X_fewest 97 = .ok (.invokevirtual 238, 3) := by decide +kernel
theorem d_X_fewest_100 : decode c_X_fewest 100 = .ok (.iload_n 2, 1) := by decide +kernel
theorem d_X_fewest_101 : decode c_X_fewest 101 = .ok (.if_icmp .lt 14, 3) := by decide +kernel
theorem d_X_fewest_104 : decode c_X_fewest 104 = .ok (.iload 6, 2) := by decide +kernel
theorem d_X_fewest_106 : decode c_X_fewest 106 = .ok (.istore 4, 2) := by decide +kernel
theorem d_X_fewest_108 : decode c_X_fewest 108 = .ok (.iload 6, 2) := by decide +kernel
theorem d_X_fewest_110 : decode c_X_fewest 110 = .ok (.invokestatic 241, 3) := by decide +kernel
theorem d_X_fewest_113 : decode c_X_fewest 113 = .ok (.istore 5, 2) := by decide +kernel
theorem d_X_fewest_115 : decode c_X_fewest 115 = .ok (.iinc 6 1, 3) := by decide +kernel
theorem d_X_fewest_118 : decode c_X_fewest 118 = .ok (.goto (-67), 3) := by decide +kernel
theorem d_X_fewest_121 : decode c_X_fewest 121 = .ok (.iload 4, 2) := by decide +kernel
theorem d_X_fewest_123 : decode c_X_fewest 123 = .ok (.ifCond .ge 12, 3) := by decide +kernel
theorem d_X_fewest_126 : decode c_X_fewest 126 = .ok (.aload_n 0, 1) := by decide +kernel
theorem d_X_fewest_127 : decode c_X_fewest 127 = .ok (.ldc 225, 2) := by decide +kernel
theorem d_X_fewest_129 : decode c_X_fewest 129 = .ok (.invokevirtual 90, 3) := by decide +kernel
theorem d_X_fewest_132 : decode c_X_fewest 132 = .ok (.goto 5, 3) := by decide +kernel
theorem d_X_fewest_135 : decode c_X_fewest 135 = .ok (.iload 4, 2) := by decide +kernel
theorem d_X_fewest_137 : decode c_X_fewest 137 = .ok (.ireturn, 1) := by decide +kernel
theorem d_X_feed_0 : decode c_X_feed 0 = .ok (.iload_n 2, 1) := by decide +kernel
theorem d_X_feed_1 : decode c_X_feed 1 = .ok (.iconst 1, 1) := by decide +kernel
theorem d_X_feed_2 : decode c_X_feed 2 = .ok (.iconst 4, 1) := by decide +kernel
theorem d_X_feed_3 : decode c_X_feed 3 = .ok (.invokestatic 85, 3) := by decide +kernel
theorem d_X_feed_6 : decode c_X_feed 6 = .ok (.ifCond .ne 10, 3) := by decide +kernel
theorem d_X_feed_9 : decode c_X_feed 9 = .ok (.aload_n 0, 1) := by decide +kernel
theorem d_X_feed_10 : decode c_X_feed 10 = .ok (.ldc 89, 2) := by decide +kernel
theorem d_X_feed_12 : decode c_X_feed 12 = .ok (.invokevirtual 90, 3) := by decide +kernel
theorem d_X_feed_15 : decode c_X_feed 15 = .ok (.ireturn, 1) := by decide +kernel
theorem d_X_feed_16 : decode c_X_feed 16 = .ok (.aload_n 0, 1) := by decide +kernel
theorem d_X_feed_17 : decode c_X_feed 17 = .ok (.getfield 70, 3) := by decide +kernel
theorem d_X_feed_20 : decode c_X_feed 20 = .ok (.getfield 246, 3) := by decide +kernel
theorem d_X_feed_23 : decode c_X_feed 23 = .ok (.bipush 120, 2) := by decide +kernel
theorem d_X_feed_25 : decode c_X_feed 25 = .ok (.iload_n 2, 1) := by decide +kernel
theorem d_X_feed_26 : decode c_X_feed 26 = .ok (.isub, 1) := by decide +kernel
theorem d_X_feed_27 : decode c_X_feed 27 = .ok (.if_icmp .le 10, 3) := by decide +kernel
theorem d_X_feed_30 : decode c_X_feed 30 = .ok (.aload_n 0, 1) := by decide +kernel
theorem d_X_feed_31 : decode c_X_feed 31 = .ok (.ldc 130, 2) := by decide +kernel
theorem d_X_feed_33 : decode c_X_feed 33 = .ok (.invokevirtual 90, 3) := by decide +kernel
theorem d_X_feed_36 : decode c_X_feed 36 = .ok (.ireturn, 1) := by decide +kernel
theorem d_X_feed_37 : decode c_X_feed 37 = .ok (.iload_n 2, 1) := by decide +kernel
theorem d_X_feed_38 : decode c_X_feed 38 = .ok (.iconst 1, 1) := by decide +kernel
theorem d_X_feed_39 : decode c_X_feed 39 = .ok (.isub, 1) := by decide +kernel
theorem d_X_feed_40 : decode c_X_feed 40 = .ok (.istore_n 3, 1) := by decide +kernel
theorem d_X_feed_41 : decode c_X_feed 41 = .ok (.iload_n 3, 1) := by decide +kernel
theorem d_X_feed_42 : decode c_X_feed 42 = .ok (.ifCond .lt 26, 3) := by decide +kernel
theorem d_X_feed_45 : decode c_X_feed 45 = .ok (.aload_n 0, 1) := by decide +kernel
theorem d_X_feed_46 : decode c_X_feed 46 = .ok (.getfield 70, 3) := by decide +kernel
theorem d_X_feed_49 : decode c_X_feed 49 = .ok (.iload_n 1, 1) := by decide +kernel
theorem d_X_feed_50 : decode c_X_feed 50 = .ok (.bipush 8, 2) := by decide +kernel
theorem d_X_feed_52 : decode c_X_feed 52 = .ok (.iload_n 3, 1) := by decide +kernel
theorem d_X_feed_53 : decode c_X_feed 53 = .ok (.imul, 1) := by decide +kernel
theorem d_X_feed_54 : decode c_X_feed 54 = .ok (.ishr, 1) := by decide +kernel
theorem d_X_feed_55 : decode c_X_feed 55 = .ok (.sipush 255, 3) := by decide +kernel
theorem d_X_feed_58 : decode c_X_feed 58 = .ok (.iand, 1) := by decide +kernel
theorem d_X_feed_59 : decode c_X_feed 59 = .ok (.invokevirtual 249, 3) := by decide +kernel
theorem d_X_feed_62 : decode c_X_feed 62 = .ok (.iinc 3 (-1), 3) := by decide +kernel
theorem d_X_feed_65 : decode c_X_feed 65 = .ok (.goto (-24), 3) := by decide +kernel
theorem d_X_feed_68 : decode c_X_feed 68 = .ok (.aload_n 0, 1) := by decide +kernel
theorem d_X_feed_69 : decode c_X_feed 69 = .ok (.getfield 70, 3) := by decide +kernel
theorem d_X_feed_72 : decode c_X_feed 72 = .ok (.getfield 246, 3) := by decide +kernel
theorem d_X_feed_75 : decode c_X_feed 75 = .ok (.ireturn, 1) := by decide +kernel
theorem d_X_wipe_0 : decode c_X_wipe 0 = .ok (.aload_n 0, 1) := by decide +kernel
theorem d_X_wipe_1 : decode c_X_wipe 1 = .ok (.getfield 70, 3) := by decide +kernel
theorem d_X_wipe_4 : decode c_X_wipe 4 = .ok (.getfield 246, 3) := by decide +kernel
theorem d_X_wipe_7 : decode c_X_wipe 7 = .ok (.istore_n 1, 1) := by decide +kernel
theorem d_X_wipe_8 : decode c_X_wipe 8 = .ok (.aload_n 0, 1) := by decide +kernel
theorem d_X_wipe_9 : decode c_X_wipe 9 = .ok (.getfield 70, 3) := by decide +kernel
theorem d_X_wipe_12 : decode c_X_wipe 12 = .ok (.iconst 0, 1) := by decide +kernel
theorem d_X_wipe_13 : decode c_X_wipe 13 = .ok (.putfield 246, 3) := by decide +kernel
theorem d_X_wipe_16 : decode c_X_wipe 16 = .ok (.iload_n 1, 1) := by decide +kernel
theorem d_X_wipe_17 : decode c_X_wipe 17 = .ok (.ireturn, 1) := by decide +kernel
theorem d_X_palace_0 : decode c_X_palace 0 = .ok (.aload_n 0, 1) := by decide +kernel
theorem d_X_palace_1 : decode c_X_palace 1 = .ok (.getfield 57, 3) := by decide +kernel
theorem d_X_palace_4 : decode c_X_palace 4 = .ok (.aload_n 0, 1) := by decide +kernel
theorem d_X_palace_5 : decode c_X_palace 5 = .ok (.getfield 50, 3) := by decide +kernel
theorem d_X_palace_8 : decode c_X_palace 8 = .ok (.invokevirtual 219, 3) := by decide +kernel
theorem d_X_palace_11 : decode c_X_palace 11 = .ok (.aload_n 0, 1) := by decide +kernel
theorem d_X_palace_12 : decode c_X_palace 12 = .ok (.getfield 70, 3) := by decide +kernel
theorem d_X_palace_15 : decode c_X_palace 15 = .ok (.aload_n 0, 1) := by decide +kernel
theorem d_X_palace_16 : decode c_X_palace 16 = .ok (.getfield 57, 3) := by decide +kernel
theorem d_X_palace_19 : decode c_X_palace 19 = .ok (.aload_n 0, 1) := by decide +kernel
theorem d_X_palace_20 : decode c_X_palace 20 = .ok (.getfield 41, 3) := by decide +kernel
theorem d_X_palace_23 : decode c_X_palace 23 = .ok (.invokestatic 252, 3) := by decide +kernel
theorem d_X_palace_26 : decode c_X_palace 26 = .ok (.istore_n 1, 1) := by decide +kernel
theorem d_X_palace_27 : decode c_X_palace 27 = .ok (.aload_n 0, 1) := by decide +kernel
theorem d_X_palace_28 : decode c_X_palace 28 = .ok (.getfield 70, 3) := by decide +kernel
theorem d_X_palace_31 : decode c_X_palace 31 = .ok (.iconst 0, 1) := by decide +kernel
theorem d_X_palace_32 : decode c_X_palace 32 = .ok (.putfield 246, 3) := by decide +kernel
theorem d_X_palace_35 : decode c_X_palace 35 = .ok (.iload_n 1, 1) := by decide +kernel
theorem d_X_palace_36 : decode c_X_palace 36 = .ok (.ifCond .lt 14, 3) := by decide +kernel
theorem d_X_palace_39 : decode c_X_palace 39 = .ok (.aload_n 0, 1) := by decide +kernel
theorem d_X_palace_40 : decode c_X_palace 40 = .ok (.getfield 50, 3) := by decide +kernel
theorem d_X_palace_43 : decode c_X_palace 43 = .ok (.aload_n 0, 1) := by decide +kernel
theorem d_X_palace_44 : decode c_X_palace 44 = .ok (.getfield 57, 3) := by decide +kernel
theorem d_X_palace_47 : decode c_X_palace 47 = .ok (.invokevirtual 219, 3) := by decide +kernel
theorem d_X_palace_50 : decode c_X_palace 50 = .ok (.iload_n 1, 1) := by decide +kernel
theorem d_X_palace_51 : decode c_X_palace 51 = .ok (.ireturn, 1) := by decide +kernel
theorem d_X_isSheet_0 : decode c_X_isSheet 0 = .ok (.iload_n 1, 1) := by decide +kernel
theorem d_X_isSheet_1 : decode c_X_isSheet 1 = .ok (.iconst 0, 1) := by decide +kernel
theorem d_X_isSheet_2 : decode c_X_isSheet 2 = .ok (.iconst 3, 1) := by decide +kernel
theorem d_X_isSheet_3 : decode c_X_isSheet 3 = .ok (.invokestatic 85, 3) := by decide +kernel
theorem d_X_isSheet_6 : decode c_X_isSheet 6 = .ok (.ireturn, 1) := by decide +kernel
theorem d_X_sheet_0 : decode c_X_sheet 0 = .ok (.aload_n 0, 1) := by decide +kernel
theorem d_X_sheet_1 : decode c_X_sheet 1 = .ok (.iload_n 1, 1) := by decide +kernel
theorem d_X_sheet_2 : decode c_X_sheet 2 = .ok (.invokevirtual 258, 3) := by decide +kernel
theorem d_X_sheet_5 : decode c_X_sheet 5 = .ok (.ifCond .eq 25, 3) := by decide +kernel
theorem d_X_sheet_8 : decode c_X_sheet 8 = .ok (.iload_n 2, 1) := by decide +kernel
theorem d_X_sheet_9 : decode c_X_sheet 9 = .ok (.ifCond .eq 28, 3) := by decide +kernel
theorem d_X_sheet_12 : decode c_X_sheet 12 = .ok (.iload_n 2, 1) := by decide +kernel
theorem d_X_sheet_13 : decode c_X_sheet 13 = .ok (.bipush 8, 2) := by decide +kernel
theorem d_X_sheet_15 : decode c_X_sheet 15 = .ok (.if_icmp .eq 22, 3) := by decide +kernel
theorem d_X_sheet_18 : decode c_X_sheet 18 = .ok (.iload_n 2, 1) := by decide +kernel
theorem d_X_sheet_19 : decode c_X_sheet 19 = .ok (.bipush 16, 2) := by decide +kernel
theorem d_X_sheet_21 : decode c_X_sheet 21 = .ok (.if_icmp .eq 16, 3) := by decide +kernel
theorem d_X_sheet_24 : decode c_X_sheet 24 = .ok (.iload_n 2, 1) := by decide +kernel
theorem d_X_sheet_25 : decode c_X_sheet 25 = .ok (.bipush 64, 2) := by decide +kernel
theorem d_X_sheet_27 : decode c_X_sheet 27 = .ok (.if_icmp .eq 10, 3) := by decide +kernel
theorem d_X_sheet_30 : decode c_X_sheet 30 = .ok (.aload_n 0, 1) := by decide +kernel
theorem d_X_sheet_31 : decode c_X_sheet 31 = .ok (.ldc 89, 2) := by decide +kernel
theorem d_X_sheet_33 : decode c_X_sheet 33 = .ok (.invokevirtual 90, 3) := by decide +kernel
theorem d_X_sheet_36 : decode c_X_sheet 36 = .ok (.ireturn, 1) := by decide +kernel
theorem d_X_sheet_37 : decode c_X_sheet 37 = .ok (.iload_n 3, 1) := by decide +kernel
theorem d_X_sheet_38 : decode c_X_sheet 38 = .ok (.ifCond .ge 11, 3) := by decide +kernel
theorem d_X_sheet_41 : decode c_X_sheet 41 = .ok (.aload_n 0, 1) := by decide +kernel
theorem d_X_sheet_42 : decode c_X_sheet 42 = .ok (.ldc_w 261, 3) := by decide +kernel
theorem d_X_sheet_45 : decode c_X_sheet 45 = .ok (.invokevirtual 90, 3) := by decide +kernel
theorem d_X_sheet_48 : decode c_X_sheet 48 = .ok (.ireturn, 1) := by decide +kernel
theorem d_X_sheet_49 : decode c_X_sheet 49 = .ok (.iload_n 3, 1) := by decide +kernel
theorem d_X_sheet_50 : decode c_X_sheet 50 = .ok (.bipush 40, 2) := by decide +kernel
theorem d_X_sheet_52 : decode c_X_sheet 52 = .ok (.if_icmp .le 10, 3) := by decide +kernel
theorem d_X_sheet_55 : decode c_X_sheet 55 = .ok (.aload_n 0, 1) := by decide +kernel
theorem d_X_sheet_56 : decode c_X_sheet 56 = .ok (.ldc 89, 2) := by decide +kernel
theorem d_X_sheet_58 : decode c_X_sheet 58 = .ok (.invokevirtual 90, 3) := by decide +kernel
theorem d_X_sheet_61 : decode c_X_sheet 61 = .ok (.ireturn, 1) := by decide +kernel
theorem d_X_sheet_62 : decode c_X_sheet 62 = .ok (.aload_n 0, 1) := by decide +kernel
theorem d_X_sheet_63 : decode c_X_sheet 63 = .ok (.getfield 76, 3) := by decide +kernel
theorem d_X_sheet_66 : decode c_X_sheet 66 = .ok (.iload_n 1, 1) := by decide +kernel
theorem d_X_sheet_67 : decode c_X_sheet 67 = .ok (.aaload, 1) := by decide +kernel
theorem d_X_sheet_68 : decode c_X_sheet 68 = .ok (.iload_n 2, 1) := by decide +kernel
theorem d_X_sheet_69 : decode c_X_sheet 69 = .ok (.iload_n 2, 1) := by decide +kernel
theorem d_X_sheet_70 : decode c_X_sheet 70 = .ok (.ifCond .ne 7, 3) := by decide +kernel
theorem d_X_sheet_73 : decode c_X_sheet 73 = .ok (.iconst 0, 1) := by decide +kernel
theorem d_X_sheet_74 : decode c_X_sheet 74 = .ok (.goto 4, 3) := by decide +kernel
theorem d_X_sheet_77 : decode c_X_sheet 77 = .ok (.iload_n 3, 1) := by decide +kernel
theorem d_X_sheet_78 : decode c_X_sheet 78 = .ok (.invokevirtual 262, 3) := by decide +kernel
theorem d_X_sheet_81 : decode c_X_sheet 81 = .ok (.aload_n 0, 1) := by decide +kernel
theorem d_X_sheet_82 : decode c_X_sheet 82 = .ok (.getfield 76, 3) := by decide +kernel
theorem d_X_sheet_85 : decode c_X_sheet 85 = .ok (.iload_n 1, 1) := by decide +kernel
theorem d_X_sheet_86 : decode c_X_sheet 86 = .ok (.aaload, 1) := by decide +kernel
theorem d_X_sheet_87 : decode c_X_sheet 87 = .ok (.getfield 265, 3) := by decide +kernel
theorem d_X_sheet_90 : decode c_X_sheet 90 = .ok (.ireturn, 1) := by decide +kernel
theorem d_X_write_0 : decode c_X_write 0 = .ok (.aload_n 0, 1) := by decide +kernel
theorem d_X_write_1 : decode c_X_write 1 = .ok (.iload_n 1, 1) := by decide +kernel
theorem d_X_write_2 : decode c_X_write 2 = .ok (.invokevirtual 258, 3) := by decide +kernel
theorem d_X_write_5 : decode c_X_write 5 = .ok (.ifCond .ne 11, 3) := by decide +kernel
theorem d_X_write_8 : decode c_X_write 8 = .ok (.aload_n 0, 1) := by decide +kernel
theorem d_X_write_9 : decode c_X_write 9 = .ok (.ldc 89, 2) := by decide +kernel
theorem d_X_write_11 : decode c_X_write 11 = .ok (.invokevirtual 90, 3) := by decide +kernel
theorem d_X_write_14 : decode c_X_write 14 = .ok (.i2l, 1) := by decide +kernel
theorem d_X_write_15 : decode c_X_write 15 = .ok (.lreturn, 1) := by decide +kernel
theorem d_X_write_16 : decode c_X_write 16 = .ok (.aload_n 0, 1) := by decide +kernel
theorem d_X_write_17 : decode c_X_write 17 = .ok (.getfield 76, 3) := by decide +kernel
theorem d_X_write_20 : decode c_X_write 20 = .ok (.iload_n 1, 1) := by decide +kernel
theorem d_X_write_21 : decode c_X_write 21 = .ok (.aaload, 1) := by decide +kernel
theorem d_X_write_22 : decode c_X_write 22 = .ok (.astore 5, 2) := by decide +kernel
theorem d_X_write_24 : decode c_X_write 24 = .ok (.aload 5, 2) := by decide +kernel
theorem d_X_write_26 : decode c_X_write 26 = .ok (.invokevirtual 266, 3) := by decide +kernel
theorem d_X_write_29 : decode c_X_write 29 = .ok (.ifCond .eq 12, 3) := by decide +kernel
theorem d_X_write_32 : decode c_X_write 32 = .ok (.aload_n 0, 1) := by decide +kernel
theorem d_X_write_33 : decode c_X_write 33 = .ok (.ldc_w 269, 3) := by decide +kernel
theorem d_X_write_36 : decode c_X_write 36 = .ok (.invokevirtual 90, 3) := by decide +kernel
theorem d_X_write_39 : decode c_X_write 39 = .ok (.i2l, 1) := by decide +kernel
theorem d_X_write_40 : decode c_X_write 40 = .ok (.lreturn, 1) := by decide +kernel
theorem d_X_write_41 : decode c_X_write 41 = .ok (.iload_n 2, 1) := by decide +kernel
theorem d_X_write_42 : decode c_X_write 42 = .ok (.iconst 0, 1) := by decide +kernel
theorem d_X_write_43 : decode c_X_write 43 = .ok (.aload 5, 2) := by decide +kernel
theorem d_X_write_45 : decode c_X_write 45 = .ok (.getfield 265, 3) := by decide +kernel
theorem d_X_write_48 : decode c_X_write 48 = .ok (.iconst 1, 1) := by decide +kernel
theorem d_X_write_49 : decode c_X_write 49 = .ok (.isub, 1) := by decide +kernel
theorem d_X_write_50 : decode c_X_write 50 = .ok (.invokestatic 85, 3) := by decide +kernel
theorem d_X_write_53 : decode c_X_write 53 = .ok (.ifCond .ne 11, 3) := by decide +kernel
theorem d_X_write_56 : decode c_X_write 56 = .ok (.aload_n 0, 1) := by decide +kernel
theorem d_X_write_57 : decode c_X_write 57 = .ok (.ldc 89, 2) := by decide +kernel
theorem d_X_write_59 : decode c_X_write 59 = .ok (.invokevirtual 90, 3) := by decide +kernel
theorem d_X_write_62 : decode c_X_write 62 = .ok (.i2l, 1) := by decide +kernel
theorem d_X_write_63 : decode c_X_write 63 = .ok (.lreturn, 1) := by decide +kernel
theorem d_X_write_64 : decode c_X_write 64 = .ok (.aload 5, 2) := by decide +kernel
theorem d_X_write_66 : decode c_X_write 66 = .ok (.getfield 270, 3) := by decide +kernel
theorem d_X_write_69 : decode c_X_write 69 = .ok (.iload_n 2, 1) := by decide +kernel
theorem d_X_write_70 : decode c_X_write 70 = .ok (.laload, 1) := by decide +kernel
theorem d_X_write_71 : decode c_X_write 71 = .ok (.lstore 6, 2) := by decide +kernel
theorem d_X_write_73 : decode c_X_write 73 = .ok (.aload 5, 2) := by decide +kernel
theorem d_X_write_75 : decode c_X_write 75 = .ok (.iload_n 2, 1) := by decide +kernel
theorem d_X_write_76 : decode c_X_write 76 = .ok (.lload_n 3, 1) := by decide +kernel
theorem d_X_write_77 : decode c_X_write 77 = .ok (.invokevirtual 274, 3) := by decide +kernel
theorem d_X_write_80 : decode c_X_write 80 = .ok (.lload 6, 2) := by decide +kernel
theorem d_X_write_82 : decode c_X_write 82 = .ok (.lreturn, 1) := by decide +kernel
theorem d_X_copy_0 : decode c_X_copy 0 = .ok (.aload_n 0, 1) := by decide +kernel
theorem d_X_copy_1 : decode c_X_copy 1 = .ok (.iload_n 1, 1) := by decide +kernel
theorem d_X_copy_2 : decode c_X_copy 2 = .ok (.invokevirtual 258, 3) := by decide +kernel
theorem d_X_copy_5 : decode c_X_copy 5 = .ok (.ifCond .eq 11, 3) := by decide +kernel
theorem d_X_copy_8 : decode c_X_copy 8 = .ok (.aload_n 0, 1) := by decide +kernel
theorem d_X_copy_9 : decode c_X_copy 9 = .ok (.iload_n 3, 1) := by decide +kernel
theorem d_X_copy_10 : decode c_X_copy 10 = .ok (.invokevirtual 258, 3) := by decide +kernel
theorem d_X_copy_13 : decode c_X_copy 13 = .ok (.ifCond .ne 10, 3) := by decide +kernel
theorem d_X_copy_16 : decode c_X_copy 16 = .ok (.aload_n 0, 1) := by decide +kernel
theorem d_X_copy_17 : decode c_X_copy 17 = .ok (.ldc 89, 2) := by decide +kernel
theorem d_X_copy_19 : decode c_X_copy 19 = .ok (.invokevirtual 90, 3) := by decide +kernel
theorem d_X_copy_22 : decode c_X_copy 22 = .ok (.ireturn, 1) := by decide +kernel
theorem d_X_copy_23 : decode c_X_copy 23 = .ok (.aload_n 0, 1) := by decide +kernel
theorem d_X_copy_24 : decode c_X_copy 24 = .ok (.getfield 76, 3) := by decide +kernel
theorem d_X_copy_27 : decode c_X_copy 27 = .ok (.iload_n 1, 1) := by decide +kernel
theorem d_X_copy_28 : decode c_X_copy 28 = .ok (.aaload, 1) := by decide +kernel
theorem d_X_copy_29 : decode c_X_copy 29 = .ok (.astore 6, 2) := by decide +kernel
theorem d_X_copy_31 : decode c_X_copy 31 = .ok (.aload_n 0, 1) := by decide +kernel
theorem d_X_copy_32 : decode c_X_copy 32 = .ok (.getfield 76, 3) := by decide +kernel
theorem d_X_copy_35 : decode c_X_copy 35 = .ok (.iload_n 3, 1) := by decide +kernel
theorem d_X_copy_36 : decode c_X_copy 36 = .ok (.aaload, 1) := by decide +kernel
theorem d_X_copy_37 : decode c_X_copy 37 = .ok (.astore 7, 2) := by decide +kernel
theorem d_X_copy_39 : decode c_X_copy 39 = .ok (.aload 6, 2) := by decide +kernel
theorem d_X_copy_41 : decode c_X_copy 41 = .ok (.invokevirtual 266, 3) := by decide +kernel
theorem d_X_copy_44 : decode c_X_copy 44 = .ok (.ifCond .ne 11, 3) := by decide +kernel
theorem d_X_copy_47 : decode c_X_copy 47 = .ok (.aload 7, 2) := by decide +kernel
theorem d_X_copy_49 : decode c_X_copy 49 = .ok (.invokevirtual 266, 3) := by decide +kernel
theorem d_X_copy_52 : decode c_X_copy 52 = .ok (.ifCond .eq 11, 3) := by decide +kernel
theorem d_X_copy_55 : decode c_X_copy 55 = .ok (.aload_n 0, 1) := by decide +kernel
theorem d_X_copy_56 : decode c_X_copy 56 = .ok (.ldc_w 269, 3) := by decide +kernel
theorem d_X_copy_59 : decode c_X_copy 59 = .ok (.invokevirtual 90, 3) := by decide +kernel
theorem d_X_copy_62 : decode c_X_copy 62 = .ok (.ireturn, 1) := by decide +kernel
theorem d_X_copy_63 : decode c_X_copy 63 = .ok (.aload 6, 2) := by decide +kernel
theorem d_X_copy_65 : decode c_X_copy 65 = .ok (.getfield 278, 3) := by decide +kernel
theorem d_X_copy_68 : decode c_X_copy 68 = .ok (.aload 7, 2) := by decide +kernel
theorem d_X_copy_70 : decode c_X_copy 70 = .ok (.getfield 278, 3) := by decide +kernel
theorem d_X_copy_73 : decode c_X_copy 73 = .ok (.if_icmp .eq 10, 3) := by decide +kernel
theorem d_X_copy_76 : decode c_X_copy 76 = .ok (.aload_n 0, 1) := by decide +kernel
theorem d_X_copy_77 : decode c_X_copy 77 = .ok (.ldc 177, 2) := by decide +kernel
theorem d_X_copy_79 : decode c_X_copy 79 = .ok (.invokevirtual 90, 3) := by decide +kernel
theorem d_X_copy_82 : decode c_X_copy 82 = .ok (.ireturn, 1) := by decide +kernel
theorem d_X_copy_83 : decode c_X_copy 83 = .ok (.aload 6, 2) := by decide +kernel
theorem d_X_copy_85 : decode c_X_copy 85 = .ok (.iload_n 2, 1) := by decide +kernel
theorem d_X_copy_86 : decode c_X_copy 86 = .ok (.iload 5, 2) := by decide +kernel
theorem d_X_copy_88 : decode c_X_copy 88 = .ok (.invokevirtual 281, 3) := by decide +kernel
theorem d_X_copy_91 : decode c_X_copy 91 = .ok (.ifCond .eq 15, 3) := by decide +kernel
theorem d_X_copy_94 : decode c_X_copy 94 = .ok (.aload 7, 2) := by decide +kernel
theorem d_X_copy_96 : decode c_X_copy 96 = .ok (.iload 4, 2) := by decide +kernel
theorem d_X_copy_98 : decode c_X_copy 98 = .ok (.iload 5, 2) := by decide +kernel
theorem d_X_copy_100 : decode c_X_copy 100 = .ok (.invokevirtual 281, 3) := by decide +kernel
theorem d_X_copy_103 : decode c_X_copy 103 = .ok (.ifCond .ne 10, 3) := by decide +kernel
theorem d_X_copy_106 : decode c_X_copy 106 = .ok (.aload_n 0, 1) := by decide +kernel
theorem d_X_copy_107 : decode c_X_copy 107 = .ok (.ldc 89, 2) := by decide +kernel
theorem d_X_copy_109 : decode c_X_copy 109 = .ok (.invokevirtual 90, 3) := by decide +kernel
theorem d_X_copy_112 : decode c_X_copy 112 = .ok (.ireturn, 1) := by decide +kernel
theorem d_X_copy_113 : decode c_X_copy 113 = .ok (.aload 6, 2) := by decide +kernel
theorem d_X_copy_115 : decode c_X_copy 115 = .ok (.getfield 270, 3) := by decide +kernel
theorem d_X_copy_118 : decode c_X_copy 118 = .ok (.iload_n 2, 1) := by decide +kernel
theorem d_X_copy_119 : decode c_X_copy 119 = .ok (.aload 7, 2) := by decide +kernel
theorem d_X_copy_121 : decode c_X_copy 121 = .ok (.getfield 270, 3) := by decide +kernel
theorem d_X_copy_124 : decode c_X_copy 124 = .ok (.iload 4, 2) := by decide +kernel
theorem d_X_copy_126 : decode c_X_copy 126 = .ok (.iload 5, 2) := by decide +kernel
theorem d_X_copy_128 : decode c_X_copy 128 = .ok (.invokestatic 284, 3) := by decide +kernel
theorem d_X_copy_131 : decode c_X_copy 131 = .ok (.iload 5, 2) := by decide +kernel
theorem d_X_copy_133 : decode c_X_copy 133 = .ok (.ireturn, 1) := by decide +kernel
theorem d_X_sheetFinding_0 : decode c_X_sheetFinding 0 = .ok (.aload_n 0, 1) := by decide +kernel
theorem d_X_sheetFinding_1 : decode c_X_sheetFinding 1 = .ok (.iload_n 1, 1) := by decide +kernel
theorem d_X_sheetFinding_2 : decode c_X_sheetFinding 2 = .ok (.invokevirtual 258, 3) := by decide +kernel
theorem d_X_sheetFinding_5 : decode c_X_sheetFinding 5 = .ok (.ifCond .ne 6, 3) := by decide +kernel
theorem d_X_sheetFinding_8 : decode c_X_sheetFinding 8 = .ok (.ldc 89, 2) := by decide +kernel
theorem d_X_sheetFinding_10 : decode c_X_sheetFinding 10 = .ok (.ireturn, 1) := by decide +kernel
theorem d_X_sheetFinding_11 : decode c_X_sheetFinding 11 = .ok (.aload_n 0, 1) := by decide +kernel
theorem d_X_sheetFinding_12 : decode c_X_sheetFinding 12 = .ok (.getfield 76, 3) := by decide +kernel
theorem d_X_sheetFinding_15 : decode c_X_sheetFinding 15 = .ok (.iload_n 1, 1) := by decide +kernel
theorem d_X_sheetFinding_16 : decode c_X_sheetFinding 16 = .ok (.aaload, 1) := by decide +kernel
theorem d_X_sheetFinding_17 : decode c_X_sheetFinding 17 = .ok (.invokevirtual 266, 3) := by decide +kernel
theorem d_X_sheetFinding_20 : decode c_X_sheetFinding 20 = .ok (.ifCond .eq 9, 3) := by decide +kernel
theorem d_X_sheetFinding_23 : decode c_X_sheetFinding 23 = .ok (.ldc_w 269, 3) := by decide +kernel
theorem d_X_sheetFinding_26 : decode c_X_sheetFinding 26 = .ok (.goto 4, 3) := by decide +kernel
theorem d_X_sheetFinding_29 : decode c_X_sheetFinding 29 = .ok (.iconst 0, 1) := by decide +kernel
theorem d_X_sheetFinding_30 : decode c_X_sheetFinding 30 = .ok (.ireturn, 1) := by decide +kernel
theorem d_X_lays_0 : decode c_X_lays 0 = .ok (.aload_n 0, 1) := by decide +kernel
theorem d_X_lays_1 : decode c_X_lays 1 = .ok (.iload_n 1, 1) := by decide +kernel
theorem d_X_lays_2 : decode c_X_lays 2 = .ok (.invokevirtual 290, 3) := by decide +kernel
theorem d_X_lays_5 : decode c_X_lays 5 = .ok (.istore_n 2, 1) := by decide +kernel
theorem d_X_lays_6 : decode c_X_lays 6 = .ok (.iload_n 2, 1) := by decide +kernel
theorem d_X_lays_7 : decode c_X_lays 7 = .ok (.ifCond .eq 9, 3) := by decide +kernel
theorem d_X_lays_10 : decode c_X_lays 10 = .ok (.aload_n 0, 1) := by decide +kernel
theorem d_X_lays_11 : decode c_X_lays 11 = .ok (.iload_n 2, 1) := by decide +kernel
theorem d_X_lays_12 : decode c_X_lays 12 = .ok (.invokevirtual 90, 3) := by decide +kernel
theorem d_X_lays_15 : decode c_X_lays 15 = .ok (.ireturn, 1) := by decide +kernel
theorem d_X_lays_16 : decode c_X_lays 16 = .ok (.aload_n 0, 1) := by decide +kernel
theorem d_X_lays_17 : decode c_X_lays 17 = .ok (.getfield 76, 3) := by decide +kernel
theorem d_X_lays_20 : decode c_X_lays 20 = .ok (.iload_n 1, 1) := by decide +kernel
theorem d_X_lays_21 : decode c_X_lays 21 = .ok (.aaload, 1) := by decide +kernel
theorem d_X_lays_22 : decode c_X_lays 22 = .ok (.astore_n 3, 1) := by decide +kernel
theorem d_X_lays_23 : decode c_X_lays 23 = .ok (.iconst 0, 1) := by decide +kernel
theorem d_X_lays_24 : decode c_X_lays 24 = .ok (.istore 4, 2) := by decide +kernel
theorem d_X_lays_26 : decode c_X_lays 26 = .ok (.iconst 0, 1) := by decide +kernel
theorem d_X_lays_27 : decode c_X_lays 27 = .ok (.istore 5, 2) := by decide +kernel
theorem d_X_lays_29 : decode c_X_lays 29 = .ok (.iload 5, 2) := by decide +kernel
theorem d_X_lays_31 : decode c_X_lays 31 = .ok (.aload_n 3, 1) := by decide +kernel
theorem d_X_lays_32 : decode c_X_lays 32 = .ok (.getfield 265, 3) := by decide +kernel
theorem d_X_lays_35 : decode c_X_lays 35 = .ok (.if_icmp .ge 65, 3) := by decide +kernel
theorem d_X_lays_38 : decode c_X_lays 38 = .ok (.iload 5, 2) := by decide +kernel
theorem d_X_lays_40 : decode c_X_lays 40 = .ok (.aload_n 0, 1) := by decide +kernel
theorem d_X_lays_41 : decode c_X_lays 41 = .ok (.getfield 50, 3) := by decide +kernel
theorem d_X_lays_44 : decode c_X_lays 44 = .ok (.getfield 235, 3) := by decide +kernel
theorem d_X_lays_47 : decode c_X_lays 47 = .ok (.if_icmp .ge 53, 3) := by decide +kernel
theorem d_X_lays_50 : decode c_X_lays 50 = .ok (.aload_n 3, 1) := by decide +kernel
theorem d_X_lays_51 : decode c_X_lays 51 = .ok (.getfield 270, 3) := by decide +kernel
theorem d_X_lays_54 : decode c_X_lays 54 = .ok (.iload 5, 2) := by decide +kernel
theorem d_X_lays_56 : decode c_X_lays 56 = .ok (.laload, 1) := by decide +kernel
theorem d_X_lays_57 : decode c_X_lays 57 = .ok (.lstore 6, 2) := by decide +kernel
theorem d_X_lays_59 : decode c_X_lays 59 = .ok (.lload 6, 2) := by decide +kernel
theorem d_X_lays_61 : decode c_X_lays 61 = .ok (.lconst 0, 1) := by decide +kernel
theorem d_X_lays_62 : decode c_X_lays 62 = .ok (.lcmp, 1) := by decide +kernel
theorem d_X_lays_63 : decode c_X_lays 63 = .ok (.ifCond .lt 31, 3) := by decide +kernel
theorem d_X_lays_66 : decode c_X_lays 66 = .ok (.lload 6, 2) := by decide +kernel
theorem d_X_lays_68 : decode c_X_lays 68 = .ok (.ldc2_w 293, 3) := by decide +kernel
theorem d_X_lays_71 : decode c_X_lays 71 = .ok (.lcmp, 1) := by decide +kernel
theorem d_X_lays_72 : decode c_X_lays 72 = .ok (.ifCond .gt 22, 3) := by decide +kernel
theorem d_X_lays_75 : decode c_X_lays 75 = .ok (.aload_n 0, 1) := by decide +kernel
theorem d_X_lays_76 : decode c_X_lays 76 = .ok (.getfield 50, 3) := by decide +kernel
theorem d_X_lays_79 : decode c_X_lays 79 = .ok (.getfield 135, 3) := by decide +kernel
theorem d_X_lays_82 : decode c_X_lays 82 = .ok (.iload 5, 2) := by decide +kernel
theorem d_X_lays_84 : decode c_X_lays 84 = .ok (.aaload, 1) := by decide +kernel
theorem d_X_lays_85 : decode c_X_lays 85 = .ok (.lload 6, 2) := by decide +kernel
theorem d_X_lays_87 : decode c_X_lays 87 = .ok (.l2i, 1) := by decide +kernel
theorem d_X_lays_88 : decode c_X_lays 88 = .ok (.putfield 178, 3) := by decide +kernel
theorem d_X_lays_91 : decode c_X_lays 91 = .ok (.iinc 4 1, 3) := by decide +kernel
theorem d_X_lays_94 : decode c_X_lays 94 = .ok (.iinc 5 1, 3) := by decide +kernel
theorem d_X_lays_97 : decode c_X_lays 97 = .ok (.goto (-68), 3) := by decide +kernel
theorem d_X_lays_100 : decode c_X_lays 100 = .ok (.iload 4, 2) := by decide +kernel
theorem d_X_lays_102 : decode c_X_lays 102 = .ok (.ireturn, 1) := by decide +kernel
theorem d_X_sheetAndRugFinding_0 : decode c_X_sheetAndRugFinding 0 = .ok (.aload_n 0, 1) := by decide +kernel
theorem d_X_sheetAndRugFinding_1 : decode c_X_sheetAndRugFinding 1 = .ok (.iload_n 1, 1) := by decide +kernel
theorem d_X_sheetAndRugFinding_2 : decode c_X_sheetAndRugFinding 2 = .ok (.invokevirtual 290, 3) := by decide +kernel
theorem d_X_sheetAndRugFinding_5 : decode c_X_sheetAndRugFinding 5 = .ok (.istore_n 3, 1) := by decide +kernel
theorem d_X_sheetAndRugFinding_6 : decode c_X_sheetAndRugFinding 6 = .ok (.iload_n 3, 1) := by decide +kernel
theorem d_X_sheetAndRugFinding_7 : decode c_X_sheetAndRugFinding 7 = .ok (.ifCond .eq 5, 3) := by decide +kernel
theorem d_X_sheetAndRugFinding_10 : decode c_X_sheetAndRugFinding 10 = .ok (.iload_n 3, 1) := by decide +kernel
theorem d_X_sheetAndRugFinding_11 : decode c_X_sheetAndRugFinding 11 = .ok (.ireturn, 1) := by decide +kernel
theorem d_X_sheetAndRugFinding_12 : decode c_X_sheetAndRugFinding 12 = .ok (.aload_n 0, 1) := by decide +kernel
theorem d_X_sheetAndRugFinding_13 : decode c_X_sheetAndRugFinding 13 = .ok (.iload_n 2, 1) := by decide +kernel
theorem d_X_sheetAndRugFinding_14 : decode c_X_sheetAndRugFinding 14 = .ok (.invokevirtual 131, 3) := by decide +kernel
theorem d_X_sheetAndRugFinding_17 : decode c_X_sheetAndRugFinding 17 = .ok (.ifCond .eq 7, 3) := by decide +kernel
theorem d_X_sheetAndRugFinding_20 : decode c_X_sheetAndRugFinding 20 = .ok (.iconst 0, 1) := by decide +kernel
theorem d_X_sheetAndRugFinding_21 : decode c_X_sheetAndRugFinding 21 = .ok (.goto 5, 3) := by decide +kernel
theorem d_X_sheetAndRugFinding_24 : decode c_X_sheetAndRugFinding 24 = .ok (.ldc 89, 2) := by decide +kernel
theorem d_X_sheetAndRugFinding_26 : decode c_X_sheetAndRugFinding 26 = .ok (.ireturn, 1) := by decide +kernel
theorem d_X_book_0 : decode c_X_book 0 = .ok (.aload_n 0, 1) := by decide +kernel
theorem d_X_book_1 : decode c_X_book 1 = .ok (.iload_n 1, 1) := by decide +kernel
theorem d_X_book_2 : decode c_X_book 2 = .ok (.iload_n 2, 1) := by decide +kernel
theorem d_X_book_3 : decode c_X_book 3 = .ok (.invokevirtual 295, 3) := by decide +kernel
theorem d_X_book_6 : decode c_X_book 6 = .ok (.istore_n 3, 1) := by decide +kernel
theorem d_X_book_7 : decode c_X_book 7 = .ok (.iload_n 3, 1) := by decide +kernel
theorem d_X_book_8 : decode c_X_book 8 = .ok (.ifCond .eq 9, 3) := by decide +kernel
theorem d_X_book_11 : decode c_X_book 11 = .ok (.aload_n 0, 1) := by decide +kernel
theorem d_X_book_12 : decode c_X_book 12 = .ok (.iload_n 3, 1) := by decide +kernel
theorem d_X_book_13 : decode c_X_book 13 = .ok (.invokevirtual 90, 3) := by decide +kernel
theorem d_X_book_16 : decode c_X_book 16 = .ok (.ireturn, 1) := by decide +kernel
theorem d_X_book_17 : decode c_X_book 17 = .ok (.aload_n 0, 1) := by decide +kernel
theorem d_X_book_18 : decode c_X_book 18 = .ok (.getfield 76, 3) := by decide +kernel
theorem d_X_book_21 : decode c_X_book 21 = .ok (.iload_n 1, 1) := by decide +kernel
theorem d_X_book_22 : decode c_X_book 22 = .ok (.aaload, 1) := by decide +kernel
theorem d_X_book_23 : decode c_X_book 23 = .ok (.astore 4, 2) := by decide +kernel
theorem d_X_book_25 : decode c_X_book 25 = .ok (.aload_n 0, 1) := by decide +kernel
theorem d_X_book_26 : decode c_X_book 26 = .ok (.getfield 63, 3) := by decide +kernel
theorem d_X_book_29 : decode c_X_book 29 = .ok (.aload_n 0, 1) := by decide +kernel
theorem d_X_book_30 : decode c_X_book 30 = .ok (.getfield 50, 3) := by decide +kernel
theorem d_X_book_33 : decode c_X_book 33 = .ok (.getfield 135, 3) := by decide +kernel
theorem d_X_book_36 : decode c_X_book 36 = .ok (.iload_n 2, 1) := by decide +kernel
theorem d_X_book_37 : decode c_X_book 37 = .ok (.aaload, 1) := by decide +kernel
theorem d_X_book_38 : decode c_X_book 38 = .ok (.invokevirtual 212, 3) := by decide +kernel
theorem d_X_book_41 : decode c_X_book 41 = .ok (.iconst 0, 1) := by decide +kernel
theorem d_X_book_42 : decode c_X_book 42 = .ok (.istore 5, 2) := by decide +kernel
theorem d_X_book_44 : decode c_X_book 44 = .ok (.iload 5, 2) := by decide +kernel
theorem d_X_book_46 : decode c_X_book 46 = .ok (.aload 4, 2) := by decide +kernel
theorem d_X_book_48 : decode c_X_book 48 = .ok (.getfield 265, 3) := by decide +kernel
theorem d_X_book_51 : decode c_X_book 51 = .ok (.if_icmp .ge 40, 3) := by decide +kernel
theorem d_X_book_54 : decode c_X_book 54 = .ok (.aload 4, 2) := by decide +kernel
theorem d_X_book_56 : decode c_X_book 56 = .ok (.iload 5, 2) := by decide +kernel
theorem d_X_book_58 : decode c_X_book 58 = .ok (.aload_n 0, 1) := by decide +kernel
theorem d_X_book_59 : decode c_X_book 59 = .ok (.getfield 63, 3) := by decide +kernel
theorem d_X_book_62 : decode c_X_book 62 = .ok (.getfield 178, 3) := by decide +kernel
theorem d_X_book_65 : decode c_X_book 65 = .ok (.i2l, 1) := by decide +kernel
theorem d_X_book_66 : decode c_X_book 66 = .ok (.invokevirtual 274, 3) := by decide +kernel
theorem d_X_book_69 : decode c_X_book 69 = .ok (.aload_n 0, 1) := by decide +kernel
theorem d_X_book_70 : decode c_X_book 70 = .ok (.getfield 63, 3) := by decide +kernel
theorem d_X_book_73 : decode c_X_book 73 = .ok (.aload_n 0, 1) := by decide +kernel
theorem d_X_book_74 : decode c_X_book 74 = .ok (.getfield 50, 3) := by decide +kernel
theorem d_X_book_77 : decode c_X_book 77 = .ok (.iload 5, 2) := by decide +kernel
theorem d_X_book_79 : decode c_X_book 79 = .ok (.invokevirtual 113, 3) := by decide +kernel
theorem d_X_book_82 : decode c_X_book 82 = .ok (.invokevirtual 226, 3) := by decide +kernel
theorem d_X_book_85 : decode c_X_book 85 = .ok (.iinc 5 1, 3) := by decide +kernel
theorem d_X_book_88 : decode c_X_book 88 = .ok (.goto (-44), 3) := by decide +kernel
theorem d_X_book_91 : decode c_X_book 91 = .ok (.aload 4, 2) := by decide +kernel
theorem d_X_book_93 : decode c_X_book 93 = .ok (.getfield 265, 3) := by decide +kernel
theorem d_X_book_96 : decode c_X_book 96 = .ok (.ireturn, 1) := by decide +kernel
theorem d_X_probeWearsAs_0 : decode c_X_probeWearsAs 0 = .ok (.iconst 0, 1) := by decide +kernel
theorem d_X_probeWearsAs_1 : decode c_X_probeWearsAs 1 = .ok (.istore_n 2, 1) := by decide +kernel
theorem d_X_probeWearsAs_2 : decode c_X_probeWearsAs 2 = .ok (.iload_n 2, 1) := by decide +kernel
theorem d_X_probeWearsAs_3 : decode c_X_probeWearsAs 3 = .ok (.aload_n 1, 1) := by decide +kernel
theorem d_X_probeWearsAs_4 : decode c_X_probeWearsAs 4 = .ok (.getfield 265, 3) := by decide +kernel
theorem d_X_probeWearsAs_7 : decode c_X_probeWearsAs 7 = .ok (.if_icmp .ge 44, 3) := by decide +kernel
theorem d_X_probeWearsAs_10 : decode c_X_probeWearsAs 10 = .ok (.aload_n 1, 1) := by decide +kernel
theorem d_X_probeWearsAs_11 : decode c_X_probeWearsAs 11 = .ok (.getfield 270, 3) := by decide +kernel
theorem d_X_probeWearsAs_14 : decode c_X_probeWearsAs 14 = .ok (.iload_n 2, 1) := by decide +kernel
theorem d_X_probeWearsAs_15 : decode c_X_probeWearsAs 15 = .ok (.laload, 1) := by decide +kernel
theorem d_X_probeWearsAs_16 : decode c_X_probeWearsAs 16 = .ok (.aload_n 0, 1) := by decide +kernel
theorem d_X_probeWearsAs_17 : decode c_X_probeWearsAs 17 = .ok (.getfield 63, 3) := by decide +kernel
theorem d_X_probeWearsAs_20 : decode c_X_probeWearsAs 20 = .ok (.getfield 178, 3) := by decide +kernel
theorem d_X_probeWearsAs_23 : decode c_X_probeWearsAs 23 = .ok (.i2l, 1) := by decide +kernel
theorem d_X_probeWearsAs_24 : decode c_X_probeWearsAs 24 = .ok (.lcmp, 1) := by decide +kernel
theorem d_X_probeWearsAs_25 : decode c_X_probeWearsAs 25 = .ok (.ifCond .eq 5, 3) := by decide +kernel
theorem d_X_probeWearsAs_28 : decode c_X_probeWearsAs 28 = .ok (.iconst 0, 1) := by decide +kernel
theorem d_X_probeWearsAs_29 : decode c_X_probeWearsAs 29 = .ok (.ireturn, 1) := by decide +kernel
theorem d_X_probeWearsAs_30 : decode c_X_probeWearsAs 30 = .ok (.aload_n 0, 1) := by decide +kernel
theorem d_X_probeWearsAs_31 : decode c_X_probeWearsAs 31 = .ok (.getfield 63, 3) := by decide +kernel
theorem d_X_probeWearsAs_34 : decode c_X_probeWearsAs 34 = .ok (.aload_n 0, 1) := by decide +kernel
theorem d_X_probeWearsAs_35 : decode c_X_probeWearsAs 35 = .ok (.getfield 50, 3) := by decide +kernel
theorem d_X_probeWearsAs_38 : decode c_X_probeWearsAs 38 = .ok (.iload_n 2, 1) := by decide +kernel
theorem d_X_probeWearsAs_39 : decode c_X_probeWearsAs 39 = .ok (.invokevirtual 113, 3) := by decide +kernel
theorem d_X_probeWearsAs_42 : decode c_X_probeWearsAs 42 = .ok (.invokevirtual 226, 3) := by decide +kernel
theorem d_X_probeWearsAs_45 : decode c_X_probeWearsAs 45 = .ok (.iinc 2 1, 3) := by decide +kernel
theorem d_X_probeWearsAs_48 : decode c_X_probeWearsAs 48 = .ok (.goto (-46), 3) := by decide +kernel
theorem d_X_probeWearsAs_51 : decode c_X_probeWearsAs 51 = .ok (.iconst 1, 1) := by decide +kernel
theorem d_X_probeWearsAs_52 : decode c_X_probeWearsAs 52 = .ok (.ireturn, 1) := by decide +kernel
theorem d_X_read_0 : decode c_X_read 0 = .ok (.aload_n 0, 1) := by decide +kernel
theorem d_X_read_1 : decode c_X_read 1 = .ok (.iload_n 1, 1) := by decide +kernel
theorem d_X_read_2 : decode c_X_read 2 = .ok (.iload_n 2, 1) := by decide +kernel
theorem d_X_read_3 : decode c_X_read 3 = .ok (.invokevirtual 295, 3) := by decide +kernel
theorem d_X_read_6 : decode c_X_read 6 = .ok (.istore_n 3, 1) := by decide +kernel
theorem d_X_read_7 : decode c_X_read 7 = .ok (.iload_n 3, 1) := by decide +kernel
theorem d_X_read_8 : decode c_X_read 8 = .ok (.ifCond .eq 9, 3) := by decide +kernel
theorem d_X_read_11 : decode c_X_read 11 = .ok (.aload_n 0, 1) := by decide +kernel
theorem d_X_read_12 : decode c_X_read 12 = .ok (.iload_n 3, 1) := by decide +kernel
theorem d_X_read_13 : decode c_X_read 13 = .ok (.invokevirtual 90, 3) := by decide +kernel
theorem d_X_read_16 : decode c_X_read 16 = .ok (.ireturn, 1) := by decide +kernel
theorem d_X_read_17 : decode c_X_read 17 = .ok (.iconst 0, 1) := by decide +kernel
theorem d_X_read_18 : decode c_X_read 18 = .ok (.istore 4, 2) := by decide +kernel
theorem d_X_read_20 : decode c_X_read 20 = .ok (.iconst 0, 1) := by decide +kernel
theorem d_X_read_21 : decode c_X_read 21 = .ok (.istore 5, 2) := by decide +kernel
theorem d_X_read_23 : decode c_X_read 23 = .ok (.iload 5, 2) := by decide +kernel
theorem d_X_read_25 : decode c_X_read 25 = .ok (.bipush 6, 2) := by decide +kernel
theorem d_X_read_27 : decode c_X_read 27 = .ok (.if_icmp .ge 80, 3) := by decide +kernel
theorem d_X_read_30 : decode c_X_read 30 = .ok (.iconst 0, 1) := by decide +kernel
theorem d_X_read_31 : decode c_X_read 31 = .ok (.istore 6, 2) := by decide +kernel
theorem d_X_read_33 : decode c_X_read 33 = .ok (.iload 6, 2) := by decide +kernel
theorem d_X_read_35 : decode c_X_read 35 = .ok (.bipush 9, 2) := by decide +kernel
theorem d_X_read_37 : decode c_X_read 37 = .ok (.if_icmp .gt 64, 3) := by decide +kernel
theorem d_X_read_40 : decode c_X_read 40 = .ok (.aload_n 0, 1) := by decide +kernel
theorem d_X_read_41 : decode c_X_read 41 = .ok (.getfield 63, 3) := by decide +kernel
theorem d_X_read_44 : decode c_X_read 44 = .ok (.aload_n 0, 1) := by decide +kernel
theorem d_X_read_45 : decode c_X_read 45 = .ok (.getfield 50, 3) := by decide +kernel
theorem d_X_read_48 : decode c_X_read 48 = .ok (.getfield 135, 3) := by decide +kernel
theorem d_X_read_51 : decode c_X_read 51 = .ok (.iload_n 2, 1) := by decide +kernel
theorem d_X_read_52 : decode c_X_read 52 = .ok (.aaload, 1) := by decide +kernel
theorem d_X_read_53 : decode c_X_read 53 = .ok (.invokevirtual 212, 3) := by decide +kernel
theorem d_X_read_56 : decode c_X_read 56 = .ok (.aload_n 0, 1) := by decide +kernel
theorem d_X_read_57 : decode c_X_read 57 = .ok (.getfield 63, 3) := by decide +kernel
theorem d_X_read_60 : decode c_X_read 60 = .ok (.aload_n 0, 1) := by decide +kernel
theorem d_X_read_61 : decode c_X_read 61 = .ok (.getfield 41, 3) := by decide +kernel
theorem d_X_read_64 : decode c_X_read 64 = .ok (.iload 5, 2) := by decide +kernel
theorem d_X_read_66 : decode c_X_read 66 = .ok (.aaload, 1) := by decide +kernel
theorem d_X_read_67 : decode c_X_read 67 = .ok (.putfield 139, 3) := by decide +kernel
theorem d_X_read_70 : decode c_X_read 70 = .ok (.aload_n 0, 1) := by decide +kernel
theorem d_X_read_71 : decode c_X_read 71 = .ok (.getfield 63, 3) := by decide +kernel
theorem d_X_read_74 : decode c_X_read 74 = .ok (.iload 6, 2) := by decide +kernel
theorem d_X_read_76 : decode c_X_read 76 = .ok (.putfield 205, 3) := by decide +kernel
theorem d_X_read_79 : decode c_X_read 79 = .ok (.aload_n 0, 1) := by decide +kernel
theorem d_X_read_80 : decode c_X_read 80 = .ok (.aload_n 0, 1) := by decide +kernel
theorem d_X_read_81 : decode c_X_read 81 = .ok (.getfield 76, 3) := by decide +kernel
theorem d_X_read_84 : decode c_X_read 84 = .ok (.iload_n 1, 1) := by decide +kernel
theorem d_X_read_85 : decode c_X_read 85 = .ok (.aaload, 1) := by decide +kernel
theorem d_X_read_86 : decode c_X_read 86 = .ok (.invokevirtual 298, 3) := by decide +kernel
theorem d_X_read_89 : decode c_X_read 89 = .ok (.ifCond .eq 6, 3) := by decide +kernel
theorem d_X_read_92 : decode c_X_read 92 = .ok (.iinc 4 1, 3) := by decide +kernel
theorem d_X_read_95 : decode c_X_read 95 = .ok (.iinc 6 1, 3) := by decide +kernel
theorem d_X_read_98 : decode c_X_read 98 = .ok (.goto (-65), 3) := by decide +kernel
theorem d_X_read_101 : decode c_X_read 101 = .ok (.iinc 5 1, 3) := by decide +kernel
theorem d_X_read_104 : decode c_X_read 104 = .ok (.goto (-81), 3) := by decide +kernel
theorem d_X_read_107 : decode c_X_read 107 = .ok (.iload 4, 2) := by decide +kernel
theorem d_X_read_109 : decode c_X_read 109 = .ok (.ireturn, 1) := by decide +kernel
theorem d_X_image_0 : decode c_X_image 0 = .ok (.aload_n 0, 1) := by decide +kernel
theorem d_X_image_1 : decode c_X_image 1 = .ok (.getfield 54, 3) := by decide +kernel
theorem d_X_image_4 : decode c_X_image 4 = .ok (.aload_n 0, 1) := by decide +kernel
theorem d_X_image_5 : decode c_X_image 5 = .ok (.getfield 50, 3) := by decide +kernel
theorem d_X_image_8 : decode c_X_image 8 = .ok (.invokevirtual 219, 3) := by decide +kernel
theorem d_X_image_11 : decode c_X_image 11 = .ok (.aload_n 0, 1) := by decide +kernel
theorem d_X_image_12 : decode c_X_image 12 = .ok (.iconst 1, 1) := by decide +kernel
theorem d_X_image_13 : decode c_X_image 13 = .ok (.putfield 302, 3) := by decide +kernel
theorem d_X_image_16 : decode c_X_image 16 = .ok (.iconst 1, 1) := by decide +kernel
theorem d_X_image_17 : decode c_X_image 17 = .ok (.ireturn, 1) := by decide +kernel
theorem d_X_undo_0 : decode c_X_undo 0 = .ok (.aload_n 0, 1) := by decide +kernel
theorem d_X_undo_1 : decode c_X_undo 1 = .ok (.getfield 302, 3) := by decide +kernel
theorem d_X_undo_4 : decode c_X_undo 4 = .ok (.ifCond .ne 10, 3) := by decide +kernel
theorem d_X_undo_7 : decode c_X_undo 7 = .ok (.aload_n 0, 1) := by decide +kernel
theorem d_X_undo_8 : decode c_X_undo 8 = .ok (.ldc 225, 2) := by decide +kernel
theorem d_X_undo_10 : decode c_X_undo 10 = .ok (.invokevirtual 90, 3) := by decide +kernel
theorem d_X_undo_13 : decode c_X_undo 13 = .ok (.ireturn, 1) := by decide +kernel
theorem d_X_undo_14 : decode c_X_undo 14 = .ok (.aload_n 0, 1) := by decide +kernel
theorem d_X_undo_15 : decode c_X_undo 15 = .ok (.getfield 50, 3) := by decide +kernel
theorem d_X_undo_18 : decode c_X_undo 18 = .ok (.aload_n 0, 1) := by decide +kernel
theorem d_X_undo_19 : decode c_X_undo 19 = .ok (.getfield 54, 3) := by decide +kernel
theorem d_X_undo_22 : decode c_X_undo 22 = .ok (.invokevirtual 219, 3) := by decide +kernel
theorem d_X_undo_25 : decode c_X_undo 25 = .ok (.aload_n 0, 1) := by decide +kernel
theorem d_X_undo_26 : decode c_X_undo 26 = .ok (.getfield 50, 3) := by decide +kernel
theorem d_X_undo_29 : decode c_X_undo 29 = .ok (.getfield 235, 3) := by decide +kernel
theorem d_X_undo_32 : decode c_X_undo 32 = .ok (.ireturn, 1) := by decide +kernel
theorem d_X_tear_0 : decode c_X_tear 0 = .ok (.aload_n 0, 1) := by decide +kernel
theorem d_X_tear_1 : decode c_X_tear 1 = .ok (.getfield 302, 3) := by decide +kernel
theorem d_X_tear_4 : decode c_X_tear 4 = .ok (.ifCond .eq 7, 3) := by decide +kernel
theorem d_X_tear_7 : decode c_X_tear 7 = .ok (.iconst 1, 1) := by decide +kernel
theorem d_X_tear_8 : decode c_X_tear 8 = .ok (.goto 4, 3) := by decide +kernel
theorem d_X_tear_11 : decode c_X_tear 11 = .ok (.iconst 0, 1) := by decide +kernel
theorem d_X_tear_12 : decode c_X_tear 12 = .ok (.istore_n 1, 1) := by decide +kernel
theorem d_X_tear_13 : decode c_X_tear 13 = .ok (.aload_n 0, 1) := by decide +kernel
theorem d_X_tear_14 : decode c_X_tear 14 = .ok (.iconst 0, 1) := by decide +kernel
theorem d_X_tear_15 : decode c_X_tear 15 = .ok (.putfield 302, 3) := by decide +kernel
theorem d_X_tear_18 : decode c_X_tear 18 = .ok (.iload_n 1, 1) := by decide +kernel
theorem d_X_tear_19 : decode c_X_tear 19 = .ok (.ireturn, 1) := by decide +kernel
theorem d_X_count_0 : decode c_X_count 0 = .ok (.iload_n 1, 1) := by decide +kernel
theorem d_X_count_1 : decode c_X_count 1 = .ok (.tableswitch 66 0 3 #[31, 39, 47, 58], 31) := by decide +kernel
theorem d_X_count_32 : decode c_X_count 32 = .ok (.aload_n 0, 1) := by decide +kernel
theorem d_X_count_33 : decode c_X_count 33 = .ok (.getfield 50, 3) := by decide +kernel
theorem d_X_count_36 : decode c_X_count 36 = .ok (.getfield 235, 3) := by decide +kernel
theorem d_X_count_39 : decode c_X_count 39 = .ok (.ireturn, 1) := by decide +kernel
theorem d_X_count_40 : decode c_X_count 40 = .ok (.aload_n 0, 1) := by decide +kernel
theorem d_X_count_41 : decode c_X_count 41 = .ok (.getfield 70, 3) := by decide +kernel
theorem d_X_count_44 : decode c_X_count 44 = .ok (.getfield 246, 3) := by decide +kernel
theorem d_X_count_47 : decode c_X_count 47 = .ok (.ireturn, 1) := by decide +kernel
theorem d_X_count_48 : decode c_X_count 48 = .ok (.aload_n 0, 1) := by decide +kernel
theorem d_X_count_49 : decode c_X_count 49 = .ok (.getfield 50, 3) := by decide +kernel
theorem d_X_count_52 : decode c_X_count 52 = .ok (.invokevirtual 119, 3) := by decide +kernel
theorem d_X_count_55 : decode c_X_count 55 = .ok (.invokestatic 241, 3) := by decide +kernel
theorem d_X_count_58 : decode c_X_count 58 = .ok (.ireturn, 1) := by decide +kernel
theorem d_X_count_59 : decode c_X_count 59 = .ok (.aload_n 0, 1) := by decide +kernel
theorem d_X_count_60 : decode c_X_count 60 = .ok (.getfield 50, 3) := by decide +kernel
theorem d_X_count_63 : decode c_X_count 63 = .ok (.invokevirtual 306, 3) := by decide +kernel
theorem d_X_count_66 : decode c_X_count 66 = .ok (.ireturn, 1) := by decide +kernel
theorem d_X_count_67 : decode c_X_count 67 = .ok (.aload_n 0, 1) := by decide +kernel
theorem d_X_count_68 : decode c_X_count 68 = .ok (.ldc 89, 2) := by decide +kernel
theorem d_X_count_70 : decode c_X_count 70 = .ok (.invokevirtual 90, 3) := by decide +kernel
theorem d_X_count_73 : decode c_X_count 73 = .ok (.ireturn, 1) := by decide +kernel
theorem d_X_status_0 : decode c_X_status 0 = .ok (.iload_n 1, 1) := by decide +kernel
theorem d_X_status_1 : decode c_X_status 1 = .ok (.iconst (-1), 1) := by decide +kernel
theorem d_X_status_2 : decode c_X_status 2 = .ok (.bipush 6, 2) := by decide +kernel
theorem d_X_status_4 : decode c_X_status 4 = .ok (.invokestatic 85, 3) := by decide +kernel
theorem d_X_status_7 : decode c_X_status 7 = .ok (.ifCond .ne 10, 3) := by decide +kernel
theorem d_X_status_10 : decode c_X_status 10 = .ok (.aload_n 0, 1) := by decide +kernel
theorem d_X_status_11 : decode c_X_status 11 = .ok (.ldc 89, 2) := by decide +kernel
theorem d_X_status_13 : decode c_X_status 13 = .ok (.invokevirtual 90, 3) := by decide +kernel
theorem d_X_status_16 : decode c_X_status 16 = .ok (.ireturn, 1) := by decide +kernel
theorem d_X_status_17 : decode c_X_status 17 = .ok (.iload_n 1, 1) := by decide +kernel
theorem d_X_status_18 : decode c_X_status 18 = .ok (.ifCond .lt 10, 3) := by decide +kernel
theorem d_X_status_21 : decode c_X_status 21 = .ok (.aload_n 0, 1) := by decide +kernel
theorem d_X_status_22 : decode c_X_status 22 = .ok (.getfield 81, 3) := by decide +kernel
theorem d_X_status_25 : decode c_X_status 25 = .ok (.iload_n 1, 1) := by decide +kernel
theorem d_X_status_26 : decode c_X_status 26 = .ok (.iaload, 1) := by decide +kernel
theorem d_X_status_27 : decode c_X_status 27 = .ok (.ireturn, 1) := by decide +kernel
theorem d_X_status_28 : decode c_X_status 28 = .ok (.iconst 0, 1) := by decide +kernel
theorem d_X_status_29 : decode c_X_status 29 = .ok (.istore_n 2, 1) := by decide +kernel
theorem d_X_status_30 : decode c_X_status 30 = .ok (.iconst 0, 1) := by decide +kernel
theorem d_X_status_31 : decode c_X_status 31 = .ok (.istore_n 3, 1) := by decide +kernel
theorem d_X_status_32 : decode c_X_status 32 = .ok (.iload_n 3, 1) := by decide +kernel
theorem d_X_status_33 : decode c_X_status 33 = .ok (.bipush 7, 2) := by decide +kernel
theorem d_X_status_35 : decode c_X_status 35 = .ok (.if_icmp .ge 18, 3) := by decide +kernel
theorem d_X_status_38 : decode c_X_status 38 = .ok (.iload_n 2, 1) := by decide +kernel
theorem d_X_status_39 : decode c_X_status 39 = .ok (.aload_n 0, 1) := by decide +kernel
theorem d_X_status_40 : decode c_X_status 40 = .ok (.getfield 81, 3) := by decide +kernel
theorem d_X_status_43 : decode c_X_status 43 = .ok (.iload_n 3, 1) := by decide +kernel
theorem d_X_status_44 : decode c_X_status 44 = .ok (.iaload, 1) := by decide +kernel
theorem d_X_status_45 : decode c_X_status 45 = .ok (.iadd, 1) := by decide +kernel
theorem d_X_status_46 : decode c_X_status 46 = .ok (.istore_n 2, 1) := by decide +kernel
theorem d_X_status_47 : decode c_X_status 47 = .ok (.iinc 3 1, 3) := by decide +kernel
theorem d_X_status_50 : decode c_X_status 50 = .ok (.goto (-18), 3) := by decide +kernel
theorem d_X_status_53 : decode c_X_status 53 = .ok (.iload_n 2, 1) := by decide +kernel
theorem d_X_status_54 : decode c_X_status 54 = .ok (.ireturn, 1) := by decide +kernel
