theorem d_Kind_init_0 : decode c_Kind_init 0 = .ok (.aload_n 0, 1) := by decide +kernel
theorem d_Kind_init_1 : decode c_Kind_init 1 = .ok (.invokespecial 1, 3) := by decide +kernel
theorem d_Kind_init_4 : decode c_Kind_init 4 = .ok (.aload_n 0, 1) := by decide +kernel
theorem d_Kind_init_5 : decode c_Kind_init 5 = .ok (.iload_n 1, 1) := by decide +kernel
theorem d_Kind_init_6 : decode c_Kind_init 6 = .ok (.putfield 7, 3) := by decide +kernel
theorem d_Kind_init_9 : decode c_Kind_init 9 = .ok (.aload_n 0, 1) := by decide +kernel
theorem d_Kind_init_10 : decode c_Kind_init 10 = .ok (.aload_n 2, 1) := by decide +kernel
theorem d_Kind_init_11 : decode c_Kind_init 11 = .ok (.putfield 13, 3) := by decide +kernel
theorem d_Kind_init_14 : decode c_Kind_init 14 = .ok (.aload_n 0, 1) := by decide +kernel
theorem d_Kind_init_15 : decode c_Kind_init 15 = .ok (.aload_n 3, 1) := by decide +kernel
theorem d_Kind_init_16 : decode c_Kind_init 16 = .ok (.putfield 17, 3) := by decide +kernel
theorem d_Kind_init_19 : decode c_Kind_init 19 = .ok (.return_, 1) := by decide +kernel
theorem d_Mat_init_0 : decode c_Mat_init 0 = .ok (.aload_n 0, 1) := by decide +kernel
theorem d_Mat_init_1 : decode c_Mat_init 1 = .ok (.iload_n 1, 1) := by decide +kernel
theorem d_Mat_init_2 : decode c_Mat_init 2 = .ok (.aload_n 2, 1) := by decide +kernel
theorem d_Mat_init_3 : decode c_Mat_init 3 = .ok (.aload_n 3, 1) := by decide +kernel
theorem d_Mat_init_4 : decode c_Mat_init 4 = .ok (.invokespecial 1, 3) := by decide +kernel
theorem d_Mat_init_7 : decode c_Mat_init 7 = .ok (.return_, 1) := by decide +kernel
theorem d_Rug_init_0 : decode c_Rug_init 0 = .ok (.aload_n 0, 1) := by decide +kernel
theorem d_Rug_init_1 : decode c_Rug_init 1 = .ok (.invokespecial 3, 3) := by decide +kernel
theorem d_Rug_init_4 : decode c_Rug_init 4 = .ok (.aload_n 0, 1) := by decide +kernel
theorem d_Rug_init_5 : decode c_Rug_init 5 = .ok (.aload_n 1, 1) := by decide +kernel
theorem d_Rug_init_6 : decode c_Rug_init 6 = .ok (.putfield 9, 3) := by decide +kernel
theorem d_Rug_init_9 : decode c_Rug_init 9 = .ok (.aload_n 0, 1) := by decide +kernel
theorem d_Rug_init_10 : decode c_Rug_init 10 = .ok (.iconst (-1), 1) := by decide +kernel
theorem d_Rug_init_11 : decode c_Rug_init 11 = .ok (.putfield 15, 3) := by decide +kernel
theorem d_Rug_init_14 : decode c_Rug_init 14 = .ok (.return_, 1) := by decide +kernel
theorem d_Runner_init_0 : decode c_Runner_init 0 = .ok (.aload_n 0, 1) := by decide +kernel
theorem d_Runner_init_1 : decode c_Runner_init 1 = .ok (.iload_n 1, 1) := by decide +kernel
theorem d_Runner_init_2 : decode c_Runner_init 2 = .ok (.aload_n 2, 1) := by decide +kernel
theorem d_Runner_init_3 : decode c_Runner_init 3 = .ok (.aload_n 3, 1) := by decide +kernel
theorem d_Runner_init_4 : decode c_Runner_init 4 = .ok (.invokespecial 1, 3) := by decide +kernel
theorem d_Runner_init_7 : decode c_Runner_init 7 = .ok (.return_, 1) := by decide +kernel
theorem d_Shag_init_0 : decode c_Shag_init 0 = .ok (.aload_n 0, 1) := by decide +kernel
theorem d_Shag_init_1 : decode c_Shag_init 1 = .ok (.iload_n 1, 1) := by decide +kernel
theorem d_Shag_init_2 : decode c_Shag_init 2 = .ok (.aload_n 2, 1) := by decide +kernel
theorem d_Shag_init_3 : decode c_Shag_init 3 = .ok (.aload_n 3, 1) := by decide +kernel
theorem d_Shag_init_4 : decode c_Shag_init 4 = .ok (.invokespecial 1, 3) := by decide +kernel
theorem d_Shag_init_7 : decode c_Shag_init 7 = .ok (.return_, 1) := by decide +kernel
theorem d_Sheet_init_0 : decode c_Sheet_init 0 = .ok (.aload_n 0, 1) := by decide +kernel
theorem d_Sheet_init_1 : decode c_Sheet_init 1 = .ok (.invokespecial 3, 3) := by decide +kernel
theorem d_Sheet_init_4 : decode c_Sheet_init 4 = .ok (.aload_n 0, 1) := by decide +kernel
theorem d_Sheet_init_5 : decode c_Sheet_init 5 = .ok (.bipush 40, 2) := by decide +kernel
theorem d_Sheet_init_7 : decode c_Sheet_init 7 = .ok (.newarray .long, 2) := by decide +kernel
theorem d_Sheet_init_9 : decode c_Sheet_init 9 = .ok (.putfield 9, 3) := by decide +kernel
theorem d_Sheet_init_12 : decode c_Sheet_init 12 = .ok (.return_, 1) := by decide +kernel
theorem d_Stair_init_0 : decode c_Stair_init 0 = .ok (.aload_n 0, 1) := by decide +kernel
theorem d_Stair_init_1 : decode c_Stair_init 1 = .ok (.iload_n 1, 1) := by decide +kernel
theorem d_Stair_init_2 : decode c_Stair_init 2 = .ok (.aload_n 2, 1) := by decide +kernel
theorem d_Stair_init_3 : decode c_Stair_init 3 = .ok (.aload_n 3, 1) := by decide +kernel
theorem d_Stair_init_4 : decode c_Stair_init 4 = .ok (.invokespecial 1, 3) := by decide +kernel
theorem d_Stair_init_7 : decode c_Stair_init 7 = .ok (.return_, 1) := by decide +kernel
theorem d_Tape_init_0 : decode c_Tape_init 0 = .ok (.aload_n 0, 1) := by decide +kernel
theorem d_Tape_init_1 : decode c_Tape_init 1 = .ok (.invokespecial 3, 3) := by decide +kernel
theorem d_Tape_init_4 : decode c_Tape_init 4 = .ok (.aload_n 0, 1) := by decide +kernel
theorem d_Tape_init_5 : decode c_Tape_init 5 = .ok (.bipush 120, 2) := by decide +kernel
theorem d_Tape_init_7 : decode c_Tape_init 7 = .ok (.newarray .int, 2) := by decide +kernel
theorem d_Tape_init_9 : decode c_Tape_init 9 = .ok (.putfield 9, 3) := by decide +kernel
theorem d_Tape_init_12 : decode c_Tape_init 12 = .ok (.return_, 1) := by decide +kernel
theorem d_Velvet_init_0 : decode c_Velvet_init 0 = .ok (.aload_n 0, 1) := by decide +kernel
theorem d_Velvet_init_1 : decode c_Velvet_init 1 = .ok (.iload_n 1, 1) := by decide +kernel
theorem d_Velvet_init_2 : decode c_Velvet_init 2 = .ok (.aload_n 2, 1) := by decide +kernel
theorem d_Velvet_init_3 : decode c_Velvet_init 3 = .ok (.aload_n 3, 1) := by decide +kernel
theorem d_Velvet_init_4 : decode c_Velvet_init 4 = .ok (.invokespecial 1, 3) := by decide +kernel
theorem d_Velvet_init_7 : decode c_Velvet_init 7 = .ok (.return_, 1) := by decide +kernel
theorem d_World_init_0 : decode c_World_init 0 = .ok (.aload_n 0, 1) := by decide +kernel
theorem d_World_init_1 : decode c_World_init 1 = .ok (.invokespecial 3, 3) := by decide +kernel
theorem d_World_init_4 : decode c_World_init 4 = .ok (.aload_n 0, 1) := by decide +kernel
theorem d_World_init_5 : decode c_World_init 5 = .ok (.bipush 8, 2) := by decide +kernel
theorem d_World_init_7 : decode c_World_init 7 = .ok (.anewarray 9, 3) := by decide +kernel
theorem d_World_init_10 : decode c_World_init 10 = .ok (.putfield 11, 3) := by decide +kernel
theorem d_World_init_13 : decode c_World_init 13 = .ok (.iconst 0, 1) := by decide +kernel
theorem d_World_init_14 : decode c_World_init 14 = .ok (.istore_n 2, 1) := by decide +kernel
theorem d_World_init_15 : decode c_World_init 15 = .ok (.iload_n 2, 1) := by decide +kernel
theorem d_World_init_16 : decode c_World_init 16 = .ok (.bipush 8, 2) := by decide +kernel
theorem d_World_init_18 : decode c_World_init 18 = .ok (.if_icmp .ge 23, 3) := by decide +kernel
theorem d_World_init_21 : decode c_World_init 21 = .ok (.aload_n 0, 1) := by decide +kernel
theorem d_World_init_22 : decode c_World_init 22 = .ok (.getfield 11, 3) := by decide +kernel
theorem d_World_init_25 : decode c_World_init 25 = .ok (.iload_n 2, 1) := by decide +kernel
theorem d_World_init_26 : decode c_World_init 26 = .ok (.new 9, 3) := by decide +kernel
theorem d_World_init_29 : decode c_World_init 29 = .ok (.dup, 1) := by decide +kernel
theorem d_World_init_30 : decode c_World_init 30 = .ok (.aload_n 1, 1) := by decide +kernel
theorem d_World_init_31 : decode c_World_init 31 = .ok (.invokespecial 17, 3) := by decide +kernel
theorem d_World_init_34 : decode c_World_init 34 = .ok (.aastore, 1) := by decide +kernel
theorem d_World_init_35 : decode c_World_init 35 = .ok (.iinc 2 1, 3) := by decide +kernel
theorem d_World_init_38 : decode c_World_init 38 = .ok (.goto (-23), 3) := by decide +kernel
theorem d_World_init_41 : decode c_World_init 41 = .ok (.aload_n 0, 1) := by decide +kernel
theorem d_World_init_42 : decode c_World_init 42 = .ok (.bipush 7, 2) := by decide +kernel
theorem d_World_init_44 : decode c_World_init 44 = .ok (.newarray .int, 2) := by decide +kernel
theorem d_World_init_46 : decode c_World_init 46 = .ok (.putfield 20, 3) := by decide +kernel
theorem d_World_init_49 : decode c_World_init 49 = .ok (.aload_n 0, 1) := by decide +kernel
theorem d_World_init_50 : decode c_World_init 50 = .ok (.getfield 20, 3) := by decide +kernel
theorem d_World_init_53 : decode c_World_init 53 = .ok (.iconst 3, 1) := by decide +kernel
theorem d_World_init_54 : decode c_World_init 54 = .ok (.iconst 1, 1) := by decide +kernel
theorem d_World_init_55 : decode c_World_init 55 = .ok (.iastore, 1) := by decide +kernel
theorem d_World_init_56 : decode c_World_init 56 = .ok (.aload_n 0, 1) := by decide +kernel
theorem d_World_init_57 : decode c_World_init 57 = .ok (.bipush 8, 2) := by decide +kernel
theorem d_World_init_59 : decode c_World_init 59 = .ok (.newarray .int, 2) := by decide +kernel
theorem d_World_init_61 : decode c_World_init 61 = .ok (.putfield 24, 3) := by decide +kernel
theorem d_World_init_64 : decode c_World_init 64 = .ok (.aload_n 0, 1) := by decide +kernel
theorem d_World_init_65 : decode c_World_init 65 = .ok (.bipush 8, 2) := by decide +kernel
theorem d_World_init_67 : decode c_World_init 67 = .ok (.newarray .long, 2) := by decide +kernel
theorem d_World_init_69 : decode c_World_init 69 = .ok (.putfield 27, 3) := by decide +kernel
theorem d_World_init_72 : decode c_World_init 72 = .ok (.return_, 1) := by decide +kernel
theorem d_X_init_0 : decode c_X_init 0 = .ok (.aload_n 0, 1) := by decide +kernel
theorem d_X_init_1 : decode c_X_init 1 = .ok (.invokespecial 3, 3) := by decide +kernel
theorem d_X_init_4 : decode c_X_init 4 = .ok (.new 9, 3) := by decide +kernel
theorem d_X_init_7 : decode c_X_init 7 = .ok (.dup, 1) := by decide +kernel
theorem d_X_init_8 : decode c_X_init 8 = .ok (.iconst 0, 1) := by decide +kernel
theorem d_X_init_9 : decode c_X_init 9 = .ok (.ldc 11, 2) := by decide +kernel
theorem d_X_init_11 : decode c_X_init 11 = .ok (.aconst_null, 1) := by decide +kernel
theorem d_X_init_12 : decode c_X_init 12 = .ok (.invokespecial 13, 3) := by decide +kernel
theorem d_X_init_15 : decode c_X_init 15 = .ok (.astore_n 1, 1) := by decide +kernel
theorem d_X_init_16 : decode c_X_init 16 = .ok (.new 16, 3) := by decide +kernel
theorem d_X_init_19 : decode c_X_init 19 = .ok (.dup, 1) := by decide +kernel
theorem d_X_init_20 : decode c_X_init 20 = .ok (.iconst 1, 1) := by decide +kernel
theorem d_X_init_21 : decode c_X_init 21 = .ok (.ldc 18, 2) := by decide +kernel
theorem d_X_init_23 : decode c_X_init 23 = .ok (.aload_n 1, 1) := by decide +kernel
theorem d_X_init_24 : decode c_X_init 24 = .ok (.invokespecial 20, 3) := by decide +kernel
theorem d_X_init_27 : decode c_X_init 27 = .ok (.astore_n 2, 1) := by decide +kernel
theorem d_X_init_28 : decode c_X_init 28 = .ok (.new 21, 3) := by decide +kernel
theorem d_X_init_31 : decode c_X_init 31 = .ok (.dup, 1) := by decide +kernel
theorem d_X_init_32 : decode c_X_init 32 = .ok (.iconst 2, 1) := by decide +kernel
theorem d_X_init_33 : decode c_X_init 33 = .ok (.ldc 23, 2) := by decide +kernel
theorem d_X_init_35 : decode c_X_init 35 = .ok (.aload_n 1, 1) := by decide +kernel
theorem d_X_init_36 : decode c_X_init 36 = .ok (.invokespecial 25, 3) := by decide +kernel
theorem d_X_init_39 : decode c_X_init 39 = .ok (.astore_n 3, 1) := by decide +kernel
theorem d_X_init_40 : decode c_X_init 40 = .ok (.new 26, 3) := by decide +kernel
theorem d_X_init_43 : decode c_X_init 43 = .ok (.dup, 1) := by decide +kernel
theorem d_X_init_44 : decode c_X_init 44 = .ok (.iconst 3, 1) := by decide +kernel
theorem d_X_init_45 : decode c_X_init 45 = .ok (.ldc 28, 2) := by decide +kernel
theorem d_X_init_47 : decode c_X_init 47 = .ok (.aload_n 1, 1) := by decide +kernel
theorem d_X_init_48 : decode c_X_init 48 = .ok (.invokespecial 30, 3) := by decide +kernel
theorem d_X_init_51 : decode c_X_init 51 = .ok (.astore 4, 2) := by decide +kernel
theorem d_X_init_53 : decode c_X_init 53 = .ok (.new 31, 3) := by decide +kernel
theorem d_X_init_56 : decode c_X_init 56 = .ok (.dup, 1) := by decide +kernel
theorem d_X_init_57 : decode c_X_init 57 = .ok (.iconst 4, 1) := by decide +kernel
theorem d_X_init_58 : decode c_X_init 58 = .ok (.ldc 33, 2) := by decide +kernel
theorem d_X_init_60 : decode c_X_init 60 = .ok (.aload_n 2, 1) := by decide +kernel
theorem d_X_init_61 : decode c_X_init 61 = .ok (.invokespecial 35, 3) := by decide +kernel
theorem d_X_init_64 : decode c_X_init 64 = .ok (.astore 5, 2) := by decide +kernel
theorem d_X_init_66 : decode c_X_init 66 = .ok (.new 36, 3) := by decide +kernel
theorem d_X_init_69 : decode c_X_init 69 = .ok (.dup, 1) := by decide +kernel
theorem d_X_init_70 : decode c_X_init 70 = .ok (.iconst 5, 1) := by decide +kernel
theorem d_X_init_71 : decode c_X_init 71 = .ok (.ldc 38, 2) := by decide +kernel
theorem d_X_init_73 : decode c_X_init 73 = .ok (.aload_n 3, 1) := by decide +kernel
theorem d_X_init_74 : decode c_X_init 74 = .ok (.invokespecial 40, 3) := by decide +kernel
theorem d_X_init_77 : decode c_X_init 77 = .ok (.astore 6, 2) := by decide +kernel
theorem d_X_init_79 : decode c_X_init 79 = .ok (.aload_n 0, 1) := by decide +kernel
theorem d_X_init_80 : decode c_X_init 80 = .ok (.bipush 6, 2) := by decide +kernel
theorem d_X_init_82 : decode c_X_init 82 = .ok (.anewarray 9, 3) := by decide +kernel
theorem d_X_init_85 : decode c_X_init 85 = .ok (.dup, 1) := by decide +kernel
theorem d_X_init_86 : decode c_X_init 86 = .ok (.iconst 0, 1) := by decide +kernel
theorem d_X_init_87 : decode c_X_init 87 = .ok (.aload_n 1, 1) := by decide +kernel
theorem d_X_init_88 : decode c_X_init 88 = .ok (.aastore, 1) := by decide +kernel
theorem d_X_init_89 : decode c_X_init 89 = .ok (.dup, 1) := by decide +kernel
theorem d_X_init_90 : decode c_X_init 90 = .ok (.iconst 1, 1) := by decide +kernel
theorem d_X_init_91 : decode c_X_init 91 = .ok (.aload_n 2, 1) := by decide +kernel
theorem d_X_init_92 : decode c_X_init 92 = .ok (.aastore, 1) := by decide +kernel
theorem d_X_init_93 : decode c_X_init 93 = .ok (.dup, 1) := by decide +kernel
theorem d_X_init_94 : decode c_X_init 94 = .ok (.iconst 2, 1) := by decide +kernel
theorem d_X_init_95 : decode c_X_init 95 = .ok (.aload_n 3, 1) := by decide +kernel
theorem d_X_init_96 : decode c_X_init 96 = .ok (.aastore, 1) := by decide +kernel
theorem d_X_init_97 : decode c_X_init 97 = .ok (.dup, 1) := by decide +kernel
theorem d_X_init_98 : decode c_X_init 98 = .ok (.iconst 3, 1) := by decide +kernel
theorem d_X_init_99 : decode c_X_init 99 = .ok (.aload 4, 2) := by decide +kernel
theorem d_X_init_101 : decode c_X_init 101 = .ok (.aastore, 1) := by decide +kernel
theorem d_X_init_102 : decode c_X_init 102 = .ok (.dup, 1) := by decide +kernel
theorem d_X_init_103 : decode c_X_init 103 = .ok (.iconst 4, 1) := by decide +kernel
theorem d_X_init_104 : decode c_X_init 104 = .ok (.aload 5, 2) := by decide +kernel
theorem d_X_init_106 : decode c_X_init 106 = .ok (.aastore, 1) := by decide +kernel
theorem d_X_init_107 : decode c_X_init 107 = .ok (.dup, 1) := by decide +kernel
theorem d_X_init_108 : decode c_X_init 108 = .ok (.iconst 5, 1) := by decide +kernel
theorem d_X_init_109 : decode c_X_init 109 = .ok (.aload 6, 2) := by decide +kernel
theorem d_X_init_111 : decode c_X_init 111 = .ok (.aastore, 1) := by decide +kernel
theorem d_X_init_112 : decode c_X_init 112 = .ok (.putfield 41, 3) := by decide +kernel
theorem d_X_init_115 : decode c_X_init 115 = .ok (.aload_n 0, 1) := by decide +kernel
theorem d_X_init_116 : decode c_X_init 116 = .ok (.new 45, 3) := by decide +kernel
theorem d_X_init_119 : decode c_X_init 119 = .ok (.dup, 1) := by decide +kernel
theorem d_X_init_120 : decode c_X_init 120 = .ok (.aload_n 1, 1) := by decide +kernel
theorem d_X_init_121 : decode c_X_init 121 = .ok (.invokespecial 47, 3) := by decide +kernel
theorem d_X_init_124 : decode c_X_init 124 = .ok (.putfield 50, 3) := by decide +kernel
theorem d_X_init_127 : decode c_X_init 127 = .ok (.aload_n 0, 1) := by decide +kernel
theorem d_X_init_128 : decode c_X_init 128 = .ok (.new 45, 3) := by decide +kernel
theorem d_X_init_131 : decode c_X_init 131 = .ok (.dup, 1) := by decide +kernel
theorem d_X_init_132 : decode c_X_init 132 = .ok (.aload_n 1, 1) := by decide +kernel
theorem d_X_init_133 : decode c_X_init 133 = .ok (.invokespecial 47, 3) := by decide +kernel
theorem d_X_init_136 : decode c_X_init 136 = .ok (.putfield 54, 3) := by decide +kernel
theorem d_X_init_139 : decode c_X_init 139 = .ok (.aload_n 0, 1) := by decide +kernel
theorem d_X_init_140 : decode c_X_init 140 = .ok (.new 45, 3) := by decide +kernel
theorem d_X_init_143 : decode c_X_init 143 = .ok (.dup, 1) := by decide +kernel
theorem d_X_init_144 : decode c_X_init 144 = .ok (.aload_n 1, 1) := by decide +kernel
theorem d_X_init_145 : decode c_X_init 145 = .ok (.invokespecial 47, 3) := by decide +kernel
theorem d_X_init_148 : decode c_X_init 148 = .ok (.putfield 57, 3) := by decide +kernel
theorem d_X_init_151 : decode c_X_init 151 = .ok (.aload_n 0, 1) := by decide +kernel
theorem d_X_init_152 : decode c_X_init 152 = .ok (.new 60, 3) := by decide +kernel
theorem d_X_init_155 : decode c_X_init 155 = .ok (.dup, 1) := by decide +kernel
theorem d_X_init_156 : decode c_X_init 156 = .ok (.aload_n 1, 1) := by decide +kernel
theorem d_X_init_157 : decode c_X_init 157 = .ok (.invokespecial 62, 3) := by decide +kernel
theorem d_X_init_160 : decode c_X_init 160 = .ok (.putfield 63, 3) := by decide +kernel
theorem d_X_init_163 : decode c_X_init 163 = .ok (.aload_n 0, 1) := by decide +kernel
theorem d_X_init_164 : decode c_X_init 164 = .ok (.new 67, 3) := by decide +kernel
theorem d_X_init_167 : decode c_X_init 167 = .ok (.dup, 1) := by decide +kernel
theorem d_X_init_168 : decode c_X_init 168 = .ok (.invokespecial 69, 3) := by decide +kernel
theorem d_X_init_171 : decode c_X_init 171 = .ok (.putfield 70, 3) := by decide +kernel
theorem d_X_init_174 : decode c_X_init 174 = .ok (.aload_n 0, 1) := by decide +kernel
theorem d_X_init_175 : decode c_X_init 175 = .ok (.iconst 4, 1) := by decide +kernel
theorem d_X_init_176 : decode c_X_init 176 = .ok (.anewarray 74, 3) := by decide +kernel
theorem d_X_init_179 : decode c_X_init 179 = .ok (.putfield 76, 3) := by decide +kernel
theorem d_X_init_182 : decode c_X_init 182 = .ok (.iconst 0, 1) := by decide +kernel
theorem d_X_init_183 : decode c_X_init 183 = .ok (.istore 7, 2) := by decide +kernel
theorem d_X_init_185 : decode c_X_init 185 = .ok (.iload 7, 2) := by decide +kernel
theorem d_X_init_187 : decode c_X_init 187 = .ok (.iconst 4, 1) := by decide +kernel
theorem d_X_init_188 : decode c_X_init 188 = .ok (.if_icmp .ge 23, 3) := by decide +kernel
theorem d_X_init_191 : decode c_X_init 191 = .ok (.aload_n 0, 1) := by decide +kernel
theorem d_X_init_192 : decode c_X_init 192 = .ok (.getfield 76, 3) := by decide +kernel
theorem d_X_init_195 : decode c_X_init 195 = .ok (.iload 7, 2) := by decide +kernel
theorem d_X_init_197 : decode c_X_init 197 = .ok (.new 74, 3) := by decide +kernel
theorem d_X_init_200 : decode c_X_init 200 = .ok (.dup, 1) := by decide +kernel
theorem d_X_init_201 : decode c_X_init 201 = .ok (.invokespecial 80, 3) := by decide +kernel
theorem d_X_init_204 : decode c_X_init 204 = .ok (.aastore, 1) := by decide +kernel
theorem d_X_init_205 : decode c_X_init 205 = .ok (.iinc 7 1, 3) := by decide +kernel
theorem d_X_init_208 : decode c_X_init 208 = .ok (.goto (-23), 3) := by decide +kernel
theorem d_X_init_211 : decode c_X_init 211 = .ok (.aload_n 0, 1) := by decide +kernel
theorem d_X_init_212 : decode c_X_init 212 = .ok (.bipush 7, 2) := by decide +kernel
theorem d_X_init_214 : decode c_X_init 214 = .ok (.newarray .int, 2) := by decide +kernel
theorem d_X_init_216 : decode c_X_init 216 = .ok (.putfield 81, 3) := by decide +kernel
theorem d_X_init_219 : decode c_X_init 219 = .ok (.return_, 1) := by decide +kernel
theorem d_M_init_0 : decode c_M_init 0 = .ok (.aload_n 0, 1) := by decide +kernel
theorem d_M_init_1 : decode c_M_init 1 = .ok (.invokespecial 1, 3) := by decide +kernel
theorem d_M_init_4 : decode c_M_init 4 = .ok (.aload_n 0, 1) := by decide +kernel
theorem d_M_init_5 : decode c_M_init 5 = .ok (.bipush 66, 2) := by decide +kernel
theorem d_M_init_7 : decode c_M_init 7 = .ok (.newarray .int, 2) := by decide +kernel
theorem d_M_init_9 : decode c_M_init 9 = .ok (.putfield 9, 3) := by decide +kernel
theorem d_M_init_12 : decode c_M_init 12 = .ok (.aload_n 0, 1) := by decide +kernel
theorem d_M_init_13 : decode c_M_init 13 = .ok (.bipush 66, 2) := by decide +kernel
theorem d_M_init_15 : decode c_M_init 15 = .ok (.newarray .int, 2) := by decide +kernel
theorem d_M_init_17 : decode c_M_init 17 = .ok (.putfield 13, 3) := by decide +kernel
theorem d_M_init_20 : decode c_M_init 20 = .ok (.aload_n 0, 1) := by decide +kernel
theorem d_M_init_21 : decode c_M_init 21 = .ok (.bipush 66, 2) := by decide +kernel
theorem d_M_init_23 : decode c_M_init 23 = .ok (.newarray .int, 2) := by decide +kernel
theorem d_M_init_25 : decode c_M_init 25 = .ok (.putfield 16, 3) := by decide +kernel
theorem d_M_init_28 : decode c_M_init 28 = .ok (.aload_n 0, 1) := by decide +kernel
theorem d_M_init_29 : decode c_M_init 29 = .ok (.bipush 7, 2) := by decide +kernel
theorem d_M_init_31 : decode c_M_init 31 = .ok (.newarray .int, 2) := by decide +kernel
theorem d_M_init_33 : decode c_M_init 33 = .ok (.putfield 19, 3) := by decide +kernel
theorem d_M_init_36 : decode c_M_init 36 = .ok (.aload_n 0, 1) := by decide +kernel
theorem d_M_init_37 : decode c_M_init 37 = .ok (.bipush 120, 2) := by decide +kernel
theorem d_M_init_39 : decode c_M_init 39 = .ok (.newarray .int, 2) := by decide +kernel
theorem d_M_init_41 : decode c_M_init 41 = .ok (.putfield 22, 3) := by decide +kernel
theorem d_M_init_44 : decode c_M_init 44 = .ok (.aload_n 0, 1) := by decide +kernel
theorem d_M_init_45 : decode c_M_init 45 = .ok (.bipush 48, 2) := by decide +kernel
theorem d_M_init_47 : decode c_M_init 47 = .ok (.newarray .char, 2) := by decide +kernel
theorem d_M_init_49 : decode c_M_init 49 = .ok (.dup, 1) := by decide +kernel
theorem d_M_init_50 : decode c_M_init 50 = .ok (.iconst 0, 1) := by decide +kernel
theorem d_M_init_51 : decode c_M_init 51 = .ok (.bipush 99, 2) := by decide +kernel
theorem d_M_init_53 : decode c_M_init 53 = .ok (.castore, 1) := by decide +kernel
theorem d_M_init_54 : decode c_M_init 54 = .ok (.dup, 1) := by decide +kernel
theorem d_M_init_55 : decode c_M_init 55 = .ok (.iconst 1, 1) := by decide +kernel
theorem d_M_init_56 : decode c_M_init 56 = .ok (.bipush 97, 2) := by decide +kernel
theorem d_M_init_58 : decode c_M_init 58 = .ok (.castore, 1) := by decide +kernel
theorem d_M_init_59 : decode c_M_init 59 = .ok (.dup, 1) := by decide +kernel
theorem d_M_init_60 : decode c_M_init 60 = .ok (.iconst 2, 1) := by decide +kernel
theorem d_M_init_61 : decode c_M_init 61 = .ok (.bipush 114, 2) := by decide +kernel
theorem d_M_init_63 : decode c_M_init 63 = .ok (.castore, 1) := by decide +kernel
theorem d_M_init_64 : decode c_M_init 64 = .ok (.dup, 1) := by decide +kernel
theorem d_M_init_65 : decode c_M_init 65 = .ok (.iconst 3, 1) := by decide +kernel
theorem d_M_init_66 : decode c_M_init 66 = .ok (.bipush 112, 2) := by decide +kernel
theorem d_M_init_68 : decode c_M_init 68 = .ok (.castore, 1) := by decide +kernel
theorem d_M_init_69 : decode c_M_init 69 = .ok (.dup, 1) := by decide +kernel
theorem d_M_init_70 : decode c_M_init 70 = .ok (.iconst 4, 1) := by decide +kernel
theorem d_M_init_71 : decode c_M_init 71 = .ok (.bipush 101, 2) := by decide +kernel
theorem d_M_init_73 : decode c_M_init 73 = .ok (.castore, 1) := by decide +kernel
theorem d_M_init_74 : decode c_M_init 74 = .ok (.dup, 1) := by decide +kernel
theorem d_M_init_75 : decode c_M_init 75 = .ok (.iconst 5, 1) := by decide +kernel
theorem d_M_init_76 : decode c_M_init 76 = .ok (.bipush 116, 2) := by decide +kernel
theorem d_M_init_78 : decode c_M_init 78 = .ok (.castore, 1) := by decide +kernel
theorem d_M_init_79 : decode c_M_init 79 = .ok (.dup, 1) := by decide +kernel
theorem d_M_init_80 : decode c_M_init 80 = .ok (.bipush 6, 2) := by decide +kernel
theorem d_M_init_82 : decode c_M_init 82 = .ok (.bipush 32, 2) := by decide +kernel
theorem d_M_init_84 : decode c_M_init 84 = .ok (.castore, 1) := by decide +kernel
theorem d_M_init_85 : decode c_M_init 85 = .ok (.dup, 1) := by decide +kernel
theorem d_M_init_86 : decode c_M_init 86 = .ok (.bipush 7, 2) := by decide +kernel
theorem d_M_init_88 : decode c_M_init 88 = .ok (.bipush 32, 2) := by decide +kernel
theorem d_M_init_90 : decode c_M_init 90 = .ok (.castore, 1) := by decide +kernel
theorem d_M_init_91 : decode c_M_init 91 = .ok (.dup, 1) := by decide +kernel
theorem d_M_init_92 : decode c_M_init 92 = .ok (.bipush 8, 2) := by decide +kernel
theorem d_M_init_94 : decode c_M_init 94 = .ok (.bipush 114, 2) := by decide +kernel
theorem d_M_init_96 : decode c_M_init 96 = .ok (.castore, 1) := by decide +kernel
theorem d_M_init_97 : decode c_M_init 97 = .ok (.dup, 1) := by decide +kernel
theorem d_M_init_98 : decode c_M_init 98 = .ok (.bipush 9, 2) := by decide +kernel
theorem d_M_init_100 : decode c_M_init 100 = .ok (.bipush 117, 2) := by decide +kernel
theorem d_M_init_102 : decode c_M_init 102 = .ok (.castore, 1) := by decide +kernel
theorem d_M_init_103 : decode c_M_init 103 = .ok (.dup, 1) := by decide +kernel
theorem d_M_init_104 : decode c_M_init 104 = .ok (.bipush 10, 2) := by decide +kernel
theorem d_M_init_106 : decode c_M_init 106 = .ok (.bipush 110, 2) := by decide +kernel
theorem d_M_init_108 : decode c_M_init 108 = .ok (.castore, 1) := by decide +kernel
theorem d_M_init_109 : decode c_M_init 109 = .ok (.dup, 1) := by decide +kernel
theorem d_M_init_110 : decode c_M_init 110 = .ok (.bipush 11, 2) := by decide +kernel
theorem d_M_init_112 : decode c_M_init 112 = .ok (.bipush 110, 2) := by decide +kernel
theorem d_M_init_114 : decode c_M_init 114 = .ok (.castore, 1) := by decide +kernel
theorem d_M_init_115 : decode c_M_init 115 = .ok (.dup, 1) := by decide +kernel
theorem d_M_init_116 : decode c_M_init 116 = .ok (.bipush 12, 2) := by decide +kernel
theorem d_M_init_118 : decode c_M_init 118 = .ok (.bipush 101, 2) := by decide +kernel
theorem d_M_init_120 : decode c_M_init 120 = .ok (.castore, 1) := by decide +kernel
theorem d_M_init_121 : decode c_M_init 121 = .ok (.dup, 1) := by decide +kernel
theorem d_M_init_122 : decode c_M_init 122 = .ok (.bipush 13, 2) := by decide +kernel
theorem d_M_init_124 : decode c_M_init 124 = .ok (.bipush 114, 2) := by decide +kernel
theorem d_M_init_126 : decode c_M_init 126 = .ok (.castore, 1) := by decide +kernel
theorem d_M_init_127 : decode c_M_init 127 = .ok (.dup, 1) := by decide +kernel
theorem d_M_init_128 : decode c_M_init 128 = .ok (.bipush 14, 2) := by decide +kernel
theorem d_M_init_130 : decode c_M_init 130 = .ok (.bipush 32, 2) := by decide +kernel
theorem d_M_init_132 : decode c_M_init 132 = .ok (.castore, 1) := by decide +kernel
theorem d_M_init_133 : decode c_M_init 133 = .ok (.dup, 1) := by decide +kernel
theorem d_M_init_134 : decode c_M_init 134 = .ok (.bipush 15, 2) := by decide +kernel
theorem d_M_init_136 : decode c_M_init 136 = .ok (.bipush 32, 2) := by decide +kernel
theorem d_M_init_138 : decode c_M_init 138 = .ok (.castore, 1) := by decide +kernel
theorem d_M_init_139 : decode c_M_init 139 = .ok (.dup, 1) := by decide +kernel
theorem d_M_init_140 : decode c_M_init 140 = .ok (.bipush 16, 2) := by decide +kernel
theorem d_M_init_142 : decode c_M_init 142 = .ok (.bipush 118, 2) := by decide +kernel
theorem d_M_init_144 : decode c_M_init 144 = .ok (.castore, 1) := by decide +kernel
theorem d_M_init_145 : decode c_M_init 145 = .ok (.dup, 1) := by decide +kernel
theorem d_M_init_146 : decode c_M_init 146 = .ok (.bipush 17, 2) := by decide +kernel
theorem d_M_init_148 : decode c_M_init 148 = .ok (.bipush 101, 2) := by decide +kernel
theorem d_M_init_150 : decode c_M_init 150 = .ok (.castore, 1) := by decide +kernel
theorem d_M_init_151 : decode c_M_init 151 = .ok (.dup, 1) := by decide +kernel
theorem d_M_init_152 : decode c_M_init 152 = .ok (.bipush 18, 2) := by decide +kernel
theorem d_M_init_154 : decode c_M_init 154 = .ok (.bipush 108, 2) := by decide +kernel
theorem d_M_init_156 : decode c_M_init 156 = .ok (.castore, 1) := by decide +kernel
theorem d_M_init_157 : decode c_M_init 157 = .ok (.dup, 1) := by decide +kernel
theorem d_M_init_158 : decode c_M_init 158 = .ok (.bipush 19, 2) := by decide +kernel
theorem d_M_init_160 : decode c_M_init 160 = .ok (.bipush 118, 2) := by decide +kernel
theorem d_M_init_162 : decode c_M_init 162 = .ok (.castore, 1) := by decide +kernel
theorem d_M_init_163 : decode c_M_init 163 = .ok (.dup, 1) := by decide +kernel
theorem d_M_init_164 : decode c_M_init 164 = .ok (.bipush 20, 2) := by decide +kernel
theorem d_M_init_166 : decode c_M_init 166 = .ok (.bipush 101, 2) := by decide +kernel
theorem d_M_init_168 : decode c_M_init 168 = .ok (.castore, 1) := by decide +kernel
theorem d_M_init_169 : decode c_M_init 169 = .ok (.dup, 1) := by decide +kernel
theorem d_M_init_170 : decode c_M_init 170 = .ok (.bipush 21, 2) := by decide +kernel
theorem d_M_init_172 : decode c_M_init 172 = .ok (.bipush 116, 2) := by decide +kernel
theorem d_M_init_174 : decode c_M_init 174 = .ok (.castore, 1) := by decide +kernel
theorem d_M_init_175 : decode c_M_init 175 = .ok (.dup, 1) := by decide +kernel
theorem d_M_init_176 : decode c_M_init 176 = .ok (.bipush 22, 2) := by decide +kernel
theorem d_M_init_178 : decode c_M_init 178 = .ok (.bipush 32, 2) := by decide +kernel
theorem d_M_init_180 : decode c_M_init 180 = .ok (.castore, 1) := by decide +kernel
theorem d_M_init_181 : decode c_M_init 181 = .ok (.dup, 1) := by decide +kernel
theorem d_M_init_182 : decode c_M_init 182 = .ok (.bipush 23, 2) := by decide +kernel
theorem d_M_init_184 : decode c_M_init 184 = .ok (.bipush 32, 2) := by decide +kernel
theorem d_M_init_186 : decode c_M_init 186 = .ok (.castore, 1) := by decide +kernel
theorem d_M_init_187 : decode c_M_init 187 = .ok (.dup, 1) := by decide +kernel
theorem d_M_init_188 : decode c_M_init 188 = .ok (.bipush 24, 2) := by decide +kernel
theorem d_M_init_190 : decode c_M_init 190 = .ok (.bipush 109, 2) := by decide +kernel
theorem d_M_init_192 : decode c_M_init 192 = .ok (.castore, 1) := by decide +kernel
theorem d_M_init_193 : decode c_M_init 193 = .ok (.dup, 1) := by decide +kernel
theorem d_M_init_194 : decode c_M_init 194 = .ok (.bipush 25, 2) := by decide +kernel
theorem d_M_init_196 : decode c_M_init 196 = .ok (.bipush 97, 2) := by decide +kernel
theorem d_M_init_198 : decode c_M_init 198 = .ok (.castore, 1) := by decide +kernel
theorem d_M_init_199 : decode c_M_init 199 = .ok (.dup, 1) := by decide +kernel
theorem d_M_init_200 : decode c_M_init 200 = .ok (.bipush 26, 2) := by decide +kernel
theorem d_M_init_202 : decode c_M_init 202 = .ok (.bipush 116, 2) := by decide +kernel
theorem d_M_init_204 : decode c_M_init 204 = .ok (.castore, 1) := by decide +kernel
theorem d_M_init_205 : decode c_M_init 205 = .ok (.dup, 1) := by decide +kernel
theorem d_M_init_206 : decode c_M_init 206 = .ok (.bipush 27, 2) := by decide +kernel
theorem d_M_init_208 : decode c_M_init 208 = .ok (.bipush 32, 2) := by decide +kernel
theorem d_M_init_210 : decode c_M_init 210 = .ok (.castore, 1) := by decide +kernel
theorem d_M_init_211 : decode c_M_init 211 = .ok (.dup, 1) := by decide +kernel
theorem d_M_init_212 : decode c_M_init 212 = .ok (.bipush 28, 2) := by decide +kernel
theorem d_M_init_214 : decode c_M_init 214 = .ok (.bipush 32, 2) := by decide +kernel
theorem d_M_init_216 : decode c_M_init 216 = .ok (.castore, 1) := by decide +kernel
theorem d_M_init_217 : decode c_M_init 217 = .ok (.dup, 1) := by decide +kernel
theorem d_M_init_218 : decode c_M_init 218 = .ok (.bipush 29, 2) := by decide +kernel
theorem d_M_init_220 : decode c_M_init 220 = .ok (.bipush 32, 2) := by decide +kernel
theorem d_M_init_222 : decode c_M_init 222 = .ok (.castore, 1) := by decide +kernel
theorem d_M_init_223 : decode c_M_init 223 = .ok (.dup, 1) := by decide +kernel
theorem d_M_init_224 : decode c_M_init 224 = .ok (.bipush 30, 2) := by decide +kernel
theorem d_M_init_226 : decode c_M_init 226 = .ok (.bipush 32, 2) := by decide +kernel
theorem d_M_init_228 : decode c_M_init 228 = .ok (.castore, 1) := by decide +kernel
theorem d_M_init_229 : decode c_M_init 229 = .ok (.dup, 1) := by decide +kernel
theorem d_M_init_230 : decode c_M_init 230 = .ok (.bipush 31, 2) := by decide +kernel
theorem d_M_init_232 : decode c_M_init 232 = .ok (.bipush 32, 2) := by decide +kernel
theorem d_M_init_234 : decode c_M_init 234 = .ok (.castore, 1) := by decide +kernel
theorem d_M_init_235 : decode c_M_init 235 = .ok (.dup, 1) := by decide +kernel
theorem d_M_init_236 : decode c_M_init 236 = .ok (.bipush 32, 2) := by decide +kernel
theorem d_M_init_238 : decode c_M_init 238 = .ok (.bipush 115, 2) := by decide +kernel
theorem d_M_init_240 : decode c_M_init 240 = .ok (.castore, 1) := by decide +kernel
theorem d_M_init_241 : decode c_M_init 241 = .ok (.dup, 1) := by decide +kernel
theorem d_M_init_242 : decode c_M_init 242 = .ok (.bipush 33, 2) := by decide +kernel
theorem d_M_init_244 : decode c_M_init 244 = .ok (.bipush 116, 2) := by decide +kernel
theorem d_M_init_246 : decode c_M_init 246 = .ok (.castore, 1) := by decide +kernel
theorem d_M_init_247 : decode c_M_init 247 = .ok (.dup, 1) := by decide +kernel
theorem d_M_init_248 : decode c_M_init 248 = .ok (.bipush 34, 2) := by decide +kernel
theorem d_M_init_250 : decode c_M_init 250 = .ok (.bipush 97, 2) := by decide +kernel
theorem d_M_init_252 : decode c_M_init 252 = .ok (.castore, 1) := by decide +kernel
theorem d_M_init_253 : decode c_M_init 253 = .ok (.dup, 1) := by decide +kernel
theorem d_M_init_254 : decode c_M_init 254 = .ok (.bipush 35, 2) := by decide +kernel
theorem d_M_init_256 : decode c_M_init 256 = .ok (.bipush 105, 2) := by decide +kernel
theorem d_M_init_258 : decode c_M_init 258 = .ok (.castore, 1) := by decide +kernel
theorem d_M_init_259 : decode c_M_init 259 = .ok (.dup, 1) := by decide +kernel
theorem d_M_init_260 : decode c_M_init 260 = .ok (.bipush 36, 2) := by decide +kernel
theorem d_M_init_262 : decode c_M_init 262 = .ok (.bipush 114, 2) := by decide +kernel
theorem d_M_init_264 : decode c_M_init 264 = .ok (.castore, 1) := by decide +kernel
theorem d_M_init_265 : decode c_M_init 265 = .ok (.dup, 1) := by decide +kernel
theorem d_M_init_266 : decode c_M_init 266 = .ok (.bipush 37, 2) := by decide +kernel
theorem d_M_init_268 : decode c_M_init 268 = .ok (.bipush 32, 2) := by decide +kernel
theorem d_M_init_270 : decode c_M_init 270 = .ok (.castore, 1) := by decide +kernel
theorem d_M_init_271 : decode c_M_init 271 = .ok (.dup, 1) := by decide +kernel
theorem d_M_init_272 : decode c_M_init 272 = .ok (.bipush 38, 2) := by decide +kernel
theorem d_M_init_274 : decode c_M_init 274 = .ok (.bipush 32, 2) := by decide +kernel
theorem d_M_init_276 : decode c_M_init 276 = .ok (.castore, 1) := by decide +kernel
theorem d_M_init_277 : decode c_M_init 277 = .ok (.dup, 1) := by decide +kernel
theorem d_M_init_278 : decode c_M_init 278 = .ok (.bipush 39, 2) := by decide +kernel
theorem d_M_init_280 : decode c_M_init 280 = .ok (.bipush 32, 2) := by decide +kernel
theorem d_M_init_282 : decode c_M_init 282 = .ok (.castore, 1) := by decide +kernel
theorem d_M_init_283 : decode c_M_init 283 = .ok (.dup, 1) := by decide +kernel
theorem d_M_init_284 : decode c_M_init 284 = .ok (.bipush 40, 2) := by decide +kernel
theorem d_M_init_286 : decode c_M_init 286 = .ok (.bipush 115, 2) := by decide +kernel
theorem d_M_init_288 : decode c_M_init 288 = .ok (.castore, 1) := by decide +kernel
theorem d_M_init_289 : decode c_M_init 289 = .ok (.dup, 1) := by decide +kernel
theorem d_M_init_290 : decode c_M_init 290 = .ok (.bipush 41, 2) := by decide +kernel
theorem d_M_init_292 : decode c_M_init 292 = .ok (.bipush 104, 2) := by decide +kernel
theorem d_M_init_294 : decode c_M_init 294 = .ok (.castore, 1) := by decide +kernel
theorem d_M_init_295 : decode c_M_init 295 = .ok (.dup, 1) := by decide +kernel
theorem d_M_init_296 : decode c_M_init 296 = .ok (.bipush 42, 2) := by decide +kernel
theorem d_M_init_298 : decode c_M_init 298 = .ok (.bipush 97, 2) := by decide +kernel
theorem d_M_init_300 : decode c_M_init 300 = .ok (.castore, 1) := by decide +kernel
theorem d_M_init_301 : decode c_M_init 301 = .ok (.dup, 1) := by decide +kernel
theorem d_M_init_302 : decode c_M_init 302 = .ok (.bipush 43, 2) := by decide +kernel
theorem d_M_init_304 : decode c_M_init 304 = .ok (.bipush 103, 2) := by decide +kernel
theorem d_M_init_306 : decode c_M_init 306 = .ok (.castore, 1) := by decide +kernel
theorem d_M_init_307 : decode c_M_init 307 = .ok (.dup, 1) := by decide +kernel
theorem d_M_init_308 : decode c_M_init 308 = .ok (.bipush 44, 2) := by decide +kernel
theorem d_M_init_310 : decode c_M_init 310 = .ok (.bipush 32, 2) := by decide +kernel
theorem d_M_init_312 : decode c_M_init 312 = .ok (.castore, 1) := by decide +kernel
theorem d_M_init_313 : decode c_M_init 313 = .ok (.dup, 1) := by decide +kernel
theorem d_M_init_314 : decode c_M_init 314 = .ok (.bipush 45, 2) := by decide +kernel
theorem d_M_init_316 : decode c_M_init 316 = .ok (.bipush 32, 2) := by decide +kernel
theorem d_M_init_318 : decode c_M_init 318 = .ok (.castore, 1) := by decide +kernel
theorem d_M_init_319 : decode c_M_init 319 = .ok (.dup, 1) := by decide +kernel
theorem d_M_init_320 : decode c_M_init 320 = .ok (.bipush 46, 2) := by decide +kernel
theorem d_M_init_322 : decode c_M_init 322 = .ok (.bipush 32, 2) := by decide +kernel
theorem d_M_init_324 : decode c_M_init 324 = .ok (.castore, 1) := by decide +kernel
theorem d_M_init_325 : decode c_M_init 325 = .ok (.dup, 1) := by decide +kernel
theorem d_M_init_326 : decode c_M_init 326 = .ok (.bipush 47, 2) := by decide +kernel
theorem d_M_init_328 : decode c_M_init 328 = .ok (.bipush 32, 2) := by decide +kernel
theorem d_M_init_330 : decode c_M_init 330 = .ok (.castore, 1) := by decide +kernel
theorem d_M_init_331 : decode c_M_init 331 = .ok (.putfield 25, 3) := by decide +kernel
theorem d_M_init_334 : decode c_M_init 334 = .ok (.aload_n 0, 1) := by decide +kernel
theorem d_M_init_335 : decode c_M_init 335 = .ok (.bipush 24, 2) := by decide +kernel
theorem d_M_init_337 : decode c_M_init 337 = .ok (.newarray .char, 2) := by decide +kernel
theorem d_M_init_339 : decode c_M_init 339 = .ok (.dup, 1) := by decide +kernel
theorem d_M_init_340 : decode c_M_init 340 = .ok (.iconst 0, 1) := by decide +kernel
theorem d_M_init_341 : decode c_M_init 341 = .ok (.bipush 108, 2) := by decide +kernel
theorem d_M_init_343 : decode c_M_init 343 = .ok (.castore, 1) := by decide +kernel
theorem d_M_init_344 : decode c_M_init 344 = .ok (.dup, 1) := by decide +kernel
theorem d_M_init_345 : decode c_M_init 345 = .ok (.iconst 1, 1) := by decide +kernel
theorem d_M_init_346 : decode c_M_init 346 = .ok (.bipush 111, 2) := by decide +kernel
theorem d_M_init_348 : decode c_M_init 348 = .ok (.castore, 1) := by decide +kernel
theorem d_M_init_349 : decode c_M_init 349 = .ok (.dup, 1) := by decide +kernel
theorem d_M_init_350 : decode c_M_init 350 = .ok (.iconst 2, 1) := by decide +kernel
theorem d_M_init_351 : decode c_M_init 351 = .ok (.bipush 110, 2) := by decide +kernel
theorem d_M_init_353 : decode c_M_init 353 = .ok (.castore, 1) := by decide +kernel
theorem d_M_init_354 : decode c_M_init 354 = .ok (.dup, 1) := by decide +kernel
theorem d_M_init_355 : decode c_M_init 355 = .ok (.iconst 3, 1) := by decide +kernel
theorem d_M_init_356 : decode c_M_init 356 = .ok (.bipush 103, 2) := by decide +kernel
theorem d_M_init_358 : decode c_M_init 358 = .ok (.castore, 1) := by decide +kernel
theorem d_M_init_359 : decode c_M_init 359 = .ok (.dup, 1) := by decide +kernel
theorem d_M_init_360 : decode c_M_init 360 = .ok (.iconst 4, 1) := by decide +kernel
theorem d_M_init_361 : decode c_M_init 361 = .ok (.bipush 32, 2) := by decide +kernel
theorem d_M_init_363 : decode c_M_init 363 = .ok (.castore, 1) := by decide +kernel
theorem d_M_init_364 : decode c_M_init 364 = .ok (.dup, 1) := by decide +kernel
theorem d_M_init_365 : decode c_M_init 365 = .ok (.iconst 5, 1) := by decide +kernel
theorem d_M_init_366 : decode c_M_init 366 = .ok (.bipush 32, 2) := by decide +kernel
theorem d_M_init_368 : decode c_M_init 368 = .ok (.castore, 1) := by decide +kernel
theorem d_M_init_369 : decode c_M_init 369 = .ok (.dup, 1) := by decide +kernel
theorem d_M_init_370 : decode c_M_init 370 = .ok (.bipush 6, 2) := by decide +kernel
theorem d_M_init_372 : decode c_M_init 372 = .ok (.bipush 32, 2) := by decide +kernel
theorem d_M_init_374 : decode c_M_init 374 = .ok (.castore, 1) := by decide +kernel
theorem d_M_init_375 : decode c_M_init 375 = .ok (.dup, 1) := by decide +kernel
theorem d_M_init_376 : decode c_M_init 376 = .ok (.bipush 7, 2) := by decide +kernel
theorem d_M_init_378 : decode c_M_init 378 = .ok (.bipush 32, 2) := by decide +kernel
theorem d_M_init_380 : decode c_M_init 380 = .ok (.castore, 1) := by decide +kernel
theorem d_M_init_381 : decode c_M_init 381 = .ok (.dup, 1) := by decide +kernel
theorem d_M_init_382 : decode c_M_init 382 = .ok (.bipush 8, 2) := by decide +kernel
theorem d_M_init_384 : decode c_M_init 384 = .ok (.bipush 112, 2) := by decide +kernel
theorem d_M_init_386 : decode c_M_init 386 = .ok (.castore, 1) := by decide +kernel
theorem d_M_init_387 : decode c_M_init 387 = .ok (.dup, 1) := by decide +kernel
theorem d_M_init_388 : decode c_M_init 388 = .ok (.bipush 9, 2) := by decide +kernel
theorem d_M_init_390 : decode c_M_init 390 = .ok (.bipush 105, 2) := by decide +kernel
theorem d_M_init_392 : decode c_M_init 392 = .ok (.castore, 1) := by decide +kernel
theorem d_M_init_393 : decode c_M_init 393 = .ok (.dup, 1) := by decide +kernel
theorem d_M_init_394 : decode c_M_init 394 = .ok (.bipush 10, 2) := by decide +kernel
theorem d_M_init_396 : decode c_M_init 396 = .ok (.bipush 108, 2) := by decide +kernel
theorem d_M_init_398 : decode c_M_init 398 = .ok (.castore, 1) := by decide +kernel
theorem d_M_init_399 : decode c_M_init 399 = .ok (.dup, 1) := by decide +kernel
theorem d_M_init_400 : decode c_M_init 400 = .ok (.bipush 11, 2) := by decide +kernel
theorem d_M_init_402 : decode c_M_init 402 = .ok (.bipush 101, 2) := by decide +kernel
theorem d_M_init_404 : decode c_M_init 404 = .ok (.castore, 1) := by decide +kernel
theorem d_M_init_405 : decode c_M_init 405 = .ok (.dup, 1) := by decide +kernel
theorem d_M_init_406 : decode c_M_init 406 = .ok (.bipush 12, 2) := by decide +kernel
theorem d_M_init_408 : decode c_M_init 408 = .ok (.bipush 32, 2) := by decide +kernel
theorem d_M_init_410 : decode c_M_init 410 = .ok (.castore, 1) := by decide +kernel
theorem d_M_init_411 : decode c_M_init 411 = .ok (.dup, 1) := by decide +kernel
theorem d_M_init_412 : decode c_M_init 412 = .ok (.bipush 13, 2) := by decide +kernel
theorem d_M_init_414 : decode c_M_init 414 = .ok (.bipush 32, 2) := by decide +kernel
theorem d_M_init_416 : decode c_M_init 416 = .ok (.castore, 1) := by decide +kernel
theorem d_M_init_417 : decode c_M_init 417 = .ok (.dup, 1) := by decide +kernel
theorem d_M_init_418 : decode c_M_init 418 = .ok (.bipush 14, 2) := by decide +kernel
theorem d_M_init_420 : decode c_M_init 420 = .ok (.bipush 32, 2) := by decide +kernel
theorem d_M_init_422 : decode c_M_init 422 = .ok (.castore, 1) := by decide +kernel
theorem d_M_init_423 : decode c_M_init 423 = .ok (.dup, 1) := by decide +kernel
theorem d_M_init_424 : decode c_M_init 424 = .ok (.bipush 15, 2) := by decide +kernel
theorem d_M_init_426 : decode c_M_init 426 = .ok (.bipush 32, 2) := by decide +kernel
theorem d_M_init_428 : decode c_M_init 428 = .ok (.castore, 1) := by decide +kernel
theorem d_M_init_429 : decode c_M_init 429 = .ok (.dup, 1) := by decide +kernel
theorem d_M_init_430 : decode c_M_init 430 = .ok (.bipush 16, 2) := by decide +kernel
theorem d_M_init_432 : decode c_M_init 432 = .ok (.bipush 102, 2) := by decide +kernel
theorem d_M_init_434 : decode c_M_init 434 = .ok (.castore, 1) := by decide +kernel
theorem d_M_init_435 : decode c_M_init 435 = .ok (.dup, 1) := by decide +kernel
theorem d_M_init_436 : decode c_M_init 436 = .ok (.bipush 17, 2) := by decide +kernel
theorem d_M_init_438 : decode c_M_init 438 = .ok (.bipush 114, 2) := by decide +kernel
theorem d_M_init_440 : decode c_M_init 440 = .ok (.castore, 1) := by decide +kernel
theorem d_M_init_441 : decode c_M_init 441 = .ok (.dup, 1) := by decide +kernel
theorem d_M_init_442 : decode c_M_init 442 = .ok (.bipush 18, 2) := by decide +kernel
theorem d_M_init_444 : decode c_M_init 444 = .ok (.bipush 111, 2) := by decide +kernel
theorem d_M_init_446 : decode c_M_init 446 = .ok (.castore, 1) := by decide +kernel
theorem d_M_init_447 : decode c_M_init 447 = .ok (.dup, 1) := by decide +kernel
theorem d_M_init_448 : decode c_M_init 448 = .ok (.bipush 19, 2) := by decide +kernel
theorem d_M_init_450 : decode c_M_init 450 = .ok (.bipush 109, 2) := by decide +kernel
theorem d_M_init_452 : decode c_M_init 452 = .ok (.castore, 1) := by decide +kernel
theorem d_M_init_453 : decode c_M_init 453 = .ok (.dup, 1) := by decide +kernel
theorem d_M_init_454 : decode c_M_init 454 = .ok (.bipush 20, 2) := by decide +kernel
theorem d_M_init_456 : decode c_M_init 456 = .ok (.bipush 32, 2) := by decide +kernel
theorem d_M_init_458 : decode c_M_init 458 = .ok (.castore, 1) := by decide +kernel
theorem d_M_init_459 : decode c_M_init 459 = .ok (.dup, 1) := by decide +kernel
theorem d_M_init_460 : decode c_M_init 460 = .ok (.bipush 21, 2) := by decide +kernel
theorem d_M_init_462 : decode c_M_init 462 = .ok (.bipush 32, 2) := by decide +kernel
theorem d_M_init_464 : decode c_M_init 464 = .ok (.castore, 1) := by decide +kernel
theorem d_M_init_465 : decode c_M_init 465 = .ok (.dup, 1) := by decide +kernel
theorem d_M_init_466 : decode c_M_init 466 = .ok (.bipush 22, 2) := by decide +kernel
theorem d_M_init_468 : decode c_M_init 468 = .ok (.bipush 32, 2) := by decide +kernel
theorem d_M_init_470 : decode c_M_init 470 = .ok (.castore, 1) := by decide +kernel
theorem d_M_init_471 : decode c_M_init 471 = .ok (.dup, 1) := by decide +kernel
theorem d_M_init_472 : decode c_M_init 472 = .ok (.bipush 23, 2) := by decide +kernel
theorem d_M_init_474 : decode c_M_init 474 = .ok (.bipush 32, 2) := by decide +kernel
theorem d_M_init_476 : decode c_M_init 476 = .ok (.castore, 1) := by decide +kernel
theorem d_M_init_477 : decode c_M_init 477 = .ok (.putfield 29, 3) := by decide +kernel
theorem d_M_init_480 : decode c_M_init 480 = .ok (.aload_n 0, 1) := by decide +kernel
theorem d_M_init_481 : decode c_M_init 481 = .ok (.bipush 24, 2) := by decide +kernel
theorem d_M_init_483 : decode c_M_init 483 = .ok (.newarray .char, 2) := by decide +kernel
theorem d_M_init_485 : decode c_M_init 485 = .ok (.dup, 1) := by decide +kernel
theorem d_M_init_486 : decode c_M_init 486 = .ok (.iconst 0, 1) := by decide +kernel
theorem d_M_init_487 : decode c_M_init 487 = .ok (.bipush 117, 2) := by decide +kernel
theorem d_M_init_489 : decode c_M_init 489 = .ok (.castore, 1) := by decide +kernel
theorem d_M_init_490 : decode c_M_init 490 = .ok (.dup, 1) := by decide +kernel
theorem d_M_init_491 : decode c_M_init 491 = .ok (.iconst 1, 1) := by decide +kernel
theorem d_M_init_492 : decode c_M_init 492 = .ok (.bipush 112, 2) := by decide +kernel
theorem d_M_init_494 : decode c_M_init 494 = .ok (.castore, 1) := by decide +kernel
theorem d_M_init_495 : decode c_M_init 495 = .ok (.dup, 1) := by decide +kernel
theorem d_M_init_496 : decode c_M_init 496 = .ok (.iconst 2, 1) := by decide +kernel
theorem d_M_init_497 : decode c_M_init 497 = .ok (.bipush 32, 2) := by decide +kernel
theorem d_M_init_499 : decode c_M_init 499 = .ok (.castore, 1) := by decide +kernel
theorem d_M_init_500 : decode c_M_init 500 = .ok (.dup, 1) := by decide +kernel
theorem d_M_init_501 : decode c_M_init 501 = .ok (.iconst 3, 1) := by decide +kernel
theorem d_M_init_502 : decode c_M_init 502 = .ok (.bipush 32, 2) := by decide +kernel
theorem d_M_init_504 : decode c_M_init 504 = .ok (.castore, 1) := by decide +kernel
theorem d_M_init_505 : decode c_M_init 505 = .ok (.dup, 1) := by decide +kernel
theorem d_M_init_506 : decode c_M_init 506 = .ok (.iconst 4, 1) := by decide +kernel
theorem d_M_init_507 : decode c_M_init 507 = .ok (.bipush 32, 2) := by decide +kernel
theorem d_M_init_509 : decode c_M_init 509 = .ok (.castore, 1) := by decide +kernel
theorem d_M_init_510 : decode c_M_init 510 = .ok (.dup, 1) := by decide +kernel
theorem d_M_init_511 : decode c_M_init 511 = .ok (.iconst 5, 1) := by decide +kernel
theorem d_M_init_512 : decode c_M_init 512 = .ok (.bipush 32, 2) := by decide +kernel
theorem d_M_init_514 : decode c_M_init 514 = .ok (.castore, 1) := by decide +kernel
theorem d_M_init_515 : decode c_M_init 515 = .ok (.dup, 1) := by decide +kernel
theorem d_M_init_516 : decode c_M_init 516 = .ok (.bipush 6, 2) := by decide +kernel
theorem d_M_init_518 : decode c_M_init 518 = .ok (.bipush 32, 2) := by decide +kernel
theorem d_M_init_520 : decode c_M_init 520 = .ok (.castore, 1) := by decide +kernel
theorem d_M_init_521 : decode c_M_init 521 = .ok (.dup, 1) := by decide +kernel
theorem d_M_init_522 : decode c_M_init 522 = .ok (.bipush 7, 2) := by decide +kernel
theorem d_M_init_524 : decode c_M_init 524 = .ok (.bipush 32, 2) := by decide +kernel
theorem d_M_init_526 : decode c_M_init 526 = .ok (.castore, 1) := by decide +kernel
theorem d_M_init_527 : decode c_M_init 527 = .ok (.dup, 1) := by decide +kernel
theorem d_M_init_528 : decode c_M_init 528 = .ok (.bipush 8, 2) := by decide +kernel
theorem d_M_init_530 : decode c_M_init 530 = .ok (.bipush 114, 2) := by decide +kernel
theorem d_M_init_532 : decode c_M_init 532 = .ok (.castore, 1) := by decide +kernel
theorem d_M_init_533 : decode c_M_init 533 = .ok (.dup, 1) := by decide +kernel
theorem d_M_init_534 : decode c_M_init 534 = .ok (.bipush 9, 2) := by decide +kernel
theorem d_M_init_536 : decode c_M_init 536 = .ok (.bipush 97, 2) := by decide +kernel
theorem d_M_init_538 : decode c_M_init 538 = .ok (.castore, 1) := by decide +kernel
theorem d_M_init_539 : decode c_M_init 539 = .ok (.dup, 1) := by decide +kernel
theorem d_M_init_540 : decode c_M_init 540 = .ok (.bipush 10, 2) := by decide +kernel
theorem d_M_init_542 : decode c_M_init 542 = .ok (.bipush 105, 2) := by decide +kernel
theorem d_M_init_544 : decode c_M_init 544 = .ok (.castore, 1) := by decide +kernel
theorem d_M_init_545 : decode c_M_init 545 = .ok (.dup, 1) := by decide +kernel
theorem d_M_init_546 : decode c_M_init 546 = .ok (.bipush 11, 2) := by decide +kernel
theorem d_M_init_548 : decode c_M_init 548 = .ok (.bipush 110, 2) := by decide +kernel
theorem d_M_init_550 : decode c_M_init 550 = .ok (.castore, 1) := by decide +kernel
theorem d_M_init_551 : decode c_M_init 551 = .ok (.dup, 1) := by decide +kernel
theorem d_M_init_552 : decode c_M_init 552 = .ok (.bipush 12, 2) := by decide +kernel
theorem d_M_init_554 : decode c_M_init 554 = .ok (.bipush 32, 2) := by decide +kernel
theorem d_M_init_556 : decode c_M_init 556 = .ok (.castore, 1) := by decide +kernel
theorem d_M_init_557 : decode c_M_init 557 = .ok (.dup, 1) := by decide +kernel
theorem d_M_init_558 : decode c_M_init 558 = .ok (.bipush 13, 2) := by decide +kernel
theorem d_M_init_560 : decode c_M_init 560 = .ok (.bipush 32, 2) := by decide +kernel
theorem d_M_init_562 : decode c_M_init 562 = .ok (.castore, 1) := by decide +kernel
theorem d_M_init_563 : decode c_M_init 563 = .ok (.dup, 1) := by decide +kernel
theorem d_M_init_564 : decode c_M_init 564 = .ok (.bipush 14, 2) := by decide +kernel
theorem d_M_init_566 : decode c_M_init 566 = .ok (.bipush 32, 2) := by decide +kernel
theorem d_M_init_568 : decode c_M_init 568 = .ok (.castore, 1) := by decide +kernel
theorem d_M_init_569 : decode c_M_init 569 = .ok (.dup, 1) := by decide +kernel
theorem d_M_init_570 : decode c_M_init 570 = .ok (.bipush 15, 2) := by decide +kernel
theorem d_M_init_572 : decode c_M_init 572 = .ok (.bipush 32, 2) := by decide +kernel
theorem d_M_init_574 : decode c_M_init 574 = .ok (.castore, 1) := by decide +kernel
theorem d_M_init_575 : decode c_M_init 575 = .ok (.dup, 1) := by decide +kernel
theorem d_M_init_576 : decode c_M_init 576 = .ok (.bipush 16, 2) := by decide +kernel
theorem d_M_init_578 : decode c_M_init 578 = .ok (.bipush 100, 2) := by decide +kernel
theorem d_M_init_580 : decode c_M_init 580 = .ok (.castore, 1) := by decide +kernel
theorem d_M_init_581 : decode c_M_init 581 = .ok (.dup, 1) := by decide +kernel
theorem d_M_init_582 : decode c_M_init 582 = .ok (.bipush 17, 2) := by decide +kernel
theorem d_M_init_584 : decode c_M_init 584 = .ok (.bipush 114, 2) := by decide +kernel
theorem d_M_init_586 : decode c_M_init 586 = .ok (.castore, 1) := by decide +kernel
theorem d_M_init_587 : decode c_M_init 587 = .ok (.dup, 1) := by decide +kernel
theorem d_M_init_588 : decode c_M_init 588 = .ok (.bipush 18, 2) := by decide +kernel
theorem d_M_init_590 : decode c_M_init 590 = .ok (.bipush 121, 2) := by decide +kernel
theorem d_M_init_592 : decode c_M_init 592 = .ok (.castore, 1) := by decide +kernel
theorem d_M_init_593 : decode c_M_init 593 = .ok (.dup, 1) := by decide +kernel
theorem d_M_init_594 : decode c_M_init 594 = .ok (.bipush 19, 2) := by decide +kernel
theorem d_M_init_596 : decode c_M_init 596 = .ok (.bipush 32, 2) := by decide +kernel
theorem d_M_init_598 : decode c_M_init 598 = .ok (.castore, 1) := by decide +kernel
theorem d_M_init_599 : decode c_M_init 599 = .ok (.dup, 1) := by decide +kernel
theorem d_M_init_600 : decode c_M_init 600 = .ok (.bipush 20, 2) := by decide +kernel
theorem d_M_init_602 : decode c_M_init 602 = .ok (.bipush 32, 2) := by decide +kernel
theorem d_M_init_604 : decode c_M_init 604 = .ok (.castore, 1) := by decide +kernel
theorem d_M_init_605 : decode c_M_init 605 = .ok (.dup, 1) := by decide +kernel
theorem d_M_init_606 : decode c_M_init 606 = .ok (.bipush 21, 2) := by decide +kernel
theorem d_M_init_608 : decode c_M_init 608 = .ok (.bipush 32, 2) := by decide +kernel
theorem d_M_init_610 : decode c_M_init 610 = .ok (.castore, 1) := by decide +kernel
theorem d_M_init_611 : decode c_M_init 611 = .ok (.dup, 1) := by decide +kernel
theorem d_M_init_612 : decode c_M_init 612 = .ok (.bipush 22, 2) := by decide +kernel
theorem d_M_init_614 : decode c_M_init 614 = .ok (.bipush 32, 2) := by decide +kernel
theorem d_M_init_616 : decode c_M_init 616 = .ok (.castore, 1) := by decide +kernel
theorem d_M_init_617 : decode c_M_init 617 = .ok (.dup, 1) := by decide +kernel
theorem d_M_init_618 : decode c_M_init 618 = .ok (.bipush 23, 2) := by decide +kernel
theorem d_M_init_620 : decode c_M_init 620 = .ok (.bipush 32, 2) := by decide +kernel
theorem d_M_init_622 : decode c_M_init 622 = .ok (.castore, 1) := by decide +kernel
theorem d_M_init_623 : decode c_M_init 623 = .ok (.putfield 32, 3) := by decide +kernel
theorem d_M_init_626 : decode c_M_init 626 = .ok (.aload_n 0, 1) := by decide +kernel
theorem d_M_init_627 : decode c_M_init 627 = .ok (.iconst 4, 1) := by decide +kernel
theorem d_M_init_628 : decode c_M_init 628 = .ok (.newarray .int, 2) := by decide +kernel
theorem d_M_init_630 : decode c_M_init 630 = .ok (.putfield 35, 3) := by decide +kernel
theorem d_M_init_633 : decode c_M_init 633 = .ok (.aload_n 0, 1) := by decide +kernel
theorem d_M_init_634 : decode c_M_init 634 = .ok (.iconst 4, 1) := by decide +kernel
theorem d_M_init_635 : decode c_M_init 635 = .ok (.newarray .int, 2) := by decide +kernel
theorem d_M_init_637 : decode c_M_init 637 = .ok (.putfield 38, 3) := by decide +kernel
theorem d_M_init_640 : decode c_M_init 640 = .ok (.aload_n 0, 1) := by decide +kernel
theorem d_M_init_641 : decode c_M_init 641 = .ok (.sipush 160, 3) := by decide +kernel
theorem d_M_init_644 : decode c_M_init 644 = .ok (.newarray .long, 2) := by decide +kernel
theorem d_M_init_646 : decode c_M_init 646 = .ok (.putfield 41, 3) := by decide +kernel
theorem d_M_init_649 : decode c_M_init 649 = .ok (.aload_n 0, 1) := by decide +kernel
theorem d_M_init_650 : decode c_M_init 650 = .ok (.bipush 40, 2) := by decide +kernel
theorem d_M_init_652 : decode c_M_init 652 = .ok (.newarray .long, 2) := by decide +kernel
theorem d_M_init_654 : decode c_M_init 654 = .ok (.putfield 45, 3) := by decide +kernel
theorem d_M_init_657 : decode c_M_init 657 = .ok (.aload_n 0, 1) := by decide +kernel
theorem d_M_init_658 : decode c_M_init 658 = .ok (.getfield 9, 3) := by decide +kernel
theorem d_M_init_661 : decode c_M_init 661 = .ok (.bipush 6, 2) := by decide +kernel
theorem d_M_init_663 : decode c_M_init 663 = .ok (.iconst 1, 1) := by decide +kernel
theorem d_M_init_664 : decode c_M_init 664 = .ok (.iastore, 1) := by decide +kernel
theorem d_M_init_665 : decode c_M_init 665 = .ok (.return_, 1) := by decide +kernel
