theorem d_M_no_0 : decode c_M_no 0 = .ok (.aload_n 0, 1) := by decide +kernel
theorem d_M_no_1 : decode c_M_no 1 = .ok (.getfield 19, 3) := by decide +kernel
theorem d_M_no_4 : decode c_M_no 4 = .ok (.iload_n 1, 1) := by decide +kernel
theorem d_M_no_5 : decode c_M_no 5 = .ok (.dup2, 1) := by decide +kernel
theorem d_M_no_6 : decode c_M_no 6 = .ok (.iaload, 1) := by decide +kernel
theorem d_M_no_7 : decode c_M_no 7 = .ok (.iconst 1, 1) := by decide +kernel
theorem d_M_no_8 : decode c_M_no 8 = .ok (.iadd, 1) := by decide +kernel
theorem d_M_no_9 : decode c_M_no 9 = .ok (.iastore, 1) := by decide +kernel
theorem d_M_no_10 : decode c_M_no 10 = .ok (.ldc 48, 2) := by decide +kernel
theorem d_M_no_12 : decode c_M_no 12 = .ok (.iload_n 1, 1) := by decide +kernel
theorem d_M_no_13 : decode c_M_no 13 = .ok (.isub, 1) := by decide +kernel
theorem d_M_no_14 : decode c_M_no 14 = .ok (.ireturn, 1) := by decide +kernel
theorem d_M_in1_0 : decode c_M_in1 0 = .ok (.iload_n 0, 1) := by decide +kernel
theorem d_M_in1_1 : decode c_M_in1 1 = .ok (.iload_n 1, 1) := by decide +kernel
theorem d_M_in1_2 : decode c_M_in1 2 = .ok (.if_icmp .lt 12, 3) := by decide +kernel
theorem d_M_in1_5 : decode c_M_in1 5 = .ok (.iload_n 0, 1) := by decide +kernel
theorem d_M_in1_6 : decode c_M_in1 6 = .ok (.iload_n 2, 1) := by decide +kernel
theorem d_M_in1_7 : decode c_M_in1 7 = .ok (.if_icmp .gt 7, 3) := by decide +kernel
theorem d_M_in1_10 : decode c_M_in1 10 = .ok (.iconst 1, 1) := by decide +kernel
theorem d_M_in1_11 : decode c_M_in1 11 = .ok (.goto 4, 3) := by decide +kernel
theorem d_M_in1_14 : decode c_M_in1 14 = .ok (.iconst 0, 1) := by decide +kernel
theorem d_M_in1_15 : decode c_M_in1 15 = .ok (.ireturn, 1) := by decide +kernel
theorem d_M_less_0 : decode c_M_less 0 = .ok (.iload_n 0, 1) := by decide +kernel
theorem d_M_less_1 : decode c_M_less 1 = .ok (.iload_n 1, 1) := by decide +kernel
theorem d_M_less_2 : decode c_M_less 2 = .ok (.if_icmp .ge 7, 3) := by decide +kernel
theorem d_M_less_5 : decode c_M_less 5 = .ok (.iload_n 0, 1) := by decide +kernel
theorem d_M_less_6 : decode c_M_less 6 = .ok (.goto 4, 3) := by decide +kernel
theorem d_M_less_9 : decode c_M_less 9 = .ok (.iload_n 1, 1) := by decide +kernel
theorem d_M_less_10 : decode c_M_less 10 = .ok (.ireturn, 1) := by decide +kernel
theorem d_M_bits_0 : decode c_M_bits 0 = .ok (.iconst 0, 1) := by decide +kernel
theorem d_M_bits_1 : decode c_M_bits 1 = .ok (.istore_n 1, 1) := by decide +kernel
theorem d_M_bits_2 : decode c_M_bits 2 = .ok (.iload_n 0, 1) := by decide +kernel
theorem d_M_bits_3 : decode c_M_bits 3 = .ok (.istore_n 2, 1) := by decide +kernel
theorem d_M_bits_4 : decode c_M_bits 4 = .ok (.iload_n 2, 1) := by decide +kernel
theorem d_M_bits_5 : decode c_M_bits 5 = .ok (.ifCond .eq 15, 3) := by decide +kernel
theorem d_M_bits_8 : decode c_M_bits 8 = .ok (.iinc 1 1, 3) := by decide +kernel
theorem d_M_bits_11 : decode c_M_bits 11 = .ok (.iload_n 2, 1) := by decide +kernel
theorem d_M_bits_12 : decode c_M_bits 12 = .ok (.iload_n 2, 1) := by decide +kernel
theorem d_M_bits_13 : decode c_M_bits 13 = .ok (.iconst 1, 1) := by decide +kernel
theorem d_M_bits_14 : decode c_M_bits 14 = .ok (.isub, 1) := by decide +kernel
theorem d_M_bits_15 : decode c_M_bits 15 = .ok (.iand, 1) := by decide +kernel
theorem d_M_bits_16 : decode c_M_bits 16 = .ok (.istore_n 2, 1) := by decide +kernel
theorem d_M_bits_17 : decode c_M_bits 17 = .ok (.goto (-13), 3) := by decide +kernel
theorem d_M_bits_20 : decode c_M_bits 20 = .ok (.iload_n 1, 1) := by decide +kernel
theorem d_M_bits_21 : decode c_M_bits 21 = .ok (.ireturn, 1) := by decide +kernel
theorem d_M_isCarpet_0 : decode c_M_isCarpet 0 = .ok (.iload_n 1, 1) := by decide +kernel
theorem d_M_isCarpet_1 : decode c_M_isCarpet 1 = .ok (.iconst 0, 1) := by decide +kernel
theorem d_M_isCarpet_2 : decode c_M_isCarpet 2 = .ok (.aload_n 0, 1) := by decide +kernel
theorem d_M_isCarpet_3 : decode c_M_isCarpet 3 = .ok (.getfield 9, 3) := by decide +kernel
theorem d_M_isCarpet_6 : decode c_M_isCarpet 6 = .ok (.iconst 2, 1) := by decide +kernel
theorem d_M_isCarpet_7 : decode c_M_isCarpet 7 = .ok (.iaload, 1) := by decide +kernel
theorem d_M_isCarpet_8 : decode c_M_isCarpet 8 = .ok (.iconst 1, 1) := by decide +kernel
theorem d_M_isCarpet_9 : decode c_M_isCarpet 9 = .ok (.isub, 1) := by decide +kernel
theorem d_M_isCarpet_10 : decode c_M_isCarpet 10 = .ok (.invokestatic 49, 3) := by decide +kernel
theorem d_M_isCarpet_13 : decode c_M_isCarpet 13 = .ok (.ireturn, 1) := by decide +kernel
theorem d_M_isYard_0 : decode c_M_isYard 0 = .ok (.iload_n 0, 1) := by decide +kernel
theorem d_M_isYard_1 : decode c_M_isYard 1 = .ok (.iconst 0, 1) := by decide +kernel
theorem d_M_isYard_2 : decode c_M_isYard 2 = .ok (.bipush 39, 2) := by decide +kernel
theorem d_M_isYard_4 : decode c_M_isYard 4 = .ok (.invokestatic 49, 3) := by decide +kernel
theorem d_M_isYard_7 : decode c_M_isYard 7 = .ok (.ireturn, 1) := by decide +kernel
theorem d_M_get_0 : decode c_M_get 0 = .ok (.aload_n 0, 1) := by decide +kernel
theorem d_M_get_1 : decode c_M_get 1 = .ok (.getfield 9, 3) := by decide +kernel
theorem d_M_get_4 : decode c_M_get 4 = .ok (.bipush 10, 2) := by decide +kernel
theorem d_M_get_6 : decode c_M_get 6 = .ok (.bipush 7, 2) := by decide +kernel
theorem d_M_get_8 : decode c_M_get 8 = .ok (.iload_n 1, 1) := by decide +kernel
theorem d_M_get_9 : decode c_M_get 9 = .ok (.imul, 1) := by decide +kernel
theorem d_M_get_10 : decode c_M_get 10 = .ok (.iadd, 1) := by decide +kernel
theorem d_M_get_11 : decode c_M_get 11 = .ok (.iload_n 2, 1) := by decide +kernel
theorem d_M_get_12 : decode c_M_get 12 = .ok (.iadd, 1) := by decide +kernel
theorem d_M_get_13 : decode c_M_get 13 = .ok (.iaload, 1) := by decide +kernel
theorem d_M_get_14 : decode c_M_get 14 = .ok (.ireturn, 1) := by decide +kernel
theorem d_M_puts_0 : decode c_M_puts 0 = .ok (.aload_n 0, 1) := by decide +kernel
theorem d_M_puts_1 : decode c_M_puts 1 = .ok (.getfield 9, 3) := by decide +kernel
theorem d_M_puts_4 : decode c_M_puts 4 = .ok (.bipush 10, 2) := by decide +kernel
theorem d_M_puts_6 : decode c_M_puts 6 = .ok (.bipush 7, 2) := by decide +kernel
theorem d_M_puts_8 : decode c_M_puts 8 = .ok (.iload_n 1, 1) := by decide +kernel
theorem d_M_puts_9 : decode c_M_puts 9 = .ok (.imul, 1) := by decide +kernel
theorem d_M_puts_10 : decode c_M_puts 10 = .ok (.iadd, 1) := by decide +kernel
theorem d_M_puts_11 : decode c_M_puts 11 = .ok (.iload_n 2, 1) := by decide +kernel
theorem d_M_puts_12 : decode c_M_puts 12 = .ok (.iadd, 1) := by decide +kernel
theorem d_M_puts_13 : decode c_M_puts 13 = .ok (.iload_n 3, 1) := by decide +kernel
theorem d_M_puts_14 : decode c_M_puts 14 = .ok (.iastore, 1) := by decide +kernel
theorem d_M_puts_15 : decode c_M_puts 15 = .ok (.return_, 1) := by decide +kernel
theorem d_M_setsAside_0 : decode c_M_setsAside 0 = .ok (.iconst 0, 1) := by decide +kernel
theorem d_M_setsAside_1 : decode c_M_setsAside 1 = .ok (.istore_n 1, 1) := by decide +kernel
theorem d_M_setsAside_2 : decode c_M_setsAside 2 = .ok (.iload_n 1, 1) := by decide +kernel
theorem d_M_setsAside_3 : decode c_M_setsAside 3 = .ok (.bipush 66, 2) := by decide +kernel
theorem d_M_setsAside_5 : decode c_M_setsAside 5 = .ok (.if_icmp .ge 21, 3) := by decide +kernel
theorem d_M_setsAside_8 : decode c_M_setsAside 8 = .ok (.aload_n 0, 1) := by decide +kernel
theorem d_M_setsAside_9 : decode c_M_setsAside 9 = .ok (.getfield 16, 3) := by decide +kernel
theorem d_M_setsAside_12 : decode c_M_setsAside 12 = .ok (.iload_n 1, 1) := by decide +kernel
theorem d_M_setsAside_13 : decode c_M_setsAside 13 = .ok (.aload_n 0, 1) := by decide +kernel
theorem d_M_setsAside_14 : decode c_M_setsAside 14 = .ok (.getfield 9, 3) := by decide +kernel
theorem d_M_setsAside_17 : decode c_M_setsAside 17 = .ok (.iload_n 1, 1) := by decide +kernel
theorem d_M_setsAside_18 : decode c_M_setsAside 18 = .ok (.iaload, 1) := by decide +kernel
theorem d_M_setsAside_19 : decode c_M_setsAside 19 = .ok (.iastore, 1) := by decide +kernel
theorem d_M_setsAside_20 : decode c_M_setsAside 20 = .ok (.iinc 1 1, 3) := by decide +kernel
theorem d_M_setsAside_23 : decode c_M_setsAside 23 = .ok (.goto (-21), 3) := by decide +kernel
theorem d_M_setsAside_26 : decode c_M_setsAside 26 = .ok (.return_, 1) := by decide +kernel
theorem d_M_laysBack_0 : decode c_M_laysBack 0 = .ok (.iconst 0, 1) := by decide +kernel
theorem d_M_laysBack_1 : decode c_M_laysBack 1 = .ok (.istore_n 1, 1) := by decide +kernel
theorem d_M_laysBack_2 : decode c_M_laysBack 2 = .ok (.iload_n 1, 1) := by decide +kernel
theorem d_M_laysBack_3 : decode c_M_laysBack 3 = .ok (.bipush 66, 2) := by decide +kernel
theorem d_M_laysBack_5 : decode c_M_laysBack 5 = .ok (.if_icmp .ge 21, 3) := by decide +kernel
theorem d_M_laysBack_8 : decode c_M_laysBack 8 = .ok (.aload_n 0, 1) := by decide +kernel
theorem d_M_laysBack_9 : decode c_M_laysBack 9 = .ok (.getfield 9, 3) := by decide +kernel
theorem d_M_laysBack_12 : decode c_M_laysBack 12 = .ok (.iload_n 1, 1) := by decide +kernel
theorem d_M_laysBack_13 : decode c_M_laysBack 13 = .ok (.aload_n 0, 1) := by decide +kernel
theorem d_M_laysBack_14 : decode c_M_laysBack 14 = .ok (.getfield 16, 3) := by decide +kernel
theorem d_M_laysBack_17 : decode c_M_laysBack 17 = .ok (.iload_n 1, 1) := by decide +kernel
theorem d_M_laysBack_18 : decode c_M_laysBack 18 = .ok (.iaload, 1) := by decide +kernel
theorem d_M_laysBack_19 : decode c_M_laysBack 19 = .ok (.iastore, 1) := by decide +kernel
theorem d_M_laysBack_20 : decode c_M_laysBack 20 = .ok (.iinc 1 1, 3) := by decide +kernel
theorem d_M_laysBack_23 : decode c_M_laysBack 23 = .ok (.goto (-21), 3) := by decide +kernel
theorem d_M_laysBack_26 : decode c_M_laysBack 26 = .ok (.return_, 1) := by decide +kernel
theorem d_M_rains_0 : decode c_M_rains 0 = .ok (.aload_n 0, 1) := by decide +kernel
theorem d_M_rains_1 : decode c_M_rains 1 = .ok (.getfield 9, 3) := by decide +kernel
theorem d_M_rains_4 : decode c_M_rains 4 = .ok (.iconst 3, 1) := by decide +kernel
theorem d_M_rains_5 : decode c_M_rains 5 = .ok (.aload_n 0, 1) := by decide +kernel
theorem d_M_rains_6 : decode c_M_rains 6 = .ok (.getfield 9, 3) := by decide +kernel
theorem d_M_rains_9 : decode c_M_rains 9 = .ok (.iconst 0, 1) := by decide +kernel
theorem d_M_rains_10 : decode c_M_rains 10 = .ok (.iaload, 1) := by decide +kernel
theorem d_M_rains_11 : decode c_M_rains 11 = .ok (.bipush 7, 2) := by decide +kernel
theorem d_M_rains_13 : decode c_M_rains 13 = .ok (.irem, 1) := by decide +kernel
theorem d_M_rains_14 : decode c_M_rains 14 = .ok (.iadd, 1) := by decide +kernel
theorem d_M_rains_15 : decode c_M_rains 15 = .ok (.iaload, 1) := by decide +kernel
theorem d_M_rains_16 : decode c_M_rains 16 = .ok (.iconst 1, 1) := by decide +kernel
theorem d_M_rains_17 : decode c_M_rains 17 = .ok (.if_icmp .ne 7, 3) := by decide +kernel
theorem d_M_rains_20 : decode c_M_rains 20 = .ok (.iconst 1, 1) := by decide +kernel
theorem d_M_rains_21 : decode c_M_rains 21 = .ok (.goto 4, 3) := by decide +kernel
theorem d_M_rains_24 : decode c_M_rains 24 = .ok (.iconst 0, 1) := by decide +kernel
theorem d_M_rains_25 : decode c_M_rains 25 = .ok (.ireturn, 1) := by decide +kernel
theorem d_M_reachOf_0 : decode c_M_reachOf 0 = .ok (.aload_n 0, 1) := by decide +kernel
theorem d_M_reachOf_1 : decode c_M_reachOf 1 = .ok (.iload_n 1, 1) := by decide +kernel
theorem d_M_reachOf_2 : decode c_M_reachOf 2 = .ok (.iconst 2, 1) := by decide +kernel
theorem d_M_reachOf_3 : decode c_M_reachOf 3 = .ok (.invokevirtual 53, 3) := by decide +kernel
theorem d_M_reachOf_6 : decode c_M_reachOf 6 = .ok (.istore_n 2, 1) := by decide +kernel
theorem d_M_reachOf_7 : decode c_M_reachOf 7 = .ok (.aload_n 0, 1) := by decide +kernel
theorem d_M_reachOf_8 : decode c_M_reachOf 8 = .ok (.iload_n 1, 1) := by decide +kernel
theorem d_M_reachOf_9 : decode c_M_reachOf 9 = .ok (.iconst 0, 1) := by decide +kernel
theorem d_M_reachOf_10 : decode c_M_reachOf 10 = .ok (.invokevirtual 53, 3) := by decide +kernel
theorem d_M_reachOf_13 : decode c_M_reachOf 13 = .ok (.tableswitch 84 1 5 #[35, 84, 39, 41, 56], 35) := by decide +kernel
theorem d_M_reachOf_48 : decode c_M_reachOf 48 = .ok (.iconst 2, 1) := by decide +kernel
theorem d_M_reachOf_49 : decode c_M_reachOf 49 = .ok (.iload_n 2, 1) := by decide +kernel
theorem d_M_reachOf_50 : decode c_M_reachOf 50 = .ok (.imul, 1) := by decide +kernel
theorem d_M_reachOf_51 : decode c_M_reachOf 51 = .ok (.ireturn, 1) := by decide +kernel
theorem d_M_reachOf_52 : decode c_M_reachOf 52 = .ok (.iconst 2, 1) := by decide +kernel
theorem d_M_reachOf_53 : decode c_M_reachOf 53 = .ok (.ireturn, 1) := by decide +kernel
theorem d_M_reachOf_54 : decode c_M_reachOf 54 = .ok (.iload_n 2, 1) := by decide +kernel
theorem d_M_reachOf_55 : decode c_M_reachOf 55 = .ok (.iconst 2, 1) := by decide +kernel
theorem d_M_reachOf_56 : decode c_M_reachOf 56 = .ok (.if_icmp .ge 7, 3) := by decide +kernel
theorem d_M_reachOf_59 : decode c_M_reachOf 59 = .ok (.iconst 1, 1) := by decide +kernel
theorem d_M_reachOf_60 : decode c_M_reachOf 60 = .ok (.goto 8, 3) := by decide +kernel
theorem d_M_reachOf_63 : decode c_M_reachOf 63 = .ok (.iconst 2, 1) := by decide +kernel
theorem d_M_reachOf_64 : decode c_M_reachOf 64 = .ok (.iload_n 2, 1) := by decide +kernel
theorem d_M_reachOf_65 : decode c_M_reachOf 65 = .ok (.imul, 1) := by decide +kernel
theorem d_M_reachOf_66 : decode c_M_reachOf 66 = .ok (.iconst 3, 1) := by decide +kernel
theorem d_M_reachOf_67 : decode c_M_reachOf 67 = .ok (.isub, 1) := by decide +kernel
theorem d_M_reachOf_68 : decode c_M_reachOf 68 = .ok (.ireturn, 1) := by decide +kernel
theorem d_M_reachOf_69 : decode c_M_reachOf 69 = .ok (.aload_n 0, 1) := by decide +kernel
theorem d_M_reachOf_70 : decode c_M_reachOf 70 = .ok (.iload_n 1, 1) := by decide +kernel
theorem d_M_reachOf_71 : decode c_M_reachOf 71 = .ok (.iconst 3, 1) := by decide +kernel
theorem d_M_reachOf_72 : decode c_M_reachOf 72 = .ok (.invokevirtual 53, 3) := by decide +kernel
theorem d_M_reachOf_75 : decode c_M_reachOf 75 = .ok (.bipush 20, 2) := by decide +kernel
theorem d_M_reachOf_77 : decode c_M_reachOf 77 = .ok (.if_icmp .lt 7, 3) := by decide +kernel
theorem d_M_reachOf_80 : decode c_M_reachOf 80 = .ok (.iload_n 2, 1) := by decide +kernel
theorem d_M_reachOf_81 : decode c_M_reachOf 81 = .ok (.goto 15, 3) := by decide +kernel
theorem d_M_reachOf_84 : decode c_M_reachOf 84 = .ok (.iload_n 2, 1) := by decide +kernel
theorem d_M_reachOf_85 : decode c_M_reachOf 85 = .ok (.iconst 2, 1) := by decide +kernel
theorem d_M_reachOf_86 : decode c_M_reachOf 86 = .ok (.if_icmp .ge 7, 3) := by decide +kernel
theorem d_M_reachOf_89 : decode c_M_reachOf 89 = .ok (.iconst 1, 1) := by decide +kernel
theorem d_M_reachOf_90 : decode c_M_reachOf 90 = .ok (.goto 6, 3) := by decide +kernel
theorem d_M_reachOf_93 : decode c_M_reachOf 93 = .ok (.iload_n 2, 1) := by decide +kernel
theorem d_M_reachOf_94 : decode c_M_reachOf 94 = .ok (.iconst 2, 1) := by decide +kernel
theorem d_M_reachOf_95 : decode c_M_reachOf 95 = .ok (.idiv, 1) := by decide +kernel
theorem d_M_reachOf_96 : decode c_M_reachOf 96 = .ok (.ireturn, 1) := by decide +kernel
theorem d_M_reachOf_97 : decode c_M_reachOf 97 = .ok (.iload_n 2, 1) := by decide +kernel
theorem d_M_reachOf_98 : decode c_M_reachOf 98 = .ok (.ireturn, 1) := by decide +kernel
theorem d_M_wearsOf_0 : decode c_M_wearsOf 0 = .ok (.aload_n 0, 1) := by decide +kernel
theorem d_M_wearsOf_1 : decode c_M_wearsOf 1 = .ok (.invokevirtual 57, 3) := by decide +kernel
theorem d_M_wearsOf_4 : decode c_M_wearsOf 4 = .ok (.ifCond .eq 7, 3) := by decide +kernel
theorem d_M_wearsOf_7 : decode c_M_wearsOf 7 = .ok (.iconst 3, 1) := by decide +kernel
theorem d_M_wearsOf_8 : decode c_M_wearsOf 8 = .ok (.goto 4, 3) := by decide +kernel
theorem d_M_wearsOf_11 : decode c_M_wearsOf 11 = .ok (.iconst 1, 1) := by decide +kernel
theorem d_M_wearsOf_12 : decode c_M_wearsOf 12 = .ok (.istore_n 2, 1) := by decide +kernel
theorem d_M_wearsOf_13 : decode c_M_wearsOf 13 = .ok (.aload_n 0, 1) := by decide +kernel
theorem d_M_wearsOf_14 : decode c_M_wearsOf 14 = .ok (.iload_n 1, 1) := by decide +kernel
theorem d_M_wearsOf_15 : decode c_M_wearsOf 15 = .ok (.iconst 0, 1) := by decide +kernel
theorem d_M_wearsOf_16 : decode c_M_wearsOf 16 = .ok (.invokevirtual 53, 3) := by decide +kernel
theorem d_M_wearsOf_19 : decode c_M_wearsOf 19 = .ok (.tableswitch 67 1 5 #[33, 37, 41, 43, 54], 33) := by decide +kernel
theorem d_M_wearsOf_52 : decode c_M_wearsOf 52 = .ok (.iload_n 2, 1) := by decide +kernel
theorem d_M_wearsOf_53 : decode c_M_wearsOf 53 = .ok (.iconst 1, 1) := by decide +kernel
theorem d_M_wearsOf_54 : decode c_M_wearsOf 54 = .ok (.iadd, 1) := by decide +kernel
theorem d_M_wearsOf_55 : decode c_M_wearsOf 55 = .ok (.ireturn, 1) := by decide +kernel
theorem d_M_wearsOf_56 : decode c_M_wearsOf 56 = .ok (.iload_n 2, 1) := by decide +kernel
theorem d_M_wearsOf_57 : decode c_M_wearsOf 57 = .ok (.iconst 2, 1) := by decide +kernel
theorem d_M_wearsOf_58 : decode c_M_wearsOf 58 = .ok (.idiv, 1) := by decide +kernel
theorem d_M_wearsOf_59 : decode c_M_wearsOf 59 = .ok (.ireturn, 1) := by decide +kernel
theorem d_M_wearsOf_60 : decode c_M_wearsOf 60 = .ok (.iconst 0, 1) := by decide +kernel
theorem d_M_wearsOf_61 : decode c_M_wearsOf 61 = .ok (.ireturn, 1) := by decide +kernel
theorem d_M_wearsOf_62 : decode c_M_wearsOf 62 = .ok (.iload_n 2, 1) := by decide +kernel
theorem d_M_wearsOf_63 : decode c_M_wearsOf 63 = .ok (.iconst 1, 1) := by decide +kernel
theorem d_M_wearsOf_64 : decode c_M_wearsOf 64 = .ok (.iadd, 1) := by decide +kernel
theorem d_M_wearsOf_65 : decode c_M_wearsOf 65 = .ok (.aload_n 0, 1) := by decide +kernel
theorem d_M_wearsOf_66 : decode c_M_wearsOf 66 = .ok (.iload_n 1, 1) := by decide +kernel
theorem d_M_wearsOf_67 : decode c_M_wearsOf 67 = .ok (.iconst 4, 1) := by decide +kernel
theorem d_M_wearsOf_68 : decode c_M_wearsOf 68 = .ok (.invokevirtual 53, 3) := by decide +kernel
theorem d_M_wearsOf_71 : decode c_M_wearsOf 71 = .ok (.iadd, 1) := by decide +kernel
theorem d_M_wearsOf_72 : decode c_M_wearsOf 72 = .ok (.ireturn, 1) := by decide +kernel
theorem d_M_wearsOf_73 : decode c_M_wearsOf 73 = .ok (.aload_n 0, 1) := by decide +kernel
theorem d_M_wearsOf_74 : decode c_M_wearsOf 74 = .ok (.invokevirtual 57, 3) := by decide +kernel
theorem d_M_wearsOf_77 : decode c_M_wearsOf 77 = .ok (.ifCond .eq 7, 3) := by decide +kernel
theorem d_M_wearsOf_80 : decode c_M_wearsOf 80 = .ok (.iconst 2, 1) := by decide +kernel
theorem d_M_wearsOf_81 : decode c_M_wearsOf 81 = .ok (.goto 4, 3) := by decide +kernel
theorem d_M_wearsOf_84 : decode c_M_wearsOf 84 = .ok (.iconst 0, 1) := by decide +kernel
theorem d_M_wearsOf_85 : decode c_M_wearsOf 85 = .ok (.ireturn, 1) := by decide +kernel
theorem d_M_wearsOf_86 : decode c_M_wearsOf 86 = .ok (.iload_n 2, 1) := by decide +kernel
theorem d_M_wearsOf_87 : decode c_M_wearsOf 87 = .ok (.ireturn, 1) := by decide +kernel
theorem d_M_breedsOf_0 : decode c_M_breedsOf 0 = .ok (.aload_n 0, 1) := by decide +kernel
theorem d_M_breedsOf_1 : decode c_M_breedsOf 1 = .ok (.iload_n 1, 1) := by decide +kernel
theorem d_M_breedsOf_2 : decode c_M_breedsOf 2 = .ok (.iconst 0, 1) := by decide +kernel
theorem d_M_breedsOf_3 : decode c_M_breedsOf 3 = .ok (.invokevirtual 53, 3) := by decide +kernel
theorem d_M_breedsOf_6 : decode c_M_breedsOf 6 = .ok (.istore_n 2, 1) := by decide +kernel
theorem d_M_breedsOf_7 : decode c_M_breedsOf 7 = .ok (.iload_n 2, 1) := by decide +kernel
theorem d_M_breedsOf_8 : decode c_M_breedsOf 8 = .ok (.iconst 3, 1) := by decide +kernel
theorem d_M_breedsOf_9 : decode c_M_breedsOf 9 = .ok (.if_icmp .ne 7, 3) := by decide +kernel
theorem d_M_breedsOf_12 : decode c_M_breedsOf 12 = .ok (.iconst 0, 1) := by decide +kernel
theorem d_M_breedsOf_13 : decode c_M_breedsOf 13 = .ok (.goto 33, 3) := by decide +kernel
theorem d_M_breedsOf_16 : decode c_M_breedsOf 16 = .ok (.iload_n 2, 1) := by decide +kernel
theorem d_M_breedsOf_17 : decode c_M_breedsOf 17 = .ok (.iconst 2, 1) := by decide +kernel
theorem d_M_breedsOf_18 : decode c_M_breedsOf 18 = .ok (.if_icmp .ne 7, 3) := by decide +kernel
theorem d_M_breedsOf_21 : decode c_M_breedsOf 21 = .ok (.iconst 2, 1) := by decide +kernel
theorem d_M_breedsOf_22 : decode c_M_breedsOf 22 = .ok (.goto 24, 3) := by decide +kernel
theorem d_M_breedsOf_25 : decode c_M_breedsOf 25 = .ok (.iload_n 2, 1) := by decide +kernel
theorem d_M_breedsOf_26 : decode c_M_breedsOf 26 = .ok (.iconst 5, 1) := by decide +kernel
theorem d_M_breedsOf_27 : decode c_M_breedsOf 27 = .ok (.if_icmp .ne 18, 3) := by decide +kernel
theorem d_M_breedsOf_30 : decode c_M_breedsOf 30 = .ok (.aload_n 0, 1) := by decide +kernel
theorem d_M_breedsOf_31 : decode c_M_breedsOf 31 = .ok (.invokevirtual 57, 3) := by decide +kernel
theorem d_M_breedsOf_34 : decode c_M_breedsOf 34 = .ok (.ifCond .eq 7, 3) := by decide +kernel
theorem d_M_breedsOf_37 : decode c_M_breedsOf 37 = .ok (.iconst 0, 1) := by decide +kernel
theorem d_M_breedsOf_38 : decode c_M_breedsOf 38 = .ok (.goto 8, 3) := by decide +kernel
theorem d_M_breedsOf_41 : decode c_M_breedsOf 41 = .ok (.iconst 2, 1) := by decide +kernel
theorem d_M_breedsOf_42 : decode c_M_breedsOf 42 = .ok (.goto 4, 3) := by decide +kernel
theorem d_M_breedsOf_45 : decode c_M_breedsOf 45 = .ok (.iconst 1, 1) := by decide +kernel
theorem d_M_breedsOf_46 : decode c_M_breedsOf 46 = .ok (.ireturn, 1) := by decide +kernel
theorem d_M_beatenOf_0 : decode c_M_beatenOf 0 = .ok (.aload_n 0, 1) := by decide +kernel
theorem d_M_beatenOf_1 : decode c_M_beatenOf 1 = .ok (.iload_n 1, 1) := by decide +kernel
theorem d_M_beatenOf_2 : decode c_M_beatenOf 2 = .ok (.iconst 0, 1) := by decide +kernel
theorem d_M_beatenOf_3 : decode c_M_beatenOf 3 = .ok (.invokevirtual 53, 3) := by decide +kernel
theorem d_M_beatenOf_6 : decode c_M_beatenOf 6 = .ok (.istore_n 2, 1) := by decide +kernel
theorem d_M_beatenOf_7 : decode c_M_beatenOf 7 = .ok (.iload_n 2, 1) := by decide +kernel
theorem d_M_beatenOf_8 : decode c_M_beatenOf 8 = .ok (.iconst 1, 1) := by decide +kernel
theorem d_M_beatenOf_9 : decode c_M_beatenOf 9 = .ok (.if_icmp .eq 8, 3) := by decide +kernel
theorem d_M_beatenOf_12 : decode c_M_beatenOf 12 = .ok (.iload_n 2, 1) := by decide +kernel
theorem d_M_beatenOf_13 : decode c_M_beatenOf 13 = .ok (.iconst 4, 1) := by decide +kernel
theorem d_M_beatenOf_14 : decode c_M_beatenOf 14 = .ok (.if_icmp .ne 15, 3) := by decide +kernel
theorem d_M_beatenOf_17 : decode c_M_beatenOf 17 = .ok (.bipush 10, 2) := by decide +kernel
theorem d_M_beatenOf_19 : decode c_M_beatenOf 19 = .ok (.aload_n 0, 1) := by decide +kernel
theorem d_M_beatenOf_20 : decode c_M_beatenOf 20 = .ok (.iload_n 1, 1) := by decide +kernel
theorem d_M_beatenOf_21 : decode c_M_beatenOf 21 = .ok (.iconst 4, 1) := by decide +kernel
theorem d_M_beatenOf_22 : decode c_M_beatenOf 22 = .ok (.invokevirtual 53, 3) := by decide +kernel
theorem d_M_beatenOf_25 : decode c_M_beatenOf 25 = .ok (.isub, 1) := by decide +kernel
theorem d_M_beatenOf_26 : decode c_M_beatenOf 26 = .ok (.goto 34, 3) := by decide +kernel
theorem d_M_beatenOf_29 : decode c_M_beatenOf 29 = .ok (.iload_n 2, 1) := by decide +kernel
theorem d_M_beatenOf_30 : decode c_M_beatenOf 30 = .ok (.iconst 2, 1) := by decide +kernel
theorem d_M_beatenOf_31 : decode c_M_beatenOf 31 = .ok (.if_icmp .ne 8, 3) := by decide +kernel
theorem d_M_beatenOf_34 : decode c_M_beatenOf 34 = .ok (.bipush 6, 2) := by decide +kernel
theorem d_M_beatenOf_36 : decode c_M_beatenOf 36 = .ok (.goto 24, 3) := by decide +kernel
theorem d_M_beatenOf_39 : decode c_M_beatenOf 39 = .ok (.iload_n 2, 1) := by decide +kernel
theorem d_M_beatenOf_40 : decode c_M_beatenOf 40 = .ok (.iconst 3, 1) := by decide +kernel
theorem d_M_beatenOf_41 : decode c_M_beatenOf 41 = .ok (.if_icmp .ne 7, 3) := by decide +kernel
theorem d_M_beatenOf_44 : decode c_M_beatenOf 44 = .ok (.iconst 0, 1) := by decide +kernel
theorem d_M_beatenOf_45 : decode c_M_beatenOf 45 = .ok (.goto 15, 3) := by decide +kernel
theorem d_M_beatenOf_48 : decode c_M_beatenOf 48 = .ok (.iload_n 2, 1) := by decide +kernel
theorem d_M_beatenOf_49 : decode c_M_beatenOf 49 = .ok (.iconst 5, 1) := by decide +kernel
theorem d_M_beatenOf_50 : decode c_M_beatenOf 50 = .ok (.if_icmp .ne 8, 3) := by decide +kernel
theorem d_M_beatenOf_53 : decode c_M_beatenOf 53 = .ok (.bipush 12, 2) := by decide +kernel
theorem d_M_beatenOf_55 : decode c_M_beatenOf 55 = .ok (.goto 5, 3) := by decide +kernel
theorem d_M_beatenOf_58 : decode c_M_beatenOf 58 = .ok (.bipush 10, 2) := by decide +kernel
theorem d_M_beatenOf_60 : decode c_M_beatenOf 60 = .ok (.ireturn, 1) := by decide +kernel
theorem d_M_liesOn_0 : decode c_M_liesOn 0 = .ok (.aload_n 0, 1) := by decide +kernel
theorem d_M_liesOn_1 : decode c_M_liesOn 1 = .ok (.iload_n 1, 1) := by decide +kernel
theorem d_M_liesOn_2 : decode c_M_liesOn 2 = .ok (.iconst 5, 1) := by decide +kernel
theorem d_M_liesOn_3 : decode c_M_liesOn 3 = .ok (.invokevirtual 53, 3) := by decide +kernel
theorem d_M_liesOn_6 : decode c_M_liesOn 6 = .ok (.istore_n 3, 1) := by decide +kernel
theorem d_M_liesOn_7 : decode c_M_liesOn 7 = .ok (.iload_n 3, 1) := by decide +kernel
theorem d_M_liesOn_8 : decode c_M_liesOn 8 = .ok (.ifCond .lt 23, 3) := by decide +kernel
theorem d_M_liesOn_11 : decode c_M_liesOn 11 = .ok (.iload_n 2, 1) := by decide +kernel
theorem d_M_liesOn_12 : decode c_M_liesOn 12 = .ok (.iload_n 3, 1) := by decide +kernel
theorem d_M_liesOn_13 : decode c_M_liesOn 13 = .ok (.if_icmp .lt 18, 3) := by decide +kernel
theorem d_M_liesOn_16 : decode c_M_liesOn 16 = .ok (.iload_n 2, 1) := by decide +kernel
theorem d_M_liesOn_17 : decode c_M_liesOn 17 = .ok (.iload_n 3, 1) := by decide +kernel
theorem d_M_liesOn_18 : decode c_M_liesOn 18 = .ok (.aload_n 0, 1) := by decide +kernel
theorem d_M_liesOn_19 : decode c_M_liesOn 19 = .ok (.iload_n 1, 1) := by decide +kernel
theorem d_M_liesOn_20 : decode c_M_liesOn 20 = .ok (.invokevirtual 61, 3) := by decide +kernel
theorem d_M_liesOn_23 : decode c_M_liesOn 23 = .ok (.iadd, 1) := by decide +kernel
theorem d_M_liesOn_24 : decode c_M_liesOn 24 = .ok (.if_icmp .ge 7, 3) := by decide +kernel
theorem d_M_liesOn_27 : decode c_M_liesOn 27 = .ok (.iconst 1, 1) := by decide +kernel
theorem d_M_liesOn_28 : decode c_M_liesOn 28 = .ok (.goto 4, 3) := by decide +kernel
theorem d_M_liesOn_31 : decode c_M_liesOn 31 = .ok (.iconst 0, 1) := by decide +kernel
theorem d_M_liesOn_32 : decode c_M_liesOn 32 = .ok (.ireturn, 1) := by decide +kernel
theorem d_M_topOf_0 : decode c_M_topOf 0 = .ok (.iconst (-1), 1) := by decide +kernel
theorem d_M_topOf_1 : decode c_M_topOf 1 = .ok (.istore_n 2, 1) := by decide +kernel
theorem d_M_topOf_2 : decode c_M_topOf 2 = .ok (.iconst 0, 1) := by decide +kernel
theorem d_M_topOf_3 : decode c_M_topOf 3 = .ok (.istore_n 3, 1) := by decide +kernel
theorem d_M_topOf_4 : decode c_M_topOf 4 = .ok (.iload_n 3, 1) := by decide +kernel
theorem d_M_topOf_5 : decode c_M_topOf 5 = .ok (.aload_n 0, 1) := by decide +kernel
theorem d_M_topOf_6 : decode c_M_topOf 6 = .ok (.getfield 9, 3) := by decide +kernel
theorem d_M_topOf_9 : decode c_M_topOf 9 = .ok (.iconst 2, 1) := by decide +kernel
theorem d_M_topOf_10 : decode c_M_topOf 10 = .ok (.iaload, 1) := by decide +kernel
theorem d_M_topOf_11 : decode c_M_topOf 11 = .ok (.if_icmp .ge 45, 3) := by decide +kernel
theorem d_M_topOf_14 : decode c_M_topOf 14 = .ok (.aload_n 0, 1) := by decide +kernel
theorem d_M_topOf_15 : decode c_M_topOf 15 = .ok (.iload_n 3, 1) := by decide +kernel
theorem d_M_topOf_16 : decode c_M_topOf 16 = .ok (.iload_n 1, 1) := by decide +kernel
theorem d_M_topOf_17 : decode c_M_topOf 17 = .ok (.invokevirtual 65, 3) := by decide +kernel
theorem d_M_topOf_20 : decode c_M_topOf 20 = .ok (.ifCond .eq 28, 3) := by decide +kernel
theorem d_M_topOf_23 : decode c_M_topOf 23 = .ok (.iload_n 2, 1) := by decide +kernel
theorem d_M_topOf_24 : decode c_M_topOf 24 = .ok (.ifCond .lt 20, 3) := by decide +kernel
theorem d_M_topOf_27 : decode c_M_topOf 27 = .ok (.aload_n 0, 1) := by decide +kernel
theorem d_M_topOf_28 : decode c_M_topOf 28 = .ok (.iload_n 3, 1) := by decide +kernel
theorem d_M_topOf_29 : decode c_M_topOf 29 = .ok (.bipush 6, 2) := by decide +kernel
theorem d_M_topOf_31 : decode c_M_topOf 31 = .ok (.invokevirtual 53, 3) := by decide +kernel
theorem d_M_topOf_34 : decode c_M_topOf 34 = .ok (.aload_n 0, 1) := by decide +kernel
theorem d_M_topOf_35 : decode c_M_topOf 35 = .ok (.iload_n 2, 1) := by decide +kernel
theorem d_M_topOf_36 : decode c_M_topOf 36 = .ok (.bipush 6, 2) := by decide +kernel
theorem d_M_topOf_38 : decode c_M_topOf 38 = .ok (.invokevirtual 53, 3) := by decide +kernel
theorem d_M_topOf_41 : decode c_M_topOf 41 = .ok (.if_icmp .lt 7, 3) := by decide +kernel
theorem d_M_topOf_44 : decode c_M_topOf 44 = .ok (.iload_n 3, 1) := by decide +kernel
theorem d_M_topOf_45 : decode c_M_topOf 45 = .ok (.goto 4, 3) := by decide +kernel
theorem d_M_topOf_48 : decode c_M_topOf 48 = .ok (.iload_n 2, 1) := by decide +kernel
theorem d_M_topOf_49 : decode c_M_topOf 49 = .ok (.istore_n 2, 1) := by decide +kernel
theorem d_M_topOf_50 : decode c_M_topOf 50 = .ok (.iinc 3 1, 3) := by decide +kernel
theorem d_M_topOf_53 : decode c_M_topOf 53 = .ok (.goto (-49), 3) := by decide +kernel
theorem d_M_topOf_56 : decode c_M_topOf 56 = .ok (.iload_n 2, 1) := by decide +kernel
theorem d_M_topOf_57 : decode c_M_topOf 57 = .ok (.ireturn, 1) := by decide +kernel
theorem d_M_whoseIs_0 : decode c_M_whoseIs 0 = .ok (.aload_n 0, 1) := by decide +kernel
theorem d_M_whoseIs_1 : decode c_M_whoseIs 1 = .ok (.iload_n 1, 1) := by decide +kernel
theorem d_M_whoseIs_2 : decode c_M_whoseIs 2 = .ok (.invokevirtual 69, 3) := by decide +kernel
theorem d_M_whoseIs_5 : decode c_M_whoseIs 5 = .ok (.istore_n 2, 1) := by decide +kernel
theorem d_M_whoseIs_6 : decode c_M_whoseIs 6 = .ok (.iload_n 2, 1) := by decide +kernel
theorem d_M_whoseIs_7 : decode c_M_whoseIs 7 = .ok (.ifCond .ge 7, 3) := by decide +kernel
theorem d_M_whoseIs_10 : decode c_M_whoseIs 10 = .ok (.iconst (-1), 1) := by decide +kernel
theorem d_M_whoseIs_11 : decode c_M_whoseIs 11 = .ok (.goto 9, 3) := by decide +kernel
theorem d_M_whoseIs_14 : decode c_M_whoseIs 14 = .ok (.aload_n 0, 1) := by decide +kernel
theorem d_M_whoseIs_15 : decode c_M_whoseIs 15 = .ok (.iload_n 2, 1) := by decide +kernel
theorem d_M_whoseIs_16 : decode c_M_whoseIs 16 = .ok (.iconst 1, 1) := by decide +kernel
theorem d_M_whoseIs_17 : decode c_M_whoseIs 17 = .ok (.invokevirtual 53, 3) := by decide +kernel
theorem d_M_whoseIs_20 : decode c_M_whoseIs 20 = .ok (.ireturn, 1) := by decide +kernel
theorem d_M_yardsOf_0 : decode c_M_yardsOf 0 = .ok (.iconst 0, 1) := by decide +kernel
theorem d_M_yardsOf_1 : decode c_M_yardsOf 1 = .ok (.istore_n 2, 1) := by decide +kernel
theorem d_M_yardsOf_2 : decode c_M_yardsOf 2 = .ok (.iconst 0, 1) := by decide +kernel
theorem d_M_yardsOf_3 : decode c_M_yardsOf 3 = .ok (.istore_n 3, 1) := by decide +kernel
theorem d_M_yardsOf_4 : decode c_M_yardsOf 4 = .ok (.iload_n 3, 1) := by decide +kernel
theorem d_M_yardsOf_5 : decode c_M_yardsOf 5 = .ok (.bipush 40, 2) := by decide +kernel
theorem d_M_yardsOf_7 : decode c_M_yardsOf 7 = .ok (.if_icmp .ge 26, 3) := by decide +kernel
theorem d_M_yardsOf_10 : decode c_M_yardsOf 10 = .ok (.iload_n 2, 1) := by decide +kernel
theorem d_M_yardsOf_11 : decode c_M_yardsOf 11 = .ok (.aload_n 0, 1) := by decide +kernel
theorem d_M_yardsOf_12 : decode c_M_yardsOf 12 = .ok (.iload_n 3, 1) := by decide +kernel
theorem d_M_yardsOf_13 : decode c_M_yardsOf 13 = .ok (.invokevirtual 72, 3) := by decide +kernel
theorem d_M_yardsOf_16 : decode c_M_yardsOf 16 = .ok (.iload_n 1, 1) := by decide +kernel
theorem d_M_yardsOf_17 : decode c_M_yardsOf 17 = .ok (.if_icmp .ne 7, 3) := by decide +kernel
theorem d_M_yardsOf_20 : decode c_M_yardsOf 20 = .ok (.iconst 1, 1) := by decide +kernel
theorem d_M_yardsOf_21 : decode c_M_yardsOf 21 = .ok (.goto 4, 3) := by decide +kernel
theorem d_M_yardsOf_24 : decode c_M_yardsOf 24 = .ok (.iconst 0, 1) := by decide +kernel
theorem d_M_yardsOf_25 : decode c_M_yardsOf 25 = .ok (.iadd, 1) := by decide +kernel
theorem d_M_yardsOf_26 : decode c_M_yardsOf 26 = .ok (.istore_n 2, 1) := by decide +kernel
theorem d_M_yardsOf_27 : decode c_M_yardsOf 27 = .ok (.iinc 3 1, 3) := by decide +kernel
theorem d_M_yardsOf_30 : decode c_M_yardsOf 30 = .ok (.goto (-26), 3) := by decide +kernel
theorem d_M_yardsOf_33 : decode c_M_yardsOf 33 = .ok (.iload_n 2, 1) := by decide +kernel
theorem d_M_yardsOf_34 : decode c_M_yardsOf 34 = .ok (.ireturn, 1) := by decide +kernel
theorem d_M_rolledOut_0 : decode c_M_rolledOut 0 = .ok (.iconst 0, 1) := by decide +kernel
theorem d_M_rolledOut_1 : decode c_M_rolledOut 1 = .ok (.istore_n 1, 1) := by decide +kernel
theorem d_M_rolledOut_2 : decode c_M_rolledOut 2 = .ok (.iconst 0, 1) := by decide +kernel
theorem d_M_rolledOut_3 : decode c_M_rolledOut 3 = .ok (.istore_n 2, 1) := by decide +kernel
theorem d_M_rolledOut_4 : decode c_M_rolledOut 4 = .ok (.iload_n 2, 1) := by decide +kernel
theorem d_M_rolledOut_5 : decode c_M_rolledOut 5 = .ok (.aload_n 0, 1) := by decide +kernel
theorem d_M_rolledOut_6 : decode c_M_rolledOut 6 = .ok (.getfield 9, 3) := by decide +kernel
theorem d_M_rolledOut_9 : decode c_M_rolledOut 9 = .ok (.iconst 2, 1) := by decide +kernel
theorem d_M_rolledOut_10 : decode c_M_rolledOut 10 = .ok (.iaload, 1) := by decide +kernel
theorem d_M_rolledOut_11 : decode c_M_rolledOut 11 = .ok (.if_icmp .ge 28, 3) := by decide +kernel
theorem d_M_rolledOut_14 : decode c_M_rolledOut 14 = .ok (.iload_n 1, 1) := by decide +kernel
theorem d_M_rolledOut_15 : decode c_M_rolledOut 15 = .ok (.aload_n 0, 1) := by decide +kernel
theorem d_M_rolledOut_16 : decode c_M_rolledOut 16 = .ok (.iload_n 2, 1) := by decide +kernel
theorem d_M_rolledOut_17 : decode c_M_rolledOut 17 = .ok (.iconst 5, 1) := by decide +kernel
theorem d_M_rolledOut_18 : decode c_M_rolledOut 18 = .ok (.invokevirtual 53, 3) := by decide +kernel
theorem d_M_rolledOut_21 : decode c_M_rolledOut 21 = .ok (.ifCond .lt 9, 3) := by decide +kernel
theorem d_M_rolledOut_24 : decode c_M_rolledOut 24 = .ok (.iconst 1, 1) := by decide +kernel
theorem d_M_rolledOut_25 : decode c_M_rolledOut 25 = .ok (.iload_n 2, 1) := by decide +kernel
theorem d_M_rolledOut_26 : decode c_M_rolledOut 26 = .ok (.ishl, 1) := by decide +kernel
theorem d_M_rolledOut_27 : decode c_M_rolledOut 27 = .ok (.goto 4, 3) := by decide +kernel
theorem d_M_rolledOut_30 : decode c_M_rolledOut 30 = .ok (.iconst 0, 1) := by decide +kernel
theorem d_M_rolledOut_31 : decode c_M_rolledOut 31 = .ok (.ior, 1) := by decide +kernel
theorem d_M_rolledOut_32 : decode c_M_rolledOut 32 = .ok (.istore_n 1, 1) := by decide +kernel
theorem d_M_rolledOut_33 : decode c_M_rolledOut 33 = .ok (.iinc 2 1, 3) := by decide +kernel
theorem d_M_rolledOut_36 : decode c_M_rolledOut 36 = .ok (.goto (-32), 3) := by decide +kernel
theorem d_M_rolledOut_39 : decode c_M_rolledOut 39 = .ok (.iload_n 1, 1) := by decide +kernel
theorem d_M_rolledOut_40 : decode c_M_rolledOut 40 = .ok (.ireturn, 1) := by decide +kernel
theorem d_M_sumOf_0 : decode c_M_sumOf 0 = .ok (.iconst 0, 1) := by decide +kernel
theorem d_M_sumOf_1 : decode c_M_sumOf 1 = .ok (.istore_n 2, 1) := by decide +kernel
theorem d_M_sumOf_2 : decode c_M_sumOf 2 = .ok (.iconst 0, 1) := by decide +kernel
theorem d_M_sumOf_3 : decode c_M_sumOf 3 = .ok (.istore_n 3, 1) := by decide +kernel
theorem d_M_sumOf_4 : decode c_M_sumOf 4 = .ok (.iload_n 3, 1) := by decide +kernel
theorem d_M_sumOf_5 : decode c_M_sumOf 5 = .ok (.aload_n 0, 1) := by decide +kernel
theorem d_M_sumOf_6 : decode c_M_sumOf 6 = .ok (.getfield 9, 3) := by decide +kernel
theorem d_M_sumOf_9 : decode c_M_sumOf 9 = .ok (.iconst 2, 1) := by decide +kernel
theorem d_M_sumOf_10 : decode c_M_sumOf 10 = .ok (.iaload, 1) := by decide +kernel
theorem d_M_sumOf_11 : decode c_M_sumOf 11 = .ok (.if_icmp .ge 18, 3) := by decide +kernel
theorem d_M_sumOf_14 : decode c_M_sumOf 14 = .ok (.iload_n 2, 1) := by decide +kernel
theorem d_M_sumOf_15 : decode c_M_sumOf 15 = .ok (.aload_n 0, 1) := by decide +kernel
theorem d_M_sumOf_16 : decode c_M_sumOf 16 = .ok (.iload_n 3, 1) := by decide +kernel
theorem d_M_sumOf_17 : decode c_M_sumOf 17 = .ok (.iload_n 1, 1) := by decide +kernel
theorem d_M_sumOf_18 : decode c_M_sumOf 18 = .ok (.invokevirtual 53, 3) := by decide +kernel
theorem d_M_sumOf_21 : decode c_M_sumOf 21 = .ok (.iadd, 1) := by decide +kernel
theorem d_M_sumOf_22 : decode c_M_sumOf 22 = .ok (.istore_n 2, 1) := by decide +kernel
theorem d_M_sumOf_23 : decode c_M_sumOf 23 = .ok (.iinc 3 1, 3) := by decide +kernel
theorem d_M_sumOf_26 : decode c_M_sumOf 26 = .ok (.goto (-22), 3) := by decide +kernel
theorem d_M_sumOf_29 : decode c_M_sumOf 29 = .ok (.iload_n 2, 1) := by decide +kernel
theorem d_M_sumOf_30 : decode c_M_sumOf 30 = .ok (.ireturn, 1) := by decide +kernel
theorem d_M_ages_0 : decode c_M_ages 0 = .ok (.aload_n 0, 1) := by decide +kernel
theorem d_M_ages_1 : decode c_M_ages 1 = .ok (.iload_n 1, 1) := by decide +kernel
theorem d_M_ages_2 : decode c_M_ages 2 = .ok (.iconst 5, 1) := by decide +kernel
theorem d_M_ages_3 : decode c_M_ages 3 = .ok (.invokevirtual 53, 3) := by decide +kernel
theorem d_M_ages_6 : decode c_M_ages 6 = .ok (.ifCond .lt 52, 3) := by decide +kernel
theorem d_M_ages_9 : decode c_M_ages 9 = .ok (.aload_n 0, 1) := by decide +kernel
theorem d_M_ages_10 : decode c_M_ages 10 = .ok (.iload_n 1, 1) := by decide +kernel
theorem d_M_ages_11 : decode c_M_ages 11 = .ok (.iconst 3, 1) := by decide +kernel
theorem d_M_ages_12 : decode c_M_ages 12 = .ok (.invokevirtual 53, 3) := by decide +kernel
theorem d_M_ages_15 : decode c_M_ages 15 = .ok (.aload_n 0, 1) := by decide +kernel
theorem d_M_ages_16 : decode c_M_ages 16 = .ok (.iload_n 1, 1) := by decide +kernel
theorem d_M_ages_17 : decode c_M_ages 17 = .ok (.invokevirtual 75, 3) := by decide +kernel
theorem d_M_ages_20 : decode c_M_ages 20 = .ok (.isub, 1) := by decide +kernel
theorem d_M_ages_21 : decode c_M_ages 21 = .ok (.istore_n 2, 1) := by decide +kernel
theorem d_M_ages_22 : decode c_M_ages 22 = .ok (.aload_n 0, 1) := by decide +kernel
theorem d_M_ages_23 : decode c_M_ages 23 = .ok (.iload_n 1, 1) := by decide +kernel
theorem d_M_ages_24 : decode c_M_ages 24 = .ok (.iconst 3, 1) := by decide +kernel
theorem d_M_ages_25 : decode c_M_ages 25 = .ok (.iload_n 2, 1) := by decide +kernel
theorem d_M_ages_26 : decode c_M_ages 26 = .ok (.ifCond .ge 7, 3) := by decide +kernel
theorem d_M_ages_29 : decode c_M_ages 29 = .ok (.iconst 0, 1) := by decide +kernel
theorem d_M_ages_30 : decode c_M_ages 30 = .ok (.goto 4, 3) := by decide +kernel
theorem d_M_ages_33 : decode c_M_ages 33 = .ok (.iload_n 2, 1) := by decide +kernel
theorem d_M_ages_34 : decode c_M_ages 34 = .ok (.invokevirtual 78, 3) := by decide +kernel
theorem d_M_ages_37 : decode c_M_ages 37 = .ok (.aload_n 0, 1) := by decide +kernel
theorem d_M_ages_38 : decode c_M_ages 38 = .ok (.iload_n 1, 1) := by decide +kernel
theorem d_M_ages_39 : decode c_M_ages 39 = .ok (.iconst 5, 1) := by decide +kernel
theorem d_M_ages_40 : decode c_M_ages 40 = .ok (.iload_n 2, 1) := by decide +kernel
theorem d_M_ages_41 : decode c_M_ages 41 = .ok (.ifCond .gt 7, 3) := by decide +kernel
theorem d_M_ages_44 : decode c_M_ages 44 = .ok (.iconst (-1), 1) := by decide +kernel
theorem d_M_ages_45 : decode c_M_ages 45 = .ok (.goto 9, 3) := by decide +kernel
theorem d_M_ages_48 : decode c_M_ages 48 = .ok (.aload_n 0, 1) := by decide +kernel
theorem d_M_ages_49 : decode c_M_ages 49 = .ok (.iload_n 1, 1) := by decide +kernel
theorem d_M_ages_50 : decode c_M_ages 50 = .ok (.iconst 5, 1) := by decide +kernel
theorem d_M_ages_51 : decode c_M_ages 51 = .ok (.invokevirtual 53, 3) := by decide +kernel
theorem d_M_ages_54 : decode c_M_ages 54 = .ok (.invokevirtual 78, 3) := by decide +kernel
theorem d_M_ages_57 : decode c_M_ages 57 = .ok (.return_, 1) := by decide +kernel
theorem d_M_ages_58 : decode c_M_ages 58 = .ok (.aload_n 0, 1) := by decide +kernel
theorem d_M_ages_59 : decode c_M_ages 59 = .ok (.iload_n 1, 1) := by decide +kernel
theorem d_M_ages_60 : decode c_M_ages 60 = .ok (.iconst 4, 1) := by decide +kernel
theorem d_M_ages_61 : decode c_M_ages 61 = .ok (.bipush 9, 2) := by decide +kernel
theorem d_M_ages_63 : decode c_M_ages 63 = .ok (.aload_n 0, 1) := by decide +kernel
theorem d_M_ages_64 : decode c_M_ages 64 = .ok (.iload_n 1, 1) := by decide +kernel
theorem d_M_ages_65 : decode c_M_ages 65 = .ok (.iconst 4, 1) := by decide +kernel
theorem d_M_ages_66 : decode c_M_ages 66 = .ok (.invokevirtual 53, 3) := by decide +kernel
theorem d_M_ages_69 : decode c_M_ages 69 = .ok (.aload_n 0, 1) := by decide +kernel
theorem d_M_ages_70 : decode c_M_ages 70 = .ok (.iload_n 1, 1) := by decide +kernel
theorem d_M_ages_71 : decode c_M_ages 71 = .ok (.invokevirtual 82, 3) := by decide +kernel
theorem d_M_ages_74 : decode c_M_ages 74 = .ok (.iadd, 1) := by decide +kernel
theorem d_M_ages_75 : decode c_M_ages 75 = .ok (.invokestatic 85, 3) := by decide +kernel
theorem d_M_ages_78 : decode c_M_ages 78 = .ok (.invokevirtual 78, 3) := by decide +kernel
theorem d_M_ages_81 : decode c_M_ages 81 = .ok (.aload_n 0, 1) := by decide +kernel
theorem d_M_ages_82 : decode c_M_ages 82 = .ok (.iload_n 1, 1) := by decide +kernel
theorem d_M_ages_83 : decode c_M_ages 83 = .ok (.iconst 3, 1) := by decide +kernel
theorem d_M_ages_84 : decode c_M_ages 84 = .ok (.invokevirtual 53, 3) := by decide +kernel
theorem d_M_ages_87 : decode c_M_ages 87 = .ok (.aload_n 0, 1) := by decide +kernel
theorem d_M_ages_88 : decode c_M_ages 88 = .ok (.iload_n 1, 1) := by decide +kernel
theorem d_M_ages_89 : decode c_M_ages 89 = .ok (.iconst 4, 1) := by decide +kernel
theorem d_M_ages_90 : decode c_M_ages 90 = .ok (.invokevirtual 53, 3) := by decide +kernel
theorem d_M_ages_93 : decode c_M_ages 93 = .ok (.iconst 3, 1) := by decide +kernel
theorem d_M_ages_94 : decode c_M_ages 94 = .ok (.idiv, 1) := by decide +kernel
theorem d_M_ages_95 : decode c_M_ages 95 = .ok (.isub, 1) := by decide +kernel
theorem d_M_ages_96 : decode c_M_ages 96 = .ok (.istore_n 2, 1) := by decide +kernel
theorem d_M_ages_97 : decode c_M_ages 97 = .ok (.aload_n 0, 1) := by decide +kernel
theorem d_M_ages_98 : decode c_M_ages 98 = .ok (.iload_n 1, 1) := by decide +kernel
theorem d_M_ages_99 : decode c_M_ages 99 = .ok (.iconst 3, 1) := by decide +kernel
theorem d_M_ages_100 : decode c_M_ages 100 = .ok (.iload_n 2, 1) := by decide +kernel
theorem d_M_ages_101 : decode c_M_ages 101 = .ok (.ifCond .ge 7, 3) := by decide +kernel
theorem d_M_ages_104 : decode c_M_ages 104 = .ok (.iconst 0, 1) := by decide +kernel
theorem d_M_ages_105 : decode c_M_ages 105 = .ok (.goto 4, 3) := by decide +kernel
theorem d_M_ages_108 : decode c_M_ages 108 = .ok (.iload_n 2, 1) := by decide +kernel
theorem d_M_ages_109 : decode c_M_ages 109 = .ok (.invokevirtual 78, 3) := by decide +kernel
theorem d_M_ages_112 : decode c_M_ages 112 = .ok (.return_, 1) := by decide +kernel
theorem d_M_goes_0 : decode c_M_goes 0 = .ok (.iconst 0, 1) := by decide +kernel
theorem d_M_goes_1 : decode c_M_goes 1 = .ok (.istore_n 2, 1) := by decide +kernel
theorem d_M_goes_2 : decode c_M_goes 2 = .ok (.iload_n 2, 1) := by decide +kernel
theorem d_M_goes_3 : decode c_M_goes 3 = .ok (.iload_n 1, 1) := by decide +kernel
theorem d_M_goes_4 : decode c_M_goes 4 = .ok (.if_icmp .ge 42, 3) := by decide +kernel
theorem d_M_goes_7 : decode c_M_goes 7 = .ok (.iconst 0, 1) := by decide +kernel
theorem d_M_goes_8 : decode c_M_goes 8 = .ok (.istore_n 3, 1) := by decide +kernel
theorem d_M_goes_9 : decode c_M_goes 9 = .ok (.iload_n 3, 1) := by decide +kernel
theorem d_M_goes_10 : decode c_M_goes 10 = .ok (.aload_n 0, 1) := by decide +kernel
theorem d_M_goes_11 : decode c_M_goes 11 = .ok (.getfield 9, 3) := by decide +kernel
theorem d_M_goes_14 : decode c_M_goes 14 = .ok (.iconst 2, 1) := by decide +kernel
theorem d_M_goes_15 : decode c_M_goes 15 = .ok (.iaload, 1) := by decide +kernel
theorem d_M_goes_16 : decode c_M_goes 16 = .ok (.if_icmp .ge 14, 3) := by decide +kernel
theorem d_M_goes_19 : decode c_M_goes 19 = .ok (.aload_n 0, 1) := by decide +kernel
theorem d_M_goes_20 : decode c_M_goes 20 = .ok (.iload_n 3, 1) := by decide +kernel
theorem d_M_goes_21 : decode c_M_goes 21 = .ok (.invokevirtual 88, 3) := by decide +kernel
theorem d_M_goes_24 : decode c_M_goes 24 = .ok (.iinc 3 1, 3) := by decide +kernel
theorem d_M_goes_27 : decode c_M_goes 27 = .ok (.goto (-18), 3) := by decide +kernel
theorem d_M_goes_30 : decode c_M_goes 30 = .ok (.aload_n 0, 1) := by decide +kernel
theorem d_M_goes_31 : decode c_M_goes 31 = .ok (.getfield 9, 3) := by decide +kernel
theorem d_M_goes_34 : decode c_M_goes 34 = .ok (.iconst 0, 1) := by decide +kernel
theorem d_M_goes_35 : decode c_M_goes 35 = .ok (.dup2, 1) := by decide +kernel
theorem d_M_goes_36 : decode c_M_goes 36 = .ok (.iaload, 1) := by decide +kernel
theorem d_M_goes_37 : decode c_M_goes 37 = .ok (.iconst 1, 1) := by decide +kernel
theorem d_M_goes_38 : decode c_M_goes 38 = .ok (.iadd, 1) := by decide +kernel
theorem d_M_goes_39 : decode c_M_goes 39 = .ok (.iastore, 1) := by decide +kernel
theorem d_M_goes_40 : decode c_M_goes 40 = .ok (.iinc 2 1, 3) := by decide +kernel
theorem d_M_goes_43 : decode c_M_goes 43 = .ok (.goto (-41), 3) := by decide +kernel
theorem d_M_goes_46 : decode c_M_goes 46 = .ok (.return_, 1) := by decide +kernel
theorem d_M_rain_0 : decode c_M_rain 0 = .ok (.iload_n 1, 1) := by decide +kernel
theorem d_M_rain_1 : decode c_M_rain 1 = .ok (.iconst 0, 1) := by decide +kernel
theorem d_M_rain_2 : decode c_M_rain 2 = .ok (.bipush 6, 2) := by decide +kernel
theorem d_M_rain_4 : decode c_M_rain 4 = .ok (.invokestatic 49, 3) := by decide +kernel
theorem d_M_rain_7 : decode c_M_rain 7 = .ok (.ifCond .eq 12, 3) := by decide +kernel
theorem d_M_rain_10 : decode c_M_rain 10 = .ok (.iload_n 2, 1) := by decide +kernel
theorem d_M_rain_11 : decode c_M_rain 11 = .ok (.iconst 0, 1) := by decide +kernel
theorem d_M_rain_12 : decode c_M_rain 12 = .ok (.iconst 1, 1) := by decide +kernel
theorem d_M_rain_13 : decode c_M_rain 13 = .ok (.invokestatic 49, 3) := by decide +kernel
theorem d_M_rain_16 : decode c_M_rain 16 = .ok (.ifCond .ne 9, 3) := by decide +kernel
theorem d_M_rain_19 : decode c_M_rain 19 = .ok (.aload_n 0, 1) := by decide +kernel
theorem d_M_rain_20 : decode c_M_rain 20 = .ok (.iconst 0, 1) := by decide +kernel
theorem d_M_rain_21 : decode c_M_rain 21 = .ok (.invokevirtual 92, 3) := by decide +kernel
theorem d_M_rain_24 : decode c_M_rain 24 = .ok (.ireturn, 1) := by decide +kernel
theorem d_M_rain_25 : decode c_M_rain 25 = .ok (.aload_n 0, 1) := by decide +kernel
theorem d_M_rain_26 : decode c_M_rain 26 = .ok (.getfield 9, 3) := by decide +kernel
theorem d_M_rain_29 : decode c_M_rain 29 = .ok (.iconst 3, 1) := by decide +kernel
theorem d_M_rain_30 : decode c_M_rain 30 = .ok (.iload_n 1, 1) := by decide +kernel
theorem d_M_rain_31 : decode c_M_rain 31 = .ok (.iadd, 1) := by decide +kernel
theorem d_M_rain_32 : decode c_M_rain 32 = .ok (.iaload, 1) := by decide +kernel
theorem d_M_rain_33 : decode c_M_rain 33 = .ok (.istore_n 3, 1) := by decide +kernel
theorem d_M_rain_34 : decode c_M_rain 34 = .ok (.aload_n 0, 1) := by decide +kernel
theorem d_M_rain_35 : decode c_M_rain 35 = .ok (.getfield 9, 3) := by decide +kernel
theorem d_M_rain_38 : decode c_M_rain 38 = .ok (.iconst 3, 1) := by decide +kernel
theorem d_M_rain_39 : decode c_M_rain 39 = .ok (.iload_n 1, 1) := by decide +kernel
theorem d_M_rain_40 : decode c_M_rain 40 = .ok (.iadd, 1) := by decide +kernel
theorem d_M_rain_41 : decode c_M_rain 41 = .ok (.iload_n 2, 1) := by decide +kernel
theorem d_M_rain_42 : decode c_M_rain 42 = .ok (.iastore, 1) := by decide +kernel
theorem d_M_rain_43 : decode c_M_rain 43 = .ok (.iload_n 3, 1) := by decide +kernel
theorem d_M_rain_44 : decode c_M_rain 44 = .ok (.ireturn, 1) := by decide +kernel
theorem d_M_yard_0 : decode c_M_yard 0 = .ok (.iload_n 1, 1) := by decide +kernel
theorem d_M_yard_1 : decode c_M_yard 1 = .ok (.invokestatic 95, 3) := by decide +kernel
theorem d_M_yard_4 : decode c_M_yard 4 = .ok (.ifCond .eq 12, 3) := by decide +kernel
theorem d_M_yard_7 : decode c_M_yard 7 = .ok (.iload_n 2, 1) := by decide +kernel
theorem d_M_yard_8 : decode c_M_yard 8 = .ok (.iconst 0, 1) := by decide +kernel
theorem d_M_yard_9 : decode c_M_yard 9 = .ok (.iconst 2, 1) := by decide +kernel
theorem d_M_yard_10 : decode c_M_yard 10 = .ok (.invokestatic 49, 3) := by decide +kernel
theorem d_M_yard_13 : decode c_M_yard 13 = .ok (.ifCond .ne 9, 3) := by decide +kernel
theorem d_M_yard_16 : decode c_M_yard 16 = .ok (.aload_n 0, 1) := by decide +kernel
theorem d_M_yard_17 : decode c_M_yard 17 = .ok (.iconst 0, 1) := by decide +kernel
theorem d_M_yard_18 : decode c_M_yard 18 = .ok (.invokevirtual 92, 3) := by decide +kernel
theorem d_M_yard_21 : decode c_M_yard 21 = .ok (.ireturn, 1) := by decide +kernel
theorem d_M_yard_22 : decode c_M_yard 22 = .ok (.iconst 0, 1) := by decide +kernel
theorem d_M_yard_23 : decode c_M_yard 23 = .ok (.istore_n 3, 1) := by decide +kernel
theorem d_M_yard_24 : decode c_M_yard 24 = .ok (.iconst 0, 1) := by decide +kernel
theorem d_M_yard_25 : decode c_M_yard 25 = .ok (.istore 4, 2) := by decide +kernel
theorem d_M_yard_27 : decode c_M_yard 27 = .ok (.iload 4, 2) := by decide +kernel
theorem d_M_yard_29 : decode c_M_yard 29 = .ok (.aload_n 0, 1) := by decide +kernel
theorem d_M_yard_30 : decode c_M_yard 30 = .ok (.getfield 9, 3) := by decide +kernel
theorem d_M_yard_33 : decode c_M_yard 33 = .ok (.iconst 2, 1) := by decide +kernel
theorem d_M_yard_34 : decode c_M_yard 34 = .ok (.iaload, 1) := by decide +kernel
theorem d_M_yard_35 : decode c_M_yard 35 = .ok (.if_icmp .ge 30, 3) := by decide +kernel
theorem d_M_yard_38 : decode c_M_yard 38 = .ok (.iload_n 3, 1) := by decide +kernel
theorem d_M_yard_39 : decode c_M_yard 39 = .ok (.aload_n 0, 1) := by decide +kernel
theorem d_M_yard_40 : decode c_M_yard 40 = .ok (.iload 4, 2) := by decide +kernel
theorem d_M_yard_42 : decode c_M_yard 42 = .ok (.iload_n 1, 1) := by decide +kernel
theorem d_M_yard_43 : decode c_M_yard 43 = .ok (.invokevirtual 65, 3) := by decide +kernel
theorem d_M_yard_46 : decode c_M_yard 46 = .ok (.ifCond .eq 10, 3) := by decide +kernel
theorem d_M_yard_49 : decode c_M_yard 49 = .ok (.iconst 1, 1) := by decide +kernel
theorem d_M_yard_50 : decode c_M_yard 50 = .ok (.iload 4, 2) := by decide +kernel
theorem d_M_yard_52 : decode c_M_yard 52 = .ok (.ishl, 1) := by decide +kernel
theorem d_M_yard_53 : decode c_M_yard 53 = .ok (.goto 4, 3) := by decide +kernel
theorem d_M_yard_56 : decode c_M_yard 56 = .ok (.iconst 0, 1) := by decide +kernel
theorem d_M_yard_57 : decode c_M_yard 57 = .ok (.ior, 1) := by decide +kernel
theorem d_M_yard_58 : decode c_M_yard 58 = .ok (.istore_n 3, 1) := by decide +kernel
theorem d_M_yard_59 : decode c_M_yard 59 = .ok (.iinc 4 1, 3) := by decide +kernel
theorem d_M_yard_62 : decode c_M_yard 62 = .ok (.goto (-35), 3) := by decide +kernel
theorem d_M_yard_65 : decode c_M_yard 65 = .ok (.iload_n 2, 1) := by decide +kernel
theorem d_M_yard_66 : decode c_M_yard 66 = .ok (.ifCond .ne 11, 3) := by decide +kernel
theorem d_M_yard_69 : decode c_M_yard 69 = .ok (.aload_n 0, 1) := by decide +kernel
theorem d_M_yard_70 : decode c_M_yard 70 = .ok (.iload_n 1, 1) := by decide +kernel
theorem d_M_yard_71 : decode c_M_yard 71 = .ok (.invokevirtual 72, 3) := by decide +kernel
theorem d_M_yard_74 : decode c_M_yard 74 = .ok (.goto 17, 3) := by decide +kernel
theorem d_M_yard_77 : decode c_M_yard 77 = .ok (.iload_n 2, 1) := by decide +kernel
theorem d_M_yard_78 : decode c_M_yard 78 = .ok (.iconst 1, 1) := by decide +kernel
theorem d_M_yard_79 : decode c_M_yard 79 = .ok (.if_icmp .ne 11, 3) := by decide +kernel
theorem d_M_yard_82 : decode c_M_yard 82 = .ok (.aload_n 0, 1) := by decide +kernel
theorem d_M_yard_83 : decode c_M_yard 83 = .ok (.iload_n 1, 1) := by decide +kernel
theorem d_M_yard_84 : decode c_M_yard 84 = .ok (.invokevirtual 69, 3) := by decide +kernel
theorem d_M_yard_87 : decode c_M_yard 87 = .ok (.goto 4, 3) := by decide +kernel
theorem d_M_yard_90 : decode c_M_yard 90 = .ok (.iload_n 3, 1) := by decide +kernel
theorem d_M_yard_91 : decode c_M_yard 91 = .ok (.ireturn, 1) := by decide +kernel
theorem d_M_owns_0 : decode c_M_owns 0 = .ok (.iload_n 1, 1) := by decide +kernel
theorem d_M_owns_1 : decode c_M_owns 1 = .ok (.iconst (-1), 1) := by decide +kernel
theorem d_M_owns_2 : decode c_M_owns 2 = .ok (.iconst 3, 1) := by decide +kernel
theorem d_M_owns_3 : decode c_M_owns 3 = .ok (.invokestatic 49, 3) := by decide +kernel
theorem d_M_owns_6 : decode c_M_owns 6 = .ok (.ifCond .eq 11, 3) := by decide +kernel
theorem d_M_owns_9 : decode c_M_owns 9 = .ok (.aload_n 0, 1) := by decide +kernel
theorem d_M_owns_10 : decode c_M_owns 10 = .ok (.iload_n 1, 1) := by decide +kernel
theorem d_M_owns_11 : decode c_M_owns 11 = .ok (.invokevirtual 99, 3) := by decide +kernel
theorem d_M_owns_14 : decode c_M_owns 14 = .ok (.goto 8, 3) := by decide +kernel
theorem d_M_owns_17 : decode c_M_owns 17 = .ok (.aload_n 0, 1) := by decide +kernel
theorem d_M_owns_18 : decode c_M_owns 18 = .ok (.iconst 0, 1) := by decide +kernel
theorem d_M_owns_19 : decode c_M_owns 19 = .ok (.invokevirtual 92, 3) := by decide +kernel
theorem d_M_owns_22 : decode c_M_owns 22 = .ok (.ireturn, 1) := by decide +kernel
theorem d_M_borders_0 : decode c_M_borders 0 = .ok (.iconst 0, 1) := by decide +kernel
theorem d_M_borders_1 : decode c_M_borders 1 = .ok (.istore_n 1, 1) := by decide +kernel
theorem d_M_borders_2 : decode c_M_borders 2 = .ok (.iconst 0, 1) := by decide +kernel
theorem d_M_borders_3 : decode c_M_borders 3 = .ok (.istore_n 2, 1) := by decide +kernel
theorem d_M_borders_4 : decode c_M_borders 4 = .ok (.iload_n 2, 1) := by decide +kernel
theorem d_M_borders_5 : decode c_M_borders 5 = .ok (.iconst 1, 1) := by decide +kernel
theorem d_M_borders_6 : decode c_M_borders 6 = .ok (.iadd, 1) := by decide +kernel
theorem d_M_borders_7 : decode c_M_borders 7 = .ok (.bipush 40, 2) := by decide +kernel
theorem d_M_borders_9 : decode c_M_borders 9 = .ok (.if_icmp .ge 32, 3) := by decide +kernel
theorem d_M_borders_12 : decode c_M_borders 12 = .ok (.iload_n 1, 1) := by decide +kernel
theorem d_M_borders_13 : decode c_M_borders 13 = .ok (.aload_n 0, 1) := by decide +kernel
theorem d_M_borders_14 : decode c_M_borders 14 = .ok (.iload_n 2, 1) := by decide +kernel
theorem d_M_borders_15 : decode c_M_borders 15 = .ok (.invokevirtual 72, 3) := by decide +kernel
theorem d_M_borders_18 : decode c_M_borders 18 = .ok (.aload_n 0, 1) := by decide +kernel
theorem d_M_borders_19 : decode c_M_borders 19 = .ok (.iload_n 2, 1) := by decide +kernel
theorem d_M_borders_20 : decode c_M_borders 20 = .ok (.iconst 1, 1) := by decide +kernel
theorem d_M_borders_21 : decode c_M_borders 21 = .ok (.iadd, 1) := by decide +kernel
theorem d_M_borders_22 : decode c_M_borders 22 = .ok (.invokevirtual 72, 3) := by decide +kernel
theorem d_M_borders_25 : decode c_M_borders 25 = .ok (.if_icmp .eq 7, 3) := by decide +kernel
theorem d_M_borders_28 : decode c_M_borders 28 = .ok (.iconst 1, 1) := by decide +kernel
theorem d_M_borders_29 : decode c_M_borders 29 = .ok (.goto 4, 3) := by decide +kernel
theorem d_M_borders_32 : decode c_M_borders 32 = .ok (.iconst 0, 1) := by decide +kernel
theorem d_M_borders_33 : decode c_M_borders 33 = .ok (.iadd, 1) := by decide +kernel
theorem d_M_borders_34 : decode c_M_borders 34 = .ok (.istore_n 1, 1) := by decide +kernel
theorem d_M_borders_35 : decode c_M_borders 35 = .ok (.iinc 2 1, 3) := by decide +kernel
theorem d_M_borders_38 : decode c_M_borders 38 = .ok (.goto (-34), 3) := by decide +kernel
theorem d_M_borders_41 : decode c_M_borders 41 = .ok (.iload_n 1, 1) := by decide +kernel
theorem d_M_borders_42 : decode c_M_borders 42 = .ok (.ireturn, 1) := by decide +kernel
theorem d_M_walk_0 : decode c_M_walk 0 = .ok (.iload_n 1, 1) := by decide +kernel
theorem d_M_walk_1 : decode c_M_walk 1 = .ok (.invokestatic 95, 3) := by decide +kernel
theorem d_M_walk_4 : decode c_M_walk 4 = .ok (.ifCond .ne 9, 3) := by decide +kernel
theorem d_M_walk_7 : decode c_M_walk 7 = .ok (.aload_n 0, 1) := by decide +kernel
theorem d_M_walk_8 : decode c_M_walk 8 = .ok (.iconst 0, 1) := by decide +kernel
theorem d_M_walk_9 : decode c_M_walk 9 = .ok (.invokevirtual 92, 3) := by decide +kernel
theorem d_M_walk_12 : decode c_M_walk 12 = .ok (.ireturn, 1) := by decide +kernel
theorem d_M_walk_13 : decode c_M_walk 13 = .ok (.aload_n 0, 1) := by decide +kernel
theorem d_M_walk_14 : decode c_M_walk 14 = .ok (.iload_n 1, 1) := by decide +kernel
theorem d_M_walk_15 : decode c_M_walk 15 = .ok (.invokevirtual 72, 3) := by decide +kernel
theorem d_M_walk_18 : decode c_M_walk 18 = .ok (.istore_n 2, 1) := by decide +kernel
theorem d_M_walk_19 : decode c_M_walk 19 = .ok (.iload_n 1, 1) := by decide +kernel
theorem d_M_walk_20 : decode c_M_walk 20 = .ok (.istore_n 3, 1) := by decide +kernel
theorem d_M_walk_21 : decode c_M_walk 21 = .ok (.iload_n 1, 1) := by decide +kernel
theorem d_M_walk_22 : decode c_M_walk 22 = .ok (.istore 4, 2) := by decide +kernel
theorem d_M_walk_24 : decode c_M_walk 24 = .ok (.iload_n 3, 1) := by decide +kernel
theorem d_M_walk_25 : decode c_M_walk 25 = .ok (.ifCond .le 20, 3) := by decide +kernel
theorem d_M_walk_28 : decode c_M_walk 28 = .ok (.aload_n 0, 1) := by decide +kernel
theorem d_M_walk_29 : decode c_M_walk 29 = .ok (.iload_n 3, 1) := by decide +kernel
theorem d_M_walk_30 : decode c_M_walk 30 = .ok (.iconst 1, 1) := by decide +kernel
theorem d_M_walk_31 : decode c_M_walk 31 = .ok (.isub, 1) := by decide +kernel
theorem d_M_walk_32 : decode c_M_walk 32 = .ok (.invokevirtual 72, 3) := by decide +kernel
theorem d_M_walk_35 : decode c_M_walk 35 = .ok (.iload_n 2, 1) := by decide +kernel
theorem d_M_walk_36 : decode c_M_walk 36 = .ok (.if_icmp .ne 9, 3) := by decide +kernel
theorem d_M_walk_39 : decode c_M_walk 39 = .ok (.iinc 3 (-1), 3) := by decide +kernel
theorem d_M_walk_42 : decode c_M_walk 42 = .ok (.goto (-18), 3) := by decide +kernel
theorem d_M_walk_45 : decode c_M_walk 45 = .ok (.iload 4, 2) := by decide +kernel
theorem d_M_walk_47 : decode c_M_walk 47 = .ok (.bipush 39, 2) := by decide +kernel
theorem d_M_walk_49 : decode c_M_walk 49 = .ok (.if_icmp .ge 21, 3) := by decide +kernel
theorem d_M_walk_52 : decode c_M_walk 52 = .ok (.aload_n 0, 1) := by decide +kernel
theorem d_M_walk_53 : decode c_M_walk 53 = .ok (.iload 4, 2) := by decide +kernel
theorem d_M_walk_55 : decode c_M_walk 55 = .ok (.iconst 1, 1) := by decide +kernel
theorem d_M_walk_56 : decode c_M_walk 56 = .ok (.iadd, 1) := by decide +kernel
theorem d_M_walk_57 : decode c_M_walk 57 = .ok (.invokevirtual 72, 3) := by decide +kernel
theorem d_M_walk_60 : decode c_M_walk 60 = .ok (.iload_n 2, 1) := by decide +kernel
theorem d_M_walk_61 : decode c_M_walk 61 = .ok (.if_icmp .ne 9, 3) := by decide +kernel
theorem d_M_walk_64 : decode c_M_walk 64 = .ok (.iinc 4 1, 3) := by decide +kernel
theorem d_M_walk_67 : decode c_M_walk 67 = .ok (.goto (-22), 3) := by decide +kernel
theorem d_M_walk_70 : decode c_M_walk 70 = .ok (.iload 4, 2) := by decide +kernel
theorem d_M_walk_72 : decode c_M_walk 72 = .ok (.iload_n 3, 1) := by decide +kernel
theorem d_M_walk_73 : decode c_M_walk 73 = .ok (.isub, 1) := by decide +kernel
theorem d_M_walk_74 : decode c_M_walk 74 = .ok (.iconst 1, 1) := by decide +kernel
theorem d_M_walk_75 : decode c_M_walk 75 = .ok (.iadd, 1) := by decide +kernel
theorem d_M_walk_76 : decode c_M_walk 76 = .ok (.ireturn, 1) := by decide +kernel
theorem d_M_now_0 : decode c_M_now 0 = .ok (.iload_n 1, 1) := by decide +kernel
theorem d_M_now_1 : decode c_M_now 1 = .ok (.tableswitch 73 0 4 #[35, 42, 55, 62, 67], 35) := by decide +kernel
theorem d_M_now_36 : decode c_M_now 36 = .ok (.aload_n 0, 1) := by decide +kernel
theorem d_M_now_37 : decode c_M_now 37 = .ok (.getfield 9, 3) := by decide +kernel
theorem d_M_now_40 : decode c_M_now 40 = .ok (.iconst 0, 1) := by decide +kernel
theorem d_M_now_41 : decode c_M_now 41 = .ok (.iaload, 1) := by decide +kernel
theorem d_M_now_42 : decode c_M_now 42 = .ok (.ireturn, 1) := by decide +kernel
theorem d_M_now_43 : decode c_M_now 43 = .ok (.aload_n 0, 1) := by decide +kernel
theorem d_M_now_44 : decode c_M_now 44 = .ok (.invokevirtual 57, 3) := by decide +kernel
theorem d_M_now_47 : decode c_M_now 47 = .ok (.ifCond .eq 7, 3) := by decide +kernel
theorem d_M_now_50 : decode c_M_now 50 = .ok (.iconst 1, 1) := by decide +kernel
theorem d_M_now_51 : decode c_M_now 51 = .ok (.goto 4, 3) := by decide +kernel
theorem d_M_now_54 : decode c_M_now 54 = .ok (.iconst 0, 1) := by decide +kernel
theorem d_M_now_55 : decode c_M_now 55 = .ok (.ireturn, 1) := by decide +kernel
theorem d_M_now_56 : decode c_M_now 56 = .ok (.aload_n 0, 1) := by decide +kernel
theorem d_M_now_57 : decode c_M_now 57 = .ok (.getfield 9, 3) := by decide +kernel
theorem d_M_now_60 : decode c_M_now 60 = .ok (.iconst 1, 1) := by decide +kernel
theorem d_M_now_61 : decode c_M_now 61 = .ok (.iaload, 1) := by decide +kernel
theorem d_M_now_62 : decode c_M_now 62 = .ok (.ireturn, 1) := by decide +kernel
theorem d_M_now_63 : decode c_M_now 63 = .ok (.aload_n 0, 1) := by decide +kernel
theorem d_M_now_64 : decode c_M_now 64 = .ok (.invokevirtual 102, 3) := by decide +kernel
theorem d_M_now_67 : decode c_M_now 67 = .ok (.ireturn, 1) := by decide +kernel
theorem d_M_now_68 : decode c_M_now 68 = .ok (.aload_n 0, 1) := by decide +kernel
theorem d_M_now_69 : decode c_M_now 69 = .ok (.iconst 3, 1) := by decide +kernel
theorem d_M_now_70 : decode c_M_now 70 = .ok (.invokevirtual 106, 3) := by decide +kernel
theorem d_M_now_73 : decode c_M_now 73 = .ok (.ireturn, 1) := by decide +kernel
theorem d_M_now_74 : decode c_M_now 74 = .ok (.aload_n 0, 1) := by decide +kernel
theorem d_M_now_75 : decode c_M_now 75 = .ok (.iconst 0, 1) := by decide +kernel
theorem d_M_now_76 : decode c_M_now 76 = .ok (.invokevirtual 92, 3) := by decide +kernel
theorem d_M_now_79 : decode c_M_now 79 = .ok (.ireturn, 1) := by decide +kernel
theorem d_M_addsCarpet_0 : decode c_M_addsCarpet 0 = .ok (.aload_n 0, 1) := by decide +kernel
theorem d_M_addsCarpet_1 : decode c_M_addsCarpet 1 = .ok (.getfield 9, 3) := by decide +kernel
theorem d_M_addsCarpet_4 : decode c_M_addsCarpet 4 = .ok (.iconst 2, 1) := by decide +kernel
theorem d_M_addsCarpet_5 : decode c_M_addsCarpet 5 = .ok (.iaload, 1) := by decide +kernel
theorem d_M_addsCarpet_6 : decode c_M_addsCarpet 6 = .ok (.istore_n 3, 1) := by decide +kernel
theorem d_M_addsCarpet_7 : decode c_M_addsCarpet 7 = .ok (.aload_n 0, 1) := by decide +kernel
theorem d_M_addsCarpet_8 : decode c_M_addsCarpet 8 = .ok (.iload_n 3, 1) := by decide +kernel
theorem d_M_addsCarpet_9 : decode c_M_addsCarpet 9 = .ok (.iconst 0, 1) := by decide +kernel
theorem d_M_addsCarpet_10 : decode c_M_addsCarpet 10 = .ok (.iload_n 1, 1) := by decide +kernel
theorem d_M_addsCarpet_11 : decode c_M_addsCarpet 11 = .ok (.invokevirtual 78, 3) := by decide +kernel
theorem d_M_addsCarpet_14 : decode c_M_addsCarpet 14 = .ok (.aload_n 0, 1) := by decide +kernel
theorem d_M_addsCarpet_15 : decode c_M_addsCarpet 15 = .ok (.iload_n 3, 1) := by decide +kernel
theorem d_M_addsCarpet_16 : decode c_M_addsCarpet 16 = .ok (.iconst 1, 1) := by decide +kernel
theorem d_M_addsCarpet_17 : decode c_M_addsCarpet 17 = .ok (.iload_n 2, 1) := by decide +kernel
theorem d_M_addsCarpet_18 : decode c_M_addsCarpet 18 = .ok (.invokevirtual 78, 3) := by decide +kernel
theorem d_M_addsCarpet_21 : decode c_M_addsCarpet 21 = .ok (.aload_n 0, 1) := by decide +kernel
theorem d_M_addsCarpet_22 : decode c_M_addsCarpet 22 = .ok (.iload_n 3, 1) := by decide +kernel
theorem d_M_addsCarpet_23 : decode c_M_addsCarpet 23 = .ok (.iconst 2, 1) := by decide +kernel
theorem d_M_addsCarpet_24 : decode c_M_addsCarpet 24 = .ok (.bipush 8, 2) := by decide +kernel
theorem d_M_addsCarpet_26 : decode c_M_addsCarpet 26 = .ok (.invokevirtual 78, 3) := by decide +kernel
theorem d_M_addsCarpet_29 : decode c_M_addsCarpet 29 = .ok (.aload_n 0, 1) := by decide +kernel
theorem d_M_addsCarpet_30 : decode c_M_addsCarpet 30 = .ok (.iload_n 3, 1) := by decide +kernel
theorem d_M_addsCarpet_31 : decode c_M_addsCarpet 31 = .ok (.iconst 3, 1) := by decide +kernel
theorem d_M_addsCarpet_32 : decode c_M_addsCarpet 32 = .ok (.bipush 50, 2) := by decide +kernel
theorem d_M_addsCarpet_34 : decode c_M_addsCarpet 34 = .ok (.invokevirtual 78, 3) := by decide +kernel
theorem d_M_addsCarpet_37 : decode c_M_addsCarpet 37 = .ok (.aload_n 0, 1) := by decide +kernel
theorem d_M_addsCarpet_38 : decode c_M_addsCarpet 38 = .ok (.iload_n 3, 1) := by decide +kernel
theorem d_M_addsCarpet_39 : decode c_M_addsCarpet 39 = .ok (.iconst 4, 1) := by decide +kernel
theorem d_M_addsCarpet_40 : decode c_M_addsCarpet 40 = .ok (.iconst 0, 1) := by decide +kernel
theorem d_M_addsCarpet_41 : decode c_M_addsCarpet 41 = .ok (.invokevirtual 78, 3) := by decide +kernel
theorem d_M_addsCarpet_44 : decode c_M_addsCarpet 44 = .ok (.aload_n 0, 1) := by decide +kernel
theorem d_M_addsCarpet_45 : decode c_M_addsCarpet 45 = .ok (.iload_n 3, 1) := by decide +kernel
theorem d_M_addsCarpet_46 : decode c_M_addsCarpet 46 = .ok (.iconst 5, 1) := by decide +kernel
theorem d_M_addsCarpet_47 : decode c_M_addsCarpet 47 = .ok (.iconst (-1), 1) := by decide +kernel
theorem d_M_addsCarpet_48 : decode c_M_addsCarpet 48 = .ok (.invokevirtual 78, 3) := by decide +kernel
theorem d_M_addsCarpet_51 : decode c_M_addsCarpet 51 = .ok (.aload_n 0, 1) := by decide +kernel
theorem d_M_addsCarpet_52 : decode c_M_addsCarpet 52 = .ok (.iload_n 3, 1) := by decide +kernel
theorem d_M_addsCarpet_53 : decode c_M_addsCarpet 53 = .ok (.bipush 6, 2) := by decide +kernel
theorem d_M_addsCarpet_55 : decode c_M_addsCarpet 55 = .ok (.iconst 0, 1) := by decide +kernel
theorem d_M_addsCarpet_56 : decode c_M_addsCarpet 56 = .ok (.invokevirtual 78, 3) := by decide +kernel
theorem d_M_addsCarpet_59 : decode c_M_addsCarpet 59 = .ok (.aload_n 0, 1) := by decide +kernel
theorem d_M_addsCarpet_60 : decode c_M_addsCarpet 60 = .ok (.getfield 9, 3) := by decide +kernel
theorem d_M_addsCarpet_63 : decode c_M_addsCarpet 63 = .ok (.iconst 2, 1) := by decide +kernel
theorem d_M_addsCarpet_64 : decode c_M_addsCarpet 64 = .ok (.dup2, 1) := by decide +kernel
theorem d_M_addsCarpet_65 : decode c_M_addsCarpet 65 = .ok (.iaload, 1) := by decide +kernel
theorem d_M_addsCarpet_66 : decode c_M_addsCarpet 66 = .ok (.iconst 1, 1) := by decide +kernel
theorem d_M_addsCarpet_67 : decode c_M_addsCarpet 67 = .ok (.iadd, 1) := by decide +kernel
theorem d_M_addsCarpet_68 : decode c_M_addsCarpet 68 = .ok (.iastore, 1) := by decide +kernel
theorem d_M_addsCarpet_69 : decode c_M_addsCarpet 69 = .ok (.return_, 1) := by decide +kernel
theorem d_M_carpet_0 : decode c_M_carpet 0 = .ok (.iload_n 1, 1) := by decide +kernel
theorem d_M_carpet_1 : decode c_M_carpet 1 = .ok (.iconst 0, 1) := by decide +kernel
theorem d_M_carpet_2 : decode c_M_carpet 2 = .ok (.iconst 5, 1) := by decide +kernel
theorem d_M_carpet_3 : decode c_M_carpet 3 = .ok (.invokestatic 49, 3) := by decide +kernel
theorem d_M_carpet_6 : decode c_M_carpet 6 = .ok (.ifCond .eq 12, 3) := by decide +kernel
theorem d_M_carpet_9 : decode c_M_carpet 9 = .ok (.iload_n 2, 1) := by decide +kernel
theorem d_M_carpet_10 : decode c_M_carpet 10 = .ok (.iconst 0, 1) := by decide +kernel
theorem d_M_carpet_11 : decode c_M_carpet 11 = .ok (.iconst 3, 1) := by decide +kernel
theorem d_M_carpet_12 : decode c_M_carpet 12 = .ok (.invokestatic 49, 3) := by decide +kernel
theorem d_M_carpet_15 : decode c_M_carpet 15 = .ok (.ifCond .ne 9, 3) := by decide +kernel
theorem d_M_carpet_18 : decode c_M_carpet 18 = .ok (.aload_n 0, 1) := by decide +kernel
theorem d_M_carpet_19 : decode c_M_carpet 19 = .ok (.iconst 0, 1) := by decide +kernel
theorem d_M_carpet_20 : decode c_M_carpet 20 = .ok (.invokevirtual 92, 3) := by decide +kernel
theorem d_M_carpet_23 : decode c_M_carpet 23 = .ok (.ireturn, 1) := by decide +kernel
theorem d_M_carpet_24 : decode c_M_carpet 24 = .ok (.aload_n 0, 1) := by decide +kernel
theorem d_M_carpet_25 : decode c_M_carpet 25 = .ok (.getfield 9, 3) := by decide +kernel
theorem d_M_carpet_28 : decode c_M_carpet 28 = .ok (.iconst 2, 1) := by decide +kernel
theorem d_M_carpet_29 : decode c_M_carpet 29 = .ok (.iaload, 1) := by decide +kernel
theorem d_M_carpet_30 : decode c_M_carpet 30 = .ok (.bipush 8, 2) := by decide +kernel
theorem d_M_carpet_32 : decode c_M_carpet 32 = .ok (.if_icmp .ne 9, 3) := by decide +kernel
theorem d_M_carpet_35 : decode c_M_carpet 35 = .ok (.aload_n 0, 1) := by decide +kernel
theorem d_M_carpet_36 : decode c_M_carpet 36 = .ok (.iconst 1, 1) := by decide +kernel
theorem d_M_carpet_37 : decode c_M_carpet 37 = .ok (.invokevirtual 92, 3) := by decide +kernel
theorem d_M_carpet_40 : decode c_M_carpet 40 = .ok (.ireturn, 1) := by decide +kernel
theorem d_M_carpet_41 : decode c_M_carpet 41 = .ok (.aload_n 0, 1) := by decide +kernel
theorem d_M_carpet_42 : decode c_M_carpet 42 = .ok (.iload_n 1, 1) := by decide +kernel
theorem d_M_carpet_43 : decode c_M_carpet 43 = .ok (.iload_n 2, 1) := by decide +kernel
theorem d_M_carpet_44 : decode c_M_carpet 44 = .ok (.invokevirtual 109, 3) := by decide +kernel
theorem d_M_carpet_47 : decode c_M_carpet 47 = .ok (.aload_n 0, 1) := by decide +kernel
theorem d_M_carpet_48 : decode c_M_carpet 48 = .ok (.getfield 9, 3) := by decide +kernel
theorem d_M_carpet_51 : decode c_M_carpet 51 = .ok (.iconst 2, 1) := by decide +kernel
theorem d_M_carpet_52 : decode c_M_carpet 52 = .ok (.iaload, 1) := by decide +kernel
theorem d_M_carpet_53 : decode c_M_carpet 53 = .ok (.iconst 1, 1) := by decide +kernel
theorem d_M_carpet_54 : decode c_M_carpet 54 = .ok (.isub, 1) := by decide +kernel
theorem d_M_carpet_55 : decode c_M_carpet 55 = .ok (.ireturn, 1) := by decide +kernel
theorem d_M_of_0 : decode c_M_of 0 = .ok (.aload_n 0, 1) := by decide +kernel
theorem d_M_of_1 : decode c_M_of 1 = .ok (.iload_n 1, 1) := by decide +kernel
theorem d_M_of_2 : decode c_M_of 2 = .ok (.invokevirtual 113, 3) := by decide +kernel
theorem d_M_of_5 : decode c_M_of 5 = .ok (.ifCond .eq 13, 3) := by decide +kernel
theorem d_M_of_8 : decode c_M_of 8 = .ok (.iload_n 2, 1) := by decide +kernel
theorem d_M_of_9 : decode c_M_of 9 = .ok (.iconst 0, 1) := by decide +kernel
theorem d_M_of_10 : decode c_M_of 10 = .ok (.bipush 9, 2) := by decide +kernel
theorem d_M_of_12 : decode c_M_of 12 = .ok (.invokestatic 49, 3) := by decide +kernel
theorem d_M_of_15 : decode c_M_of 15 = .ok (.ifCond .ne 9, 3) := by decide +kernel
theorem d_M_of_18 : decode c_M_of 18 = .ok (.aload_n 0, 1) := by decide +kernel
theorem d_M_of_19 : decode c_M_of 19 = .ok (.iconst 0, 1) := by decide +kernel
theorem d_M_of_20 : decode c_M_of 20 = .ok (.invokevirtual 92, 3) := by decide +kernel
theorem d_M_of_23 : decode c_M_of 23 = .ok (.ireturn, 1) := by decide +kernel
theorem d_M_of_24 : decode c_M_of 24 = .ok (.iload_n 2, 1) := by decide +kernel
theorem d_M_of_25 : decode c_M_of 25 = .ok (.tableswitch 55 6 9 #[31, 37, 43, 49], 31) := by decide +kernel
theorem d_M_of_56 : decode c_M_of 56 = .ok (.aload_n 0, 1) := by decide +kernel
theorem d_M_of_57 : decode c_M_of 57 = .ok (.iload_n 1, 1) := by decide +kernel
theorem d_M_of_58 : decode c_M_of 58 = .ok (.invokevirtual 61, 3) := by decide +kernel
theorem d_M_of_61 : decode c_M_of 61 = .ok (.ireturn, 1) := by decide +kernel
theorem d_M_of_62 : decode c_M_of 62 = .ok (.aload_n 0, 1) := by decide +kernel
theorem d_M_of_63 : decode c_M_of 63 = .ok (.iload_n 1, 1) := by decide +kernel
theorem d_M_of_64 : decode c_M_of 64 = .ok (.invokevirtual 75, 3) := by decide +kernel
theorem d_M_of_67 : decode c_M_of 67 = .ok (.ireturn, 1) := by decide +kernel
theorem d_M_of_68 : decode c_M_of 68 = .ok (.aload_n 0, 1) := by decide +kernel
theorem d_M_of_69 : decode c_M_of 69 = .ok (.iload_n 1, 1) := by decide +kernel
theorem d_M_of_70 : decode c_M_of 70 = .ok (.invokevirtual 82, 3) := by decide +kernel
theorem d_M_of_73 : decode c_M_of 73 = .ok (.ireturn, 1) := by decide +kernel
theorem d_M_of_74 : decode c_M_of 74 = .ok (.aload_n 0, 1) := by decide +kernel
theorem d_M_of_75 : decode c_M_of 75 = .ok (.iload_n 1, 1) := by decide +kernel
theorem d_M_of_76 : decode c_M_of 76 = .ok (.invokevirtual 116, 3) := by decide +kernel
theorem d_M_of_79 : decode c_M_of 79 = .ok (.ireturn, 1) := by decide +kernel
theorem d_M_of_80 : decode c_M_of 80 = .ok (.aload_n 0, 1) := by decide +kernel
theorem d_M_of_81 : decode c_M_of 81 = .ok (.iload_n 1, 1) := by decide +kernel
theorem d_M_of_82 : decode c_M_of 82 = .ok (.iload_n 2, 1) := by decide +kernel
theorem d_M_of_83 : decode c_M_of 83 = .ok (.invokevirtual 53, 3) := by decide +kernel
theorem d_M_of_86 : decode c_M_of 86 = .ok (.ireturn, 1) := by decide +kernel
theorem d_M_set_0 : decode c_M_set 0 = .ok (.iload_n 2, 1) := by decide +kernel
theorem d_M_set_1 : decode c_M_set 1 = .ok (.iconst 1, 1) := by decide +kernel
theorem d_M_set_2 : decode c_M_set 2 = .ok (.if_icmp .ne 7, 3) := by decide +kernel
theorem d_M_set_5 : decode c_M_set 5 = .ok (.iconst 3, 1) := by decide +kernel
theorem d_M_set_6 : decode c_M_set 6 = .ok (.goto 25, 3) := by decide +kernel
theorem d_M_set_9 : decode c_M_set 9 = .ok (.iload_n 2, 1) := by decide +kernel
theorem d_M_set_10 : decode c_M_set 10 = .ok (.iconst 2, 1) := by decide +kernel
theorem d_M_set_11 : decode c_M_set 11 = .ok (.if_icmp .ne 8, 3) := by decide +kernel
theorem d_M_set_14 : decode c_M_set 14 = .ok (.bipush 20, 2) := by decide +kernel
theorem d_M_set_16 : decode c_M_set 16 = .ok (.goto 15, 3) := by decide +kernel
theorem d_M_set_19 : decode c_M_set 19 = .ok (.iload_n 2, 1) := by decide +kernel
theorem d_M_set_20 : decode c_M_set 20 = .ok (.iconst 3, 1) := by decide +kernel
theorem d_M_set_21 : decode c_M_set 21 = .ok (.if_icmp .ne 8, 3) := by decide +kernel
theorem d_M_set_24 : decode c_M_set 24 = .ok (.bipush 99, 2) := by decide +kernel
theorem d_M_set_26 : decode c_M_set 26 = .ok (.goto 5, 3) := by decide +kernel
theorem d_M_set_29 : decode c_M_set 29 = .ok (.bipush 9, 2) := by decide +kernel
theorem d_M_set_31 : decode c_M_set 31 = .ok (.istore 4, 2) := by decide +kernel
theorem d_M_set_33 : decode c_M_set 33 = .ok (.aload_n 0, 1) := by decide +kernel
theorem d_M_set_34 : decode c_M_set 34 = .ok (.iload_n 1, 1) := by decide +kernel
theorem d_M_set_35 : decode c_M_set 35 = .ok (.invokevirtual 113, 3) := by decide +kernel
theorem d_M_set_38 : decode c_M_set 38 = .ok (.ifCond .eq 31, 3) := by decide +kernel
theorem d_M_set_41 : decode c_M_set 41 = .ok (.iload_n 2, 1) := by decide +kernel
theorem d_M_set_42 : decode c_M_set 42 = .ok (.iconst 1, 1) := by decide +kernel
theorem d_M_set_43 : decode c_M_set 43 = .ok (.iconst 4, 1) := by decide +kernel
theorem d_M_set_44 : decode c_M_set 44 = .ok (.invokestatic 49, 3) := by decide +kernel
theorem d_M_set_47 : decode c_M_set 47 = .ok (.ifCond .eq 22, 3) := by decide +kernel
theorem d_M_set_50 : decode c_M_set 50 = .ok (.iload_n 3, 1) := by decide +kernel
theorem d_M_set_51 : decode c_M_set 51 = .ok (.iload_n 2, 1) := by decide +kernel
theorem d_M_set_52 : decode c_M_set 52 = .ok (.iconst 2, 1) := by decide +kernel
theorem d_M_set_53 : decode c_M_set 53 = .ok (.if_icmp .ne 7, 3) := by decide +kernel
theorem d_M_set_56 : decode c_M_set 56 = .ok (.iconst 1, 1) := by decide +kernel
theorem d_M_set_57 : decode c_M_set 57 = .ok (.goto 4, 3) := by decide +kernel
theorem d_M_set_60 : decode c_M_set 60 = .ok (.iconst 0, 1) := by decide +kernel
theorem d_M_set_61 : decode c_M_set 61 = .ok (.iload 4, 2) := by decide +kernel
theorem d_M_set_63 : decode c_M_set 63 = .ok (.invokestatic 49, 3) := by decide +kernel
theorem d_M_set_66 : decode c_M_set 66 = .ok (.ifCond .ne 9, 3) := by decide +kernel
theorem d_M_set_69 : decode c_M_set 69 = .ok (.aload_n 0, 1) := by decide +kernel
theorem d_M_set_70 : decode c_M_set 70 = .ok (.iconst 0, 1) := by decide +kernel
theorem d_M_set_71 : decode c_M_set 71 = .ok (.invokevirtual 92, 3) := by decide +kernel
theorem d_M_set_74 : decode c_M_set 74 = .ok (.ireturn, 1) := by decide +kernel
theorem d_M_set_75 : decode c_M_set 75 = .ok (.aload_n 0, 1) := by decide +kernel
theorem d_M_set_76 : decode c_M_set 76 = .ok (.iload_n 1, 1) := by decide +kernel
theorem d_M_set_77 : decode c_M_set 77 = .ok (.iload_n 2, 1) := by decide +kernel
theorem d_M_set_78 : decode c_M_set 78 = .ok (.invokevirtual 53, 3) := by decide +kernel
theorem d_M_set_81 : decode c_M_set 81 = .ok (.istore 5, 2) := by decide +kernel
theorem d_M_set_83 : decode c_M_set 83 = .ok (.aload_n 0, 1) := by decide +kernel
theorem d_M_set_84 : decode c_M_set 84 = .ok (.iload_n 1, 1) := by decide +kernel
theorem d_M_set_85 : decode c_M_set 85 = .ok (.iload_n 2, 1) := by decide +kernel
theorem d_M_set_86 : decode c_M_set 86 = .ok (.iload_n 3, 1) := by decide +kernel
theorem d_M_set_87 : decode c_M_set 87 = .ok (.invokevirtual 78, 3) := by decide +kernel
theorem d_M_set_90 : decode c_M_set 90 = .ok (.iload 5, 2) := by decide +kernel
theorem d_M_set_92 : decode c_M_set 92 = .ok (.ireturn, 1) := by decide +kernel
theorem d_M_turn_0 : decode c_M_turn 0 = .ok (.aload_n 0, 1) := by decide +kernel
theorem d_M_turn_1 : decode c_M_turn 1 = .ok (.iload_n 1, 1) := by decide +kernel
theorem d_M_turn_2 : decode c_M_turn 2 = .ok (.invokevirtual 113, 3) := by decide +kernel
theorem d_M_turn_5 : decode c_M_turn 5 = .ok (.ifCond .eq 12, 3) := by decide +kernel
theorem d_M_turn_8 : decode c_M_turn 8 = .ok (.iload_n 2, 1) := by decide +kernel
theorem d_M_turn_9 : decode c_M_turn 9 = .ok (.iconst 0, 1) := by decide +kernel
theorem d_M_turn_10 : decode c_M_turn 10 = .ok (.iconst 5, 1) := by decide +kernel
theorem d_M_turn_11 : decode c_M_turn 11 = .ok (.invokestatic 49, 3) := by decide +kernel
theorem d_M_turn_14 : decode c_M_turn 14 = .ok (.ifCond .ne 9, 3) := by decide +kernel
theorem d_M_turn_17 : decode c_M_turn 17 = .ok (.aload_n 0, 1) := by decide +kernel
theorem d_M_turn_18 : decode c_M_turn 18 = .ok (.iconst 0, 1) := by decide +kernel
theorem d_M_turn_19 : decode c_M_turn 19 = .ok (.invokevirtual 92, 3) := by decide +kernel
theorem d_M_turn_22 : decode c_M_turn 22 = .ok (.ireturn, 1) := by decide +kernel
theorem d_M_turn_23 : decode c_M_turn 23 = .ok (.aload_n 0, 1) := by decide +kernel
theorem d_M_turn_24 : decode c_M_turn 24 = .ok (.iload_n 1, 1) := by decide +kernel
theorem d_M_turn_25 : decode c_M_turn 25 = .ok (.iconst 0, 1) := by decide +kernel
theorem d_M_turn_26 : decode c_M_turn 26 = .ok (.invokevirtual 53, 3) := by decide +kernel
theorem d_M_turn_29 : decode c_M_turn 29 = .ok (.istore_n 3, 1) := by decide +kernel
theorem d_M_turn_30 : decode c_M_turn 30 = .ok (.aload_n 0, 1) := by decide +kernel
theorem d_M_turn_31 : decode c_M_turn 31 = .ok (.iload_n 1, 1) := by decide +kernel
theorem d_M_turn_32 : decode c_M_turn 32 = .ok (.iconst 0, 1) := by decide +kernel
theorem d_M_turn_33 : decode c_M_turn 33 = .ok (.iload_n 2, 1) := by decide +kernel
theorem d_M_turn_34 : decode c_M_turn 34 = .ok (.invokevirtual 78, 3) := by decide +kernel
theorem d_M_turn_37 : decode c_M_turn 37 = .ok (.iload_n 3, 1) := by decide +kernel
theorem d_M_turn_38 : decode c_M_turn 38 = .ok (.ireturn, 1) := by decide +kernel
theorem d_M_as_0 : decode c_M_as 0 = .ok (.aload_n 0, 1) := by decide +kernel
theorem d_M_as_1 : decode c_M_as 1 = .ok (.iload_n 1, 1) := by decide +kernel
theorem d_M_as_2 : decode c_M_as 2 = .ok (.invokevirtual 113, 3) := by decide +kernel
theorem d_M_as_5 : decode c_M_as 5 = .ok (.ifCond .eq 12, 3) := by decide +kernel
theorem d_M_as_8 : decode c_M_as 8 = .ok (.iload_n 2, 1) := by decide +kernel
theorem d_M_as_9 : decode c_M_as 9 = .ok (.iconst 0, 1) := by decide +kernel
theorem d_M_as_10 : decode c_M_as 10 = .ok (.iconst 5, 1) := by decide +kernel
theorem d_M_as_11 : decode c_M_as 11 = .ok (.invokestatic 49, 3) := by decide +kernel
theorem d_M_as_14 : decode c_M_as 14 = .ok (.ifCond .ne 9, 3) := by decide +kernel
theorem d_M_as_17 : decode c_M_as 17 = .ok (.aload_n 0, 1) := by decide +kernel
theorem d_M_as_18 : decode c_M_as 18 = .ok (.iconst 0, 1) := by decide +kernel
theorem d_M_as_19 : decode c_M_as 19 = .ok (.invokevirtual 92, 3) := by decide +kernel
theorem d_M_as_22 : decode c_M_as 22 = .ok (.ireturn, 1) := by decide +kernel
theorem d_M_as_23 : decode c_M_as 23 = .ok (.aload_n 0, 1) := by decide +kernel
theorem d_M_as_24 : decode c_M_as 24 = .ok (.iload_n 1, 1) := by decide +kernel
theorem d_M_as_25 : decode c_M_as 25 = .ok (.iconst 0, 1) := by decide +kernel
theorem d_M_as_26 : decode c_M_as 26 = .ok (.invokevirtual 53, 3) := by decide +kernel
theorem d_M_as_29 : decode c_M_as 29 = .ok (.istore_n 3, 1) := by decide +kernel
theorem d_M_as_30 : decode c_M_as 30 = .ok (.iload_n 3, 1) := by decide +kernel
theorem d_M_as_31 : decode c_M_as 31 = .ok (.iload_n 2, 1) := by decide +kernel
theorem d_M_as_32 : decode c_M_as 32 = .ok (.if_icmp .eq 30, 3) := by decide +kernel
theorem d_M_as_35 : decode c_M_as 35 = .ok (.iload_n 3, 1) := by decide +kernel
theorem d_M_as_36 : decode c_M_as 36 = .ok (.ifCond .eq 26, 3) := by decide +kernel
theorem d_M_as_39 : decode c_M_as 39 = .ok (.iload_n 3, 1) := by decide +kernel
theorem d_M_as_40 : decode c_M_as 40 = .ok (.iconst 4, 1) := by decide +kernel
theorem d_M_as_41 : decode c_M_as 41 = .ok (.if_icmp .ne 7, 3) := by decide +kernel
theorem d_M_as_44 : decode c_M_as 44 = .ok (.iconst 1, 1) := by decide +kernel
theorem d_M_as_45 : decode c_M_as 45 = .ok (.goto 13, 3) := by decide +kernel
theorem d_M_as_48 : decode c_M_as 48 = .ok (.iload_n 3, 1) := by decide +kernel
theorem d_M_as_49 : decode c_M_as 49 = .ok (.iconst 5, 1) := by decide +kernel
theorem d_M_as_50 : decode c_M_as 50 = .ok (.if_icmp .ne 7, 3) := by decide +kernel
theorem d_M_as_53 : decode c_M_as 53 = .ok (.iconst 2, 1) := by decide +kernel
theorem d_M_as_54 : decode c_M_as 54 = .ok (.goto 4, 3) := by decide +kernel
theorem d_M_as_57 : decode c_M_as 57 = .ok (.iconst 0, 1) := by decide +kernel
theorem d_M_as_58 : decode c_M_as 58 = .ok (.istore_n 3, 1) := by decide +kernel
theorem d_M_as_59 : decode c_M_as 59 = .ok (.goto (-29), 3) := by decide +kernel
theorem d_M_as_62 : decode c_M_as 62 = .ok (.iload_n 3, 1) := by decide +kernel
theorem d_M_as_63 : decode c_M_as 63 = .ok (.iload_n 2, 1) := by decide +kernel
theorem d_M_as_64 : decode c_M_as 64 = .ok (.if_icmp .ne 12, 3) := by decide +kernel
theorem d_M_as_67 : decode c_M_as 67 = .ok (.aload_n 0, 1) := by decide +kernel
theorem d_M_as_68 : decode c_M_as 68 = .ok (.iload_n 1, 1) := by decide +kernel
theorem d_M_as_69 : decode c_M_as 69 = .ok (.iconst 3, 1) := by decide +kernel
theorem d_M_as_70 : decode c_M_as 70 = .ok (.invokevirtual 53, 3) := by decide +kernel
theorem d_M_as_73 : decode c_M_as 73 = .ok (.goto 8, 3) := by decide +kernel
theorem d_M_as_76 : decode c_M_as 76 = .ok (.aload_n 0, 1) := by decide +kernel
theorem d_M_as_77 : decode c_M_as 77 = .ok (.iconst 2, 1) := by decide +kernel
theorem d_M_as_78 : decode c_M_as 78 = .ok (.invokevirtual 92, 3) := by decide +kernel
theorem d_M_as_81 : decode c_M_as 81 = .ok (.ireturn, 1) := by decide +kernel
theorem d_M_rollsOut_0 : decode c_M_rollsOut 0 = .ok (.aload_n 0, 1) := by decide +kernel
theorem d_M_rollsOut_1 : decode c_M_rollsOut 1 = .ok (.getfield 9, 3) := by decide +kernel
theorem d_M_rollsOut_4 : decode c_M_rollsOut 4 = .ok (.iconst 1, 1) := by decide +kernel
theorem d_M_rollsOut_5 : decode c_M_rollsOut 5 = .ok (.ldc 119, 2) := by decide +kernel
theorem d_M_rollsOut_7 : decode c_M_rollsOut 7 = .ok (.aload_n 0, 1) := by decide +kernel
theorem d_M_rollsOut_8 : decode c_M_rollsOut 8 = .ok (.getfield 9, 3) := by decide +kernel
theorem d_M_rollsOut_11 : decode c_M_rollsOut 11 = .ok (.iconst 1, 1) := by decide +kernel
theorem d_M_rollsOut_12 : decode c_M_rollsOut 12 = .ok (.iaload, 1) := by decide +kernel
theorem d_M_rollsOut_13 : decode c_M_rollsOut 13 = .ok (.iconst 1, 1) := by decide +kernel
theorem d_M_rollsOut_14 : decode c_M_rollsOut 14 = .ok (.iadd, 1) := by decide +kernel
theorem d_M_rollsOut_15 : decode c_M_rollsOut 15 = .ok (.invokestatic 85, 3) := by decide +kernel
theorem d_M_rollsOut_18 : decode c_M_rollsOut 18 = .ok (.iastore, 1) := by decide +kernel
theorem d_M_rollsOut_19 : decode c_M_rollsOut 19 = .ok (.aload_n 0, 1) := by decide +kernel
theorem d_M_rollsOut_20 : decode c_M_rollsOut 20 = .ok (.iload_n 1, 1) := by decide +kernel
theorem d_M_rollsOut_21 : decode c_M_rollsOut 21 = .ok (.iconst 5, 1) := by decide +kernel
theorem d_M_rollsOut_22 : decode c_M_rollsOut 22 = .ok (.iload_n 2, 1) := by decide +kernel
theorem d_M_rollsOut_23 : decode c_M_rollsOut 23 = .ok (.invokevirtual 78, 3) := by decide +kernel
theorem d_M_rollsOut_26 : decode c_M_rollsOut 26 = .ok (.aload_n 0, 1) := by decide +kernel
theorem d_M_rollsOut_27 : decode c_M_rollsOut 27 = .ok (.iload_n 1, 1) := by decide +kernel
theorem d_M_rollsOut_28 : decode c_M_rollsOut 28 = .ok (.bipush 6, 2) := by decide +kernel
theorem d_M_rollsOut_30 : decode c_M_rollsOut 30 = .ok (.aload_n 0, 1) := by decide +kernel
theorem d_M_rollsOut_31 : decode c_M_rollsOut 31 = .ok (.getfield 9, 3) := by decide +kernel
theorem d_M_rollsOut_34 : decode c_M_rollsOut 34 = .ok (.iconst 1, 1) := by decide +kernel
theorem d_M_rollsOut_35 : decode c_M_rollsOut 35 = .ok (.iaload, 1) := by decide +kernel
theorem d_M_rollsOut_36 : decode c_M_rollsOut 36 = .ok (.invokevirtual 78, 3) := by decide +kernel
theorem d_M_rollsOut_39 : decode c_M_rollsOut 39 = .ok (.return_, 1) := by decide +kernel
theorem d_M_roll_0 : decode c_M_roll 0 = .ok (.aload_n 0, 1) := by decide +kernel
theorem d_M_roll_1 : decode c_M_roll 1 = .ok (.iload_n 1, 1) := by decide +kernel
theorem d_M_roll_2 : decode c_M_roll 2 = .ok (.invokevirtual 113, 3) := by decide +kernel
theorem d_M_roll_5 : decode c_M_roll 5 = .ok (.ifCond .eq 10, 3) := by decide +kernel
theorem d_M_roll_8 : decode c_M_roll 8 = .ok (.iload_n 2, 1) := by decide +kernel
theorem d_M_roll_9 : decode c_M_roll 9 = .ok (.invokestatic 95, 3) := by decide +kernel
theorem d_M_roll_12 : decode c_M_roll 12 = .ok (.ifCond .ne 9, 3) := by decide +kernel
theorem d_M_roll_15 : decode c_M_roll 15 = .ok (.aload_n 0, 1) := by decide +kernel
theorem d_M_roll_16 : decode c_M_roll 16 = .ok (.iconst 0, 1) := by decide +kernel
theorem d_M_roll_17 : decode c_M_roll 17 = .ok (.invokevirtual 92, 3) := by decide +kernel
theorem d_M_roll_20 : decode c_M_roll 20 = .ok (.ireturn, 1) := by decide +kernel
theorem d_M_roll_21 : decode c_M_roll 21 = .ok (.aload_n 0, 1) := by decide +kernel
theorem d_M_roll_22 : decode c_M_roll 22 = .ok (.iload_n 1, 1) := by decide +kernel
theorem d_M_roll_23 : decode c_M_roll 23 = .ok (.iconst 3, 1) := by decide +kernel
theorem d_M_roll_24 : decode c_M_roll 24 = .ok (.invokevirtual 53, 3) := by decide +kernel
theorem d_M_roll_27 : decode c_M_roll 27 = .ok (.ifCond .ne 9, 3) := by decide +kernel
theorem d_M_roll_30 : decode c_M_roll 30 = .ok (.aload_n 0, 1) := by decide +kernel
theorem d_M_roll_31 : decode c_M_roll 31 = .ok (.iconst 4, 1) := by decide +kernel
theorem d_M_roll_32 : decode c_M_roll 32 = .ok (.invokevirtual 92, 3) := by decide +kernel
theorem d_M_roll_35 : decode c_M_roll 35 = .ok (.ireturn, 1) := by decide +kernel
theorem d_M_roll_36 : decode c_M_roll 36 = .ok (.aload_n 0, 1) := by decide +kernel
theorem d_M_roll_37 : decode c_M_roll 37 = .ok (.iload_n 1, 1) := by decide +kernel
theorem d_M_roll_38 : decode c_M_roll 38 = .ok (.iload_n 2, 1) := by decide +kernel
theorem d_M_roll_39 : decode c_M_roll 39 = .ok (.invokevirtual 120, 3) := by decide +kernel
theorem d_M_roll_42 : decode c_M_roll 42 = .ok (.aload_n 0, 1) := by decide +kernel
theorem d_M_roll_43 : decode c_M_roll 43 = .ok (.iload_n 1, 1) := by decide +kernel
theorem d_M_roll_44 : decode c_M_roll 44 = .ok (.invokevirtual 61, 3) := by decide +kernel
theorem d_M_roll_47 : decode c_M_roll 47 = .ok (.bipush 40, 2) := by decide +kernel
theorem d_M_roll_49 : decode c_M_roll 49 = .ok (.iload_n 2, 1) := by decide +kernel
theorem d_M_roll_50 : decode c_M_roll 50 = .ok (.isub, 1) := by decide +kernel
theorem d_M_roll_51 : decode c_M_roll 51 = .ok (.invokestatic 85, 3) := by decide +kernel
theorem d_M_roll_54 : decode c_M_roll 54 = .ok (.ireturn, 1) := by decide +kernel
theorem d_M_up_0 : decode c_M_up 0 = .ok (.aload_n 0, 1) := by decide +kernel
theorem d_M_up_1 : decode c_M_up 1 = .ok (.iload_n 1, 1) := by decide +kernel
theorem d_M_up_2 : decode c_M_up 2 = .ok (.invokevirtual 113, 3) := by decide +kernel
theorem d_M_up_5 : decode c_M_up 5 = .ok (.ifCond .ne 9, 3) := by decide +kernel
theorem d_M_up_8 : decode c_M_up 8 = .ok (.aload_n 0, 1) := by decide +kernel
theorem d_M_up_9 : decode c_M_up 9 = .ok (.iconst 0, 1) := by decide +kernel
theorem d_M_up_10 : decode c_M_up 10 = .ok (.invokevirtual 92, 3) := by decide +kernel
theorem d_M_up_13 : decode c_M_up 13 = .ok (.ireturn, 1) := by decide +kernel
theorem d_M_up_14 : decode c_M_up 14 = .ok (.aload_n 0, 1) := by decide +kernel
theorem d_M_up_15 : decode c_M_up 15 = .ok (.iload_n 1, 1) := by decide +kernel
theorem d_M_up_16 : decode c_M_up 16 = .ok (.iconst 5, 1) := by decide +kernel
theorem d_M_up_17 : decode c_M_up 17 = .ok (.invokevirtual 53, 3) := by decide +kernel
theorem d_M_up_20 : decode c_M_up 20 = .ok (.istore_n 2, 1) := by decide +kernel
theorem d_M_up_21 : decode c_M_up 21 = .ok (.iload_n 2, 1) := by decide +kernel
theorem d_M_up_22 : decode c_M_up 22 = .ok (.ifCond .ge 9, 3) := by decide +kernel
theorem d_M_up_25 : decode c_M_up 25 = .ok (.aload_n 0, 1) := by decide +kernel
theorem d_M_up_26 : decode c_M_up 26 = .ok (.iconst 4, 1) := by decide +kernel
theorem d_M_up_27 : decode c_M_up 27 = .ok (.invokevirtual 92, 3) := by decide +kernel
theorem d_M_up_30 : decode c_M_up 30 = .ok (.ireturn, 1) := by decide +kernel
theorem d_M_up_31 : decode c_M_up 31 = .ok (.aload_n 0, 1) := by decide +kernel
theorem d_M_up_32 : decode c_M_up 32 = .ok (.iload_n 1, 1) := by decide +kernel
theorem d_M_up_33 : decode c_M_up 33 = .ok (.iconst 5, 1) := by decide +kernel
theorem d_M_up_34 : decode c_M_up 34 = .ok (.iconst (-1), 1) := by decide +kernel
theorem d_M_up_35 : decode c_M_up 35 = .ok (.invokevirtual 78, 3) := by decide +kernel
theorem d_M_up_38 : decode c_M_up 38 = .ok (.iload_n 2, 1) := by decide +kernel
theorem d_M_up_39 : decode c_M_up 39 = .ok (.ireturn, 1) := by decide +kernel
theorem d_M_beat_0 : decode c_M_beat 0 = .ok (.aload_n 0, 1) := by decide +kernel
theorem d_M_beat_1 : decode c_M_beat 1 = .ok (.iload_n 1, 1) := by decide +kernel
theorem d_M_beat_2 : decode c_M_beat 2 = .ok (.invokevirtual 113, 3) := by decide +kernel
theorem d_M_beat_5 : decode c_M_beat 5 = .ok (.ifCond .ne 9, 3) := by decide +kernel
theorem d_M_beat_8 : decode c_M_beat 8 = .ok (.aload_n 0, 1) := by decide +kernel
theorem d_M_beat_9 : decode c_M_beat 9 = .ok (.iconst 0, 1) := by decide +kernel
theorem d_M_beat_10 : decode c_M_beat 10 = .ok (.invokevirtual 92, 3) := by decide +kernel
theorem d_M_beat_13 : decode c_M_beat 13 = .ok (.ireturn, 1) := by decide +kernel
theorem d_M_beat_14 : decode c_M_beat 14 = .ok (.aload_n 0, 1) := by decide +kernel
theorem d_M_beat_15 : decode c_M_beat 15 = .ok (.iload_n 1, 1) := by decide +kernel
theorem d_M_beat_16 : decode c_M_beat 16 = .ok (.iconst 3, 1) := by decide +kernel
theorem d_M_beat_17 : decode c_M_beat 17 = .ok (.bipush 99, 2) := by decide +kernel
theorem d_M_beat_19 : decode c_M_beat 19 = .ok (.aload_n 0, 1) := by decide +kernel
theorem d_M_beat_20 : decode c_M_beat 20 = .ok (.iload_n 1, 1) := by decide +kernel
theorem d_M_beat_21 : decode c_M_beat 21 = .ok (.iconst 3, 1) := by decide +kernel
theorem d_M_beat_22 : decode c_M_beat 22 = .ok (.invokevirtual 53, 3) := by decide +kernel
theorem d_M_beat_25 : decode c_M_beat 25 = .ok (.aload_n 0, 1) := by decide +kernel
theorem d_M_beat_26 : decode c_M_beat 26 = .ok (.iload_n 1, 1) := by decide +kernel
theorem d_M_beat_27 : decode c_M_beat 27 = .ok (.invokevirtual 116, 3) := by decide +kernel
theorem d_M_beat_30 : decode c_M_beat 30 = .ok (.iadd, 1) := by decide +kernel
theorem d_M_beat_31 : decode c_M_beat 31 = .ok (.invokestatic 85, 3) := by decide +kernel
theorem d_M_beat_34 : decode c_M_beat 34 = .ok (.invokevirtual 78, 3) := by decide +kernel
theorem d_M_beat_37 : decode c_M_beat 37 = .ok (.aload_n 0, 1) := by decide +kernel
theorem d_M_beat_38 : decode c_M_beat 38 = .ok (.iload_n 1, 1) := by decide +kernel
theorem d_M_beat_39 : decode c_M_beat 39 = .ok (.iconst 4, 1) := by decide +kernel
theorem d_M_beat_40 : decode c_M_beat 40 = .ok (.iconst 0, 1) := by decide +kernel
theorem d_M_beat_41 : decode c_M_beat 41 = .ok (.invokevirtual 78, 3) := by decide +kernel
theorem d_M_beat_44 : decode c_M_beat 44 = .ok (.aload_n 0, 1) := by decide +kernel
theorem d_M_beat_45 : decode c_M_beat 45 = .ok (.iload_n 1, 1) := by decide +kernel
theorem d_M_beat_46 : decode c_M_beat 46 = .ok (.iconst 3, 1) := by decide +kernel
theorem d_M_beat_47 : decode c_M_beat 47 = .ok (.invokevirtual 53, 3) := by decide +kernel
theorem d_M_beat_50 : decode c_M_beat 50 = .ok (.ireturn, 1) := by decide +kernel
theorem d_M_days_0 : decode c_M_days 0 = .ok (.iload_n 1, 1) := by decide +kernel
theorem d_M_days_1 : decode c_M_days 1 = .ok (.iconst 1, 1) := by decide +kernel
theorem d_M_days_2 : decode c_M_days 2 = .ok (.bipush 60, 2) := by decide +kernel
theorem d_M_days_4 : decode c_M_days 4 = .ok (.invokestatic 49, 3) := by decide +kernel
theorem d_M_days_7 : decode c_M_days 7 = .ok (.ifCond .ne 9, 3) := by decide +kernel
theorem d_M_days_10 : decode c_M_days 10 = .ok (.aload_n 0, 1) := by decide +kernel
theorem d_M_days_11 : decode c_M_days 11 = .ok (.iconst 0, 1) := by decide +kernel
theorem d_M_days_12 : decode c_M_days 12 = .ok (.invokevirtual 92, 3) := by decide +kernel
theorem d_M_days_15 : decode c_M_days 15 = .ok (.ireturn, 1) := by decide +kernel
theorem d_M_days_16 : decode c_M_days 16 = .ok (.aload_n 0, 1) := by decide +kernel
theorem d_M_days_17 : decode c_M_days 17 = .ok (.getfield 9, 3) := by decide +kernel
theorem d_M_days_20 : decode c_M_days 20 = .ok (.iconst 0, 1) := by decide +kernel
theorem d_M_days_21 : decode c_M_days 21 = .ok (.iaload, 1) := by decide +kernel
theorem d_M_days_22 : decode c_M_days 22 = .ok (.iload_n 1, 1) := by decide +kernel
theorem d_M_days_23 : decode c_M_days 23 = .ok (.iadd, 1) := by decide +kernel
theorem d_M_days_24 : decode c_M_days 24 = .ok (.sipush 9999, 3) := by decide +kernel
theorem d_M_days_27 : decode c_M_days 27 = .ok (.if_icmp .le 9, 3) := by decide +kernel
theorem d_M_days_30 : decode c_M_days 30 = .ok (.aload_n 0, 1) := by decide +kernel
theorem d_M_days_31 : decode c_M_days 31 = .ok (.iconst 4, 1) := by decide +kernel
theorem d_M_days_32 : decode c_M_days 32 = .ok (.invokevirtual 92, 3) := by decide +kernel
theorem d_M_days_35 : decode c_M_days 35 = .ok (.ireturn, 1) := by decide +kernel
theorem d_M_days_36 : decode c_M_days 36 = .ok (.aload_n 0, 1) := by decide +kernel
theorem d_M_days_37 : decode c_M_days 37 = .ok (.iload_n 1, 1) := by decide +kernel
theorem d_M_days_38 : decode c_M_days 38 = .ok (.invokevirtual 123, 3) := by decide +kernel
theorem d_M_days_41 : decode c_M_days 41 = .ok (.aload_n 0, 1) := by decide +kernel
theorem d_M_days_42 : decode c_M_days 42 = .ok (.invokevirtual 102, 3) := by decide +kernel
theorem d_M_days_45 : decode c_M_days 45 = .ok (.ireturn, 1) := by decide +kernel
theorem d_M_on_0 : decode c_M_on 0 = .ok (.aload_n 0, 1) := by decide +kernel
theorem d_M_on_1 : decode c_M_on 1 = .ok (.iload_n 1, 1) := by decide +kernel
theorem d_M_on_2 : decode c_M_on 2 = .ok (.invokevirtual 113, 3) := by decide +kernel
theorem d_M_on_5 : decode c_M_on 5 = .ok (.ifCond .eq 23, 3) := by decide +kernel
theorem d_M_on_8 : decode c_M_on 8 = .ok (.iload_n 2, 1) := by decide +kernel
theorem d_M_on_9 : decode c_M_on 9 = .ok (.iconst 0, 1) := by decide +kernel
theorem d_M_on_10 : decode c_M_on 10 = .ok (.sipush 200, 3) := by decide +kernel
theorem d_M_on_13 : decode c_M_on 13 = .ok (.invokestatic 49, 3) := by decide +kernel
theorem d_M_on_16 : decode c_M_on 16 = .ok (.ifCond .eq 12, 3) := by decide +kernel
theorem d_M_on_19 : decode c_M_on 19 = .ok (.iload_n 3, 1) := by decide +kernel
theorem d_M_on_20 : decode c_M_on 20 = .ok (.iconst 0, 1) := by decide +kernel
theorem d_M_on_21 : decode c_M_on 21 = .ok (.iconst 2, 1) := by decide +kernel
theorem d_M_on_22 : decode c_M_on 22 = .ok (.invokestatic 49, 3) := by decide +kernel
theorem d_M_on_25 : decode c_M_on 25 = .ok (.ifCond .ne 9, 3) := by decide +kernel
theorem d_M_on_28 : decode c_M_on 28 = .ok (.aload_n 0, 1) := by decide +kernel
theorem d_M_on_29 : decode c_M_on 29 = .ok (.iconst 0, 1) := by decide +kernel
theorem d_M_on_30 : decode c_M_on 30 = .ok (.invokevirtual 92, 3) := by decide +kernel
theorem d_M_on_33 : decode c_M_on 33 = .ok (.ireturn, 1) := by decide +kernel
theorem d_M_on_34 : decode c_M_on 34 = .ok (.aload_n 0, 1) := by decide +kernel
theorem d_M_on_35 : decode c_M_on 35 = .ok (.invokevirtual 126, 3) := by decide +kernel
theorem d_M_on_38 : decode c_M_on 38 = .ok (.aload_n 0, 1) := by decide +kernel
theorem d_M_on_39 : decode c_M_on 39 = .ok (.iload_n 2, 1) := by decide +kernel
theorem d_M_on_40 : decode c_M_on 40 = .ok (.invokevirtual 123, 3) := by decide +kernel
theorem d_M_on_43 : decode c_M_on 43 = .ok (.aload_n 0, 1) := by decide +kernel
theorem d_M_on_44 : decode c_M_on 44 = .ok (.iload_n 1, 1) := by decide +kernel
theorem d_M_on_45 : decode c_M_on 45 = .ok (.iconst 3, 1) := by decide +kernel
theorem d_M_on_46 : decode c_M_on 46 = .ok (.iload_n 3, 1) := by decide +kernel
theorem d_M_on_47 : decode c_M_on 47 = .ok (.iadd, 1) := by decide +kernel
theorem d_M_on_48 : decode c_M_on 48 = .ok (.invokevirtual 53, 3) := by decide +kernel
theorem d_M_on_51 : decode c_M_on 51 = .ok (.istore 4, 2) := by decide +kernel
theorem d_M_on_53 : decode c_M_on 53 = .ok (.aload_n 0, 1) := by decide +kernel
theorem d_M_on_54 : decode c_M_on 54 = .ok (.invokevirtual 129, 3) := by decide +kernel
theorem d_M_on_57 : decode c_M_on 57 = .ok (.iload 4, 2) := by decide +kernel
theorem d_M_on_59 : decode c_M_on 59 = .ok (.ireturn, 1) := by decide +kernel
theorem d_M_hasThen_0 : decode c_M_hasThen 0 = .ok (.aload_n 0, 1) := by decide +kernel
theorem d_M_hasThen_1 : decode c_M_hasThen 1 = .ok (.iload_n 2, 1) := by decide +kernel
theorem d_M_hasThen_2 : decode c_M_hasThen 2 = .ok (.invokevirtual 123, 3) := by decide +kernel
theorem d_M_hasThen_5 : decode c_M_hasThen 5 = .ok (.aload_n 0, 1) := by decide +kernel
theorem d_M_hasThen_6 : decode c_M_hasThen 6 = .ok (.iload_n 1, 1) := by decide +kernel
theorem d_M_hasThen_7 : decode c_M_hasThen 7 = .ok (.invokevirtual 99, 3) := by decide +kernel
theorem d_M_hasThen_10 : decode c_M_hasThen 10 = .ok (.istore_n 3, 1) := by decide +kernel
theorem d_M_hasThen_11 : decode c_M_hasThen 11 = .ok (.aload_n 0, 1) := by decide +kernel
theorem d_M_hasThen_12 : decode c_M_hasThen 12 = .ok (.invokevirtual 129, 3) := by decide +kernel
theorem d_M_hasThen_15 : decode c_M_hasThen 15 = .ok (.iload_n 3, 1) := by decide +kernel
theorem d_M_hasThen_16 : decode c_M_hasThen 16 = .ok (.ireturn, 1) := by decide +kernel
theorem d_M_ownsOn_0 : decode c_M_ownsOn 0 = .ok (.iload_n 1, 1) := by decide +kernel
theorem d_M_ownsOn_1 : decode c_M_ownsOn 1 = .ok (.iconst (-1), 1) := by decide +kernel
theorem d_M_ownsOn_2 : decode c_M_ownsOn 2 = .ok (.iconst 3, 1) := by decide +kernel
theorem d_M_ownsOn_3 : decode c_M_ownsOn 3 = .ok (.invokestatic 49, 3) := by decide +kernel
theorem d_M_ownsOn_6 : decode c_M_ownsOn 6 = .ok (.ifCond .eq 14, 3) := by decide +kernel
theorem d_M_ownsOn_9 : decode c_M_ownsOn 9 = .ok (.iload_n 2, 1) := by decide +kernel
theorem d_M_ownsOn_10 : decode c_M_ownsOn 10 = .ok (.iconst 0, 1) := by decide +kernel
theorem d_M_ownsOn_11 : decode c_M_ownsOn 11 = .ok (.sipush 200, 3) := by decide +kernel
theorem d_M_ownsOn_14 : decode c_M_ownsOn 14 = .ok (.invokestatic 49, 3) := by decide +kernel
theorem d_M_ownsOn_17 : decode c_M_ownsOn 17 = .ok (.ifCond .ne 9, 3) := by decide +kernel
theorem d_M_ownsOn_20 : decode c_M_ownsOn 20 = .ok (.aload_n 0, 1) := by decide +kernel
theorem d_M_ownsOn_21 : decode c_M_ownsOn 21 = .ok (.iconst 0, 1) := by decide +kernel
theorem d_M_ownsOn_22 : decode c_M_ownsOn 22 = .ok (.invokevirtual 92, 3) := by decide +kernel
theorem d_M_ownsOn_25 : decode c_M_ownsOn 25 = .ok (.ireturn, 1) := by decide +kernel
theorem d_M_ownsOn_26 : decode c_M_ownsOn 26 = .ok (.aload_n 0, 1) := by decide +kernel
theorem d_M_ownsOn_27 : decode c_M_ownsOn 27 = .ok (.invokevirtual 126, 3) := by decide +kernel
theorem d_M_ownsOn_30 : decode c_M_ownsOn 30 = .ok (.aload_n 0, 1) := by decide +kernel
theorem d_M_ownsOn_31 : decode c_M_ownsOn 31 = .ok (.iload_n 1, 1) := by decide +kernel
theorem d_M_ownsOn_32 : decode c_M_ownsOn 32 = .ok (.iload_n 2, 1) := by decide +kernel
theorem d_M_ownsOn_33 : decode c_M_ownsOn 33 = .ok (.invokevirtual 132, 3) := by decide +kernel
theorem d_M_ownsOn_36 : decode c_M_ownsOn 36 = .ok (.ireturn, 1) := by decide +kernel
theorem d_M_firstBy_0 : decode c_M_firstBy 0 = .ok (.iconst 0, 1) := by decide +kernel
theorem d_M_firstBy_1 : decode c_M_firstBy 1 = .ok (.istore 4, 2) := by decide +kernel
theorem d_M_firstBy_3 : decode c_M_firstBy 3 = .ok (.iconst 0, 1) := by decide +kernel
theorem d_M_firstBy_4 : decode c_M_firstBy 4 = .ok (.istore 5, 2) := by decide +kernel
theorem d_M_firstBy_6 : decode c_M_firstBy 6 = .ok (.iload 4, 2) := by decide +kernel
theorem d_M_firstBy_8 : decode c_M_firstBy 8 = .ok (.sipush 400, 3) := by decide +kernel
theorem d_M_firstBy_11 : decode c_M_firstBy 11 = .ok (.if_icmp .gt 99, 3) := by decide +kernel
theorem d_M_firstBy_14 : decode c_M_firstBy 14 = .ok (.iload 5, 2) := by decide +kernel
theorem d_M_firstBy_16 : decode c_M_firstBy 16 = .ok (.ifCond .ne 94, 3) := by decide +kernel
theorem d_M_firstBy_19 : decode c_M_firstBy 19 = .ok (.iload_n 1, 1) := by decide +kernel
theorem d_M_firstBy_20 : decode c_M_firstBy 20 = .ok (.ifCond .ne 20, 3) := by decide +kernel
theorem d_M_firstBy_23 : decode c_M_firstBy 23 = .ok (.aload_n 0, 1) := by decide +kernel
theorem d_M_firstBy_24 : decode c_M_firstBy 24 = .ok (.iload_n 2, 1) := by decide +kernel
theorem d_M_firstBy_25 : decode c_M_firstBy 25 = .ok (.iconst 5, 1) := by decide +kernel
theorem d_M_firstBy_26 : decode c_M_firstBy 26 = .ok (.invokevirtual 53, 3) := by decide +kernel
theorem d_M_firstBy_29 : decode c_M_firstBy 29 = .ok (.ifCond .ge 7, 3) := by decide +kernel
theorem d_M_firstBy_32 : decode c_M_firstBy 32 = .ok (.iconst 1, 1) := by decide +kernel
theorem d_M_firstBy_33 : decode c_M_firstBy 33 = .ok (.goto 43, 3) := by decide +kernel
theorem d_M_firstBy_36 : decode c_M_firstBy 36 = .ok (.iconst 0, 1) := by decide +kernel
theorem d_M_firstBy_37 : decode c_M_firstBy 37 = .ok (.goto 39, 3) := by decide +kernel
theorem d_M_firstBy_40 : decode c_M_firstBy 40 = .ok (.iload_n 1, 1) := by decide +kernel
theorem d_M_firstBy_41 : decode c_M_firstBy 41 = .ok (.iconst 1, 1) := by decide +kernel
theorem d_M_firstBy_42 : decode c_M_firstBy 42 = .ok (.if_icmp .ne 20, 3) := by decide +kernel
theorem d_M_firstBy_45 : decode c_M_firstBy 45 = .ok (.aload_n 0, 1) := by decide +kernel
theorem d_M_firstBy_46 : decode c_M_firstBy 46 = .ok (.iload_n 2, 1) := by decide +kernel
theorem d_M_firstBy_47 : decode c_M_firstBy 47 = .ok (.iconst 3, 1) := by decide +kernel
theorem d_M_firstBy_48 : decode c_M_firstBy 48 = .ok (.invokevirtual 53, 3) := by decide +kernel
theorem d_M_firstBy_51 : decode c_M_firstBy 51 = .ok (.ifCond .ne 7, 3) := by decide +kernel
theorem d_M_firstBy_54 : decode c_M_firstBy 54 = .ok (.iconst 1, 1) := by decide +kernel
theorem d_M_firstBy_55 : decode c_M_firstBy 55 = .ok (.goto 21, 3) := by decide +kernel
theorem d_M_firstBy_58 : decode c_M_firstBy 58 = .ok (.iconst 0, 1) := by decide +kernel
theorem d_M_firstBy_59 : decode c_M_firstBy 59 = .ok (.goto 17, 3) := by decide +kernel
theorem d_M_firstBy_62 : decode c_M_firstBy 62 = .ok (.aload_n 0, 1) := by decide +kernel
theorem d_M_firstBy_63 : decode c_M_firstBy 63 = .ok (.iload_n 2, 1) := by decide +kernel
theorem d_M_firstBy_64 : decode c_M_firstBy 64 = .ok (.invokevirtual 72, 3) := by decide +kernel
theorem d_M_firstBy_67 : decode c_M_firstBy 67 = .ok (.iload_n 3, 1) := by decide +kernel
theorem d_M_firstBy_68 : decode c_M_firstBy 68 = .ok (.if_icmp .eq 7, 3) := by decide +kernel
theorem d_M_firstBy_71 : decode c_M_firstBy 71 = .ok (.iconst 1, 1) := by decide +kernel
theorem d_M_firstBy_72 : decode c_M_firstBy 72 = .ok (.goto 4, 3) := by decide +kernel
theorem d_M_firstBy_75 : decode c_M_firstBy 75 = .ok (.iconst 0, 1) := by decide +kernel
theorem d_M_firstBy_76 : decode c_M_firstBy 76 = .ok (.istore 5, 2) := by decide +kernel
theorem d_M_firstBy_78 : decode c_M_firstBy 78 = .ok (.aload_n 0, 1) := by decide +kernel
theorem d_M_firstBy_79 : decode c_M_firstBy 79 = .ok (.iload 5, 2) := by decide +kernel
theorem d_M_firstBy_81 : decode c_M_firstBy 81 = .ok (.ifCond .eq 7, 3) := by decide +kernel
theorem d_M_firstBy_84 : decode c_M_firstBy 84 = .ok (.iconst 0, 1) := by decide +kernel
theorem d_M_firstBy_85 : decode c_M_firstBy 85 = .ok (.goto 4, 3) := by decide +kernel
theorem d_M_firstBy_88 : decode c_M_firstBy 88 = .ok (.iconst 1, 1) := by decide +kernel
theorem d_M_firstBy_89 : decode c_M_firstBy 89 = .ok (.invokevirtual 123, 3) := by decide +kernel
theorem d_M_firstBy_92 : decode c_M_firstBy 92 = .ok (.iload 4, 2) := by decide +kernel
theorem d_M_firstBy_94 : decode c_M_firstBy 94 = .ok (.iload 5, 2) := by decide +kernel
theorem d_M_firstBy_96 : decode c_M_firstBy 96 = .ok (.ifCond .eq 7, 3) := by decide +kernel
theorem d_M_firstBy_99 : decode c_M_firstBy 99 = .ok (.iconst 0, 1) := by decide +kernel
theorem d_M_firstBy_100 : decode c_M_firstBy 100 = .ok (.goto 4, 3) := by decide +kernel
theorem d_M_firstBy_103 : decode c_M_firstBy 103 = .ok (.iconst 1, 1) := by decide +kernel
theorem d_M_firstBy_104 : decode c_M_firstBy 104 = .ok (.iadd, 1) := by decide +kernel
theorem d_M_firstBy_105 : decode c_M_firstBy 105 = .ok (.istore 4, 2) := by decide +kernel
theorem d_M_firstBy_107 : decode c_M_firstBy 107 = .ok (.goto (-101), 3) := by decide +kernel
theorem d_M_firstBy_110 : decode c_M_firstBy 110 = .ok (.aload_n 0, 1) := by decide +kernel
theorem d_M_firstBy_111 : decode c_M_firstBy 111 = .ok (.invokevirtual 129, 3) := by decide +kernel
theorem d_M_firstBy_114 : decode c_M_firstBy 114 = .ok (.iload 4, 2) := by decide +kernel
theorem d_M_firstBy_116 : decode c_M_firstBy 116 = .ok (.ireturn, 1) := by decide +kernel
theorem d_M_orNone_0 : decode c_M_orNone 0 = .ok (.iload_n 1, 1) := by decide +kernel
theorem d_M_orNone_1 : decode c_M_orNone 1 = .ok (.sipush 400, 3) := by decide +kernel
theorem d_M_orNone_4 : decode c_M_orNone 4 = .ok (.if_icmp .le 11, 3) := by decide +kernel
theorem d_M_orNone_7 : decode c_M_orNone 7 = .ok (.aload_n 0, 1) := by decide +kernel
theorem d_M_orNone_8 : decode c_M_orNone 8 = .ok (.iconst 3, 1) := by decide +kernel
theorem d_M_orNone_9 : decode c_M_orNone 9 = .ok (.invokevirtual 92, 3) := by decide +kernel
theorem d_M_orNone_12 : decode c_M_orNone 12 = .ok (.goto 4, 3) := by decide +kernel
theorem d_M_orNone_15 : decode c_M_orNone 15 = .ok (.iload_n 1, 1) := by decide +kernel
theorem d_M_orNone_16 : decode c_M_orNone 16 = .ok (.ireturn, 1) := by decide +kernel
theorem d_M_ends_0 : decode c_M_ends 0 = .ok (.aload_n 0, 1) := by decide +kernel
theorem d_M_ends_1 : decode c_M_ends 1 = .ok (.iload_n 1, 1) := by decide +kernel
theorem d_M_ends_2 : decode c_M_ends 2 = .ok (.invokevirtual 113, 3) := by decide +kernel
theorem d_M_ends_5 : decode c_M_ends 5 = .ok (.ifCond .ne 9, 3) := by decide +kernel
theorem d_M_ends_8 : decode c_M_ends 8 = .ok (.aload_n 0, 1) := by decide +kernel
theorem d_M_ends_9 : decode c_M_ends 9 = .ok (.iconst 0, 1) := by decide +kernel
theorem d_M_ends_10 : decode c_M_ends 10 = .ok (.invokevirtual 92, 3) := by decide +kernel
theorem d_M_ends_13 : decode c_M_ends 13 = .ok (.ireturn, 1) := by decide +kernel
theorem d_M_ends_14 : decode c_M_ends 14 = .ok (.aload_n 0, 1) := by decide +kernel
theorem d_M_ends_15 : decode c_M_ends 15 = .ok (.invokevirtual 126, 3) := by decide +kernel
theorem d_M_ends_18 : decode c_M_ends 18 = .ok (.aload_n 0, 1) := by decide +kernel
theorem d_M_ends_19 : decode c_M_ends 19 = .ok (.aload_n 0, 1) := by decide +kernel
theorem d_M_ends_20 : decode c_M_ends 20 = .ok (.iconst 0, 1) := by decide +kernel
theorem d_M_ends_21 : decode c_M_ends 21 = .ok (.iload_n 1, 1) := by decide +kernel
theorem d_M_ends_22 : decode c_M_ends 22 = .ok (.iconst 0, 1) := by decide +kernel
theorem d_M_ends_23 : decode c_M_ends 23 = .ok (.invokevirtual 135, 3) := by decide +kernel
theorem d_M_ends_26 : decode c_M_ends 26 = .ok (.invokevirtual 139, 3) := by decide +kernel
theorem d_M_ends_29 : decode c_M_ends 29 = .ok (.ireturn, 1) := by decide +kernel
theorem d_M_bare_0 : decode c_M_bare 0 = .ok (.aload_n 0, 1) := by decide +kernel
theorem d_M_bare_1 : decode c_M_bare 1 = .ok (.iload_n 1, 1) := by decide +kernel
theorem d_M_bare_2 : decode c_M_bare 2 = .ok (.invokevirtual 113, 3) := by decide +kernel
theorem d_M_bare_5 : decode c_M_bare 5 = .ok (.ifCond .ne 9, 3) := by decide +kernel
theorem d_M_bare_8 : decode c_M_bare 8 = .ok (.aload_n 0, 1) := by decide +kernel
theorem d_M_bare_9 : decode c_M_bare 9 = .ok (.iconst 0, 1) := by decide +kernel
theorem d_M_bare_10 : decode c_M_bare 10 = .ok (.invokevirtual 92, 3) := by decide +kernel
theorem d_M_bare_13 : decode c_M_bare 13 = .ok (.ireturn, 1) := by decide +kernel
theorem d_M_bare_14 : decode c_M_bare 14 = .ok (.aload_n 0, 1) := by decide +kernel
theorem d_M_bare_15 : decode c_M_bare 15 = .ok (.invokevirtual 126, 3) := by decide +kernel
theorem d_M_bare_18 : decode c_M_bare 18 = .ok (.aload_n 0, 1) := by decide +kernel
theorem d_M_bare_19 : decode c_M_bare 19 = .ok (.aload_n 0, 1) := by decide +kernel
theorem d_M_bare_20 : decode c_M_bare 20 = .ok (.iconst 1, 1) := by decide +kernel
theorem d_M_bare_21 : decode c_M_bare 21 = .ok (.iload_n 1, 1) := by decide +kernel
theorem d_M_bare_22 : decode c_M_bare 22 = .ok (.iconst 0, 1) := by decide +kernel
theorem d_M_bare_23 : decode c_M_bare 23 = .ok (.invokevirtual 135, 3) := by decide +kernel
theorem d_M_bare_26 : decode c_M_bare 26 = .ok (.invokevirtual 139, 3) := by decide +kernel
theorem d_M_bare_29 : decode c_M_bare 29 = .ok (.ireturn, 1) := by decide +kernel
theorem d_M_changes_0 : decode c_M_changes 0 = .ok (.iload_n 1, 1) := by decide +kernel
theorem d_M_changes_1 : decode c_M_changes 1 = .ok (.invokestatic 95, 3) := by decide +kernel
theorem d_M_changes_4 : decode c_M_changes 4 = .ok (.ifCond .ne 9, 3) := by decide +kernel
theorem d_M_changes_7 : decode c_M_changes 7 = .ok (.aload_n 0, 1) := by decide +kernel
theorem d_M_changes_8 : decode c_M_changes 8 = .ok (.iconst 0, 1) := by decide +kernel
theorem d_M_changes_9 : decode c_M_changes 9 = .ok (.invokevirtual 92, 3) := by decide +kernel
theorem d_M_changes_12 : decode c_M_changes 12 = .ok (.ireturn, 1) := by decide +kernel
theorem d_M_changes_13 : decode c_M_changes 13 = .ok (.aload_n 0, 1) := by decide +kernel
theorem d_M_changes_14 : decode c_M_changes 14 = .ok (.invokevirtual 126, 3) := by decide +kernel
theorem d_M_changes_17 : decode c_M_changes 17 = .ok (.aload_n 0, 1) := by decide +kernel
theorem d_M_changes_18 : decode c_M_changes 18 = .ok (.aload_n 0, 1) := by decide +kernel
theorem d_M_changes_19 : decode c_M_changes 19 = .ok (.iconst 2, 1) := by decide +kernel
theorem d_M_changes_20 : decode c_M_changes 20 = .ok (.iload_n 1, 1) := by decide +kernel
theorem d_M_changes_21 : decode c_M_changes 21 = .ok (.aload_n 0, 1) := by decide +kernel
theorem d_M_changes_22 : decode c_M_changes 22 = .ok (.iload_n 1, 1) := by decide +kernel
theorem d_M_changes_23 : decode c_M_changes 23 = .ok (.invokevirtual 72, 3) := by decide +kernel
theorem d_M_changes_26 : decode c_M_changes 26 = .ok (.invokevirtual 135, 3) := by decide +kernel
theorem d_M_changes_29 : decode c_M_changes 29 = .ok (.invokevirtual 139, 3) := by decide +kernel
theorem d_M_changes_32 : decode c_M_changes 32 = .ok (.ireturn, 1) := by decide +kernel
theorem d_M_best_0 : decode c_M_best 0 = .ok (.aload_n 0, 1) := by decide +kernel
theorem d_M_best_1 : decode c_M_best 1 = .ok (.iload_n 1, 1) := by decide +kernel
theorem d_M_best_2 : decode c_M_best 2 = .ok (.invokevirtual 113, 3) := by decide +kernel
theorem d_M_best_5 : decode c_M_best 5 = .ok (.ifCond .eq 13, 3) := by decide +kernel
theorem d_M_best_8 : decode c_M_best 8 = .ok (.iload_n 2, 1) := by decide +kernel
theorem d_M_best_9 : decode c_M_best 9 = .ok (.iconst 0, 1) := by decide +kernel
theorem d_M_best_10 : decode c_M_best 10 = .ok (.bipush 60, 2) := by decide +kernel
theorem d_M_best_12 : decode c_M_best 12 = .ok (.invokestatic 49, 3) := by decide +kernel
theorem d_M_best_15 : decode c_M_best 15 = .ok (.ifCond .ne 9, 3) := by decide +kernel
theorem d_M_best_18 : decode c_M_best 18 = .ok (.aload_n 0, 1) := by decide +kernel
theorem d_M_best_19 : decode c_M_best 19 = .ok (.iconst 0, 1) := by decide +kernel
theorem d_M_best_20 : decode c_M_best 20 = .ok (.invokevirtual 92, 3) := by decide +kernel
theorem d_M_best_23 : decode c_M_best 23 = .ok (.ireturn, 1) := by decide +kernel
theorem d_M_best_24 : decode c_M_best 24 = .ok (.aload_n 0, 1) := by decide +kernel
theorem d_M_best_25 : decode c_M_best 25 = .ok (.iload_n 1, 1) := by decide +kernel
theorem d_M_best_26 : decode c_M_best 26 = .ok (.iconst 3, 1) := by decide +kernel
theorem d_M_best_27 : decode c_M_best 27 = .ok (.invokevirtual 53, 3) := by decide +kernel
theorem d_M_best_30 : decode c_M_best 30 = .ok (.ifCond .ne 9, 3) := by decide +kernel
theorem d_M_best_33 : decode c_M_best 33 = .ok (.aload_n 0, 1) := by decide +kernel
theorem d_M_best_34 : decode c_M_best 34 = .ok (.iconst 4, 1) := by decide +kernel
theorem d_M_best_35 : decode c_M_best 35 = .ok (.invokevirtual 92, 3) := by decide +kernel
theorem d_M_best_38 : decode c_M_best 38 = .ok (.ireturn, 1) := by decide +kernel
theorem d_M_best_39 : decode c_M_best 39 = .ok (.iconst 0, 1) := by decide +kernel
theorem d_M_best_40 : decode c_M_best 40 = .ok (.istore_n 3, 1) := by decide +kernel
theorem d_M_best_41 : decode c_M_best 41 = .ok (.iconst (-1), 1) := by decide +kernel
theorem d_M_best_42 : decode c_M_best 42 = .ok (.istore 4, 2) := by decide +kernel
theorem d_M_best_44 : decode c_M_best 44 = .ok (.iconst 0, 1) := by decide +kernel
theorem d_M_best_45 : decode c_M_best 45 = .ok (.istore 5, 2) := by decide +kernel
theorem d_M_best_47 : decode c_M_best 47 = .ok (.iload 5, 2) := by decide +kernel
theorem d_M_best_49 : decode c_M_best 49 = .ok (.bipush 40, 2) := by decide +kernel
theorem d_M_best_51 : decode c_M_best 51 = .ok (.if_icmp .ge 63, 3) := by decide +kernel
theorem d_M_best_54 : decode c_M_best 54 = .ok (.aload_n 0, 1) := by decide +kernel
theorem d_M_best_55 : decode c_M_best 55 = .ok (.invokevirtual 126, 3) := by decide +kernel
theorem d_M_best_58 : decode c_M_best 58 = .ok (.aload_n 0, 1) := by decide +kernel
theorem d_M_best_59 : decode c_M_best 59 = .ok (.iload_n 1, 1) := by decide +kernel
theorem d_M_best_60 : decode c_M_best 60 = .ok (.iload 5, 2) := by decide +kernel
theorem d_M_best_62 : decode c_M_best 62 = .ok (.invokevirtual 120, 3) := by decide +kernel
theorem d_M_best_65 : decode c_M_best 65 = .ok (.aload_n 0, 1) := by decide +kernel
theorem d_M_best_66 : decode c_M_best 66 = .ok (.aload_n 0, 1) := by decide +kernel
theorem d_M_best_67 : decode c_M_best 67 = .ok (.iload_n 1, 1) := by decide +kernel
theorem d_M_best_68 : decode c_M_best 68 = .ok (.iconst 1, 1) := by decide +kernel
theorem d_M_best_69 : decode c_M_best 69 = .ok (.invokevirtual 53, 3) := by decide +kernel
theorem d_M_best_72 : decode c_M_best 72 = .ok (.iload_n 2, 1) := by decide +kernel
theorem d_M_best_73 : decode c_M_best 73 = .ok (.invokevirtual 132, 3) := by decide +kernel
theorem d_M_best_76 : decode c_M_best 76 = .ok (.istore 6, 2) := by decide +kernel
theorem d_M_best_78 : decode c_M_best 78 = .ok (.iload 6, 2) := by decide +kernel
theorem d_M_best_80 : decode c_M_best 80 = .ok (.iload 4, 2) := by decide +kernel
theorem d_M_best_82 : decode c_M_best 82 = .ok (.if_icmp .le 8, 3) := by decide +kernel
theorem d_M_best_85 : decode c_M_best 85 = .ok (.iload 5, 2) := by decide +kernel
theorem d_M_best_87 : decode c_M_best 87 = .ok (.goto 4, 3) := by decide +kernel
theorem d_M_best_90 : decode c_M_best 90 = .ok (.iload_n 3, 1) := by decide +kernel
theorem d_M_best_91 : decode c_M_best 91 = .ok (.istore_n 3, 1) := by decide +kernel
theorem d_M_best_92 : decode c_M_best 92 = .ok (.iload 6, 2) := by decide +kernel
theorem d_M_best_94 : decode c_M_best 94 = .ok (.iload 4, 2) := by decide +kernel
theorem d_M_best_96 : decode c_M_best 96 = .ok (.if_icmp .le 8, 3) := by decide +kernel
theorem d_M_best_99 : decode c_M_best 99 = .ok (.iload 6, 2) := by decide +kernel
theorem d_M_best_101 : decode c_M_best 101 = .ok (.goto 5, 3) := by decide +kernel
theorem d_M_best_104 : decode c_M_best 104 = .ok (.iload 4, 2) := by decide +kernel
theorem d_M_best_106 : decode c_M_best 106 = .ok (.istore 4, 2) := by decide +kernel
theorem d_M_best_108 : decode c_M_best 108 = .ok (.iinc 5 1, 3) := by decide +kernel
theorem d_M_best_111 : decode c_M_best 111 = .ok (.goto (-64), 3) := by decide +kernel
theorem d_M_best_114 : decode c_M_best 114 = .ok (.iload_n 3, 1) := by decide +kernel
theorem d_M_best_115 : decode c_M_best 115 = .ok (.ireturn, 1) := by decide +kernel
theorem d_M_take_0 : decode c_M_take 0 = .ok (.iload_n 1, 1) := by decide +kernel
theorem d_M_take_1 : decode c_M_take 1 = .ok (.iconst 0, 1) := by decide +kernel
theorem d_M_take_2 : decode c_M_take 2 = .ok (.iconst 3, 1) := by decide +kernel
theorem d_M_take_3 : decode c_M_take 3 = .ok (.invokestatic 49, 3) := by decide +kernel
theorem d_M_take_6 : decode c_M_take 6 = .ok (.ifCond .eq 13, 3) := by decide +kernel
theorem d_M_take_9 : decode c_M_take 9 = .ok (.iload_n 2, 1) := by decide +kernel
theorem d_M_take_10 : decode c_M_take 10 = .ok (.iconst 0, 1) := by decide +kernel
theorem d_M_take_11 : decode c_M_take 11 = .ok (.bipush 60, 2) := by decide +kernel
theorem d_M_take_13 : decode c_M_take 13 = .ok (.invokestatic 49, 3) := by decide +kernel
theorem d_M_take_16 : decode c_M_take 16 = .ok (.ifCond .ne 9, 3) := by decide +kernel
theorem d_M_take_19 : decode c_M_take 19 = .ok (.aload_n 0, 1) := by decide +kernel
theorem d_M_take_20 : decode c_M_take 20 = .ok (.iconst 0, 1) := by decide +kernel
theorem d_M_take_21 : decode c_M_take 21 = .ok (.invokevirtual 92, 3) := by decide +kernel
theorem d_M_take_24 : decode c_M_take 24 = .ok (.ireturn, 1) := by decide +kernel
theorem d_M_take_25 : decode c_M_take 25 = .ok (.iconst (-1), 1) := by decide +kernel
theorem d_M_take_26 : decode c_M_take 26 = .ok (.istore_n 3, 1) := by decide +kernel
theorem d_M_take_27 : decode c_M_take 27 = .ok (.iconst (-1), 1) := by decide +kernel
theorem d_M_take_28 : decode c_M_take 28 = .ok (.istore 4, 2) := by decide +kernel
theorem d_M_take_30 : decode c_M_take 30 = .ok (.aload_n 0, 1) := by decide +kernel
theorem d_M_take_31 : decode c_M_take 31 = .ok (.invokevirtual 102, 3) := by decide +kernel
theorem d_M_take_34 : decode c_M_take 34 = .ok (.istore 5, 2) := by decide +kernel
theorem d_M_take_36 : decode c_M_take 36 = .ok (.iconst 0, 1) := by decide +kernel
theorem d_M_take_37 : decode c_M_take 37 = .ok (.istore 6, 2) := by decide +kernel
theorem d_M_take_39 : decode c_M_take 39 = .ok (.iload 6, 2) := by decide +kernel
theorem d_M_take_41 : decode c_M_take 41 = .ok (.aload_n 0, 1) := by decide +kernel
theorem d_M_take_42 : decode c_M_take 42 = .ok (.getfield 9, 3) := by decide +kernel
theorem d_M_take_45 : decode c_M_take 45 = .ok (.iconst 2, 1) := by decide +kernel
theorem d_M_take_46 : decode c_M_take 46 = .ok (.iaload, 1) := by decide +kernel
theorem d_M_take_47 : decode c_M_take 47 = .ok (.if_icmp .ge 80, 3) := by decide +kernel
theorem d_M_take_50 : decode c_M_take 50 = .ok (.aload_n 0, 1) := by decide +kernel
theorem d_M_take_51 : decode c_M_take 51 = .ok (.invokevirtual 126, 3) := by decide +kernel
theorem d_M_take_54 : decode c_M_take 54 = .ok (.aload_n 0, 1) := by decide +kernel
theorem d_M_take_55 : decode c_M_take 55 = .ok (.iload 6, 2) := by decide +kernel
theorem d_M_take_57 : decode c_M_take 57 = .ok (.iconst 5, 1) := by decide +kernel
theorem d_M_take_58 : decode c_M_take 58 = .ok (.iconst (-1), 1) := by decide +kernel
theorem d_M_take_59 : decode c_M_take 59 = .ok (.invokevirtual 78, 3) := by decide +kernel
theorem d_M_take_62 : decode c_M_take 62 = .ok (.aload_n 0, 1) := by decide +kernel
theorem d_M_take_63 : decode c_M_take 63 = .ok (.iload_n 1, 1) := by decide +kernel
theorem d_M_take_64 : decode c_M_take 64 = .ok (.iload_n 2, 1) := by decide +kernel
theorem d_M_take_65 : decode c_M_take 65 = .ok (.invokevirtual 132, 3) := by decide +kernel
theorem d_M_take_68 : decode c_M_take 68 = .ok (.istore 7, 2) := by decide +kernel
theorem d_M_take_70 : decode c_M_take 70 = .ok (.iload 5, 2) := by decide +kernel
theorem d_M_take_72 : decode c_M_take 72 = .ok (.iload 6, 2) := by decide +kernel
theorem d_M_take_74 : decode c_M_take 74 = .ok (.ishr, 1) := by decide +kernel
theorem d_M_take_75 : decode c_M_take 75 = .ok (.iconst 1, 1) := by decide +kernel
theorem d_M_take_76 : decode c_M_take 76 = .ok (.iand, 1) := by decide +kernel
theorem d_M_take_77 : decode c_M_take 77 = .ok (.iconst 1, 1) := by decide +kernel
theorem d_M_take_78 : decode c_M_take 78 = .ok (.if_icmp .ne 14, 3) := by decide +kernel
theorem d_M_take_81 : decode c_M_take 81 = .ok (.iload 7, 2) := by decide +kernel
theorem d_M_take_83 : decode c_M_take 83 = .ok (.iload 4, 2) := by decide +kernel
theorem d_M_take_85 : decode c_M_take 85 = .ok (.if_icmp .le 7, 3) := by decide +kernel
theorem d_M_take_88 : decode c_M_take 88 = .ok (.iconst 1, 1) := by decide +kernel
theorem d_M_take_89 : decode c_M_take 89 = .ok (.goto 4, 3) := by decide +kernel
theorem d_M_take_92 : decode c_M_take 92 = .ok (.iconst 0, 1) := by decide +kernel
theorem d_M_take_93 : decode c_M_take 93 = .ok (.istore 8, 2) := by decide +kernel
theorem d_M_take_95 : decode c_M_take 95 = .ok (.iload 8, 2) := by decide +kernel
theorem d_M_take_97 : decode c_M_take 97 = .ok (.ifCond .eq 8, 3) := by decide +kernel
theorem d_M_take_100 : decode c_M_take 100 = .ok (.iload 6, 2) := by decide +kernel
theorem d_M_take_102 : decode c_M_take 102 = .ok (.goto 4, 3) := by decide +kernel
theorem d_M_take_105 : decode c_M_take 105 = .ok (.iload_n 3, 1) := by decide +kernel
theorem d_M_take_106 : decode c_M_take 106 = .ok (.istore_n 3, 1) := by decide +kernel
theorem d_M_take_107 : decode c_M_take 107 = .ok (.iload 8, 2) := by decide +kernel
theorem d_M_take_109 : decode c_M_take 109 = .ok (.ifCond .eq 8, 3) := by decide +kernel
theorem d_M_take_112 : decode c_M_take 112 = .ok (.iload 7, 2) := by decide +kernel
theorem d_M_take_114 : decode c_M_take 114 = .ok (.goto 5, 3) := by decide +kernel
theorem d_M_take_117 : decode c_M_take 117 = .ok (.iload 4, 2) := by decide +kernel
theorem d_M_take_119 : decode c_M_take 119 = .ok (.istore 4, 2) := by decide +kernel
theorem d_M_take_121 : decode c_M_take 121 = .ok (.iinc 6 1, 3) := by decide +kernel
theorem d_M_take_124 : decode c_M_take 124 = .ok (.goto (-85), 3) := by decide +kernel
theorem d_M_take_127 : decode c_M_take 127 = .ok (.iload_n 3, 1) := by decide +kernel
theorem d_M_take_128 : decode c_M_take 128 = .ok (.ifCond .ge 11, 3) := by decide +kernel
theorem d_M_take_131 : decode c_M_take 131 = .ok (.aload_n 0, 1) := by decide +kernel
theorem d_M_take_132 : decode c_M_take 132 = .ok (.iconst 3, 1) := by decide +kernel
theorem d_M_take_133 : decode c_M_take 133 = .ok (.invokevirtual 92, 3) := by decide +kernel
theorem d_M_take_136 : decode c_M_take 136 = .ok (.goto 4, 3) := by decide +kernel
theorem d_M_take_139 : decode c_M_take 139 = .ok (.iload_n 3, 1) := by decide +kernel
theorem d_M_take_140 : decode c_M_take 140 = .ok (.ireturn, 1) := by decide +kernel
theorem d_M_kind_0 : decode c_M_kind 0 = .ok (.aload_n 0, 1) := by decide +kernel
theorem d_M_kind_1 : decode c_M_kind 1 = .ok (.iload_n 1, 1) := by decide +kernel
theorem d_M_kind_2 : decode c_M_kind 2 = .ok (.invokevirtual 113, 3) := by decide +kernel
theorem d_M_kind_5 : decode c_M_kind 5 = .ok (.ifCond .ne 9, 3) := by decide +kernel
theorem d_M_kind_8 : decode c_M_kind 8 = .ok (.aload_n 0, 1) := by decide +kernel
theorem d_M_kind_9 : decode c_M_kind 9 = .ok (.iconst 0, 1) := by decide +kernel
theorem d_M_kind_10 : decode c_M_kind 10 = .ok (.invokevirtual 92, 3) := by decide +kernel
theorem d_M_kind_13 : decode c_M_kind 13 = .ok (.ireturn, 1) := by decide +kernel
theorem d_M_kind_14 : decode c_M_kind 14 = .ok (.iconst 0, 1) := by decide +kernel
theorem d_M_kind_15 : decode c_M_kind 15 = .ok (.istore_n 2, 1) := by decide +kernel
theorem d_M_kind_16 : decode c_M_kind 16 = .ok (.iconst (-1), 1) := by decide +kernel
theorem d_M_kind_17 : decode c_M_kind 17 = .ok (.istore_n 3, 1) := by decide +kernel
theorem d_M_kind_18 : decode c_M_kind 18 = .ok (.iconst 0, 1) := by decide +kernel
theorem d_M_kind_19 : decode c_M_kind 19 = .ok (.istore 4, 2) := by decide +kernel
theorem d_M_kind_21 : decode c_M_kind 21 = .ok (.iload 4, 2) := by decide +kernel
theorem d_M_kind_23 : decode c_M_kind 23 = .ok (.bipush 6, 2) := by decide +kernel
theorem d_M_kind_25 : decode c_M_kind 25 = .ok (.if_icmp .ge 56, 3) := by decide +kernel
theorem d_M_kind_28 : decode c_M_kind 28 = .ok (.aload_n 0, 1) := by decide +kernel
theorem d_M_kind_29 : decode c_M_kind 29 = .ok (.invokevirtual 126, 3) := by decide +kernel
theorem d_M_kind_32 : decode c_M_kind 32 = .ok (.aload_n 0, 1) := by decide +kernel
theorem d_M_kind_33 : decode c_M_kind 33 = .ok (.iload_n 1, 1) := by decide +kernel
theorem d_M_kind_34 : decode c_M_kind 34 = .ok (.iconst 0, 1) := by decide +kernel
theorem d_M_kind_35 : decode c_M_kind 35 = .ok (.iload 4, 2) := by decide +kernel
theorem d_M_kind_37 : decode c_M_kind 37 = .ok (.invokevirtual 78, 3) := by decide +kernel
theorem d_M_kind_40 : decode c_M_kind 40 = .ok (.aload_n 0, 1) := by decide +kernel
theorem d_M_kind_41 : decode c_M_kind 41 = .ok (.iconst 0, 1) := by decide +kernel
theorem d_M_kind_42 : decode c_M_kind 42 = .ok (.iload_n 1, 1) := by decide +kernel
theorem d_M_kind_43 : decode c_M_kind 43 = .ok (.iconst 0, 1) := by decide +kernel
theorem d_M_kind_44 : decode c_M_kind 44 = .ok (.invokevirtual 135, 3) := by decide +kernel
theorem d_M_kind_47 : decode c_M_kind 47 = .ok (.istore 5, 2) := by decide +kernel
theorem d_M_kind_49 : decode c_M_kind 49 = .ok (.iload 5, 2) := by decide +kernel
theorem d_M_kind_51 : decode c_M_kind 51 = .ok (.iload_n 3, 1) := by decide +kernel
theorem d_M_kind_52 : decode c_M_kind 52 = .ok (.if_icmp .le 8, 3) := by decide +kernel
theorem d_M_kind_55 : decode c_M_kind 55 = .ok (.iload 4, 2) := by decide +kernel
theorem d_M_kind_57 : decode c_M_kind 57 = .ok (.goto 4, 3) := by decide +kernel
theorem d_M_kind_60 : decode c_M_kind 60 = .ok (.iload_n 2, 1) := by decide +kernel
theorem d_M_kind_61 : decode c_M_kind 61 = .ok (.istore_n 2, 1) := by decide +kernel
theorem d_M_kind_62 : decode c_M_kind 62 = .ok (.iload 5, 2) := by decide +kernel
theorem d_M_kind_64 : decode c_M_kind 64 = .ok (.iload_n 3, 1) := by decide +kernel
theorem d_M_kind_65 : decode c_M_kind 65 = .ok (.if_icmp .le 8, 3) := by decide +kernel
theorem d_M_kind_68 : decode c_M_kind 68 = .ok (.iload 5, 2) := by decide +kernel
theorem d_M_kind_70 : decode c_M_kind 70 = .ok (.goto 4, 3) := by decide +kernel
theorem d_M_kind_73 : decode c_M_kind 73 = .ok (.iload_n 3, 1) := by decide +kernel
theorem d_M_kind_74 : decode c_M_kind 74 = .ok (.istore_n 3, 1) := by decide +kernel
theorem d_M_kind_75 : decode c_M_kind 75 = .ok (.iinc 4 1, 3) := by decide +kernel
theorem d_M_kind_78 : decode c_M_kind 78 = .ok (.goto (-57), 3) := by decide +kernel
theorem d_M_kind_81 : decode c_M_kind 81 = .ok (.iload_n 2, 1) := by decide +kernel
theorem d_M_kind_82 : decode c_M_kind 82 = .ok (.ireturn, 1) := by decide +kernel
theorem d_M_enough_0 : decode c_M_enough 0 = .ok (.aload_n 0, 1) := by decide +kernel
theorem d_M_enough_1 : decode c_M_enough 1 = .ok (.iload_n 1, 1) := by decide +kernel
theorem d_M_enough_2 : decode c_M_enough 2 = .ok (.invokevirtual 113, 3) := by decide +kernel
theorem d_M_enough_5 : decode c_M_enough 5 = .ok (.ifCond .eq 13, 3) := by decide +kernel
theorem d_M_enough_8 : decode c_M_enough 8 = .ok (.iload_n 2, 1) := by decide +kernel
theorem d_M_enough_9 : decode c_M_enough 9 = .ok (.iconst 1, 1) := by decide +kernel
theorem d_M_enough_10 : decode c_M_enough 10 = .ok (.bipush 60, 2) := by decide +kernel
theorem d_M_enough_12 : decode c_M_enough 12 = .ok (.invokestatic 49, 3) := by decide +kernel
theorem d_M_enough_15 : decode c_M_enough 15 = .ok (.ifCond .ne 9, 3) := by decide +kernel
theorem d_M_enough_18 : decode c_M_enough 18 = .ok (.aload_n 0, 1) := by decide +kernel
theorem d_M_enough_19 : decode c_M_enough 19 = .ok (.iconst 0, 1) := by decide +kernel
theorem d_M_enough_20 : decode c_M_enough 20 = .ok (.invokevirtual 92, 3) := by decide +kernel
theorem d_M_enough_23 : decode c_M_enough 23 = .ok (.ireturn, 1) := by decide +kernel
theorem d_M_enough_24 : decode c_M_enough 24 = .ok (.iconst 0, 1) := by decide +kernel
theorem d_M_enough_25 : decode c_M_enough 25 = .ok (.istore_n 3, 1) := by decide +kernel
theorem d_M_enough_26 : decode c_M_enough 26 = .ok (.iload_n 3, 1) := by decide +kernel
theorem d_M_enough_27 : decode c_M_enough 27 = .ok (.bipush 100, 2) := by decide +kernel
theorem d_M_enough_29 : decode c_M_enough 29 = .ok (.if_icmp .ge 52, 3) := by decide +kernel
theorem d_M_enough_32 : decode c_M_enough 32 = .ok (.aload_n 0, 1) := by decide +kernel
theorem d_M_enough_33 : decode c_M_enough 33 = .ok (.invokevirtual 126, 3) := by decide +kernel
theorem d_M_enough_36 : decode c_M_enough 36 = .ok (.aload_n 0, 1) := by decide +kernel
theorem d_M_enough_37 : decode c_M_enough 37 = .ok (.iload_n 1, 1) := by decide +kernel
theorem d_M_enough_38 : decode c_M_enough 38 = .ok (.iconst 3, 1) := by decide +kernel
theorem d_M_enough_39 : decode c_M_enough 39 = .ok (.iload_n 3, 1) := by decide +kernel
theorem d_M_enough_40 : decode c_M_enough 40 = .ok (.invokevirtual 78, 3) := by decide +kernel
theorem d_M_enough_43 : decode c_M_enough 43 = .ok (.aload_n 0, 1) := by decide +kernel
theorem d_M_enough_44 : decode c_M_enough 44 = .ok (.iload_n 2, 1) := by decide +kernel
theorem d_M_enough_45 : decode c_M_enough 45 = .ok (.invokevirtual 123, 3) := by decide +kernel
theorem d_M_enough_48 : decode c_M_enough 48 = .ok (.aload_n 0, 1) := by decide +kernel
theorem d_M_enough_49 : decode c_M_enough 49 = .ok (.iload_n 1, 1) := by decide +kernel
theorem d_M_enough_50 : decode c_M_enough 50 = .ok (.iconst 5, 1) := by decide +kernel
theorem d_M_enough_51 : decode c_M_enough 51 = .ok (.invokevirtual 53, 3) := by decide +kernel
theorem d_M_enough_54 : decode c_M_enough 54 = .ok (.ifCond .lt 7, 3) := by decide +kernel
theorem d_M_enough_57 : decode c_M_enough 57 = .ok (.iconst 1, 1) := by decide +kernel
theorem d_M_enough_58 : decode c_M_enough 58 = .ok (.goto 4, 3) := by decide +kernel
theorem d_M_enough_61 : decode c_M_enough 61 = .ok (.iconst 0, 1) := by decide +kernel
theorem d_M_enough_62 : decode c_M_enough 62 = .ok (.istore 4, 2) := by decide +kernel
theorem d_M_enough_64 : decode c_M_enough 64 = .ok (.aload_n 0, 1) := by decide +kernel
theorem d_M_enough_65 : decode c_M_enough 65 = .ok (.invokevirtual 129, 3) := by decide +kernel
theorem d_M_enough_68 : decode c_M_enough 68 = .ok (.iload 4, 2) := by decide +kernel
theorem d_M_enough_70 : decode c_M_enough 70 = .ok (.ifCond .eq 5, 3) := by decide +kernel
theorem d_M_enough_73 : decode c_M_enough 73 = .ok (.iload_n 3, 1) := by decide +kernel
theorem d_M_enough_74 : decode c_M_enough 74 = .ok (.ireturn, 1) := by decide +kernel
theorem d_M_enough_75 : decode c_M_enough 75 = .ok (.iinc 3 1, 3) := by decide +kernel
theorem d_M_enough_78 : decode c_M_enough 78 = .ok (.goto (-52), 3) := by decide +kernel
theorem d_M_enough_81 : decode c_M_enough 81 = .ok (.aload_n 0, 1) := by decide +kernel
theorem d_M_enough_82 : decode c_M_enough 82 = .ok (.iconst 3, 1) := by decide +kernel
theorem d_M_enough_83 : decode c_M_enough 83 = .ok (.invokevirtual 92, 3) := by decide +kernel
theorem d_M_enough_86 : decode c_M_enough 86 = .ok (.ireturn, 1) := by decide +kernel
theorem d_M_weather_0 : decode c_M_weather 0 = .ok (.iload_n 1, 1) := by decide +kernel
theorem d_M_weather_1 : decode c_M_weather 1 = .ok (.iconst 1, 1) := by decide +kernel
theorem d_M_weather_2 : decode c_M_weather 2 = .ok (.bipush 60, 2) := by decide +kernel
theorem d_M_weather_4 : decode c_M_weather 4 = .ok (.invokestatic 49, 3) := by decide +kernel
theorem d_M_weather_7 : decode c_M_weather 7 = .ok (.ifCond .ne 9, 3) := by decide +kernel
theorem d_M_weather_10 : decode c_M_weather 10 = .ok (.aload_n 0, 1) := by decide +kernel
theorem d_M_weather_11 : decode c_M_weather 11 = .ok (.iconst 0, 1) := by decide +kernel
theorem d_M_weather_12 : decode c_M_weather 12 = .ok (.invokevirtual 92, 3) := by decide +kernel
theorem d_M_weather_15 : decode c_M_weather 15 = .ok (.ireturn, 1) := by decide +kernel
theorem d_M_weather_16 : decode c_M_weather 16 = .ok (.iconst 0, 1) := by decide +kernel
theorem d_M_weather_17 : decode c_M_weather 17 = .ok (.istore_n 2, 1) := by decide +kernel
theorem d_M_weather_18 : decode c_M_weather 18 = .ok (.iconst (-1), 1) := by decide +kernel
theorem d_M_weather_19 : decode c_M_weather 19 = .ok (.istore_n 3, 1) := by decide +kernel
theorem d_M_weather_20 : decode c_M_weather 20 = .ok (.iconst 0, 1) := by decide +kernel
theorem d_M_weather_21 : decode c_M_weather 21 = .ok (.istore 4, 2) := by decide +kernel
theorem d_M_weather_23 : decode c_M_weather 23 = .ok (.iload 4, 2) := by decide +kernel
theorem d_M_weather_25 : decode c_M_weather 25 = .ok (.bipush 7, 2) := by decide +kernel
theorem d_M_weather_27 : decode c_M_weather 27 = .ok (.if_icmp .ge 75, 3) := by decide +kernel
theorem d_M_weather_30 : decode c_M_weather 30 = .ok (.aload_n 0, 1) := by decide +kernel
theorem d_M_weather_31 : decode c_M_weather 31 = .ok (.invokevirtual 126, 3) := by decide +kernel
theorem d_M_weather_34 : decode c_M_weather 34 = .ok (.aload_n 0, 1) := by decide +kernel
theorem d_M_weather_35 : decode c_M_weather 35 = .ok (.getfield 9, 3) := by decide +kernel
theorem d_M_weather_38 : decode c_M_weather 38 = .ok (.iconst 3, 1) := by decide +kernel
theorem d_M_weather_39 : decode c_M_weather 39 = .ok (.iload 4, 2) := by decide +kernel
theorem d_M_weather_41 : decode c_M_weather 41 = .ok (.iadd, 1) := by decide +kernel
theorem d_M_weather_42 : decode c_M_weather 42 = .ok (.iconst 1, 1) := by decide +kernel
theorem d_M_weather_43 : decode c_M_weather 43 = .ok (.aload_n 0, 1) := by decide +kernel
theorem d_M_weather_44 : decode c_M_weather 44 = .ok (.getfield 9, 3) := by decide +kernel
theorem d_M_weather_47 : decode c_M_weather 47 = .ok (.iconst 3, 1) := by decide +kernel
theorem d_M_weather_48 : decode c_M_weather 48 = .ok (.iload 4, 2) := by decide +kernel
theorem d_M_weather_50 : decode c_M_weather 50 = .ok (.iadd, 1) := by decide +kernel
theorem d_M_weather_51 : decode c_M_weather 51 = .ok (.iaload, 1) := by decide +kernel
theorem d_M_weather_52 : decode c_M_weather 52 = .ok (.isub, 1) := by decide +kernel
theorem d_M_weather_53 : decode c_M_weather 53 = .ok (.iastore, 1) := by decide +kernel
theorem d_M_weather_54 : decode c_M_weather 54 = .ok (.aload_n 0, 1) := by decide +kernel
theorem d_M_weather_55 : decode c_M_weather 55 = .ok (.iload_n 1, 1) := by decide +kernel
theorem d_M_weather_56 : decode c_M_weather 56 = .ok (.invokevirtual 123, 3) := by decide +kernel
theorem d_M_weather_59 : decode c_M_weather 59 = .ok (.aload_n 0, 1) := by decide +kernel
theorem d_M_weather_60 : decode c_M_weather 60 = .ok (.iconst 3, 1) := by decide +kernel
theorem d_M_weather_61 : decode c_M_weather 61 = .ok (.invokevirtual 106, 3) := by decide +kernel
theorem d_M_weather_64 : decode c_M_weather 64 = .ok (.istore 5, 2) := by decide +kernel
theorem d_M_weather_66 : decode c_M_weather 66 = .ok (.aload_n 0, 1) := by decide +kernel
theorem d_M_weather_67 : decode c_M_weather 67 = .ok (.invokevirtual 129, 3) := by decide +kernel
theorem d_M_weather_70 : decode c_M_weather 70 = .ok (.iload 5, 2) := by decide +kernel
theorem d_M_weather_72 : decode c_M_weather 72 = .ok (.iload_n 3, 1) := by decide +kernel
theorem d_M_weather_73 : decode c_M_weather 73 = .ok (.if_icmp .le 8, 3) := by decide +kernel
theorem d_M_weather_76 : decode c_M_weather 76 = .ok (.iload 4, 2) := by decide +kernel
theorem d_M_weather_78 : decode c_M_weather 78 = .ok (.goto 4, 3) := by decide +kernel
theorem d_M_weather_81 : decode c_M_weather 81 = .ok (.iload_n 2, 1) := by decide +kernel
theorem d_M_weather_82 : decode c_M_weather 82 = .ok (.istore_n 2, 1) := by decide +kernel
theorem d_M_weather_83 : decode c_M_weather 83 = .ok (.iload 5, 2) := by decide +kernel
theorem d_M_weather_85 : decode c_M_weather 85 = .ok (.iload_n 3, 1) := by decide +kernel
theorem d_M_weather_86 : decode c_M_weather 86 = .ok (.if_icmp .le 8, 3) := by decide +kernel
theorem d_M_weather_89 : decode c_M_weather 89 = .ok (.iload 5, 2) := by decide +kernel
theorem d_M_weather_91 : decode c_M_weather 91 = .ok (.goto 4, 3) := by decide +kernel
theorem d_M_weather_94 : decode c_M_weather 94 = .ok (.iload_n 3, 1) := by decide +kernel
theorem d_M_weather_95 : decode c_M_weather 95 = .ok (.istore_n 3, 1) := by decide +kernel
theorem d_M_weather_96 : decode c_M_weather 96 = .ok (.iinc 4 1, 3) := by decide +kernel
theorem d_M_weather_99 : decode c_M_weather 99 = .ok (.goto (-76), 3) := by decide +kernel
theorem d_M_weather_102 : decode c_M_weather 102 = .ok (.iload_n 2, 1) := by decide +kernel
theorem d_M_weather_103 : decode c_M_weather 103 = .ok (.ireturn, 1) := by decide +kernel
theorem d_M_hasWithout_0 : decode c_M_hasWithout 0 = .ok (.aload_n 0, 1) := by decide +kernel
theorem d_M_hasWithout_1 : decode c_M_hasWithout 1 = .ok (.invokevirtual 126, 3) := by decide +kernel
theorem d_M_hasWithout_4 : decode c_M_hasWithout 4 = .ok (.iconst 0, 1) := by decide +kernel
theorem d_M_hasWithout_5 : decode c_M_hasWithout 5 = .ok (.istore_n 3, 1) := by decide +kernel
theorem d_M_hasWithout_6 : decode c_M_hasWithout 6 = .ok (.iload_n 3, 1) := by decide +kernel
theorem d_M_hasWithout_7 : decode c_M_hasWithout 7 = .ok (.aload_n 0, 1) := by decide +kernel
theorem d_M_hasWithout_8 : decode c_M_hasWithout 8 = .ok (.getfield 9, 3) := by decide +kernel
theorem d_M_hasWithout_11 : decode c_M_hasWithout 11 = .ok (.iconst 2, 1) := by decide +kernel
theorem d_M_hasWithout_12 : decode c_M_hasWithout 12 = .ok (.iaload, 1) := by decide +kernel
theorem d_M_hasWithout_13 : decode c_M_hasWithout 13 = .ok (.if_icmp .ge 34, 3) := by decide +kernel
theorem d_M_hasWithout_16 : decode c_M_hasWithout 16 = .ok (.aload_n 0, 1) := by decide +kernel
theorem d_M_hasWithout_17 : decode c_M_hasWithout 17 = .ok (.iload_n 3, 1) := by decide +kernel
theorem d_M_hasWithout_18 : decode c_M_hasWithout 18 = .ok (.iconst 5, 1) := by decide +kernel
theorem d_M_hasWithout_19 : decode c_M_hasWithout 19 = .ok (.iload_n 2, 1) := by decide +kernel
theorem d_M_hasWithout_20 : decode c_M_hasWithout 20 = .ok (.iload_n 3, 1) := by decide +kernel
theorem d_M_hasWithout_21 : decode c_M_hasWithout 21 = .ok (.ishr, 1) := by decide +kernel
theorem d_M_hasWithout_22 : decode c_M_hasWithout 22 = .ok (.iconst 1, 1) := by decide +kernel
theorem d_M_hasWithout_23 : decode c_M_hasWithout 23 = .ok (.iand, 1) := by decide +kernel
theorem d_M_hasWithout_24 : decode c_M_hasWithout 24 = .ok (.iconst 1, 1) := by decide +kernel
theorem d_M_hasWithout_25 : decode c_M_hasWithout 25 = .ok (.if_icmp .ne 7, 3) := by decide +kernel
theorem d_M_hasWithout_28 : decode c_M_hasWithout 28 = .ok (.iconst (-1), 1) := by decide +kernel
theorem d_M_hasWithout_29 : decode c_M_hasWithout 29 = .ok (.goto 9, 3) := by decide +kernel
theorem d_M_hasWithout_32 : decode c_M_hasWithout 32 = .ok (.aload_n 0, 1) := by decide +kernel
theorem d_M_hasWithout_33 : decode c_M_hasWithout 33 = .ok (.iload_n 3, 1) := by decide +kernel
theorem d_M_hasWithout_34 : decode c_M_hasWithout 34 = .ok (.iconst 5, 1) := by decide +kernel
theorem d_M_hasWithout_35 : decode c_M_hasWithout 35 = .ok (.invokevirtual 53, 3) := by decide +kernel
theorem d_M_hasWithout_38 : decode c_M_hasWithout 38 = .ok (.invokevirtual 78, 3) := by decide +kernel
theorem d_M_hasWithout_41 : decode c_M_hasWithout 41 = .ok (.iinc 3 1, 3) := by decide +kernel
theorem d_M_hasWithout_44 : decode c_M_hasWithout 44 = .ok (.goto (-38), 3) := by decide +kernel
theorem d_M_hasWithout_47 : decode c_M_hasWithout 47 = .ok (.aload_n 0, 1) := by decide +kernel
theorem d_M_hasWithout_48 : decode c_M_hasWithout 48 = .ok (.iload_n 1, 1) := by decide +kernel
theorem d_M_hasWithout_49 : decode c_M_hasWithout 49 = .ok (.iconst 0, 1) := by decide +kernel
theorem d_M_hasWithout_50 : decode c_M_hasWithout 50 = .ok (.invokevirtual 132, 3) := by decide +kernel
theorem d_M_hasWithout_53 : decode c_M_hasWithout 53 = .ok (.ireturn, 1) := by decide +kernel
theorem d_M_fewest_0 : decode c_M_fewest 0 = .ok (.iload_n 1, 1) := by decide +kernel
theorem d_M_fewest_1 : decode c_M_fewest 1 = .ok (.iconst 0, 1) := by decide +kernel
theorem d_M_fewest_2 : decode c_M_fewest 2 = .ok (.iconst 3, 1) := by decide +kernel
theorem d_M_fewest_3 : decode c_M_fewest 3 = .ok (.invokestatic 49, 3) := by decide +kernel
theorem d_M_fewest_6 : decode c_M_fewest 6 = .ok (.ifCond .eq 13, 3) := by decide +kernel
theorem d_M_fewest_9 : decode c_M_fewest 9 = .ok (.iload_n 2, 1) := by decide +kernel
theorem d_M_fewest_10 : decode c_M_fewest 10 = .ok (.iconst 0, 1) := by decide +kernel
theorem d_M_fewest_11 : decode c_M_fewest 11 = .ok (.bipush 40, 2) := by decide +kernel
theorem d_M_fewest_13 : decode c_M_fewest 13 = .ok (.invokestatic 49, 3) := by decide +kernel
theorem d_M_fewest_16 : decode c_M_fewest 16 = .ok (.ifCond .ne 9, 3) := by decide +kernel
theorem d_M_fewest_19 : decode c_M_fewest 19 = .ok (.aload_n 0, 1) := by decide +kernel
theorem d_M_fewest_20 : decode c_M_fewest 20 = .ok (.iconst 0, 1) := by decide +kernel
theorem d_M_fewest_21 : decode c_M_fewest 21 = .ok (.invokevirtual 92, 3) := by decide +kernel
theorem d_M_fewest_24 : decode c_M_fewest 24 = .ok (.ireturn, 1) := by decide +kernel
theorem d_M_fewest_25 : decode c_M_fewest 25 = .ok (.iconst (-1), 1) := by decide +kernel
theorem d_M_fewest_26 : decode c_M_fewest 26 = .ok (.istore_n 3, 1) := by decide +kernel
theorem d_M_fewest_27 : decode c_M_fewest 27 = .ok (.aload_n 0, 1) := by decide +kernel
theorem d_M_fewest_28 : decode c_M_fewest 28 = .ok (.invokevirtual 102, 3) := by decide +kernel
theorem d_M_fewest_31 : decode c_M_fewest 31 = .ok (.istore 4, 2) := by decide +kernel
theorem d_M_fewest_33 : decode c_M_fewest 33 = .ok (.iconst 0, 1) := by decide +kernel
theorem d_M_fewest_34 : decode c_M_fewest 34 = .ok (.istore 5, 2) := by decide +kernel
theorem d_M_fewest_36 : decode c_M_fewest 36 = .ok (.iload 5, 2) := by decide +kernel
theorem d_M_fewest_38 : decode c_M_fewest 38 = .ok (.iload 4, 2) := by decide +kernel
theorem d_M_fewest_40 : decode c_M_fewest 40 = .ok (.if_icmp .gt 65, 3) := by decide +kernel
theorem d_M_fewest_43 : decode c_M_fewest 43 = .ok (.iload 5, 2) := by decide +kernel
theorem d_M_fewest_45 : decode c_M_fewest 45 = .ok (.iload 4, 2) := by decide +kernel
theorem d_M_fewest_47 : decode c_M_fewest 47 = .ok (.iconst (-1), 1) := by decide +kernel
theorem d_M_fewest_48 : decode c_M_fewest 48 = .ok (.ixor, 1) := by decide +kernel
theorem d_M_fewest_49 : decode c_M_fewest 49 = .ok (.iand, 1) := by decide +kernel
theorem d_M_fewest_50 : decode c_M_fewest 50 = .ok (.ifCond .ne 23, 3) := by decide +kernel
theorem d_M_fewest_53 : decode c_M_fewest 53 = .ok (.iload_n 3, 1) := by decide +kernel
theorem d_M_fewest_54 : decode c_M_fewest 54 = .ok (.ifCond .lt 15, 3) := by decide +kernel
theorem d_M_fewest_57 : decode c_M_fewest 57 = .ok (.iload 5, 2) := by decide +kernel
theorem d_M_fewest_59 : decode c_M_fewest 59 = .ok (.invokestatic 142, 3) := by decide +kernel
theorem d_M_fewest_62 : decode c_M_fewest 62 = .ok (.iload_n 3, 1) := by decide +kernel
theorem d_M_fewest_63 : decode c_M_fewest 63 = .ok (.invokestatic 142, 3) := by decide +kernel
theorem d_M_fewest_66 : decode c_M_fewest 66 = .ok (.if_icmp .ge 7, 3) := by decide +kernel
theorem d_M_fewest_69 : decode c_M_fewest 69 = .ok (.iconst 1, 1) := by decide +kernel
theorem d_M_fewest_70 : decode c_M_fewest 70 = .ok (.goto 4, 3) := by decide +kernel
theorem d_M_fewest_73 : decode c_M_fewest 73 = .ok (.iconst 0, 1) := by decide +kernel
theorem d_M_fewest_74 : decode c_M_fewest 74 = .ok (.istore 6, 2) := by decide +kernel
theorem d_M_fewest_76 : decode c_M_fewest 76 = .ok (.iload 6, 2) := by decide +kernel
theorem d_M_fewest_78 : decode c_M_fewest 78 = .ok (.ifCond .eq 19, 3) := by decide +kernel
theorem d_M_fewest_81 : decode c_M_fewest 81 = .ok (.aload_n 0, 1) := by decide +kernel
theorem d_M_fewest_82 : decode c_M_fewest 82 = .ok (.iload_n 1, 1) := by decide +kernel
theorem d_M_fewest_83 : decode c_M_fewest 83 = .ok (.iload 5, 2) := by decide +kernel
theorem d_M_fewest_85 : decode c_M_fewest 85 = .ok (.invokevirtual 145, 3) := by decide +kernel
theorem d_M_fewest_88 : decode c_M_fewest 88 = .ok (.iload_n 2, 1) := by decide +kernel
theorem d_M_fewest_89 : decode c_M_fewest 89 = .ok (.if_icmp .lt 8, 3) := by decide +kernel
theorem d_M_fewest_92 : decode c_M_fewest 92 = .ok (.iload 5, 2) := by decide +kernel
theorem d_M_fewest_94 : decode c_M_fewest 94 = .ok (.goto 4, 3) := by decide +kernel
theorem d_M_fewest_97 : decode c_M_fewest 97 = .ok (.iload_n 3, 1) := by decide +kernel
theorem d_M_fewest_98 : decode c_M_fewest 98 = .ok (.istore_n 3, 1) := by decide +kernel
theorem d_M_fewest_99 : decode c_M_fewest 99 = .ok (.iinc 5 1, 3) := by decide +kernel
theorem d_M_fewest_102 : decode c_M_fewest 102 = .ok (.goto (-66), 3) := by decide +kernel
theorem d_M_fewest_105 : decode c_M_fewest 105 = .ok (.iload_n 3, 1) := by decide +kernel
theorem d_M_fewest_106 : decode c_M_fewest 106 = .ok (.ifCond .ge 11, 3) := by decide +kernel
theorem d_M_fewest_109 : decode c_M_fewest 109 = .ok (.aload_n 0, 1) := by decide +kernel
theorem d_M_fewest_110 : decode c_M_fewest 110 = .ok (.iconst 3, 1) := by decide +kernel
theorem d_M_fewest_111 : decode c_M_fewest 111 = .ok (.invokevirtual 92, 3) := by decide +kernel
theorem d_M_fewest_114 : decode c_M_fewest 114 = .ok (.goto 4, 3) := by decide +kernel
theorem d_M_fewest_117 : decode c_M_fewest 117 = .ok (.iload_n 3, 1) := by decide +kernel
theorem d_M_fewest_118 : decode c_M_fewest 118 = .ok (.ireturn, 1) := by decide +kernel
theorem d_M_feed_0 : decode c_M_feed 0 = .ok (.iload_n 2, 1) := by decide +kernel
theorem d_M_feed_1 : decode c_M_feed 1 = .ok (.iconst 1, 1) := by decide +kernel
theorem d_M_feed_2 : decode c_M_feed 2 = .ok (.iconst 4, 1) := by decide +kernel
theorem d_M_feed_3 : decode c_M_feed 3 = .ok (.invokestatic 49, 3) := by decide +kernel
theorem d_M_feed_6 : decode c_M_feed 6 = .ok (.ifCond .ne 9, 3) := by decide +kernel
theorem d_M_feed_9 : decode c_M_feed 9 = .ok (.aload_n 0, 1) := by decide +kernel
theorem d_M_feed_10 : decode c_M_feed 10 = .ok (.iconst 0, 1) := by decide +kernel
theorem d_M_feed_11 : decode c_M_feed 11 = .ok (.invokevirtual 92, 3) := by decide +kernel
theorem d_M_feed_14 : decode c_M_feed 14 = .ok (.ireturn, 1) := by decide +kernel
theorem d_M_feed_15 : decode c_M_feed 15 = .ok (.aload_n 0, 1) := by decide +kernel
theorem d_M_feed_16 : decode c_M_feed 16 = .ok (.getfield 148, 3) := by decide +kernel
theorem d_M_feed_19 : decode c_M_feed 19 = .ok (.iload_n 2, 1) := by decide +kernel
theorem d_M_feed_20 : decode c_M_feed 20 = .ok (.iadd, 1) := by decide +kernel
theorem d_M_feed_21 : decode c_M_feed 21 = .ok (.bipush 120, 2) := by decide +kernel
theorem d_M_feed_23 : decode c_M_feed 23 = .ok (.if_icmp .le 9, 3) := by decide +kernel
theorem d_M_feed_26 : decode c_M_feed 26 = .ok (.aload_n 0, 1) := by decide +kernel
theorem d_M_feed_27 : decode c_M_feed 27 = .ok (.iconst 1, 1) := by decide +kernel
theorem d_M_feed_28 : decode c_M_feed 28 = .ok (.invokevirtual 92, 3) := by decide +kernel
theorem d_M_feed_31 : decode c_M_feed 31 = .ok (.ireturn, 1) := by decide +kernel
theorem d_M_feed_32 : decode c_M_feed 32 = .ok (.iload_n 2, 1) := by decide +kernel
theorem d_M_feed_33 : decode c_M_feed 33 = .ok (.iconst 1, 1) := by decide +kernel
theorem d_M_feed_34 : decode c_M_feed 34 = .ok (.isub, 1) := by decide +kernel
theorem d_M_feed_35 : decode c_M_feed 35 = .ok (.istore_n 3, 1) := by decide +kernel
theorem d_M_feed_36 : decode c_M_feed 36 = .ok (.iload_n 3, 1) := by decide +kernel
theorem d_M_feed_37 : decode c_M_feed 37 = .ok (.ifCond .lt 38, 3) := by decide +kernel
theorem d_M_feed_40 : decode c_M_feed 40 = .ok (.aload_n 0, 1) := by decide +kernel
theorem d_M_feed_41 : decode c_M_feed 41 = .ok (.getfield 22, 3) := by decide +kernel
theorem d_M_feed_44 : decode c_M_feed 44 = .ok (.aload_n 0, 1) := by decide +kernel
theorem d_M_feed_45 : decode c_M_feed 45 = .ok (.getfield 148, 3) := by decide +kernel
theorem d_M_feed_48 : decode c_M_feed 48 = .ok (.iload_n 1, 1) := by decide +kernel
theorem d_M_feed_49 : decode c_M_feed 49 = .ok (.bipush 8, 2) := by decide +kernel
theorem d_M_feed_51 : decode c_M_feed 51 = .ok (.iload_n 3, 1) := by decide +kernel
theorem d_M_feed_52 : decode c_M_feed 52 = .ok (.imul, 1) := by decide +kernel
theorem d_M_feed_53 : decode c_M_feed 53 = .ok (.ishr, 1) := by decide +kernel
theorem d_M_feed_54 : decode c_M_feed 54 = .ok (.sipush 255, 3) := by decide +kernel
theorem d_M_feed_57 : decode c_M_feed 57 = .ok (.iand, 1) := by decide +kernel
theorem d_M_feed_58 : decode c_M_feed 58 = .ok (.iastore, 1) := by decide +kernel
theorem d_M_feed_59 : decode c_M_feed 59 = .ok (.aload_n 0, 1) := by decide +kernel
theorem d_M_feed_60 : decode c_M_feed 60 = .ok (.dup, 1) := by decide +kernel
theorem d_M_feed_61 : decode c_M_feed 61 = .ok (.getfield 148, 3) := by decide +kernel
theorem d_M_feed_64 : decode c_M_feed 64 = .ok (.iconst 1, 1) := by decide +kernel
theorem d_M_feed_65 : decode c_M_feed 65 = .ok (.iadd, 1) := by decide +kernel
theorem d_M_feed_66 : decode c_M_feed 66 = .ok (.putfield 148, 3) := by decide +kernel
theorem d_M_feed_69 : decode c_M_feed 69 = .ok (.iinc 3 (-1), 3) := by decide +kernel
theorem d_M_feed_72 : decode c_M_feed 72 = .ok (.goto (-36), 3) := by decide +kernel
theorem d_M_feed_75 : decode c_M_feed 75 = .ok (.aload_n 0, 1) := by decide +kernel
theorem d_M_feed_76 : decode c_M_feed 76 = .ok (.getfield 148, 3) := by decide +kernel
theorem d_M_feed_79 : decode c_M_feed 79 = .ok (.ireturn, 1) := by decide +kernel
theorem d_M_wipe_0 : decode c_M_wipe 0 = .ok (.aload_n 0, 1) := by decide +kernel
theorem d_M_wipe_1 : decode c_M_wipe 1 = .ok (.getfield 148, 3) := by decide +kernel
theorem d_M_wipe_4 : decode c_M_wipe 4 = .ok (.istore_n 1, 1) := by decide +kernel
theorem d_M_wipe_5 : decode c_M_wipe 5 = .ok (.aload_n 0, 1) := by decide +kernel
theorem d_M_wipe_6 : decode c_M_wipe 6 = .ok (.iconst 0, 1) := by decide +kernel
theorem d_M_wipe_7 : decode c_M_wipe 7 = .ok (.putfield 148, 3) := by decide +kernel
theorem d_M_wipe_10 : decode c_M_wipe 10 = .ok (.iload_n 1, 1) := by decide +kernel
theorem d_M_wipe_11 : decode c_M_wipe 11 = .ok (.ireturn, 1) := by decide +kernel
theorem d_M_isLetter_0 : decode c_M_isLetter 0 = .ok (.iload_n 0, 1) := by decide +kernel
theorem d_M_isLetter_1 : decode c_M_isLetter 1 = .ok (.bipush 97, 2) := by decide +kernel
theorem d_M_isLetter_3 : decode c_M_isLetter 3 = .ok (.bipush 122, 2) := by decide +kernel
theorem d_M_isLetter_5 : decode c_M_isLetter 5 = .ok (.invokestatic 49, 3) := by decide +kernel
theorem d_M_isLetter_8 : decode c_M_isLetter 8 = .ok (.ireturn, 1) := by decide +kernel
theorem d_M_isDigit_0 : decode c_M_isDigit 0 = .ok (.iload_n 0, 1) := by decide +kernel
theorem d_M_isDigit_1 : decode c_M_isDigit 1 = .ok (.bipush 48, 2) := by decide +kernel
theorem d_M_isDigit_3 : decode c_M_isDigit 3 = .ok (.bipush 57, 2) := by decide +kernel
theorem d_M_isDigit_5 : decode c_M_isDigit 5 = .ok (.invokestatic 49, 3) := by decide +kernel
theorem d_M_isDigit_8 : decode c_M_isDigit 8 = .ok (.ireturn, 1) := by decide +kernel
theorem d_M_nextToken_0 : decode c_M_nextToken 0 = .ok (.aload_n 0, 1) := by decide +kernel
theorem d_M_nextToken_1 : decode c_M_nextToken 1 = .ok (.aload_n 0, 1) := by decide +kernel
theorem d_M_nextToken_2 : decode c_M_nextToken 2 = .ok (.getfield 152, 3) := by decide +kernel
theorem d_M_nextToken_5 : decode c_M_nextToken 5 = .ok (.putfield 155, 3) := by decide +kernel
theorem d_M_nextToken_8 : decode c_M_nextToken 8 = .ok (.aload_n 0, 1) := by decide +kernel
theorem d_M_nextToken_9 : decode c_M_nextToken 9 = .ok (.getfield 155, 3) := by decide +kernel
theorem d_M_nextToken_12 : decode c_M_nextToken 12 = .ok (.aload_n 0, 1) := by decide +kernel
theorem d_M_nextToken_13 : decode c_M_nextToken 13 = .ok (.getfield 148, 3) := by decide +kernel
theorem d_M_nextToken_16 : decode c_M_nextToken 16 = .ok (.if_icmp .ge 30, 3) := by decide +kernel
theorem d_M_nextToken_19 : decode c_M_nextToken 19 = .ok (.aload_n 0, 1) := by decide +kernel
theorem d_M_nextToken_20 : decode c_M_nextToken 20 = .ok (.getfield 22, 3) := by decide +kernel
theorem d_M_nextToken_23 : decode c_M_nextToken 23 = .ok (.aload_n 0, 1) := by decide +kernel
theorem d_M_nextToken_24 : decode c_M_nextToken 24 = .ok (.getfield 155, 3) := by decide +kernel
theorem d_M_nextToken_27 : decode c_M_nextToken 27 = .ok (.iaload, 1) := by decide +kernel
theorem d_M_nextToken_28 : decode c_M_nextToken 28 = .ok (.bipush 32, 2) := by decide +kernel
theorem d_M_nextToken_30 : decode c_M_nextToken 30 = .ok (.if_icmp .ne 16, 3) := by decide +kernel
theorem d_M_nextToken_33 : decode c_M_nextToken 33 = .ok (.aload_n 0, 1) := by decide +kernel
theorem d_M_nextToken_34 : decode c_M_nextToken 34 = .ok (.dup, 1) := by decide +kernel
theorem d_M_nextToken_35 : decode c_M_nextToken 35 = .ok (.getfield 155, 3) := by decide +kernel
theorem d_M_nextToken_38 : decode c_M_nextToken 38 = .ok (.iconst 1, 1) := by decide +kernel
theorem d_M_nextToken_39 : decode c_M_nextToken 39 = .ok (.iadd, 1) := by decide +kernel
theorem d_M_nextToken_40 : decode c_M_nextToken 40 = .ok (.putfield 155, 3) := by decide +kernel
theorem d_M_nextToken_43 : decode c_M_nextToken 43 = .ok (.goto (-35), 3) := by decide +kernel
theorem d_M_nextToken_46 : decode c_M_nextToken 46 = .ok (.aload_n 0, 1) := by decide +kernel
theorem d_M_nextToken_47 : decode c_M_nextToken 47 = .ok (.aload_n 0, 1) := by decide +kernel
theorem d_M_nextToken_48 : decode c_M_nextToken 48 = .ok (.getfield 155, 3) := by decide +kernel
theorem d_M_nextToken_51 : decode c_M_nextToken 51 = .ok (.putfield 152, 3) := by decide +kernel
theorem d_M_nextToken_54 : decode c_M_nextToken 54 = .ok (.aload_n 0, 1) := by decide +kernel
theorem d_M_nextToken_55 : decode c_M_nextToken 55 = .ok (.lconst 0, 1) := by decide +kernel
theorem d_M_nextToken_56 : decode c_M_nextToken 56 = .ok (.putfield 158, 3) := by decide +kernel
theorem d_M_nextToken_59 : decode c_M_nextToken 59 = .ok (.aload_n 0, 1) := by decide +kernel
theorem d_M_nextToken_60 : decode c_M_nextToken 60 = .ok (.getfield 155, 3) := by decide +kernel
theorem d_M_nextToken_63 : decode c_M_nextToken 63 = .ok (.aload_n 0, 1) := by decide +kernel
theorem d_M_nextToken_64 : decode c_M_nextToken 64 = .ok (.getfield 148, 3) := by decide +kernel
theorem d_M_nextToken_67 : decode c_M_nextToken 67 = .ok (.if_icmp .ne 11, 3) := by decide +kernel
theorem d_M_nextToken_70 : decode c_M_nextToken 70 = .ok (.aload_n 0, 1) := by decide +kernel
theorem d_M_nextToken_71 : decode c_M_nextToken 71 = .ok (.iconst 0, 1) := by decide +kernel
theorem d_M_nextToken_72 : decode c_M_nextToken 72 = .ok (.putfield 162, 3) := by decide +kernel
theorem d_M_nextToken_75 : decode c_M_nextToken 75 = .ok (.goto 262, 3) := by decide +kernel
theorem d_M_nextToken_78 : decode c_M_nextToken 78 = .ok (.aload_n 0, 1) := by decide +kernel
theorem d_M_nextToken_79 : decode c_M_nextToken 79 = .ok (.getfield 22, 3) := by decide +kernel
theorem d_M_nextToken_82 : decode c_M_nextToken 82 = .ok (.aload_n 0, 1) := by decide +kernel
theorem d_M_nextToken_83 : decode c_M_nextToken 83 = .ok (.getfield 155, 3) := by decide +kernel
theorem d_M_nextToken_86 : decode c_M_nextToken 86 = .ok (.iaload, 1) := by decide +kernel
theorem d_M_nextToken_87 : decode c_M_nextToken 87 = .ok (.invokestatic 165, 3) := by decide +kernel
theorem d_M_nextToken_90 : decode c_M_nextToken 90 = .ok (.ifCond .eq 92, 3) := by decide +kernel
theorem d_M_nextToken_93 : decode c_M_nextToken 93 = .ok (.aload_n 0, 1) := by decide +kernel
theorem d_M_nextToken_94 : decode c_M_nextToken 94 = .ok (.iconst 1, 1) := by decide +kernel
theorem d_M_nextToken_95 : decode c_M_nextToken 95 = .ok (.putfield 162, 3) := by decide +kernel
theorem d_M_nextToken_98 : decode c_M_nextToken 98 = .ok (.aload_n 0, 1) := by decide +kernel
theorem d_M_nextToken_99 : decode c_M_nextToken 99 = .ok (.getfield 152, 3) := by decide +kernel
theorem d_M_nextToken_102 : decode c_M_nextToken 102 = .ok (.aload_n 0, 1) := by decide +kernel
theorem d_M_nextToken_103 : decode c_M_nextToken 103 = .ok (.getfield 148, 3) := by decide +kernel
theorem d_M_nextToken_106 : decode c_M_nextToken 106 = .ok (.if_icmp .ge 231, 3) := by decide +kernel
theorem d_M_nextToken_109 : decode c_M_nextToken 109 = .ok (.aload_n 0, 1) := by decide +kernel
theorem d_M_nextToken_110 : decode c_M_nextToken 110 = .ok (.getfield 22, 3) := by decide +kernel
theorem d_M_nextToken_113 : decode c_M_nextToken 113 = .ok (.aload_n 0, 1) := by decide +kernel
theorem d_M_nextToken_114 : decode c_M_nextToken 114 = .ok (.getfield 152, 3) := by decide +kernel
theorem d_M_nextToken_117 : decode c_M_nextToken 117 = .ok (.iaload, 1) := by decide +kernel
theorem d_M_nextToken_118 : decode c_M_nextToken 118 = .ok (.invokestatic 165, 3) := by decide +kernel
theorem d_M_nextToken_121 : decode c_M_nextToken 121 = .ok (.ifCond .eq 216, 3) := by decide +kernel
theorem d_M_nextToken_124 : decode c_M_nextToken 124 = .ok (.aload_n 0, 1) := by decide +kernel
theorem d_M_nextToken_125 : decode c_M_nextToken 125 = .ok (.aload_n 0, 1) := by decide +kernel
theorem d_M_nextToken_126 : decode c_M_nextToken 126 = .ok (.getfield 158, 3) := by decide +kernel
theorem d_M_nextToken_129 : decode c_M_nextToken 129 = .ok (.ldc2_w 168, 3) := by decide +kernel
theorem d_M_nextToken_132 : decode c_M_nextToken 132 = .ok (.lcmp, 1) := by decide +kernel
theorem d_M_nextToken_133 : decode c_M_nextToken 133 = .ok (.ifCond .le 10, 3) := by decide +kernel
theorem d_M_nextToken_136 : decode c_M_nextToken 136 = .ok (.aload_n 0, 1) := by decide +kernel
theorem d_M_nextToken_137 : decode c_M_nextToken 137 = .ok (.getfield 158, 3) := by decide +kernel
theorem d_M_nextToken_140 : decode c_M_nextToken 140 = .ok (.goto 26, 3) := by decide +kernel
theorem d_M_nextToken_143 : decode c_M_nextToken 143 = .ok (.aload_n 0, 1) := by decide +kernel
theorem d_M_nextToken_144 : decode c_M_nextToken 144 = .ok (.getfield 158, 3) := by decide +kernel
theorem d_M_nextToken_147 : decode c_M_nextToken 147 = .ok (.ldc2_w 170, 3) := by decide +kernel
theorem d_M_nextToken_150 : decode c_M_nextToken 150 = .ok (.lmul, 1) := by decide +kernel
theorem d_M_nextToken_151 : decode c_M_nextToken 151 = .ok (.aload_n 0, 1) := by decide +kernel
theorem d_M_nextToken_152 : decode c_M_nextToken 152 = .ok (.getfield 22, 3) := by decide +kernel
theorem d_M_nextToken_155 : decode c_M_nextToken 155 = .ok (.aload_n 0, 1) := by decide +kernel
theorem d_M_nextToken_156 : decode c_M_nextToken 156 = .ok (.getfield 152, 3) := by decide +kernel
theorem d_M_nextToken_159 : decode c_M_nextToken 159 = .ok (.iaload, 1) := by decide +kernel
theorem d_M_nextToken_160 : decode c_M_nextToken 160 = .ok (.i2l, 1) := by decide +kernel
theorem d_M_nextToken_161 : decode c_M_nextToken 161 = .ok (.ladd, 1) := by decide +kernel
theorem d_M_nextToken_162 : decode c_M_nextToken 162 = .ok (.ldc2_w 172, 3) := by decide +kernel
theorem d_M_nextToken_165 : decode c_M_nextToken 165 = .ok (.lsub, 1) := by decide +kernel
theorem d_M_nextToken_166 : decode c_M_nextToken 166 = .ok (.putfield 158, 3) := by decide +kernel
theorem d_M_nextToken_169 : decode c_M_nextToken 169 = .ok (.aload_n 0, 1) := by decide +kernel
theorem d_M_nextToken_170 : decode c_M_nextToken 170 = .ok (.dup, 1) := by decide +kernel
theorem d_M_nextToken_171 : decode c_M_nextToken 171 = .ok (.getfield 152, 3) := by decide +kernel
theorem d_M_nextToken_174 : decode c_M_nextToken 174 = .ok (.iconst 1, 1) := by decide +kernel
theorem d_M_nextToken_175 : decode c_M_nextToken 175 = .ok (.iadd, 1) := by decide +kernel
theorem d_M_nextToken_176 : decode c_M_nextToken 176 = .ok (.putfield 152, 3) := by decide +kernel
theorem d_M_nextToken_179 : decode c_M_nextToken 179 = .ok (.goto (-81), 3) := by decide +kernel
theorem d_M_nextToken_182 : decode c_M_nextToken 182 = .ok (.aload_n 0, 1) := by decide +kernel
theorem d_M_nextToken_183 : decode c_M_nextToken 183 = .ok (.getfield 22, 3) := by decide +kernel
theorem d_M_nextToken_186 : decode c_M_nextToken 186 = .ok (.aload_n 0, 1) := by decide +kernel
theorem d_M_nextToken_187 : decode c_M_nextToken 187 = .ok (.getfield 155, 3) := by decide +kernel
theorem d_M_nextToken_190 : decode c_M_nextToken 190 = .ok (.iaload, 1) := by decide +kernel
theorem d_M_nextToken_191 : decode c_M_nextToken 191 = .ok (.invokestatic 174, 3) := by decide +kernel
theorem d_M_nextToken_194 : decode c_M_nextToken 194 = .ok (.ifCond .eq 110, 3) := by decide +kernel
theorem d_M_nextToken_197 : decode c_M_nextToken 197 = .ok (.aload_n 0, 1) := by decide +kernel
theorem d_M_nextToken_198 : decode c_M_nextToken 198 = .ok (.getfield 152, 3) := by decide +kernel
theorem d_M_nextToken_201 : decode c_M_nextToken 201 = .ok (.aload_n 0, 1) := by decide +kernel
theorem d_M_nextToken_202 : decode c_M_nextToken 202 = .ok (.getfield 148, 3) := by decide +kernel
theorem d_M_nextToken_205 : decode c_M_nextToken 205 = .ok (.if_icmp .ge 76, 3) := by decide +kernel
theorem d_M_nextToken_208 : decode c_M_nextToken 208 = .ok (.aload_n 0, 1) := by decide +kernel
theorem d_M_nextToken_209 : decode c_M_nextToken 209 = .ok (.getfield 22, 3) := by decide +kernel
theorem d_M_nextToken_212 : decode c_M_nextToken 212 = .ok (.aload_n 0, 1) := by decide +kernel
theorem d_M_nextToken_213 : decode c_M_nextToken 213 = .ok (.getfield 152, 3) := by decide +kernel
theorem d_M_nextToken_216 : decode c_M_nextToken 216 = .ok (.iaload, 1) := by decide +kernel
theorem d_M_nextToken_217 : decode c_M_nextToken 217 = .ok (.invokestatic 174, 3) := by decide +kernel
theorem d_M_nextToken_220 : decode c_M_nextToken 220 = .ok (.ifCond .eq 61, 3) := by decide +kernel
theorem d_M_nextToken_223 : decode c_M_nextToken 223 = .ok (.aload_n 0, 1) := by decide +kernel
theorem d_M_nextToken_224 : decode c_M_nextToken 224 = .ok (.aload_n 0, 1) := by decide +kernel
theorem d_M_nextToken_225 : decode c_M_nextToken 225 = .ok (.getfield 158, 3) := by decide +kernel
theorem d_M_nextToken_228 : decode c_M_nextToken 228 = .ok (.ldc2_w 177, 3) := by decide +kernel
theorem d_M_nextToken_231 : decode c_M_nextToken 231 = .ok (.lcmp, 1) := by decide +kernel
theorem d_M_nextToken_232 : decode c_M_nextToken 232 = .ok (.ifCond .le 10, 3) := by decide +kernel
theorem d_M_nextToken_235 : decode c_M_nextToken 235 = .ok (.aload_n 0, 1) := by decide +kernel
theorem d_M_nextToken_236 : decode c_M_nextToken 236 = .ok (.getfield 158, 3) := by decide +kernel
theorem d_M_nextToken_239 : decode c_M_nextToken 239 = .ok (.goto 26, 3) := by decide +kernel
theorem d_M_nextToken_242 : decode c_M_nextToken 242 = .ok (.aload_n 0, 1) := by decide +kernel
theorem d_M_nextToken_243 : decode c_M_nextToken 243 = .ok (.getfield 158, 3) := by decide +kernel
theorem d_M_nextToken_246 : decode c_M_nextToken 246 = .ok (.ldc2_w 179, 3) := by decide +kernel
theorem d_M_nextToken_249 : decode c_M_nextToken 249 = .ok (.lmul, 1) := by decide +kernel
theorem d_M_nextToken_250 : decode c_M_nextToken 250 = .ok (.aload_n 0, 1) := by decide +kernel
theorem d_M_nextToken_251 : decode c_M_nextToken 251 = .ok (.getfield 22, 3) := by decide +kernel
theorem d_M_nextToken_254 : decode c_M_nextToken 254 = .ok (.aload_n 0, 1) := by decide +kernel
theorem d_M_nextToken_255 : decode c_M_nextToken 255 = .ok (.getfield 152, 3) := by decide +kernel
theorem d_M_nextToken_258 : decode c_M_nextToken 258 = .ok (.iaload, 1) := by decide +kernel
theorem d_M_nextToken_259 : decode c_M_nextToken 259 = .ok (.i2l, 1) := by decide +kernel
theorem d_M_nextToken_260 : decode c_M_nextToken 260 = .ok (.ladd, 1) := by decide +kernel
theorem d_M_nextToken_261 : decode c_M_nextToken 261 = .ok (.ldc2_w 181, 3) := by decide +kernel
theorem d_M_nextToken_264 : decode c_M_nextToken 264 = .ok (.lsub, 1) := by decide +kernel
theorem d_M_nextToken_265 : decode c_M_nextToken 265 = .ok (.putfield 158, 3) := by decide +kernel
theorem d_M_nextToken_268 : decode c_M_nextToken 268 = .ok (.aload_n 0, 1) := by decide +kernel
theorem d_M_nextToken_269 : decode c_M_nextToken 269 = .ok (.dup, 1) := by decide +kernel
theorem d_M_nextToken_270 : decode c_M_nextToken 270 = .ok (.getfield 152, 3) := by decide +kernel
theorem d_M_nextToken_273 : decode c_M_nextToken 273 = .ok (.iconst 1, 1) := by decide +kernel
theorem d_M_nextToken_274 : decode c_M_nextToken 274 = .ok (.iadd, 1) := by decide +kernel
theorem d_M_nextToken_275 : decode c_M_nextToken 275 = .ok (.putfield 152, 3) := by decide +kernel
theorem d_M_nextToken_278 : decode c_M_nextToken 278 = .ok (.goto (-81), 3) := by decide +kernel
theorem d_M_nextToken_281 : decode c_M_nextToken 281 = .ok (.aload_n 0, 1) := by decide +kernel
theorem d_M_nextToken_282 : decode c_M_nextToken 282 = .ok (.aload_n 0, 1) := by decide +kernel
theorem d_M_nextToken_283 : decode c_M_nextToken 283 = .ok (.getfield 158, 3) := by decide +kernel
theorem d_M_nextToken_286 : decode c_M_nextToken 286 = .ok (.ldc2_w 177, 3) := by decide +kernel
theorem d_M_nextToken_289 : decode c_M_nextToken 289 = .ok (.lcmp, 1) := by decide +kernel
theorem d_M_nextToken_290 : decode c_M_nextToken 290 = .ok (.ifCond .le 7, 3) := by decide +kernel
theorem d_M_nextToken_293 : decode c_M_nextToken 293 = .ok (.iconst 4, 1) := by decide +kernel
theorem d_M_nextToken_294 : decode c_M_nextToken 294 = .ok (.goto 4, 3) := by decide +kernel
theorem d_M_nextToken_297 : decode c_M_nextToken 297 = .ok (.iconst 2, 1) := by decide +kernel
theorem d_M_nextToken_298 : decode c_M_nextToken 298 = .ok (.putfield 162, 3) := by decide +kernel
theorem d_M_nextToken_301 : decode c_M_nextToken 301 = .ok (.goto 36, 3) := by decide +kernel
theorem d_M_nextToken_304 : decode c_M_nextToken 304 = .ok (.aload_n 0, 1) := by decide +kernel
theorem d_M_nextToken_305 : decode c_M_nextToken 305 = .ok (.aload_n 0, 1) := by decide +kernel
theorem d_M_nextToken_306 : decode c_M_nextToken 306 = .ok (.getfield 22, 3) := by decide +kernel
theorem d_M_nextToken_309 : decode c_M_nextToken 309 = .ok (.aload_n 0, 1) := by decide +kernel
theorem d_M_nextToken_310 : decode c_M_nextToken 310 = .ok (.getfield 155, 3) := by decide +kernel
theorem d_M_nextToken_313 : decode c_M_nextToken 313 = .ok (.iaload, 1) := by decide +kernel
theorem d_M_nextToken_314 : decode c_M_nextToken 314 = .ok (.bipush 59, 2) := by decide +kernel
theorem d_M_nextToken_316 : decode c_M_nextToken 316 = .ok (.if_icmp .ne 7, 3) := by decide +kernel
theorem d_M_nextToken_319 : decode c_M_nextToken 319 = .ok (.iconst 3, 1) := by decide +kernel
theorem d_M_nextToken_320 : decode c_M_nextToken 320 = .ok (.goto 4, 3) := by decide +kernel
theorem d_M_nextToken_323 : decode c_M_nextToken 323 = .ok (.iconst 4, 1) := by decide +kernel
theorem d_M_nextToken_324 : decode c_M_nextToken 324 = .ok (.putfield 162, 3) := by decide +kernel
theorem d_M_nextToken_327 : decode c_M_nextToken 327 = .ok (.aload_n 0, 1) := by decide +kernel
theorem d_M_nextToken_328 : decode c_M_nextToken 328 = .ok (.dup, 1) := by decide +kernel
theorem d_M_nextToken_329 : decode c_M_nextToken 329 = .ok (.getfield 152, 3) := by decide +kernel
theorem d_M_nextToken_332 : decode c_M_nextToken 332 = .ok (.iconst 1, 1) := by decide +kernel
theorem d_M_nextToken_333 : decode c_M_nextToken 333 = .ok (.iadd, 1) := by decide +kernel
theorem d_M_nextToken_334 : decode c_M_nextToken 334 = .ok (.putfield 152, 3) := by decide +kernel
theorem d_M_nextToken_337 : decode c_M_nextToken 337 = .ok (.return_, 1) := by decide +kernel
theorem d_M_wordOf_0 : decode c_M_wordOf 0 = .ok (.iconst (-1), 1) := by decide +kernel
theorem d_M_wordOf_1 : decode c_M_wordOf 1 = .ok (.istore_n 2, 1) := by decide +kernel
theorem d_M_wordOf_2 : decode c_M_wordOf 2 = .ok (.iconst 0, 1) := by decide +kernel
theorem d_M_wordOf_3 : decode c_M_wordOf 3 = .ok (.istore_n 3, 1) := by decide +kernel
theorem d_M_wordOf_4 : decode c_M_wordOf 4 = .ok (.iload_n 3, 1) := by decide +kernel
theorem d_M_wordOf_5 : decode c_M_wordOf 5 = .ok (.aload_n 1, 1) := by decide +kernel
theorem d_M_wordOf_6 : decode c_M_wordOf 6 = .ok (.arraylength, 1) := by decide +kernel
theorem d_M_wordOf_7 : decode c_M_wordOf 7 = .ok (.bipush 8, 2) := by decide +kernel
theorem d_M_wordOf_9 : decode c_M_wordOf 9 = .ok (.idiv, 1) := by decide +kernel
theorem d_M_wordOf_10 : decode c_M_wordOf 10 = .ok (.if_icmp .ge 94, 3) := by decide +kernel
theorem d_M_wordOf_13 : decode c_M_wordOf 13 = .ok (.aload_n 0, 1) := by decide +kernel
theorem d_M_wordOf_14 : decode c_M_wordOf 14 = .ok (.getfield 162, 3) := by decide +kernel
theorem d_M_wordOf_17 : decode c_M_wordOf 17 = .ok (.iconst 1, 1) := by decide +kernel
theorem d_M_wordOf_18 : decode c_M_wordOf 18 = .ok (.if_icmp .ne 86, 3) := by decide +kernel
theorem d_M_wordOf_21 : decode c_M_wordOf 21 = .ok (.lconst 0, 1) := by decide +kernel
theorem d_M_wordOf_22 : decode c_M_wordOf 22 = .ok (.lstore 4, 2) := by decide +kernel
theorem d_M_wordOf_24 : decode c_M_wordOf 24 = .ok (.iconst 0, 1) := by decide +kernel
theorem d_M_wordOf_25 : decode c_M_wordOf 25 = .ok (.istore 6, 2) := by decide +kernel
theorem d_M_wordOf_27 : decode c_M_wordOf 27 = .ok (.iload 6, 2) := by decide +kernel
theorem d_M_wordOf_29 : decode c_M_wordOf 29 = .ok (.bipush 8, 2) := by decide +kernel
theorem d_M_wordOf_31 : decode c_M_wordOf 31 = .ok (.if_icmp .ge 51, 3) := by decide +kernel
theorem d_M_wordOf_34 : decode c_M_wordOf 34 = .ok (.aload_n 1, 1) := by decide +kernel
theorem d_M_wordOf_35 : decode c_M_wordOf 35 = .ok (.bipush 8, 2) := by decide +kernel
theorem d_M_wordOf_37 : decode c_M_wordOf 37 = .ok (.iload_n 3, 1) := by decide +kernel
theorem d_M_wordOf_38 : decode c_M_wordOf 38 = .ok (.imul, 1) := by decide +kernel
theorem d_M_wordOf_39 : decode c_M_wordOf 39 = .ok (.iload 6, 2) := by decide +kernel
theorem d_M_wordOf_41 : decode c_M_wordOf 41 = .ok (.iadd, 1) := by decide +kernel
theorem d_M_wordOf_42 : decode c_M_wordOf 42 = .ok (.caload, 1) := by decide +kernel
theorem d_M_wordOf_43 : decode c_M_wordOf 43 = .ok (.bipush 32, 2) := by decide +kernel
theorem d_M_wordOf_45 : decode c_M_wordOf 45 = .ok (.if_icmp .ne 8, 3) := by decide +kernel
theorem d_M_wordOf_48 : decode c_M_wordOf 48 = .ok (.lload 4, 2) := by decide +kernel
theorem d_M_wordOf_50 : decode c_M_wordOf 50 = .ok (.goto 24, 3) := by decide +kernel
theorem d_M_wordOf_53 : decode c_M_wordOf 53 = .ok (.lload 4, 2) := by decide +kernel
theorem d_M_wordOf_55 : decode c_M_wordOf 55 = .ok (.ldc2_w 170, 3) := by decide +kernel
theorem d_M_wordOf_58 : decode c_M_wordOf 58 = .ok (.lmul, 1) := by decide +kernel
theorem d_M_wordOf_59 : decode c_M_wordOf 59 = .ok (.aload_n 1, 1) := by decide +kernel
theorem d_M_wordOf_60 : decode c_M_wordOf 60 = .ok (.bipush 8, 2) := by decide +kernel
theorem d_M_wordOf_62 : decode c_M_wordOf 62 = .ok (.iload_n 3, 1) := by decide +kernel
theorem d_M_wordOf_63 : decode c_M_wordOf 63 = .ok (.imul, 1) := by decide +kernel
theorem d_M_wordOf_64 : decode c_M_wordOf 64 = .ok (.iload 6, 2) := by decide +kernel
theorem d_M_wordOf_66 : decode c_M_wordOf 66 = .ok (.iadd, 1) := by decide +kernel
theorem d_M_wordOf_67 : decode c_M_wordOf 67 = .ok (.caload, 1) := by decide +kernel
theorem d_M_wordOf_68 : decode c_M_wordOf 68 = .ok (.i2l, 1) := by decide +kernel
theorem d_M_wordOf_69 : decode c_M_wordOf 69 = .ok (.ladd, 1) := by decide +kernel
theorem d_M_wordOf_70 : decode c_M_wordOf 70 = .ok (.ldc2_w 172, 3) := by decide +kernel
theorem d_M_wordOf_73 : decode c_M_wordOf 73 = .ok (.lsub, 1) := by decide +kernel
theorem d_M_wordOf_74 : decode c_M_wordOf 74 = .ok (.lstore 4, 2) := by decide +kernel
theorem d_M_wordOf_76 : decode c_M_wordOf 76 = .ok (.iinc 6 1, 3) := by decide +kernel
theorem d_M_wordOf_79 : decode c_M_wordOf 79 = .ok (.goto (-52), 3) := by decide +kernel
theorem d_M_wordOf_82 : decode c_M_wordOf 82 = .ok (.lload 4, 2) := by decide +kernel
theorem d_M_wordOf_84 : decode c_M_wordOf 84 = .ok (.aload_n 0, 1) := by decide +kernel
theorem d_M_wordOf_85 : decode c_M_wordOf 85 = .ok (.getfield 158, 3) := by decide +kernel
theorem d_M_wordOf_88 : decode c_M_wordOf 88 = .ok (.lcmp, 1) := by decide +kernel
theorem d_M_wordOf_89 : decode c_M_wordOf 89 = .ok (.ifCond .ne 7, 3) := by decide +kernel
theorem d_M_wordOf_92 : decode c_M_wordOf 92 = .ok (.iload_n 3, 1) := by decide +kernel
theorem d_M_wordOf_93 : decode c_M_wordOf 93 = .ok (.goto 4, 3) := by decide +kernel
theorem d_M_wordOf_96 : decode c_M_wordOf 96 = .ok (.iload_n 2, 1) := by decide +kernel
theorem d_M_wordOf_97 : decode c_M_wordOf 97 = .ok (.istore_n 2, 1) := by decide +kernel
theorem d_M_wordOf_98 : decode c_M_wordOf 98 = .ok (.iinc 3 1, 3) := by decide +kernel
theorem d_M_wordOf_101 : decode c_M_wordOf 101 = .ok (.goto (-97), 3) := by decide +kernel
theorem d_M_wordOf_104 : decode c_M_wordOf 104 = .ok (.iload_n 2, 1) := by decide +kernel
theorem d_M_wordOf_105 : decode c_M_wordOf 105 = .ok (.ireturn, 1) := by decide +kernel
theorem d_M_takesNumber_0 : decode c_M_takesNumber 0 = .ok (.aload_n 0, 1) := by decide +kernel
theorem d_M_takesNumber_1 : decode c_M_takesNumber 1 = .ok (.getfield 162, 3) := by decide +kernel
theorem d_M_takesNumber_4 : decode c_M_takesNumber 4 = .ok (.iconst 2, 1) := by decide +kernel
theorem d_M_takesNumber_5 : decode c_M_takesNumber 5 = .ok (.if_icmp .ne 24, 3) := by decide +kernel
theorem d_M_takesNumber_8 : decode c_M_takesNumber 8 = .ok (.aload_n 0, 1) := by decide +kernel
theorem d_M_takesNumber_9 : decode c_M_takesNumber 9 = .ok (.getfield 158, 3) := by decide +kernel
theorem d_M_takesNumber_12 : decode c_M_takesNumber 12 = .ok (.l2i, 1) := by decide +kernel
theorem d_M_takesNumber_13 : decode c_M_takesNumber 13 = .ok (.iload_n 1, 1) := by decide +kernel
theorem d_M_takesNumber_14 : decode c_M_takesNumber 14 = .ok (.iload_n 2, 1) := by decide +kernel
theorem d_M_takesNumber_15 : decode c_M_takesNumber 15 = .ok (.invokestatic 49, 3) := by decide +kernel
theorem d_M_takesNumber_18 : decode c_M_takesNumber 18 = .ok (.ifCond .eq 11, 3) := by decide +kernel
theorem d_M_takesNumber_21 : decode c_M_takesNumber 21 = .ok (.aload_n 0, 1) := by decide +kernel
theorem d_M_takesNumber_22 : decode c_M_takesNumber 22 = .ok (.getfield 158, 3) := by decide +kernel
theorem d_M_takesNumber_25 : decode c_M_takesNumber 25 = .ok (.l2i, 1) := by decide +kernel
theorem d_M_takesNumber_26 : decode c_M_takesNumber 26 = .ok (.goto 4, 3) := by decide +kernel
theorem d_M_takesNumber_29 : decode c_M_takesNumber 29 = .ok (.iconst (-1), 1) := by decide +kernel
theorem d_M_takesNumber_30 : decode c_M_takesNumber 30 = .ok (.istore_n 3, 1) := by decide +kernel
theorem d_M_takesNumber_31 : decode c_M_takesNumber 31 = .ok (.iload_n 3, 1) := by decide +kernel
theorem d_M_takesNumber_32 : decode c_M_takesNumber 32 = .ok (.ifCond .lt 7, 3) := by decide +kernel
theorem d_M_takesNumber_35 : decode c_M_takesNumber 35 = .ok (.aload_n 0, 1) := by decide +kernel
theorem d_M_takesNumber_36 : decode c_M_takesNumber 36 = .ok (.invokevirtual 183, 3) := by decide +kernel
theorem d_M_takesNumber_39 : decode c_M_takesNumber 39 = .ok (.iload_n 3, 1) := by decide +kernel
theorem d_M_takesNumber_40 : decode c_M_takesNumber 40 = .ok (.ireturn, 1) := by decide +kernel
theorem d_M_readsCarpet_0 : decode c_M_readsCarpet 0 = .ok (.aload_n 0, 1) := by decide +kernel
theorem d_M_readsCarpet_1 : decode c_M_readsCarpet 1 = .ok (.getfield 9, 3) := by decide +kernel
theorem d_M_readsCarpet_4 : decode c_M_readsCarpet 4 = .ok (.iconst 2, 1) := by decide +kernel
theorem d_M_readsCarpet_5 : decode c_M_readsCarpet 5 = .ok (.iaload, 1) := by decide +kernel
theorem d_M_readsCarpet_6 : decode c_M_readsCarpet 6 = .ok (.bipush 8, 2) := by decide +kernel
theorem d_M_readsCarpet_8 : decode c_M_readsCarpet 8 = .ok (.if_icmp .ne 5, 3) := by decide +kernel
theorem d_M_readsCarpet_11 : decode c_M_readsCarpet 11 = .ok (.iconst 0, 1) := by decide +kernel
theorem d_M_readsCarpet_12 : decode c_M_readsCarpet 12 = .ok (.ireturn, 1) := by decide +kernel
theorem d_M_readsCarpet_13 : decode c_M_readsCarpet 13 = .ok (.aload_n 0, 1) := by decide +kernel
theorem d_M_readsCarpet_14 : decode c_M_readsCarpet 14 = .ok (.invokevirtual 183, 3) := by decide +kernel
theorem d_M_readsCarpet_17 : decode c_M_readsCarpet 17 = .ok (.aload_n 0, 1) := by decide +kernel
theorem d_M_readsCarpet_18 : decode c_M_readsCarpet 18 = .ok (.iconst 0, 1) := by decide +kernel
theorem d_M_readsCarpet_19 : decode c_M_readsCarpet 19 = .ok (.iconst 3, 1) := by decide +kernel
theorem d_M_readsCarpet_20 : decode c_M_readsCarpet 20 = .ok (.invokevirtual 186, 3) := by decide +kernel
theorem d_M_readsCarpet_23 : decode c_M_readsCarpet 23 = .ok (.istore_n 2, 1) := by decide +kernel
theorem d_M_readsCarpet_24 : decode c_M_readsCarpet 24 = .ok (.iload_n 2, 1) := by decide +kernel
theorem d_M_readsCarpet_25 : decode c_M_readsCarpet 25 = .ok (.ifCond .ge 5, 3) := by decide +kernel
theorem d_M_readsCarpet_28 : decode c_M_readsCarpet 28 = .ok (.iconst 0, 1) := by decide +kernel
theorem d_M_readsCarpet_29 : decode c_M_readsCarpet 29 = .ok (.ireturn, 1) := by decide +kernel
theorem d_M_readsCarpet_30 : decode c_M_readsCarpet 30 = .ok (.aload_n 0, 1) := by decide +kernel
theorem d_M_readsCarpet_31 : decode c_M_readsCarpet 31 = .ok (.getfield 9, 3) := by decide +kernel
theorem d_M_readsCarpet_34 : decode c_M_readsCarpet 34 = .ok (.iconst 2, 1) := by decide +kernel
theorem d_M_readsCarpet_35 : decode c_M_readsCarpet 35 = .ok (.iaload, 1) := by decide +kernel
theorem d_M_readsCarpet_36 : decode c_M_readsCarpet 36 = .ok (.istore_n 3, 1) := by decide +kernel
theorem d_M_readsCarpet_37 : decode c_M_readsCarpet 37 = .ok (.aload_n 0, 1) := by decide +kernel
theorem d_M_readsCarpet_38 : decode c_M_readsCarpet 38 = .ok (.iload_n 1, 1) := by decide +kernel
theorem d_M_readsCarpet_39 : decode c_M_readsCarpet 39 = .ok (.iload_n 2, 1) := by decide +kernel
theorem d_M_readsCarpet_40 : decode c_M_readsCarpet 40 = .ok (.invokevirtual 109, 3) := by decide +kernel
theorem d_M_readsCarpet_43 : decode c_M_readsCarpet 43 = .ok (.iconst 0, 1) := by decide +kernel
theorem d_M_readsCarpet_44 : decode c_M_readsCarpet 44 = .ok (.istore 4, 2) := by decide +kernel
theorem d_M_readsCarpet_46 : decode c_M_readsCarpet 46 = .ok (.iload 4, 2) := by decide +kernel
theorem d_M_readsCarpet_48 : decode c_M_readsCarpet 48 = .ok (.iconst 3, 1) := by decide +kernel
theorem d_M_readsCarpet_49 : decode c_M_readsCarpet 49 = .ok (.if_icmp .ge 99, 3) := by decide +kernel
theorem d_M_readsCarpet_52 : decode c_M_readsCarpet 52 = .ok (.aload_n 0, 1) := by decide +kernel
theorem d_M_readsCarpet_53 : decode c_M_readsCarpet 53 = .ok (.aload_n 0, 1) := by decide +kernel
theorem d_M_readsCarpet_54 : decode c_M_readsCarpet 54 = .ok (.getfield 29, 3) := by decide +kernel
theorem d_M_readsCarpet_57 : decode c_M_readsCarpet 57 = .ok (.invokevirtual 189, 3) := by decide +kernel
theorem d_M_readsCarpet_60 : decode c_M_readsCarpet 60 = .ok (.iload 4, 2) := by decide +kernel
theorem d_M_readsCarpet_62 : decode c_M_readsCarpet 62 = .ok (.if_icmp .ne 80, 3) := by decide +kernel
theorem d_M_readsCarpet_65 : decode c_M_readsCarpet 65 = .ok (.aload_n 0, 1) := by decide +kernel
theorem d_M_readsCarpet_66 : decode c_M_readsCarpet 66 = .ok (.invokevirtual 183, 3) := by decide +kernel
theorem d_M_readsCarpet_69 : decode c_M_readsCarpet 69 = .ok (.aload_n 0, 1) := by decide +kernel
theorem d_M_readsCarpet_70 : decode c_M_readsCarpet 70 = .ok (.iload 4, 2) := by decide +kernel
theorem d_M_readsCarpet_72 : decode c_M_readsCarpet 72 = .ok (.ifCond .ne 7, 3) := by decide +kernel
theorem d_M_readsCarpet_75 : decode c_M_readsCarpet 75 = .ok (.iconst 1, 1) := by decide +kernel
theorem d_M_readsCarpet_76 : decode c_M_readsCarpet 76 = .ok (.goto 4, 3) := by decide +kernel
theorem d_M_readsCarpet_79 : decode c_M_readsCarpet 79 = .ok (.iconst 0, 1) := by decide +kernel
theorem d_M_readsCarpet_80 : decode c_M_readsCarpet 80 = .ok (.iload 4, 2) := by decide +kernel
theorem d_M_readsCarpet_82 : decode c_M_readsCarpet 82 = .ok (.ifCond .ne 8, 3) := by decide +kernel
theorem d_M_readsCarpet_85 : decode c_M_readsCarpet 85 = .ok (.bipush 20, 2) := by decide +kernel
theorem d_M_readsCarpet_87 : decode c_M_readsCarpet 87 = .ok (.goto 16, 3) := by decide +kernel
theorem d_M_readsCarpet_90 : decode c_M_readsCarpet 90 = .ok (.iload 4, 2) := by decide +kernel
theorem d_M_readsCarpet_92 : decode c_M_readsCarpet 92 = .ok (.iconst 1, 1) := by decide +kernel
theorem d_M_readsCarpet_93 : decode c_M_readsCarpet 93 = .ok (.if_icmp .ne 8, 3) := by decide +kernel
theorem d_M_readsCarpet_96 : decode c_M_readsCarpet 96 = .ok (.bipush 99, 2) := by decide +kernel
theorem d_M_readsCarpet_98 : decode c_M_readsCarpet 98 = .ok (.goto 5, 3) := by decide +kernel
theorem d_M_readsCarpet_101 : decode c_M_readsCarpet 101 = .ok (.bipush 39, 2) := by decide +kernel
theorem d_M_readsCarpet_103 : decode c_M_readsCarpet 103 = .ok (.invokevirtual 186, 3) := by decide +kernel
theorem d_M_readsCarpet_106 : decode c_M_readsCarpet 106 = .ok (.istore 5, 2) := by decide +kernel
theorem d_M_readsCarpet_108 : decode c_M_readsCarpet 108 = .ok (.iload 5, 2) := by decide +kernel
theorem d_M_readsCarpet_110 : decode c_M_readsCarpet 110 = .ok (.ifCond .ge 5, 3) := by decide +kernel
theorem d_M_readsCarpet_113 : decode c_M_readsCarpet 113 = .ok (.iconst 0, 1) := by decide +kernel
theorem d_M_readsCarpet_114 : decode c_M_readsCarpet 114 = .ok (.ireturn, 1) := by decide +kernel
theorem d_M_readsCarpet_115 : decode c_M_readsCarpet 115 = .ok (.iload 4, 2) := by decide +kernel
theorem d_M_readsCarpet_117 : decode c_M_readsCarpet 117 = .ok (.iconst 2, 1) := by decide +kernel
theorem d_M_readsCarpet_118 : decode c_M_readsCarpet 118 = .ok (.if_icmp .ne 13, 3) := by decide +kernel
theorem d_M_readsCarpet_121 : decode c_M_readsCarpet 121 = .ok (.aload_n 0, 1) := by decide +kernel
theorem d_M_readsCarpet_122 : decode c_M_readsCarpet 122 = .ok (.iload_n 3, 1) := by decide +kernel
theorem d_M_readsCarpet_123 : decode c_M_readsCarpet 123 = .ok (.iload 5, 2) := by decide +kernel
theorem d_M_readsCarpet_125 : decode c_M_readsCarpet 125 = .ok (.invokevirtual 120, 3) := by decide +kernel
theorem d_M_readsCarpet_128 : decode c_M_readsCarpet 128 = .ok (.goto 14, 3) := by decide +kernel
theorem d_M_readsCarpet_131 : decode c_M_readsCarpet 131 = .ok (.aload_n 0, 1) := by decide +kernel
theorem d_M_readsCarpet_132 : decode c_M_readsCarpet 132 = .ok (.iload_n 3, 1) := by decide +kernel
theorem d_M_readsCarpet_133 : decode c_M_readsCarpet 133 = .ok (.iconst 2, 1) := by decide +kernel
theorem d_M_readsCarpet_134 : decode c_M_readsCarpet 134 = .ok (.iload 4, 2) := by decide +kernel
theorem d_M_readsCarpet_136 : decode c_M_readsCarpet 136 = .ok (.iadd, 1) := by decide +kernel
theorem d_M_readsCarpet_137 : decode c_M_readsCarpet 137 = .ok (.iload 5, 2) := by decide +kernel
theorem d_M_readsCarpet_139 : decode c_M_readsCarpet 139 = .ok (.invokevirtual 78, 3) := by decide +kernel
theorem d_M_readsCarpet_142 : decode c_M_readsCarpet 142 = .ok (.iinc 4 1, 3) := by decide +kernel
theorem d_M_readsCarpet_145 : decode c_M_readsCarpet 145 = .ok (.goto (-99), 3) := by decide +kernel
theorem d_M_readsCarpet_148 : decode c_M_readsCarpet 148 = .ok (.iconst 1, 1) := by decide +kernel
theorem d_M_readsCarpet_149 : decode c_M_readsCarpet 149 = .ok (.ireturn, 1) := by decide +kernel
theorem d_M_readsUp_0 : decode c_M_readsUp 0 = .ok (.aload_n 0, 1) := by decide +kernel
theorem d_M_readsUp_1 : decode c_M_readsUp 1 = .ok (.iconst 0, 1) := by decide +kernel
theorem d_M_readsUp_2 : decode c_M_readsUp 2 = .ok (.bipush 7, 2) := by decide +kernel
theorem d_M_readsUp_4 : decode c_M_readsUp 4 = .ok (.invokevirtual 186, 3) := by decide +kernel
theorem d_M_readsUp_7 : decode c_M_readsUp 7 = .ok (.istore_n 1, 1) := by decide +kernel
theorem d_M_readsUp_8 : decode c_M_readsUp 8 = .ok (.iload_n 1, 1) := by decide +kernel
theorem d_M_readsUp_9 : decode c_M_readsUp 9 = .ok (.ifCond .lt 10, 3) := by decide +kernel
theorem d_M_readsUp_12 : decode c_M_readsUp 12 = .ok (.aload_n 0, 1) := by decide +kernel
theorem d_M_readsUp_13 : decode c_M_readsUp 13 = .ok (.iload_n 1, 1) := by decide +kernel
theorem d_M_readsUp_14 : decode c_M_readsUp 14 = .ok (.iconst 5, 1) := by decide +kernel
theorem d_M_readsUp_15 : decode c_M_readsUp 15 = .ok (.iconst (-1), 1) := by decide +kernel
theorem d_M_readsUp_16 : decode c_M_readsUp 16 = .ok (.invokevirtual 78, 3) := by decide +kernel
theorem d_M_readsUp_19 : decode c_M_readsUp 19 = .ok (.iload_n 1, 1) := by decide +kernel
theorem d_M_readsUp_20 : decode c_M_readsUp 20 = .ok (.ifCond .lt 7, 3) := by decide +kernel
theorem d_M_readsUp_23 : decode c_M_readsUp 23 = .ok (.iconst 1, 1) := by decide +kernel
theorem d_M_readsUp_24 : decode c_M_readsUp 24 = .ok (.goto 4, 3) := by decide +kernel
theorem d_M_readsUp_27 : decode c_M_readsUp 27 = .ok (.iconst 0, 1) := by decide +kernel
theorem d_M_readsUp_28 : decode c_M_readsUp 28 = .ok (.ireturn, 1) := by decide +kernel
theorem d_M_isUpTold_0 : decode c_M_isUpTold 0 = .ok (.aload_n 0, 1) := by decide +kernel
theorem d_M_isUpTold_1 : decode c_M_isUpTold 1 = .ok (.getfield 162, 3) := by decide +kernel
theorem d_M_isUpTold_4 : decode c_M_isUpTold 4 = .ok (.iconst 2, 1) := by decide +kernel
theorem d_M_isUpTold_5 : decode c_M_isUpTold 5 = .ok (.if_icmp .ne 32, 3) := by decide +kernel
theorem d_M_isUpTold_8 : decode c_M_isUpTold 8 = .ok (.aload_n 0, 1) := by decide +kernel
theorem d_M_isUpTold_9 : decode c_M_isUpTold 9 = .ok (.aload_n 0, 1) := by decide +kernel
theorem d_M_isUpTold_10 : decode c_M_isUpTold 10 = .ok (.getfield 158, 3) := by decide +kernel
theorem d_M_isUpTold_13 : decode c_M_isUpTold 13 = .ok (.l2i, 1) := by decide +kernel
theorem d_M_isUpTold_14 : decode c_M_isUpTold 14 = .ok (.invokevirtual 113, 3) := by decide +kernel
theorem d_M_isUpTold_17 : decode c_M_isUpTold 17 = .ok (.ifCond .eq 20, 3) := by decide +kernel
theorem d_M_isUpTold_20 : decode c_M_isUpTold 20 = .ok (.aload_n 0, 1) := by decide +kernel
theorem d_M_isUpTold_21 : decode c_M_isUpTold 21 = .ok (.aload_n 0, 1) := by decide +kernel
theorem d_M_isUpTold_22 : decode c_M_isUpTold 22 = .ok (.getfield 158, 3) := by decide +kernel
theorem d_M_isUpTold_25 : decode c_M_isUpTold 25 = .ok (.l2i, 1) := by decide +kernel
theorem d_M_isUpTold_26 : decode c_M_isUpTold 26 = .ok (.iconst 5, 1) := by decide +kernel
theorem d_M_isUpTold_27 : decode c_M_isUpTold 27 = .ok (.invokevirtual 53, 3) := by decide +kernel
theorem d_M_isUpTold_30 : decode c_M_isUpTold 30 = .ok (.ifCond .lt 7, 3) := by decide +kernel
theorem d_M_isUpTold_33 : decode c_M_isUpTold 33 = .ok (.iconst 1, 1) := by decide +kernel
theorem d_M_isUpTold_34 : decode c_M_isUpTold 34 = .ok (.goto 4, 3) := by decide +kernel
theorem d_M_isUpTold_37 : decode c_M_isUpTold 37 = .ok (.iconst 0, 1) := by decide +kernel
theorem d_M_isUpTold_38 : decode c_M_isUpTold 38 = .ok (.ireturn, 1) := by decide +kernel
theorem d_M_readsItem_0 : decode c_M_readsItem 0 = .ok (.aload_n 0, 1) := by decide +kernel
theorem d_M_readsItem_1 : decode c_M_readsItem 1 = .ok (.aload_n 0, 1) := by decide +kernel
theorem d_M_readsItem_2 : decode c_M_readsItem 2 = .ok (.getfield 25, 3) := by decide +kernel
theorem d_M_readsItem_5 : decode c_M_readsItem 5 = .ok (.invokevirtual 189, 3) := by decide +kernel
theorem d_M_readsItem_8 : decode c_M_readsItem 8 = .ok (.istore_n 1, 1) := by decide +kernel
theorem d_M_readsItem_9 : decode c_M_readsItem 9 = .ok (.iload_n 1, 1) := by decide +kernel
theorem d_M_readsItem_10 : decode c_M_readsItem 10 = .ok (.ifCond .lt 9, 3) := by decide +kernel
theorem d_M_readsItem_13 : decode c_M_readsItem 13 = .ok (.aload_n 0, 1) := by decide +kernel
theorem d_M_readsItem_14 : decode c_M_readsItem 14 = .ok (.iload_n 1, 1) := by decide +kernel
theorem d_M_readsItem_15 : decode c_M_readsItem 15 = .ok (.invokevirtual 193, 3) := by decide +kernel
theorem d_M_readsItem_18 : decode c_M_readsItem 18 = .ok (.ireturn, 1) := by decide +kernel
theorem d_M_readsItem_19 : decode c_M_readsItem 19 = .ok (.aload_n 0, 1) := by decide +kernel
theorem d_M_readsItem_20 : decode c_M_readsItem 20 = .ok (.aload_n 0, 1) := by decide +kernel
theorem d_M_readsItem_21 : decode c_M_readsItem 21 = .ok (.getfield 32, 3) := by decide +kernel
theorem d_M_readsItem_24 : decode c_M_readsItem 24 = .ok (.invokevirtual 189, 3) := by decide +kernel
theorem d_M_readsItem_27 : decode c_M_readsItem 27 = .ok (.istore_n 2, 1) := by decide +kernel
theorem d_M_readsItem_28 : decode c_M_readsItem 28 = .ok (.iload_n 2, 1) := by decide +kernel
theorem d_M_readsItem_29 : decode c_M_readsItem 29 = .ok (.ifCond .ge 5, 3) := by decide +kernel
theorem d_M_readsItem_32 : decode c_M_readsItem 32 = .ok (.iconst 0, 1) := by decide +kernel
theorem d_M_readsItem_33 : decode c_M_readsItem 33 = .ok (.ireturn, 1) := by decide +kernel
theorem d_M_readsItem_34 : decode c_M_readsItem 34 = .ok (.aload_n 0, 1) := by decide +kernel
theorem d_M_readsItem_35 : decode c_M_readsItem 35 = .ok (.invokevirtual 183, 3) := by decide +kernel
theorem d_M_readsItem_38 : decode c_M_readsItem 38 = .ok (.iload_n 2, 1) := by decide +kernel
theorem d_M_readsItem_39 : decode c_M_readsItem 39 = .ok (.ifCond .ne 23, 3) := by decide +kernel
theorem d_M_readsItem_42 : decode c_M_readsItem 42 = .ok (.aload_n 0, 1) := by decide +kernel
theorem d_M_readsItem_43 : decode c_M_readsItem 43 = .ok (.invokevirtual 196, 3) := by decide +kernel
theorem d_M_readsItem_46 : decode c_M_readsItem 46 = .ok (.ifCond .eq 14, 3) := by decide +kernel
theorem d_M_readsItem_49 : decode c_M_readsItem 49 = .ok (.aload_n 0, 1) := by decide +kernel
theorem d_M_readsItem_50 : decode c_M_readsItem 50 = .ok (.invokevirtual 199, 3) := by decide +kernel
theorem d_M_readsItem_53 : decode c_M_readsItem 53 = .ok (.ifCond .eq 7, 3) := by decide +kernel
theorem d_M_readsItem_56 : decode c_M_readsItem 56 = .ok (.iconst 1, 1) := by decide +kernel
theorem d_M_readsItem_57 : decode c_M_readsItem 57 = .ok (.goto 4, 3) := by decide +kernel
theorem d_M_readsItem_60 : decode c_M_readsItem 60 = .ok (.iconst 0, 1) := by decide +kernel
theorem d_M_readsItem_61 : decode c_M_readsItem 61 = .ok (.ireturn, 1) := by decide +kernel
theorem d_M_readsItem_62 : decode c_M_readsItem 62 = .ok (.aload_n 0, 1) := by decide +kernel
theorem d_M_readsItem_63 : decode c_M_readsItem 63 = .ok (.iconst 0, 1) := by decide +kernel
theorem d_M_readsItem_64 : decode c_M_readsItem 64 = .ok (.bipush 6, 2) := by decide +kernel
theorem d_M_readsItem_66 : decode c_M_readsItem 66 = .ok (.invokevirtual 186, 3) := by decide +kernel
theorem d_M_readsItem_69 : decode c_M_readsItem 69 = .ok (.istore_n 3, 1) := by decide +kernel
theorem d_M_readsItem_70 : decode c_M_readsItem 70 = .ok (.iload_n 3, 1) := by decide +kernel
theorem d_M_readsItem_71 : decode c_M_readsItem 71 = .ok (.ifCond .lt 21, 3) := by decide +kernel
theorem d_M_readsItem_74 : decode c_M_readsItem 74 = .ok (.aload_n 0, 1) := by decide +kernel
theorem d_M_readsItem_75 : decode c_M_readsItem 75 = .ok (.getfield 9, 3) := by decide +kernel
theorem d_M_readsItem_78 : decode c_M_readsItem 78 = .ok (.iconst 3, 1) := by decide +kernel
theorem d_M_readsItem_79 : decode c_M_readsItem 79 = .ok (.iload_n 3, 1) := by decide +kernel
theorem d_M_readsItem_80 : decode c_M_readsItem 80 = .ok (.iadd, 1) := by decide +kernel
theorem d_M_readsItem_81 : decode c_M_readsItem 81 = .ok (.iload_n 2, 1) := by decide +kernel
theorem d_M_readsItem_82 : decode c_M_readsItem 82 = .ok (.iconst 1, 1) := by decide +kernel
theorem d_M_readsItem_83 : decode c_M_readsItem 83 = .ok (.if_icmp .ne 7, 3) := by decide +kernel
theorem d_M_readsItem_86 : decode c_M_readsItem 86 = .ok (.iconst 1, 1) := by decide +kernel
theorem d_M_readsItem_87 : decode c_M_readsItem 87 = .ok (.goto 4, 3) := by decide +kernel
theorem d_M_readsItem_90 : decode c_M_readsItem 90 = .ok (.iconst 0, 1) := by decide +kernel
theorem d_M_readsItem_91 : decode c_M_readsItem 91 = .ok (.iastore, 1) := by decide +kernel
theorem d_M_readsItem_92 : decode c_M_readsItem 92 = .ok (.iload_n 3, 1) := by decide +kernel
theorem d_M_readsItem_93 : decode c_M_readsItem 93 = .ok (.ifCond .lt 7, 3) := by decide +kernel
theorem d_M_readsItem_96 : decode c_M_readsItem 96 = .ok (.iconst 1, 1) := by decide +kernel
theorem d_M_readsItem_97 : decode c_M_readsItem 97 = .ok (.goto 4, 3) := by decide +kernel
theorem d_M_readsItem_100 : decode c_M_readsItem 100 = .ok (.iconst 0, 1) := by decide +kernel
theorem d_M_readsItem_101 : decode c_M_readsItem 101 = .ok (.ireturn, 1) := by decide +kernel
theorem d_M_palace_0 : decode c_M_palace 0 = .ok (.aload_n 0, 1) := by decide +kernel
theorem d_M_palace_1 : decode c_M_palace 1 = .ok (.invokevirtual 126, 3) := by decide +kernel
theorem d_M_palace_4 : decode c_M_palace 4 = .ok (.aload_n 0, 1) := by decide +kernel
theorem d_M_palace_5 : decode c_M_palace 5 = .ok (.iconst 0, 1) := by decide +kernel
theorem d_M_palace_6 : decode c_M_palace 6 = .ok (.putfield 152, 3) := by decide +kernel
theorem d_M_palace_9 : decode c_M_palace 9 = .ok (.aload_n 0, 1) := by decide +kernel
theorem d_M_palace_10 : decode c_M_palace 10 = .ok (.invokevirtual 183, 3) := by decide +kernel
theorem d_M_palace_13 : decode c_M_palace 13 = .ok (.iconst 1, 1) := by decide +kernel
theorem d_M_palace_14 : decode c_M_palace 14 = .ok (.istore_n 1, 1) := by decide +kernel
theorem d_M_palace_15 : decode c_M_palace 15 = .ok (.aload_n 0, 1) := by decide +kernel
theorem d_M_palace_16 : decode c_M_palace 16 = .ok (.invokevirtual 202, 3) := by decide +kernel
theorem d_M_palace_19 : decode c_M_palace 19 = .ok (.istore_n 2, 1) := by decide +kernel
theorem d_M_palace_20 : decode c_M_palace 20 = .ok (.iload_n 2, 1) := by decide +kernel
theorem d_M_palace_21 : decode c_M_palace 21 = .ok (.ifCond .eq 26, 3) := by decide +kernel
theorem d_M_palace_24 : decode c_M_palace 24 = .ok (.aload_n 0, 1) := by decide +kernel
theorem d_M_palace_25 : decode c_M_palace 25 = .ok (.getfield 162, 3) := by decide +kernel
theorem d_M_palace_28 : decode c_M_palace 28 = .ok (.iconst 3, 1) := by decide +kernel
theorem d_M_palace_29 : decode c_M_palace 29 = .ok (.if_icmp .ne 18, 3) := by decide +kernel
theorem d_M_palace_32 : decode c_M_palace 32 = .ok (.aload_n 0, 1) := by decide +kernel
theorem d_M_palace_33 : decode c_M_palace 33 = .ok (.invokevirtual 183, 3) := by decide +kernel
theorem d_M_palace_36 : decode c_M_palace 36 = .ok (.aload_n 0, 1) := by decide +kernel
theorem d_M_palace_37 : decode c_M_palace 37 = .ok (.invokevirtual 202, 3) := by decide +kernel
theorem d_M_palace_40 : decode c_M_palace 40 = .ok (.istore_n 2, 1) := by decide +kernel
theorem d_M_palace_41 : decode c_M_palace 41 = .ok (.iinc 1 1, 3) := by decide +kernel
theorem d_M_palace_44 : decode c_M_palace 44 = .ok (.goto (-24), 3) := by decide +kernel
theorem d_M_palace_47 : decode c_M_palace 47 = .ok (.iload_n 2, 1) := by decide +kernel
theorem d_M_palace_48 : decode c_M_palace 48 = .ok (.ifCond .eq 14, 3) := by decide +kernel
theorem d_M_palace_51 : decode c_M_palace 51 = .ok (.aload_n 0, 1) := by decide +kernel
theorem d_M_palace_52 : decode c_M_palace 52 = .ok (.getfield 162, 3) := by decide +kernel
theorem d_M_palace_55 : decode c_M_palace 55 = .ok (.ifCond .ne 7, 3) := by decide +kernel
theorem d_M_palace_58 : decode c_M_palace 58 = .ok (.iconst 1, 1) := by decide +kernel
theorem d_M_palace_59 : decode c_M_palace 59 = .ok (.goto 4, 3) := by decide +kernel
theorem d_M_palace_62 : decode c_M_palace 62 = .ok (.iconst 0, 1) := by decide +kernel
theorem d_M_palace_63 : decode c_M_palace 63 = .ok (.istore_n 2, 1) := by decide +kernel
theorem d_M_palace_64 : decode c_M_palace 64 = .ok (.aload_n 0, 1) := by decide +kernel
theorem d_M_palace_65 : decode c_M_palace 65 = .ok (.iconst 0, 1) := by decide +kernel
theorem d_M_palace_66 : decode c_M_palace 66 = .ok (.putfield 148, 3) := by decide +kernel
theorem d_M_palace_69 : decode c_M_palace 69 = .ok (.iload_n 2, 1) := by decide +kernel
theorem d_M_palace_70 : decode c_M_palace 70 = .ok (.ifCond .ne 14, 3) := by decide +kernel
theorem d_M_palace_73 : decode c_M_palace 73 = .ok (.aload_n 0, 1) := by decide +kernel
theorem d_M_palace_74 : decode c_M_palace 74 = .ok (.invokevirtual 129, 3) := by decide +kernel
theorem d_M_palace_77 : decode c_M_palace 77 = .ok (.iconst (-1), 1) := by decide +kernel
theorem d_M_palace_78 : decode c_M_palace 78 = .ok (.aload_n 0, 1) := by decide +kernel
theorem d_M_palace_79 : decode c_M_palace 79 = .ok (.getfield 155, 3) := by decide +kernel
theorem d_M_palace_82 : decode c_M_palace 82 = .ok (.isub, 1) := by decide +kernel
theorem d_M_palace_83 : decode c_M_palace 83 = .ok (.ireturn, 1) := by decide +kernel
theorem d_M_palace_84 : decode c_M_palace 84 = .ok (.iload_n 1, 1) := by decide +kernel
theorem d_M_palace_85 : decode c_M_palace 85 = .ok (.ireturn, 1) := by decide +kernel
theorem d_M_isSheet_0 : decode c_M_isSheet 0 = .ok (.iload_n 0, 1) := by decide +kernel
theorem d_M_isSheet_1 : decode c_M_isSheet 1 = .ok (.iconst 0, 1) := by decide +kernel
theorem d_M_isSheet_2 : decode c_M_isSheet 2 = .ok (.iconst 3, 1) := by decide +kernel
theorem d_M_isSheet_3 : decode c_M_isSheet 3 = .ok (.invokestatic 49, 3) := by decide +kernel
theorem d_M_isSheet_6 : decode c_M_isSheet 6 = .ok (.ireturn, 1) := by decide +kernel
theorem d_M_wrongSheet_0 : decode c_M_wrongSheet 0 = .ok (.iload_n 1, 1) := by decide +kernel
theorem d_M_wrongSheet_1 : decode c_M_wrongSheet 1 = .ok (.invokestatic 205, 3) := by decide +kernel
theorem d_M_wrongSheet_4 : decode c_M_wrongSheet 4 = .ok (.ifCond .ne 7, 3) := by decide +kernel
theorem d_M_wrongSheet_7 : decode c_M_wrongSheet 7 = .ok (.iconst 0, 1) := by decide +kernel
theorem d_M_wrongSheet_8 : decode c_M_wrongSheet 8 = .ok (.goto 17, 3) := by decide +kernel
theorem d_M_wrongSheet_11 : decode c_M_wrongSheet 11 = .ok (.aload_n 0, 1) := by decide +kernel
theorem d_M_wrongSheet_12 : decode c_M_wrongSheet 12 = .ok (.getfield 35, 3) := by decide +kernel
theorem d_M_wrongSheet_15 : decode c_M_wrongSheet 15 = .ok (.iload_n 1, 1) := by decide +kernel
theorem d_M_wrongSheet_16 : decode c_M_wrongSheet 16 = .ok (.iaload, 1) := by decide +kernel
theorem d_M_wrongSheet_17 : decode c_M_wrongSheet 17 = .ok (.ifCond .ne 7, 3) := by decide +kernel
theorem d_M_wrongSheet_20 : decode c_M_wrongSheet 20 = .ok (.iconst 5, 1) := by decide +kernel
theorem d_M_wrongSheet_21 : decode c_M_wrongSheet 21 = .ok (.goto 4, 3) := by decide +kernel
theorem d_M_wrongSheet_24 : decode c_M_wrongSheet 24 = .ok (.iconst (-1), 1) := by decide +kernel
theorem d_M_wrongSheet_25 : decode c_M_wrongSheet 25 = .ok (.ireturn, 1) := by decide +kernel
theorem d_M_told_0 : decode c_M_told 0 = .ok (.aload_n 0, 1) := by decide +kernel
theorem d_M_told_1 : decode c_M_told 1 = .ok (.getfield 41, 3) := by decide +kernel
theorem d_M_told_4 : decode c_M_told 4 = .ok (.bipush 40, 2) := by decide +kernel
theorem d_M_told_6 : decode c_M_told 6 = .ok (.iload_n 1, 1) := by decide +kernel
theorem d_M_told_7 : decode c_M_told 7 = .ok (.imul, 1) := by decide +kernel
theorem d_M_told_8 : decode c_M_told 8 = .ok (.iload_n 2, 1) := by decide +kernel
theorem d_M_told_9 : decode c_M_told 9 = .ok (.iadd, 1) := by decide +kernel
theorem d_M_told_10 : decode c_M_told 10 = .ok (.laload, 1) := by decide +kernel
theorem d_M_told_11 : decode c_M_told 11 = .ok (.lreturn, 1) := by decide +kernel
theorem d_M_tells_0 : decode c_M_tells 0 = .ok (.aload_n 0, 1) := by decide +kernel
theorem d_M_tells_1 : decode c_M_tells 1 = .ok (.getfield 41, 3) := by decide +kernel
theorem d_M_tells_4 : decode c_M_tells 4 = .ok (.bipush 40, 2) := by decide +kernel
theorem d_M_tells_6 : decode c_M_tells 6 = .ok (.iload_n 1, 1) := by decide +kernel
theorem d_M_tells_7 : decode c_M_tells 7 = .ok (.imul, 1) := by decide +kernel
theorem d_M_tells_8 : decode c_M_tells 8 = .ok (.iload_n 2, 1) := by decide +kernel
theorem d_M_tells_9 : decode c_M_tells 9 = .ok (.iadd, 1) := by decide +kernel
theorem d_M_tells_10 : decode c_M_tells 10 = .ok (.aload_n 0, 1) := by decide +kernel
theorem d_M_tells_11 : decode c_M_tells 11 = .ok (.getfield 35, 3) := by decide +kernel
theorem d_M_tells_14 : decode c_M_tells 14 = .ok (.iload_n 1, 1) := by decide +kernel
theorem d_M_tells_15 : decode c_M_tells 15 = .ok (.iaload, 1) := by decide +kernel
theorem d_M_tells_16 : decode c_M_tells 16 = .ok (.bipush 8, 2) := by decide +kernel
theorem d_M_tells_18 : decode c_M_tells 18 = .ok (.if_icmp .ne 10, 3) := by decide +kernel
theorem d_M_tells_21 : decode c_M_tells 21 = .ok (.lload_n 3, 1) := by decide +kernel
theorem d_M_tells_22 : decode c_M_tells 22 = .ok (.l2i, 1) := by decide +kernel
theorem d_M_tells_23 : decode c_M_tells 23 = .ok (.i2b, 1) := by decide +kernel
theorem d_M_tells_24 : decode c_M_tells 24 = .ok (.i2l, 1) := by decide +kernel
theorem d_M_tells_25 : decode c_M_tells 25 = .ok (.goto 22, 3) := by decide +kernel
theorem d_M_tells_28 : decode c_M_tells 28 = .ok (.aload_n 0, 1) := by decide +kernel
theorem d_M_tells_29 : decode c_M_tells 29 = .ok (.getfield 35, 3) := by decide +kernel
theorem d_M_tells_32 : decode c_M_tells 32 = .ok (.iload_n 1, 1) := by decide +kernel
theorem d_M_tells_33 : decode c_M_tells 33 = .ok (.iaload, 1) := by decide +kernel
theorem d_M_tells_34 : decode c_M_tells 34 = .ok (.bipush 16, 2) := by decide +kernel
theorem d_M_tells_36 : decode c_M_tells 36 = .ok (.if_icmp .ne 10, 3) := by decide +kernel
theorem d_M_tells_39 : decode c_M_tells 39 = .ok (.lload_n 3, 1) := by decide +kernel
theorem d_M_tells_40 : decode c_M_tells 40 = .ok (.l2i, 1) := by decide +kernel
theorem d_M_tells_41 : decode c_M_tells 41 = .ok (.i2s, 1) := by decide +kernel
theorem d_M_tells_42 : decode c_M_tells 42 = .ok (.i2l, 1) := by decide +kernel
theorem d_M_tells_43 : decode c_M_tells 43 = .ok (.goto 4, 3) := by decide +kernel
theorem d_M_tells_46 : decode c_M_tells 46 = .ok (.lload_n 3, 1) := by decide +kernel
theorem d_M_tells_47 : decode c_M_tells 47 = .ok (.lastore, 1) := by decide +kernel
theorem d_M_tells_48 : decode c_M_tells 48 = .ok (.return_, 1) := by decide +kernel
theorem d_M_sheet_0 : decode c_M_sheet 0 = .ok (.iload_n 1, 1) := by decide +kernel
theorem d_M_sheet_1 : decode c_M_sheet 1 = .ok (.invokestatic 205, 3) := by decide +kernel
theorem d_M_sheet_4 : decode c_M_sheet 4 = .ok (.ifCond .eq 25, 3) := by decide +kernel
theorem d_M_sheet_7 : decode c_M_sheet 7 = .ok (.iload_n 2, 1) := by decide +kernel
theorem d_M_sheet_8 : decode c_M_sheet 8 = .ok (.ifCond .eq 27, 3) := by decide +kernel
theorem d_M_sheet_11 : decode c_M_sheet 11 = .ok (.iload_n 2, 1) := by decide +kernel
theorem d_M_sheet_12 : decode c_M_sheet 12 = .ok (.bipush 8, 2) := by decide +kernel
theorem d_M_sheet_14 : decode c_M_sheet 14 = .ok (.if_icmp .eq 21, 3) := by decide +kernel
theorem d_M_sheet_17 : decode c_M_sheet 17 = .ok (.iload_n 2, 1) := by decide +kernel
theorem d_M_sheet_18 : decode c_M_sheet 18 = .ok (.bipush 16, 2) := by decide +kernel
theorem d_M_sheet_20 : decode c_M_sheet 20 = .ok (.if_icmp .eq 15, 3) := by decide +kernel
theorem d_M_sheet_23 : decode c_M_sheet 23 = .ok (.iload_n 2, 1) := by decide +kernel
theorem d_M_sheet_24 : decode c_M_sheet 24 = .ok (.bipush 64, 2) := by decide +kernel
theorem d_M_sheet_26 : decode c_M_sheet 26 = .ok (.if_icmp .eq 9, 3) := by decide +kernel
theorem d_M_sheet_29 : decode c_M_sheet 29 = .ok (.aload_n 0, 1) := by decide +kernel
theorem d_M_sheet_30 : decode c_M_sheet 30 = .ok (.iconst 0, 1) := by decide +kernel
theorem d_M_sheet_31 : decode c_M_sheet 31 = .ok (.invokevirtual 92, 3) := by decide +kernel
theorem d_M_sheet_34 : decode c_M_sheet 34 = .ok (.ireturn, 1) := by decide +kernel
theorem d_M_sheet_35 : decode c_M_sheet 35 = .ok (.iload_n 3, 1) := by decide +kernel
theorem d_M_sheet_36 : decode c_M_sheet 36 = .ok (.ifCond .ge 10, 3) := by decide +kernel
theorem d_M_sheet_39 : decode c_M_sheet 39 = .ok (.aload_n 0, 1) := by decide +kernel
theorem d_M_sheet_40 : decode c_M_sheet 40 = .ok (.bipush 6, 2) := by decide +kernel
theorem d_M_sheet_42 : decode c_M_sheet 42 = .ok (.invokevirtual 92, 3) := by decide +kernel
theorem d_M_sheet_45 : decode c_M_sheet 45 = .ok (.ireturn, 1) := by decide +kernel
theorem d_M_sheet_46 : decode c_M_sheet 46 = .ok (.iload_n 3, 1) := by decide +kernel
theorem d_M_sheet_47 : decode c_M_sheet 47 = .ok (.bipush 40, 2) := by decide +kernel
theorem d_M_sheet_49 : decode c_M_sheet 49 = .ok (.if_icmp .le 9, 3) := by decide +kernel
theorem d_M_sheet_52 : decode c_M_sheet 52 = .ok (.aload_n 0, 1) := by decide +kernel
theorem d_M_sheet_53 : decode c_M_sheet 53 = .ok (.iconst 0, 1) := by decide +kernel
theorem d_M_sheet_54 : decode c_M_sheet 54 = .ok (.invokevirtual 92, 3) := by decide +kernel
theorem d_M_sheet_57 : decode c_M_sheet 57 = .ok (.ireturn, 1) := by decide +kernel
theorem d_M_sheet_58 : decode c_M_sheet 58 = .ok (.aload_n 0, 1) := by decide +kernel
theorem d_M_sheet_59 : decode c_M_sheet 59 = .ok (.getfield 35, 3) := by decide +kernel
theorem d_M_sheet_62 : decode c_M_sheet 62 = .ok (.iload_n 1, 1) := by decide +kernel
theorem d_M_sheet_63 : decode c_M_sheet 63 = .ok (.iload_n 2, 1) := by decide +kernel
theorem d_M_sheet_64 : decode c_M_sheet 64 = .ok (.iastore, 1) := by decide +kernel
theorem d_M_sheet_65 : decode c_M_sheet 65 = .ok (.aload_n 0, 1) := by decide +kernel
theorem d_M_sheet_66 : decode c_M_sheet 66 = .ok (.getfield 38, 3) := by decide +kernel
theorem d_M_sheet_69 : decode c_M_sheet 69 = .ok (.iload_n 1, 1) := by decide +kernel
theorem d_M_sheet_70 : decode c_M_sheet 70 = .ok (.iload_n 2, 1) := by decide +kernel
theorem d_M_sheet_71 : decode c_M_sheet 71 = .ok (.ifCond .ne 7, 3) := by decide +kernel
theorem d_M_sheet_74 : decode c_M_sheet 74 = .ok (.iconst 0, 1) := by decide +kernel
theorem d_M_sheet_75 : decode c_M_sheet 75 = .ok (.goto 4, 3) := by decide +kernel
theorem d_M_sheet_78 : decode c_M_sheet 78 = .ok (.iload_n 3, 1) := by decide +kernel
theorem d_M_sheet_79 : decode c_M_sheet 79 = .ok (.iastore, 1) := by decide +kernel
theorem d_M_sheet_80 : decode c_M_sheet 80 = .ok (.iconst 0, 1) := by decide +kernel
theorem d_M_sheet_81 : decode c_M_sheet 81 = .ok (.istore 4, 2) := by decide +kernel
theorem d_M_sheet_83 : decode c_M_sheet 83 = .ok (.iload 4, 2) := by decide +kernel
theorem d_M_sheet_85 : decode c_M_sheet 85 = .ok (.bipush 40, 2) := by decide +kernel
theorem d_M_sheet_87 : decode c_M_sheet 87 = .ok (.if_icmp .ge 22, 3) := by decide +kernel
theorem d_M_sheet_90 : decode c_M_sheet 90 = .ok (.aload_n 0, 1) := by decide +kernel
theorem d_M_sheet_91 : decode c_M_sheet 91 = .ok (.getfield 41, 3) := by decide +kernel
theorem d_M_sheet_94 : decode c_M_sheet 94 = .ok (.bipush 40, 2) := by decide +kernel
theorem d_M_sheet_96 : decode c_M_sheet 96 = .ok (.iload_n 1, 1) := by decide +kernel
theorem d_M_sheet_97 : decode c_M_sheet 97 = .ok (.imul, 1) := by decide +kernel
theorem d_M_sheet_98 : decode c_M_sheet 98 = .ok (.iload 4, 2) := by decide +kernel
theorem d_M_sheet_100 : decode c_M_sheet 100 = .ok (.iadd, 1) := by decide +kernel
theorem d_M_sheet_101 : decode c_M_sheet 101 = .ok (.lconst 0, 1) := by decide +kernel
theorem d_M_sheet_102 : decode c_M_sheet 102 = .ok (.lastore, 1) := by decide +kernel
theorem d_M_sheet_103 : decode c_M_sheet 103 = .ok (.iinc 4 1, 3) := by decide +kernel
theorem d_M_sheet_106 : decode c_M_sheet 106 = .ok (.goto (-23), 3) := by decide +kernel
theorem d_M_sheet_109 : decode c_M_sheet 109 = .ok (.aload_n 0, 1) := by decide +kernel
theorem d_M_sheet_110 : decode c_M_sheet 110 = .ok (.getfield 38, 3) := by decide +kernel
theorem d_M_sheet_113 : decode c_M_sheet 113 = .ok (.iload_n 1, 1) := by decide +kernel
theorem d_M_sheet_114 : decode c_M_sheet 114 = .ok (.iaload, 1) := by decide +kernel
theorem d_M_sheet_115 : decode c_M_sheet 115 = .ok (.ireturn, 1) := by decide +kernel
theorem d_M_write_0 : decode c_M_write 0 = .ok (.aload_n 0, 1) := by decide +kernel
theorem d_M_write_1 : decode c_M_write 1 = .ok (.iload_n 1, 1) := by decide +kernel
theorem d_M_write_2 : decode c_M_write 2 = .ok (.invokevirtual 208, 3) := by decide +kernel
theorem d_M_write_5 : decode c_M_write 5 = .ok (.istore 5, 2) := by decide +kernel
theorem d_M_write_7 : decode c_M_write 7 = .ok (.iload 5, 2) := by decide +kernel
theorem d_M_write_9 : decode c_M_write 9 = .ok (.ifCond .ge 22, 3) := by decide +kernel
theorem d_M_write_12 : decode c_M_write 12 = .ok (.iload_n 2, 1) := by decide +kernel
theorem d_M_write_13 : decode c_M_write 13 = .ok (.iconst 0, 1) := by decide +kernel
theorem d_M_write_14 : decode c_M_write 14 = .ok (.aload_n 0, 1) := by decide +kernel
theorem d_M_write_15 : decode c_M_write 15 = .ok (.getfield 38, 3) := by decide +kernel
theorem d_M_write_18 : decode c_M_write 18 = .ok (.iload_n 1, 1) := by decide +kernel
theorem d_M_write_19 : decode c_M_write 19 = .ok (.iaload, 1) := by decide +kernel
theorem d_M_write_20 : decode c_M_write 20 = .ok (.iconst 1, 1) := by decide +kernel
theorem d_M_write_21 : decode c_M_write 21 = .ok (.isub, 1) := by decide +kernel
theorem d_M_write_22 : decode c_M_write 22 = .ok (.invokestatic 49, 3) := by decide +kernel
theorem d_M_write_25 : decode c_M_write 25 = .ok (.ifCond .ne 6, 3) := by decide +kernel
theorem d_M_write_28 : decode c_M_write 28 = .ok (.iconst 0, 1) := by decide +kernel
theorem d_M_write_29 : decode c_M_write 29 = .ok (.istore 5, 2) := by decide +kernel
theorem d_M_write_31 : decode c_M_write 31 = .ok (.iload 5, 2) := by decide +kernel
theorem d_M_write_33 : decode c_M_write 33 = .ok (.ifCond .lt 11, 3) := by decide +kernel
theorem d_M_write_36 : decode c_M_write 36 = .ok (.aload_n 0, 1) := by decide +kernel
theorem d_M_write_37 : decode c_M_write 37 = .ok (.iload 5, 2) := by decide +kernel
theorem d_M_write_39 : decode c_M_write 39 = .ok (.invokevirtual 92, 3) := by decide +kernel
theorem d_M_write_42 : decode c_M_write 42 = .ok (.i2l, 1) := by decide +kernel
theorem d_M_write_43 : decode c_M_write 43 = .ok (.lreturn, 1) := by decide +kernel
theorem d_M_write_44 : decode c_M_write 44 = .ok (.aload_n 0, 1) := by decide +kernel
theorem d_M_write_45 : decode c_M_write 45 = .ok (.iload_n 1, 1) := by decide +kernel
theorem d_M_write_46 : decode c_M_write 46 = .ok (.iload_n 2, 1) := by decide +kernel
theorem d_M_write_47 : decode c_M_write 47 = .ok (.invokevirtual 211, 3) := by decide +kernel
theorem d_M_write_50 : decode c_M_write 50 = .ok (.lstore 6, 2) := by decide +kernel
theorem d_M_write_52 : decode c_M_write 52 = .ok (.aload_n 0, 1) := by decide +kernel
theorem d_M_write_53 : decode c_M_write 53 = .ok (.iload_n 1, 1) := by decide +kernel
theorem d_M_write_54 : decode c_M_write 54 = .ok (.iload_n 2, 1) := by decide +kernel
theorem d_M_write_55 : decode c_M_write 55 = .ok (.lload_n 3, 1) := by decide +kernel
theorem d_M_write_56 : decode c_M_write 56 = .ok (.invokevirtual 215, 3) := by decide +kernel
theorem d_M_write_59 : decode c_M_write 59 = .ok (.lload 6, 2) := by decide +kernel
theorem d_M_write_61 : decode c_M_write 61 = .ok (.lreturn, 1) := by decide +kernel
theorem d_M_copy_0 : decode c_M_copy 0 = .ok (.iload_n 1, 1) := by decide +kernel
theorem d_M_copy_1 : decode c_M_copy 1 = .ok (.invokestatic 205, 3) := by decide +kernel
theorem d_M_copy_4 : decode c_M_copy 4 = .ok (.ifCond .eq 10, 3) := by decide +kernel
theorem d_M_copy_7 : decode c_M_copy 7 = .ok (.iload_n 3, 1) := by decide +kernel
theorem d_M_copy_8 : decode c_M_copy 8 = .ok (.invokestatic 205, 3) := by decide +kernel
theorem d_M_copy_11 : decode c_M_copy 11 = .ok (.ifCond .ne 9, 3) := by decide +kernel
theorem d_M_copy_14 : decode c_M_copy 14 = .ok (.aload_n 0, 1) := by decide +kernel
theorem d_M_copy_15 : decode c_M_copy 15 = .ok (.iconst 0, 1) := by decide +kernel
theorem d_M_copy_16 : decode c_M_copy 16 = .ok (.invokevirtual 92, 3) := by decide +kernel
theorem d_M_copy_19 : decode c_M_copy 19 = .ok (.ireturn, 1) := by decide +kernel
theorem d_M_copy_20 : decode c_M_copy 20 = .ok (.aload_n 0, 1) := by decide +kernel
theorem d_M_copy_21 : decode c_M_copy 21 = .ok (.getfield 35, 3) := by decide +kernel
theorem d_M_copy_24 : decode c_M_copy 24 = .ok (.iload_n 1, 1) := by decide +kernel
theorem d_M_copy_25 : decode c_M_copy 25 = .ok (.iaload, 1) := by decide +kernel
theorem d_M_copy_26 : decode c_M_copy 26 = .ok (.ifCond .eq 12, 3) := by decide +kernel
theorem d_M_copy_29 : decode c_M_copy 29 = .ok (.aload_n 0, 1) := by decide +kernel
theorem d_M_copy_30 : decode c_M_copy 30 = .ok (.getfield 35, 3) := by decide +kernel
theorem d_M_copy_33 : decode c_M_copy 33 = .ok (.iload_n 3, 1) := by decide +kernel
theorem d_M_copy_34 : decode c_M_copy 34 = .ok (.iaload, 1) := by decide +kernel
theorem d_M_copy_35 : decode c_M_copy 35 = .ok (.ifCond .ne 9, 3) := by decide +kernel
theorem d_M_copy_38 : decode c_M_copy 38 = .ok (.aload_n 0, 1) := by decide +kernel
theorem d_M_copy_39 : decode c_M_copy 39 = .ok (.iconst 5, 1) := by decide +kernel
theorem d_M_copy_40 : decode c_M_copy 40 = .ok (.invokevirtual 92, 3) := by decide +kernel
theorem d_M_copy_43 : decode c_M_copy 43 = .ok (.ireturn, 1) := by decide +kernel
theorem d_M_copy_44 : decode c_M_copy 44 = .ok (.aload_n 0, 1) := by decide +kernel
theorem d_M_copy_45 : decode c_M_copy 45 = .ok (.getfield 35, 3) := by decide +kernel
theorem d_M_copy_48 : decode c_M_copy 48 = .ok (.iload_n 1, 1) := by decide +kernel
theorem d_M_copy_49 : decode c_M_copy 49 = .ok (.iaload, 1) := by decide +kernel
theorem d_M_copy_50 : decode c_M_copy 50 = .ok (.aload_n 0, 1) := by decide +kernel
theorem d_M_copy_51 : decode c_M_copy 51 = .ok (.getfield 35, 3) := by decide +kernel
theorem d_M_copy_54 : decode c_M_copy 54 = .ok (.iload_n 3, 1) := by decide +kernel
theorem d_M_copy_55 : decode c_M_copy 55 = .ok (.iaload, 1) := by decide +kernel
theorem d_M_copy_56 : decode c_M_copy 56 = .ok (.if_icmp .eq 9, 3) := by decide +kernel
theorem d_M_copy_59 : decode c_M_copy 59 = .ok (.aload_n 0, 1) := by decide +kernel
theorem d_M_copy_60 : decode c_M_copy 60 = .ok (.iconst 2, 1) := by decide +kernel
theorem d_M_copy_61 : decode c_M_copy 61 = .ok (.invokevirtual 92, 3) := by decide +kernel
theorem d_M_copy_64 : decode c_M_copy 64 = .ok (.ireturn, 1) := by decide +kernel
theorem d_M_copy_65 : decode c_M_copy 65 = .ok (.iload 5, 2) := by decide +kernel
theorem d_M_copy_67 : decode c_M_copy 67 = .ok (.ifCond .lt 39, 3) := by decide +kernel
theorem d_M_copy_70 : decode c_M_copy 70 = .ok (.iload_n 2, 1) := by decide +kernel
theorem d_M_copy_71 : decode c_M_copy 71 = .ok (.ifCond .lt 35, 3) := by decide +kernel
theorem d_M_copy_74 : decode c_M_copy 74 = .ok (.iload 4, 2) := by decide +kernel
theorem d_M_copy_76 : decode c_M_copy 76 = .ok (.ifCond .lt 30, 3) := by decide +kernel
theorem d_M_copy_79 : decode c_M_copy 79 = .ok (.iload_n 2, 1) := by decide +kernel
theorem d_M_copy_80 : decode c_M_copy 80 = .ok (.aload_n 0, 1) := by decide +kernel
theorem d_M_copy_81 : decode c_M_copy 81 = .ok (.getfield 38, 3) := by decide +kernel
theorem d_M_copy_84 : decode c_M_copy 84 = .ok (.iload_n 1, 1) := by decide +kernel
theorem d_M_copy_85 : decode c_M_copy 85 = .ok (.iaload, 1) := by decide +kernel
theorem d_M_copy_86 : decode c_M_copy 86 = .ok (.iload 5, 2) := by decide +kernel
theorem d_M_copy_88 : decode c_M_copy 88 = .ok (.isub, 1) := by decide +kernel
theorem d_M_copy_89 : decode c_M_copy 89 = .ok (.if_icmp .gt 17, 3) := by decide +kernel
theorem d_M_copy_92 : decode c_M_copy 92 = .ok (.iload 4, 2) := by decide +kernel
theorem d_M_copy_94 : decode c_M_copy 94 = .ok (.aload_n 0, 1) := by decide +kernel
theorem d_M_copy_95 : decode c_M_copy 95 = .ok (.getfield 38, 3) := by decide +kernel
theorem d_M_copy_98 : decode c_M_copy 98 = .ok (.iload_n 3, 1) := by decide +kernel
theorem d_M_copy_99 : decode c_M_copy 99 = .ok (.iaload, 1) := by decide +kernel
theorem d_M_copy_100 : decode c_M_copy 100 = .ok (.iload 5, 2) := by decide +kernel
theorem d_M_copy_102 : decode c_M_copy 102 = .ok (.isub, 1) := by decide +kernel
theorem d_M_copy_103 : decode c_M_copy 103 = .ok (.if_icmp .le 9, 3) := by decide +kernel
theorem d_M_copy_106 : decode c_M_copy 106 = .ok (.aload_n 0, 1) := by decide +kernel
theorem d_M_copy_107 : decode c_M_copy 107 = .ok (.iconst 0, 1) := by decide +kernel
theorem d_M_copy_108 : decode c_M_copy 108 = .ok (.invokevirtual 92, 3) := by decide +kernel
theorem d_M_copy_111 : decode c_M_copy 111 = .ok (.ireturn, 1) := by decide +kernel
theorem d_M_copy_112 : decode c_M_copy 112 = .ok (.iconst 0, 1) := by decide +kernel
theorem d_M_copy_113 : decode c_M_copy 113 = .ok (.istore 6, 2) := by decide +kernel
theorem d_M_copy_115 : decode c_M_copy 115 = .ok (.iload 6, 2) := by decide +kernel
theorem d_M_copy_117 : decode c_M_copy 117 = .ok (.iload 5, 2) := by decide +kernel
theorem d_M_copy_119 : decode c_M_copy 119 = .ok (.if_icmp .ge 25, 3) := by decide +kernel
theorem d_M_copy_122 : decode c_M_copy 122 = .ok (.aload_n 0, 1) := by decide +kernel
theorem d_M_copy_123 : decode c_M_copy 123 = .ok (.getfield 45, 3) := by decide +kernel
theorem d_M_copy_126 : decode c_M_copy 126 = .ok (.iload 6, 2) := by decide +kernel
theorem d_M_copy_128 : decode c_M_copy 128 = .ok (.aload_n 0, 1) := by decide +kernel
theorem d_M_copy_129 : decode c_M_copy 129 = .ok (.iload_n 1, 1) := by decide +kernel
theorem d_M_copy_130 : decode c_M_copy 130 = .ok (.iload_n 2, 1) := by decide +kernel
theorem d_M_copy_131 : decode c_M_copy 131 = .ok (.iload 6, 2) := by decide +kernel
theorem d_M_copy_133 : decode c_M_copy 133 = .ok (.iadd, 1) := by decide +kernel
theorem d_M_copy_134 : decode c_M_copy 134 = .ok (.invokevirtual 211, 3) := by decide +kernel
theorem d_M_copy_137 : decode c_M_copy 137 = .ok (.lastore, 1) := by decide +kernel
theorem d_M_copy_138 : decode c_M_copy 138 = .ok (.iinc 6 1, 3) := by decide +kernel
theorem d_M_copy_141 : decode c_M_copy 141 = .ok (.goto (-26), 3) := by decide +kernel
theorem d_M_copy_144 : decode c_M_copy 144 = .ok (.iconst 0, 1) := by decide +kernel
theorem d_M_copy_145 : decode c_M_copy 145 = .ok (.istore 6, 2) := by decide +kernel
theorem d_M_copy_147 : decode c_M_copy 147 = .ok (.iload 6, 2) := by decide +kernel
theorem d_M_copy_149 : decode c_M_copy 149 = .ok (.iload 5, 2) := by decide +kernel
theorem d_M_copy_151 : decode c_M_copy 151 = .ok (.if_icmp .ge 31, 3) := by decide +kernel
theorem d_M_copy_154 : decode c_M_copy 154 = .ok (.aload_n 0, 1) := by decide +kernel
theorem d_M_copy_155 : decode c_M_copy 155 = .ok (.getfield 41, 3) := by decide +kernel
theorem d_M_copy_158 : decode c_M_copy 158 = .ok (.bipush 40, 2) := by decide +kernel
theorem d_M_copy_160 : decode c_M_copy 160 = .ok (.iload_n 3, 1) := by decide +kernel
theorem d_M_copy_161 : decode c_M_copy 161 = .ok (.imul, 1) := by decide +kernel
theorem d_M_copy_162 : decode c_M_copy 162 = .ok (.iload 4, 2) := by decide +kernel
theorem d_M_copy_164 : decode c_M_copy 164 = .ok (.iadd, 1) := by decide +kernel
theorem d_M_copy_165 : decode c_M_copy 165 = .ok (.iload 6, 2) := by decide +kernel
theorem d_M_copy_167 : decode c_M_copy 167 = .ok (.iadd, 1) := by decide +kernel
theorem d_M_copy_168 : decode c_M_copy 168 = .ok (.aload_n 0, 1) := by decide +kernel
theorem d_M_copy_169 : decode c_M_copy 169 = .ok (.getfield 45, 3) := by decide +kernel
theorem d_M_copy_172 : decode c_M_copy 172 = .ok (.iload 6, 2) := by decide +kernel
theorem d_M_copy_174 : decode c_M_copy 174 = .ok (.laload, 1) := by decide +kernel
theorem d_M_copy_175 : decode c_M_copy 175 = .ok (.lastore, 1) := by decide +kernel
theorem d_M_copy_176 : decode c_M_copy 176 = .ok (.iinc 6 1, 3) := by decide +kernel
theorem d_M_copy_179 : decode c_M_copy 179 = .ok (.goto (-32), 3) := by decide +kernel
theorem d_M_copy_182 : decode c_M_copy 182 = .ok (.iload 5, 2) := by decide +kernel
theorem d_M_copy_184 : decode c_M_copy 184 = .ok (.ireturn, 1) := by decide +kernel
theorem d_M_lays_0 : decode c_M_lays 0 = .ok (.aload_n 0, 1) := by decide +kernel
theorem d_M_lays_1 : decode c_M_lays 1 = .ok (.iload_n 1, 1) := by decide +kernel
theorem d_M_lays_2 : decode c_M_lays 2 = .ok (.invokevirtual 208, 3) := by decide +kernel
theorem d_M_lays_5 : decode c_M_lays 5 = .ok (.istore_n 2, 1) := by decide +kernel
theorem d_M_lays_6 : decode c_M_lays 6 = .ok (.iload_n 2, 1) := by decide +kernel
theorem d_M_lays_7 : decode c_M_lays 7 = .ok (.ifCond .lt 9, 3) := by decide +kernel
theorem d_M_lays_10 : decode c_M_lays 10 = .ok (.aload_n 0, 1) := by decide +kernel
theorem d_M_lays_11 : decode c_M_lays 11 = .ok (.iload_n 2, 1) := by decide +kernel
theorem d_M_lays_12 : decode c_M_lays 12 = .ok (.invokevirtual 92, 3) := by decide +kernel
theorem d_M_lays_15 : decode c_M_lays 15 = .ok (.ireturn, 1) := by decide +kernel
theorem d_M_lays_16 : decode c_M_lays 16 = .ok (.iconst 0, 1) := by decide +kernel
theorem d_M_lays_17 : decode c_M_lays 17 = .ok (.istore_n 3, 1) := by decide +kernel
theorem d_M_lays_18 : decode c_M_lays 18 = .ok (.iconst 0, 1) := by decide +kernel
theorem d_M_lays_19 : decode c_M_lays 19 = .ok (.istore 4, 2) := by decide +kernel
theorem d_M_lays_21 : decode c_M_lays 21 = .ok (.iload 4, 2) := by decide +kernel
theorem d_M_lays_23 : decode c_M_lays 23 = .ok (.aload_n 0, 1) := by decide +kernel
theorem d_M_lays_24 : decode c_M_lays 24 = .ok (.getfield 38, 3) := by decide +kernel
theorem d_M_lays_27 : decode c_M_lays 27 = .ok (.iload_n 1, 1) := by decide +kernel
theorem d_M_lays_28 : decode c_M_lays 28 = .ok (.iaload, 1) := by decide +kernel
theorem d_M_lays_29 : decode c_M_lays 29 = .ok (.if_icmp .ge 96, 3) := by decide +kernel
theorem d_M_lays_32 : decode c_M_lays 32 = .ok (.iload 4, 2) := by decide +kernel
theorem d_M_lays_34 : decode c_M_lays 34 = .ok (.aload_n 0, 1) := by decide +kernel
theorem d_M_lays_35 : decode c_M_lays 35 = .ok (.getfield 9, 3) := by decide +kernel
theorem d_M_lays_38 : decode c_M_lays 38 = .ok (.iconst 2, 1) := by decide +kernel
theorem d_M_lays_39 : decode c_M_lays 39 = .ok (.iaload, 1) := by decide +kernel
theorem d_M_lays_40 : decode c_M_lays 40 = .ok (.if_icmp .ge 85, 3) := by decide +kernel
theorem d_M_lays_43 : decode c_M_lays 43 = .ok (.aload_n 0, 1) := by decide +kernel
theorem d_M_lays_44 : decode c_M_lays 44 = .ok (.iload_n 1, 1) := by decide +kernel
theorem d_M_lays_45 : decode c_M_lays 45 = .ok (.iload 4, 2) := by decide +kernel
theorem d_M_lays_47 : decode c_M_lays 47 = .ok (.invokevirtual 211, 3) := by decide +kernel
theorem d_M_lays_50 : decode c_M_lays 50 = .ok (.lconst 0, 1) := by decide +kernel
theorem d_M_lays_51 : decode c_M_lays 51 = .ok (.lcmp, 1) := by decide +kernel
theorem d_M_lays_52 : decode c_M_lays 52 = .ok (.ifCond .lt 21, 3) := by decide +kernel
theorem d_M_lays_55 : decode c_M_lays 55 = .ok (.aload_n 0, 1) := by decide +kernel
theorem d_M_lays_56 : decode c_M_lays 56 = .ok (.iload_n 1, 1) := by decide +kernel
theorem d_M_lays_57 : decode c_M_lays 57 = .ok (.iload 4, 2) := by decide +kernel
theorem d_M_lays_59 : decode c_M_lays 59 = .ok (.invokevirtual 211, 3) := by decide +kernel
theorem d_M_lays_62 : decode c_M_lays 62 = .ok (.ldc2_w 219, 3) := by decide +kernel
theorem d_M_lays_65 : decode c_M_lays 65 = .ok (.lcmp, 1) := by decide +kernel
theorem d_M_lays_66 : decode c_M_lays 66 = .ok (.ifCond .gt 7, 3) := by decide +kernel
theorem d_M_lays_69 : decode c_M_lays 69 = .ok (.iconst 1, 1) := by decide +kernel
theorem d_M_lays_70 : decode c_M_lays 70 = .ok (.goto 4, 3) := by decide +kernel
theorem d_M_lays_73 : decode c_M_lays 73 = .ok (.iconst 0, 1) := by decide +kernel
theorem d_M_lays_74 : decode c_M_lays 74 = .ok (.istore 5, 2) := by decide +kernel
theorem d_M_lays_76 : decode c_M_lays 76 = .ok (.aload_n 0, 1) := by decide +kernel
theorem d_M_lays_77 : decode c_M_lays 77 = .ok (.iload 4, 2) := by decide +kernel
theorem d_M_lays_79 : decode c_M_lays 79 = .ok (.iconst 3, 1) := by decide +kernel
theorem d_M_lays_80 : decode c_M_lays 80 = .ok (.iload 5, 2) := by decide +kernel
theorem d_M_lays_82 : decode c_M_lays 82 = .ok (.ifCond .eq 14, 3) := by decide +kernel
theorem d_M_lays_85 : decode c_M_lays 85 = .ok (.aload_n 0, 1) := by decide +kernel
theorem d_M_lays_86 : decode c_M_lays 86 = .ok (.iload_n 1, 1) := by decide +kernel
theorem d_M_lays_87 : decode c_M_lays 87 = .ok (.iload 4, 2) := by decide +kernel
theorem d_M_lays_89 : decode c_M_lays 89 = .ok (.invokevirtual 211, 3) := by decide +kernel
theorem d_M_lays_92 : decode c_M_lays 92 = .ok (.l2i, 1) := by decide +kernel
theorem d_M_lays_93 : decode c_M_lays 93 = .ok (.goto 10, 3) := by decide +kernel
theorem d_M_lays_96 : decode c_M_lays 96 = .ok (.aload_n 0, 1) := by decide +kernel
theorem d_M_lays_97 : decode c_M_lays 97 = .ok (.iload 4, 2) := by decide +kernel
theorem d_M_lays_99 : decode c_M_lays 99 = .ok (.iconst 3, 1) := by decide +kernel
theorem d_M_lays_100 : decode c_M_lays 100 = .ok (.invokevirtual 53, 3) := by decide +kernel
theorem d_M_lays_103 : decode c_M_lays 103 = .ok (.invokevirtual 78, 3) := by decide +kernel
theorem d_M_lays_106 : decode c_M_lays 106 = .ok (.iload_n 3, 1) := by decide +kernel
theorem d_M_lays_107 : decode c_M_lays 107 = .ok (.iload 5, 2) := by decide +kernel
theorem d_M_lays_109 : decode c_M_lays 109 = .ok (.ifCond .eq 7, 3) := by decide +kernel
theorem d_M_lays_112 : decode c_M_lays 112 = .ok (.iconst 1, 1) := by decide +kernel
theorem d_M_lays_113 : decode c_M_lays 113 = .ok (.goto 4, 3) := by decide +kernel
theorem d_M_lays_116 : decode c_M_lays 116 = .ok (.iconst 0, 1) := by decide +kernel
theorem d_M_lays_117 : decode c_M_lays 117 = .ok (.iadd, 1) := by decide +kernel
theorem d_M_lays_118 : decode c_M_lays 118 = .ok (.istore_n 3, 1) := by decide +kernel
theorem d_M_lays_119 : decode c_M_lays 119 = .ok (.iinc 4 1, 3) := by decide +kernel
theorem d_M_lays_122 : decode c_M_lays 122 = .ok (.goto (-101), 3) := by decide +kernel
theorem d_M_lays_125 : decode c_M_lays 125 = .ok (.iload_n 3, 1) := by decide +kernel
theorem d_M_lays_126 : decode c_M_lays 126 = .ok (.ireturn, 1) := by decide +kernel
theorem d_M_wrongWith_0 : decode c_M_wrongWith 0 = .ok (.aload_n 0, 1) := by decide +kernel
theorem d_M_wrongWith_1 : decode c_M_wrongWith 1 = .ok (.iload_n 1, 1) := by decide +kernel
theorem d_M_wrongWith_2 : decode c_M_wrongWith 2 = .ok (.invokevirtual 208, 3) := by decide +kernel
theorem d_M_wrongWith_5 : decode c_M_wrongWith 5 = .ok (.istore_n 3, 1) := by decide +kernel
theorem d_M_wrongWith_6 : decode c_M_wrongWith 6 = .ok (.iload_n 3, 1) := by decide +kernel
theorem d_M_wrongWith_7 : decode c_M_wrongWith 7 = .ok (.ifCond .lt 7, 3) := by decide +kernel
theorem d_M_wrongWith_10 : decode c_M_wrongWith 10 = .ok (.iload_n 3, 1) := by decide +kernel
theorem d_M_wrongWith_11 : decode c_M_wrongWith 11 = .ok (.goto 16, 3) := by decide +kernel
theorem d_M_wrongWith_14 : decode c_M_wrongWith 14 = .ok (.aload_n 0, 1) := by decide +kernel
theorem d_M_wrongWith_15 : decode c_M_wrongWith 15 = .ok (.iload_n 2, 1) := by decide +kernel
theorem d_M_wrongWith_16 : decode c_M_wrongWith 16 = .ok (.invokevirtual 113, 3) := by decide +kernel
theorem d_M_wrongWith_19 : decode c_M_wrongWith 19 = .ok (.ifCond .eq 7, 3) := by decide +kernel
theorem d_M_wrongWith_22 : decode c_M_wrongWith 22 = .ok (.iconst (-1), 1) := by decide +kernel
theorem d_M_wrongWith_23 : decode c_M_wrongWith 23 = .ok (.goto 4, 3) := by decide +kernel
theorem d_M_wrongWith_26 : decode c_M_wrongWith 26 = .ok (.iconst 0, 1) := by decide +kernel
theorem d_M_wrongWith_27 : decode c_M_wrongWith 27 = .ok (.ireturn, 1) := by decide +kernel
theorem d_M_book_0 : decode c_M_book 0 = .ok (.aload_n 0, 1) := by decide +kernel
theorem d_M_book_1 : decode c_M_book 1 = .ok (.iload_n 1, 1) := by decide +kernel
theorem d_M_book_2 : decode c_M_book 2 = .ok (.iload_n 2, 1) := by decide +kernel
theorem d_M_book_3 : decode c_M_book 3 = .ok (.invokevirtual 221, 3) := by decide +kernel
theorem d_M_book_6 : decode c_M_book 6 = .ok (.istore_n 3, 1) := by decide +kernel
theorem d_M_book_7 : decode c_M_book 7 = .ok (.iload_n 3, 1) := by decide +kernel
theorem d_M_book_8 : decode c_M_book 8 = .ok (.ifCond .lt 9, 3) := by decide +kernel
theorem d_M_book_11 : decode c_M_book 11 = .ok (.aload_n 0, 1) := by decide +kernel
theorem d_M_book_12 : decode c_M_book 12 = .ok (.iload_n 3, 1) := by decide +kernel
theorem d_M_book_13 : decode c_M_book 13 = .ok (.invokevirtual 92, 3) := by decide +kernel
theorem d_M_book_16 : decode c_M_book 16 = .ok (.ireturn, 1) := by decide +kernel
theorem d_M_book_17 : decode c_M_book 17 = .ok (.aload_n 0, 1) := by decide +kernel
theorem d_M_book_18 : decode c_M_book 18 = .ok (.invokevirtual 126, 3) := by decide +kernel
theorem d_M_book_21 : decode c_M_book 21 = .ok (.iconst 0, 1) := by decide +kernel
theorem d_M_book_22 : decode c_M_book 22 = .ok (.istore 4, 2) := by decide +kernel
theorem d_M_book_24 : decode c_M_book 24 = .ok (.iload 4, 2) := by decide +kernel
theorem d_M_book_26 : decode c_M_book 26 = .ok (.aload_n 0, 1) := by decide +kernel
theorem d_M_book_27 : decode c_M_book 27 = .ok (.getfield 38, 3) := by decide +kernel
theorem d_M_book_30 : decode c_M_book 30 = .ok (.iload_n 1, 1) := by decide +kernel
theorem d_M_book_31 : decode c_M_book 31 = .ok (.iaload, 1) := by decide +kernel
theorem d_M_book_32 : decode c_M_book 32 = .ok (.if_icmp .ge 28, 3) := by decide +kernel
theorem d_M_book_35 : decode c_M_book 35 = .ok (.aload_n 0, 1) := by decide +kernel
theorem d_M_book_36 : decode c_M_book 36 = .ok (.iload_n 1, 1) := by decide +kernel
theorem d_M_book_37 : decode c_M_book 37 = .ok (.iload 4, 2) := by decide +kernel
theorem d_M_book_39 : decode c_M_book 39 = .ok (.aload_n 0, 1) := by decide +kernel
theorem d_M_book_40 : decode c_M_book 40 = .ok (.iload_n 2, 1) := by decide +kernel
theorem d_M_book_41 : decode c_M_book 41 = .ok (.iconst 3, 1) := by decide +kernel
theorem d_M_book_42 : decode c_M_book 42 = .ok (.invokevirtual 53, 3) := by decide +kernel
theorem d_M_book_45 : decode c_M_book 45 = .ok (.i2l, 1) := by decide +kernel
theorem d_M_book_46 : decode c_M_book 46 = .ok (.invokevirtual 215, 3) := by decide +kernel
theorem d_M_book_49 : decode c_M_book 49 = .ok (.aload_n 0, 1) := by decide +kernel
theorem d_M_book_50 : decode c_M_book 50 = .ok (.iconst 1, 1) := by decide +kernel
theorem d_M_book_51 : decode c_M_book 51 = .ok (.invokevirtual 123, 3) := by decide +kernel
theorem d_M_book_54 : decode c_M_book 54 = .ok (.iinc 4 1, 3) := by decide +kernel
theorem d_M_book_57 : decode c_M_book 57 = .ok (.goto (-33), 3) := by decide +kernel
theorem d_M_book_60 : decode c_M_book 60 = .ok (.aload_n 0, 1) := by decide +kernel
theorem d_M_book_61 : decode c_M_book 61 = .ok (.invokevirtual 129, 3) := by decide +kernel
theorem d_M_book_64 : decode c_M_book 64 = .ok (.aload_n 0, 1) := by decide +kernel
theorem d_M_book_65 : decode c_M_book 65 = .ok (.getfield 38, 3) := by decide +kernel
theorem d_M_book_68 : decode c_M_book 68 = .ok (.iload_n 1, 1) := by decide +kernel
theorem d_M_book_69 : decode c_M_book 69 = .ok (.iaload, 1) := by decide +kernel
theorem d_M_book_70 : decode c_M_book 70 = .ok (.ireturn, 1) := by decide +kernel
theorem d_M_isSo_0 : decode c_M_isSo 0 = .ok (.iconst 1, 1) := by decide +kernel
theorem d_M_isSo_1 : decode c_M_isSo 1 = .ok (.istore_n 3, 1) := by decide +kernel
theorem d_M_isSo_2 : decode c_M_isSo 2 = .ok (.iconst 0, 1) := by decide +kernel
theorem d_M_isSo_3 : decode c_M_isSo 3 = .ok (.istore 4, 2) := by decide +kernel
theorem d_M_isSo_5 : decode c_M_isSo 5 = .ok (.iload 4, 2) := by decide +kernel
theorem d_M_isSo_7 : decode c_M_isSo 7 = .ok (.aload_n 0, 1) := by decide +kernel
theorem d_M_isSo_8 : decode c_M_isSo 8 = .ok (.getfield 38, 3) := by decide +kernel
theorem d_M_isSo_11 : decode c_M_isSo 11 = .ok (.iload_n 1, 1) := by decide +kernel
theorem d_M_isSo_12 : decode c_M_isSo 12 = .ok (.iaload, 1) := by decide +kernel
theorem d_M_isSo_13 : decode c_M_isSo 13 = .ok (.if_icmp .ge 42, 3) := by decide +kernel
theorem d_M_isSo_16 : decode c_M_isSo 16 = .ok (.iload_n 3, 1) := by decide +kernel
theorem d_M_isSo_17 : decode c_M_isSo 17 = .ok (.ifCond .eq 38, 3) := by decide +kernel
theorem d_M_isSo_20 : decode c_M_isSo 20 = .ok (.aload_n 0, 1) := by decide +kernel
theorem d_M_isSo_21 : decode c_M_isSo 21 = .ok (.iload_n 1, 1) := by decide +kernel
theorem d_M_isSo_22 : decode c_M_isSo 22 = .ok (.iload 4, 2) := by decide +kernel
theorem d_M_isSo_24 : decode c_M_isSo 24 = .ok (.invokevirtual 211, 3) := by decide +kernel
theorem d_M_isSo_27 : decode c_M_isSo 27 = .ok (.aload_n 0, 1) := by decide +kernel
theorem d_M_isSo_28 : decode c_M_isSo 28 = .ok (.iload_n 2, 1) := by decide +kernel
theorem d_M_isSo_29 : decode c_M_isSo 29 = .ok (.iconst 3, 1) := by decide +kernel
theorem d_M_isSo_30 : decode c_M_isSo 30 = .ok (.invokevirtual 53, 3) := by decide +kernel
theorem d_M_isSo_33 : decode c_M_isSo 33 = .ok (.i2l, 1) := by decide +kernel
theorem d_M_isSo_34 : decode c_M_isSo 34 = .ok (.lcmp, 1) := by decide +kernel
theorem d_M_isSo_35 : decode c_M_isSo 35 = .ok (.ifCond .ne 7, 3) := by decide +kernel
theorem d_M_isSo_38 : decode c_M_isSo 38 = .ok (.iconst 1, 1) := by decide +kernel
theorem d_M_isSo_39 : decode c_M_isSo 39 = .ok (.goto 4, 3) := by decide +kernel
theorem d_M_isSo_42 : decode c_M_isSo 42 = .ok (.iconst 0, 1) := by decide +kernel
theorem d_M_isSo_43 : decode c_M_isSo 43 = .ok (.istore_n 3, 1) := by decide +kernel
theorem d_M_isSo_44 : decode c_M_isSo 44 = .ok (.aload_n 0, 1) := by decide +kernel
theorem d_M_isSo_45 : decode c_M_isSo 45 = .ok (.iconst 1, 1) := by decide +kernel
theorem d_M_isSo_46 : decode c_M_isSo 46 = .ok (.invokevirtual 123, 3) := by decide +kernel
theorem d_M_isSo_49 : decode c_M_isSo 49 = .ok (.iinc 4 1, 3) := by decide +kernel
theorem d_M_isSo_52 : decode c_M_isSo 52 = .ok (.goto (-47), 3) := by decide +kernel
theorem d_M_isSo_55 : decode c_M_isSo 55 = .ok (.iload_n 3, 1) := by decide +kernel
theorem d_M_isSo_56 : decode c_M_isSo 56 = .ok (.ireturn, 1) := by decide +kernel
theorem d_M_read_0 : decode c_M_read 0 = .ok (.aload_n 0, 1) := by decide +kernel
theorem d_M_read_1 : decode c_M_read 1 = .ok (.iload_n 1, 1) := by decide +kernel
theorem d_M_read_2 : decode c_M_read 2 = .ok (.iload_n 2, 1) := by decide +kernel
theorem d_M_read_3 : decode c_M_read 3 = .ok (.invokevirtual 221, 3) := by decide +kernel
theorem d_M_read_6 : decode c_M_read 6 = .ok (.istore_n 3, 1) := by decide +kernel
theorem d_M_read_7 : decode c_M_read 7 = .ok (.iload_n 3, 1) := by decide +kernel
theorem d_M_read_8 : decode c_M_read 8 = .ok (.ifCond .lt 9, 3) := by decide +kernel
theorem d_M_read_11 : decode c_M_read 11 = .ok (.aload_n 0, 1) := by decide +kernel
theorem d_M_read_12 : decode c_M_read 12 = .ok (.iload_n 3, 1) := by decide +kernel
theorem d_M_read_13 : decode c_M_read 13 = .ok (.invokevirtual 92, 3) := by decide +kernel
theorem d_M_read_16 : decode c_M_read 16 = .ok (.ireturn, 1) := by decide +kernel
theorem d_M_read_17 : decode c_M_read 17 = .ok (.iconst 0, 1) := by decide +kernel
theorem d_M_read_18 : decode c_M_read 18 = .ok (.istore 4, 2) := by decide +kernel
theorem d_M_read_20 : decode c_M_read 20 = .ok (.aload_n 0, 1) := by decide +kernel
theorem d_M_read_21 : decode c_M_read 21 = .ok (.invokevirtual 126, 3) := by decide +kernel
theorem d_M_read_24 : decode c_M_read 24 = .ok (.iconst 0, 1) := by decide +kernel
theorem d_M_read_25 : decode c_M_read 25 = .ok (.istore 5, 2) := by decide +kernel
theorem d_M_read_27 : decode c_M_read 27 = .ok (.iload 5, 2) := by decide +kernel
theorem d_M_read_29 : decode c_M_read 29 = .ok (.bipush 60, 2) := by decide +kernel
theorem d_M_read_31 : decode c_M_read 31 = .ok (.if_icmp .ge 54, 3) := by decide +kernel
theorem d_M_read_34 : decode c_M_read 34 = .ok (.aload_n 0, 1) := by decide +kernel
theorem d_M_read_35 : decode c_M_read 35 = .ok (.iload_n 2, 1) := by decide +kernel
theorem d_M_read_36 : decode c_M_read 36 = .ok (.iconst 0, 1) := by decide +kernel
theorem d_M_read_37 : decode c_M_read 37 = .ok (.iload 5, 2) := by decide +kernel
theorem d_M_read_39 : decode c_M_read 39 = .ok (.bipush 10, 2) := by decide +kernel
theorem d_M_read_41 : decode c_M_read 41 = .ok (.idiv, 1) := by decide +kernel
theorem d_M_read_42 : decode c_M_read 42 = .ok (.invokevirtual 78, 3) := by decide +kernel
theorem d_M_read_45 : decode c_M_read 45 = .ok (.aload_n 0, 1) := by decide +kernel
theorem d_M_read_46 : decode c_M_read 46 = .ok (.iload_n 2, 1) := by decide +kernel
theorem d_M_read_47 : decode c_M_read 47 = .ok (.iconst 4, 1) := by decide +kernel
theorem d_M_read_48 : decode c_M_read 48 = .ok (.iload 5, 2) := by decide +kernel
theorem d_M_read_50 : decode c_M_read 50 = .ok (.bipush 10, 2) := by decide +kernel
theorem d_M_read_52 : decode c_M_read 52 = .ok (.irem, 1) := by decide +kernel
theorem d_M_read_53 : decode c_M_read 53 = .ok (.invokevirtual 78, 3) := by decide +kernel
theorem d_M_read_56 : decode c_M_read 56 = .ok (.iload 4, 2) := by decide +kernel
theorem d_M_read_58 : decode c_M_read 58 = .ok (.aload_n 0, 1) := by decide +kernel
theorem d_M_read_59 : decode c_M_read 59 = .ok (.iload_n 1, 1) := by decide +kernel
theorem d_M_read_60 : decode c_M_read 60 = .ok (.iload_n 2, 1) := by decide +kernel
theorem d_M_read_61 : decode c_M_read 61 = .ok (.invokevirtual 224, 3) := by decide +kernel
theorem d_M_read_64 : decode c_M_read 64 = .ok (.ifCond .eq 7, 3) := by decide +kernel
theorem d_M_read_67 : decode c_M_read 67 = .ok (.iconst 1, 1) := by decide +kernel
theorem d_M_read_68 : decode c_M_read 68 = .ok (.goto 4, 3) := by decide +kernel
theorem d_M_read_71 : decode c_M_read 71 = .ok (.iconst 0, 1) := by decide +kernel
theorem d_M_read_72 : decode c_M_read 72 = .ok (.iadd, 1) := by decide +kernel
theorem d_M_read_73 : decode c_M_read 73 = .ok (.istore 4, 2) := by decide +kernel
theorem d_M_read_75 : decode c_M_read 75 = .ok (.aload_n 0, 1) := by decide +kernel
theorem d_M_read_76 : decode c_M_read 76 = .ok (.invokevirtual 129, 3) := by decide +kernel
theorem d_M_read_79 : decode c_M_read 79 = .ok (.iinc 5 1, 3) := by decide +kernel
theorem d_M_read_82 : decode c_M_read 82 = .ok (.goto (-55), 3) := by decide +kernel
theorem d_M_read_85 : decode c_M_read 85 = .ok (.iload 4, 2) := by decide +kernel
theorem d_M_read_87 : decode c_M_read 87 = .ok (.ireturn, 1) := by decide +kernel
theorem d_M_image_0 : decode c_M_image 0 = .ok (.iconst 0, 1) := by decide +kernel
theorem d_M_image_1 : decode c_M_image 1 = .ok (.istore_n 1, 1) := by decide +kernel
theorem d_M_image_2 : decode c_M_image 2 = .ok (.iload_n 1, 1) := by decide +kernel
theorem d_M_image_3 : decode c_M_image 3 = .ok (.bipush 66, 2) := by decide +kernel
theorem d_M_image_5 : decode c_M_image 5 = .ok (.if_icmp .ge 21, 3) := by decide +kernel
theorem d_M_image_8 : decode c_M_image 8 = .ok (.aload_n 0, 1) := by decide +kernel
theorem d_M_image_9 : decode c_M_image 9 = .ok (.getfield 13, 3) := by decide +kernel
theorem d_M_image_12 : decode c_M_image 12 = .ok (.iload_n 1, 1) := by decide +kernel
theorem d_M_image_13 : decode c_M_image 13 = .ok (.aload_n 0, 1) := by decide +kernel
theorem d_M_image_14 : decode c_M_image 14 = .ok (.getfield 9, 3) := by decide +kernel
theorem d_M_image_17 : decode c_M_image 17 = .ok (.iload_n 1, 1) := by decide +kernel
theorem d_M_image_18 : decode c_M_image 18 = .ok (.iaload, 1) := by decide +kernel
theorem d_M_image_19 : decode c_M_image 19 = .ok (.iastore, 1) := by decide +kernel
theorem d_M_image_20 : decode c_M_image 20 = .ok (.iinc 1 1, 3) := by decide +kernel
theorem d_M_image_23 : decode c_M_image 23 = .ok (.goto (-21), 3) := by decide +kernel
theorem d_M_image_26 : decode c_M_image 26 = .ok (.aload_n 0, 1) := by decide +kernel
theorem d_M_image_27 : decode c_M_image 27 = .ok (.iconst 1, 1) := by decide +kernel
theorem d_M_image_28 : decode c_M_image 28 = .ok (.putfield 227, 3) := by decide +kernel
theorem d_M_image_31 : decode c_M_image 31 = .ok (.iconst 1, 1) := by decide +kernel
theorem d_M_image_32 : decode c_M_image 32 = .ok (.ireturn, 1) := by decide +kernel
theorem d_M_undo_0 : decode c_M_undo 0 = .ok (.aload_n 0, 1) := by decide +kernel
theorem d_M_undo_1 : decode c_M_undo 1 = .ok (.getfield 227, 3) := by decide +kernel
theorem d_M_undo_4 : decode c_M_undo 4 = .ok (.ifCond .ne 9, 3) := by decide +kernel
theorem d_M_undo_7 : decode c_M_undo 7 = .ok (.aload_n 0, 1) := by decide +kernel
theorem d_M_undo_8 : decode c_M_undo 8 = .ok (.iconst 3, 1) := by decide +kernel
theorem d_M_undo_9 : decode c_M_undo 9 = .ok (.invokevirtual 92, 3) := by decide +kernel
theorem d_M_undo_12 : decode c_M_undo 12 = .ok (.ireturn, 1) := by decide +kernel
theorem d_M_undo_13 : decode c_M_undo 13 = .ok (.iconst 0, 1) := by decide +kernel
theorem d_M_undo_14 : decode c_M_undo 14 = .ok (.istore_n 1, 1) := by decide +kernel
theorem d_M_undo_15 : decode c_M_undo 15 = .ok (.iload_n 1, 1) := by decide +kernel
theorem d_M_undo_16 : decode c_M_undo 16 = .ok (.bipush 66, 2) := by decide +kernel
theorem d_M_undo_18 : decode c_M_undo 18 = .ok (.if_icmp .ge 21, 3) := by decide +kernel
theorem d_M_undo_21 : decode c_M_undo 21 = .ok (.aload_n 0, 1) := by decide +kernel
theorem d_M_undo_22 : decode c_M_undo 22 = .ok (.getfield 9, 3) := by decide +kernel
theorem d_M_undo_25 : decode c_M_undo 25 = .ok (.iload_n 1, 1) := by decide +kernel
theorem d_M_undo_26 : decode c_M_undo 26 = .ok (.aload_n 0, 1) := by decide +kernel
theorem d_M_undo_27 : decode c_M_undo 27 = .ok (.getfield 13, 3) := by decide +kernel
theorem d_M_undo_30 : decode c_M_undo 30 = .ok (.iload_n 1, 1) := by decide +kernel
theorem d_M_undo_31 : decode c_M_undo 31 = .ok (.iaload, 1) := by decide +kernel
theorem d_M_undo_32 : decode c_M_undo 32 = .ok (.iastore, 1) := by decide +kernel
theorem d_M_undo_33 : decode c_M_undo 33 = .ok (.iinc 1 1, 3) := by decide +kernel
theorem d_M_undo_36 : decode c_M_undo 36 = .ok (.goto (-21), 3) := by decide +kernel
theorem d_M_undo_39 : decode c_M_undo 39 = .ok (.aload_n 0, 1) := by decide +kernel
theorem d_M_undo_40 : decode c_M_undo 40 = .ok (.getfield 9, 3) := by decide +kernel
theorem d_M_undo_43 : decode c_M_undo 43 = .ok (.iconst 2, 1) := by decide +kernel
theorem d_M_undo_44 : decode c_M_undo 44 = .ok (.iaload, 1) := by decide +kernel
theorem d_M_undo_45 : decode c_M_undo 45 = .ok (.ireturn, 1) := by decide +kernel
theorem d_M_tear_0 : decode c_M_tear 0 = .ok (.aload_n 0, 1) := by decide +kernel
theorem d_M_tear_1 : decode c_M_tear 1 = .ok (.getfield 227, 3) := by decide +kernel
theorem d_M_tear_4 : decode c_M_tear 4 = .ok (.ifCond .eq 7, 3) := by decide +kernel
theorem d_M_tear_7 : decode c_M_tear 7 = .ok (.iconst 1, 1) := by decide +kernel
theorem d_M_tear_8 : decode c_M_tear 8 = .ok (.goto 4, 3) := by decide +kernel
theorem d_M_tear_11 : decode c_M_tear 11 = .ok (.iconst 0, 1) := by decide +kernel
theorem d_M_tear_12 : decode c_M_tear 12 = .ok (.istore_n 1, 1) := by decide +kernel
theorem d_M_tear_13 : decode c_M_tear 13 = .ok (.aload_n 0, 1) := by decide +kernel
theorem d_M_tear_14 : decode c_M_tear 14 = .ok (.iconst 0, 1) := by decide +kernel
theorem d_M_tear_15 : decode c_M_tear 15 = .ok (.putfield 227, 3) := by decide +kernel
theorem d_M_tear_18 : decode c_M_tear 18 = .ok (.iload_n 1, 1) := by decide +kernel
theorem d_M_tear_19 : decode c_M_tear 19 = .ok (.ireturn, 1) := by decide +kernel
theorem d_M_count_0 : decode c_M_count 0 = .ok (.iload_n 1, 1) := by decide +kernel
theorem d_M_count_1 : decode c_M_count 1 = .ok (.tableswitch 57 0 3 #[31, 38, 43, 51], 31) := by decide +kernel
theorem d_M_count_32 : decode c_M_count 32 = .ok (.aload_n 0, 1) := by decide +kernel
theorem d_M_count_33 : decode c_M_count 33 = .ok (.getfield 9, 3) := by decide +kernel
theorem d_M_count_36 : decode c_M_count 36 = .ok (.iconst 2, 1) := by decide +kernel
theorem d_M_count_37 : decode c_M_count 37 = .ok (.iaload, 1) := by decide +kernel
theorem d_M_count_38 : decode c_M_count 38 = .ok (.ireturn, 1) := by decide +kernel
theorem d_M_count_39 : decode c_M_count 39 = .ok (.aload_n 0, 1) := by decide +kernel
theorem d_M_count_40 : decode c_M_count 40 = .ok (.getfield 148, 3) := by decide +kernel
theorem d_M_count_43 : decode c_M_count 43 = .ok (.ireturn, 1) := by decide +kernel
theorem d_M_count_44 : decode c_M_count 44 = .ok (.aload_n 0, 1) := by decide +kernel
theorem d_M_count_45 : decode c_M_count 45 = .ok (.invokevirtual 102, 3) := by decide +kernel
theorem d_M_count_48 : decode c_M_count 48 = .ok (.invokestatic 142, 3) := by decide +kernel
theorem d_M_count_51 : decode c_M_count 51 = .ok (.ireturn, 1) := by decide +kernel
theorem d_M_count_52 : decode c_M_count 52 = .ok (.aload_n 0, 1) := by decide +kernel
theorem d_M_count_53 : decode c_M_count 53 = .ok (.iconst 4, 1) := by decide +kernel
theorem d_M_count_54 : decode c_M_count 54 = .ok (.invokevirtual 106, 3) := by decide +kernel
theorem d_M_count_57 : decode c_M_count 57 = .ok (.ireturn, 1) := by decide +kernel
theorem d_M_count_58 : decode c_M_count 58 = .ok (.aload_n 0, 1) := by decide +kernel
theorem d_M_count_59 : decode c_M_count 59 = .ok (.iconst 0, 1) := by decide +kernel
theorem d_M_count_60 : decode c_M_count 60 = .ok (.invokevirtual 92, 3) := by decide +kernel
theorem d_M_count_63 : decode c_M_count 63 = .ok (.ireturn, 1) := by decide +kernel
theorem d_M_status_0 : decode c_M_status 0 = .ok (.iload_n 1, 1) := by decide +kernel
theorem d_M_status_1 : decode c_M_status 1 = .ok (.iconst (-1), 1) := by decide +kernel
theorem d_M_status_2 : decode c_M_status 2 = .ok (.bipush 6, 2) := by decide +kernel
theorem d_M_status_4 : decode c_M_status 4 = .ok (.invokestatic 49, 3) := by decide +kernel
theorem d_M_status_7 : decode c_M_status 7 = .ok (.ifCond .ne 9, 3) := by decide +kernel
theorem d_M_status_10 : decode c_M_status 10 = .ok (.aload_n 0, 1) := by decide +kernel
theorem d_M_status_11 : decode c_M_status 11 = .ok (.iconst 0, 1) := by decide +kernel
theorem d_M_status_12 : decode c_M_status 12 = .ok (.invokevirtual 92, 3) := by decide +kernel
theorem d_M_status_15 : decode c_M_status 15 = .ok (.ireturn, 1) := by decide +kernel
theorem d_M_status_16 : decode c_M_status 16 = .ok (.iconst 0, 1) := by decide +kernel
theorem d_M_status_17 : decode c_M_status 17 = .ok (.istore_n 2, 1) := by decide +kernel
theorem d_M_status_18 : decode c_M_status 18 = .ok (.iconst 0, 1) := by decide +kernel
theorem d_M_status_19 : decode c_M_status 19 = .ok (.istore_n 3, 1) := by decide +kernel
theorem d_M_status_20 : decode c_M_status 20 = .ok (.iload_n 3, 1) := by decide +kernel
theorem d_M_status_21 : decode c_M_status 21 = .ok (.bipush 7, 2) := by decide +kernel
theorem d_M_status_23 : decode c_M_status 23 = .ok (.if_icmp .ge 32, 3) := by decide +kernel
theorem d_M_status_26 : decode c_M_status 26 = .ok (.iload_n 2, 1) := by decide +kernel
theorem d_M_status_27 : decode c_M_status 27 = .ok (.iload_n 1, 1) := by decide +kernel
theorem d_M_status_28 : decode c_M_status 28 = .ok (.iconst (-1), 1) := by decide +kernel
theorem d_M_status_29 : decode c_M_status 29 = .ok (.if_icmp .eq 8, 3) := by decide +kernel
theorem d_M_status_32 : decode c_M_status 32 = .ok (.iload_n 1, 1) := by decide +kernel
theorem d_M_status_33 : decode c_M_status 33 = .ok (.iload_n 3, 1) := by decide +kernel
theorem d_M_status_34 : decode c_M_status 34 = .ok (.if_icmp .ne 12, 3) := by decide +kernel
theorem d_M_status_37 : decode c_M_status 37 = .ok (.aload_n 0, 1) := by decide +kernel
theorem d_M_status_38 : decode c_M_status 38 = .ok (.getfield 19, 3) := by decide +kernel
theorem d_M_status_41 : decode c_M_status 41 = .ok (.iload_n 3, 1) := by decide +kernel
theorem d_M_status_42 : decode c_M_status 42 = .ok (.iaload, 1) := by decide +kernel
theorem d_M_status_43 : decode c_M_status 43 = .ok (.goto 4, 3) := by decide +kernel
theorem d_M_status_46 : decode c_M_status 46 = .ok (.iconst 0, 1) := by decide +kernel
theorem d_M_status_47 : decode c_M_status 47 = .ok (.iadd, 1) := by decide +kernel
theorem d_M_status_48 : decode c_M_status 48 = .ok (.istore_n 2, 1) := by decide +kernel
theorem d_M_status_49 : decode c_M_status 49 = .ok (.iinc 3 1, 3) := by decide +kernel
theorem d_M_status_52 : decode c_M_status 52 = .ok (.goto (-32), 3) := by decide +kernel
theorem d_M_status_55 : decode c_M_status 55 = .ok (.iload_n 2, 1) := by decide +kernel
theorem d_M_status_56 : decode c_M_status 56 = .ok (.ireturn, 1) := by decide +kernel
